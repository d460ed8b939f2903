/-! the desk's machine: its functions, and that its methods are these -/
theorem lm_vc {i : Int32} {n : Nat} (h : (!(decide (i < 0)) && Nat.blt i.toNatClampNeg n) = true) : vp_in i n := by
  rw [Bool.and_eq_true, Bool.not_eq_true', decide_eq_false_iff_not] at h
  intro q
  rcases q with q | q
  · exact h.1 q
  · have := Nat.le_of_ble_eq_true h.2
    omega
theorem lm_v511 (a : Int32) : vp_in (a &&& 511) 512 := pk_andIn a 9 (by decide) (by decide)
theorem lm_v255 (a : Int32) : vp_in (a &&& 255) 256 := pk_andIn a 8 (by decide) (by decide)
theorem lm_v7 (a : Int32) : vp_in (a &&& 7) 8 := pk_andIn a 3 (by decide) (by decide)
theorem lm_vb {i c : Int32} {n : Nat} (h0 : ¬ i < 0) (h1 : ¬ c ≤ i) (hc : c.toInt = (n : Int)) : vp_in i n := by
  rw [vp_in_iff]
  rw [Int32.lt_iff_toInt_lt, Int32.toInt_zero] at h0
  rw [Int32.le_iff_toInt_le, hc] at h1
  omega
def kd_note (r : Int32) (S : lm_S) : lm_S := lm_set S 6 4 (S 6 4 &&& (-131) ||| (r &&& 128) ||| (if r = 0 then 2 else 0))
def s_M_noteResult : lm_Sp := fun av S post => ∃ r, av = [.ref 1, .int r] ∧ post none (kd_note r S)
abbrev ca_M_noteResult : lm_Ca := []
theorem cok_M_noteResult (l : Launch) : lm_cok l (kk_Y kk_shF) R_M 0 0 ca_M_noteResult := kk_cok (kk_nil)
set_option maxHeartbeats 1000000 in
set_option maxRecDepth 20000 in
theorem I_M_noteResult (l : Launch) : lm_I l (kk_Y kk_shF) y_M_noteResult b_M_noteResult 3 (none) 0 0 s_M_noteResult := by
  refine lm_impl g_M_noteResult ca_M_noteResult (by decide +kernel) kk_okF ck_M_noteResult (kk_fok fl_M_ok) (kk_sok sl_M_ok) (Or.inl rfl) (cok_M_noteResult l) rfl (by decide) ?_
  rintro av S post ⟨r, rfl, h⟩
  refine ⟨Nat.le_of_ble_eq_true rfl, lm_run 40 ?_⟩
  unfold kd_note at h
  (try (conv => whnf))
  repeat' first
    | (refine ⟨_, rfl, ?_⟩; conv => whnf)
    | (refine ⟨_, _, rfl, ?_⟩; conv => whnf)
    | (refine ⟨_, _, _, rfl, ?_⟩; conv => whnf)
    | (refine And.intro rfl ?_; conv => whnf)
    | (refine And.intro (lm_vc (by decide)) ?_; conv => whnf)
    | (refine And.intro (by decide) ?_; conv => whnf)
    | (refine ⟨fun hx => absurd hx (by decide), fun _ => ?_⟩; conv => whnf)
    | (refine ⟨fun _ => ?_, fun hx => absurd hx (by decide)⟩; conv => whnf)
    | (refine And.intro (hw hx) ?_; conv => whnf)
    | (refine And.intro hw ?_; conv => whnf)
    | (refine And.intro hw2 ?_; conv => whnf)
    | (refine And.intro hw3 ?_; conv => whnf)
    | (refine And.intro hw4 ?_; conv => whnf)
    | (refine And.intro hw5 ?_; conv => whnf)
    | (refine And.intro hw6 ?_; conv => whnf)
    | (refine And.intro hw7 ?_; conv => whnf)
    | (refine And.intro (hv1 (by assumption)) ?_; conv => whnf)
    | (refine And.intro (hv2 (by assumption) (by assumption)) ?_; conv => whnf)
    | (refine And.intro (hv3 (by assumption) (by assumption)) ?_; conv => whnf)
    | (refine And.intro (lm_v511 _) ?_; conv => whnf)
    | (refine And.intro (lm_v7 _) ?_; conv => whnf)
    | (refine ⟨fun hx => ?_, fun hx => ?_⟩ <;> conv => whnf)
    | (split at h)
    | contradiction
    | exact h
def kd_flag (f on : Int32) (S : lm_S) : lm_S := lm_set S 6 4 (if on = 0 then S 6 4 &&& (f ^^^ (-1)) else S 6 4 ||| f)
def s_M_putFlag : lm_Sp := fun av S post => ∃ f on, av = [.ref 1, .int f, .int on] ∧ post none (kd_flag f on S)
abbrev ca_M_putFlag : lm_Ca := []
theorem cok_M_putFlag (l : Launch) : lm_cok l (kk_Y kk_shF) R_M 0 0 ca_M_putFlag := kk_cok (kk_nil)
set_option maxHeartbeats 1000000 in
set_option maxRecDepth 20000 in
theorem I_M_putFlag (l : Launch) : lm_I l (kk_Y kk_shF) y_M_putFlag b_M_putFlag 3 (none) 0 0 s_M_putFlag := by
  refine lm_impl g_M_putFlag ca_M_putFlag (by decide +kernel) kk_okF ck_M_putFlag (kk_fok fl_M_ok) (kk_sok sl_M_ok) (Or.inl rfl) (cok_M_putFlag l) rfl (by decide) ?_
  rintro av S post ⟨f, on, rfl, h⟩
  refine ⟨Nat.le_of_ble_eq_true rfl, lm_run 40 ?_⟩
  unfold kd_flag at h
  (try (conv => whnf))
  repeat' first
    | (refine ⟨_, rfl, ?_⟩; conv => whnf)
    | (refine ⟨_, _, rfl, ?_⟩; conv => whnf)
    | (refine ⟨_, _, _, rfl, ?_⟩; conv => whnf)
    | (refine And.intro rfl ?_; conv => whnf)
    | (refine And.intro (lm_vc (by decide)) ?_; conv => whnf)
    | (refine And.intro (by decide) ?_; conv => whnf)
    | (refine ⟨fun hx => absurd hx (by decide), fun _ => ?_⟩; conv => whnf)
    | (refine ⟨fun _ => ?_, fun hx => absurd hx (by decide)⟩; conv => whnf)
    | (refine And.intro (hw hx) ?_; conv => whnf)
    | (refine And.intro hw ?_; conv => whnf)
    | (refine And.intro hw2 ?_; conv => whnf)
    | (refine And.intro hw3 ?_; conv => whnf)
    | (refine And.intro hw4 ?_; conv => whnf)
    | (refine And.intro hw5 ?_; conv => whnf)
    | (refine And.intro hw6 ?_; conv => whnf)
    | (refine And.intro hw7 ?_; conv => whnf)
    | (refine And.intro (hv1 (by assumption)) ?_; conv => whnf)
    | (refine And.intro (hv2 (by assumption) (by assumption)) ?_; conv => whnf)
    | (refine And.intro (hv3 (by assumption) (by assumption)) ?_; conv => whnf)
    | (refine And.intro (lm_v511 _) ?_; conv => whnf)
    | (refine And.intro (lm_v7 _) ?_; conv => whnf)
    | (refine ⟨fun hx => ?_, fun hx => ?_⟩ <;> conv => whnf)
    | (split at h)
    | contradiction
    | exact h
def kd_load (g v : Int32) (S : lm_S) : lm_S := kd_note ((lm_set S 6 g.toNatClampNeg (v &&& 255)) 6 g.toNatClampNeg) (lm_set S 6 g.toNatClampNeg (v &&& 255))
def s_M_load : lm_Sp := fun av S post => ∃ g v, av = [.ref 1, .int g, .int v] ∧ vp_in g 9 ∧ post none (kd_load g v S)
abbrev ca_M_load : lm_Ca := [(108, 1, (some 1), s_M_noteResult)]
theorem cok_M_load (l : Launch) : lm_cok l (kk_Y kk_shF) R_M 1 22 ca_M_load := kk_cok (kk_cons ⟨y_M_noteResult, b_M_noteResult, 3, none, 0, 0, I_M_noteResult l, ⟨by decide, by decide⟩, yw_M_noteResult, li_M_108⟩ <| kk_nil)
set_option maxHeartbeats 1000000 in
set_option maxRecDepth 20000 in
theorem I_M_load (l : Launch) : lm_I l (kk_Y kk_shF) y_M_load b_M_load 3 (none) 1 22 s_M_load := by
  refine lm_impl g_M_load ca_M_load (by decide +kernel) kk_okF ck_M_load (kk_fok fl_M_ok) (kk_sok sl_M_ok) (Or.inl rfl) (cok_M_load l) rfl (by decide) ?_
  rintro av S post ⟨g, v, rfl, hw, h⟩
  refine ⟨Nat.le_of_ble_eq_true rfl, lm_run 40 ?_⟩
  unfold kd_load at h
  (try (conv => whnf))
  repeat' first
    | (refine ⟨_, rfl, ?_⟩; conv => whnf)
    | (refine ⟨_, _, rfl, ?_⟩; conv => whnf)
    | (refine ⟨_, _, _, rfl, ?_⟩; conv => whnf)
    | (refine And.intro rfl ?_; conv => whnf)
    | (refine And.intro (lm_vc (by decide)) ?_; conv => whnf)
    | (refine And.intro (by decide) ?_; conv => whnf)
    | (refine ⟨fun hx => absurd hx (by decide), fun _ => ?_⟩; conv => whnf)
    | (refine ⟨fun _ => ?_, fun hx => absurd hx (by decide)⟩; conv => whnf)
    | (refine And.intro (hw hx) ?_; conv => whnf)
    | (refine And.intro hw ?_; conv => whnf)
    | (refine And.intro hw2 ?_; conv => whnf)
    | (refine And.intro hw3 ?_; conv => whnf)
    | (refine And.intro hw4 ?_; conv => whnf)
    | (refine And.intro hw5 ?_; conv => whnf)
    | (refine And.intro hw6 ?_; conv => whnf)
    | (refine And.intro hw7 ?_; conv => whnf)
    | (refine And.intro (hv1 (by assumption)) ?_; conv => whnf)
    | (refine And.intro (hv2 (by assumption) (by assumption)) ?_; conv => whnf)
    | (refine And.intro (hv3 (by assumption) (by assumption)) ?_; conv => whnf)
    | (refine And.intro (lm_v511 _) ?_; conv => whnf)
    | (refine And.intro (lm_v7 _) ?_; conv => whnf)
    | (refine ⟨fun hx => ?_, fun hx => ?_⟩ <;> conv => whnf)
    | (split at h)
    | contradiction
    | exact h
def kd_cell (a : Int32) (S : lm_S) : Int32 := S 5 (a &&& 511).toNatClampNeg
def s_M_cellAt : lm_Sp := fun av S post => ∃ a, av = [.ref 1, .int a] ∧ post (some (.int (kd_cell a S))) S
abbrev ca_M_cellAt : lm_Ca := []
theorem cok_M_cellAt (l : Launch) : lm_cok l (kk_Y kk_shF) R_M 0 0 ca_M_cellAt := kk_cok (kk_nil)
set_option maxHeartbeats 1000000 in
set_option maxRecDepth 20000 in
theorem I_M_cellAt (l : Launch) : lm_I l (kk_Y kk_shF) y_M_cellAt b_M_cellAt 2 (some .int) 0 0 s_M_cellAt := by
  refine lm_impl g_M_cellAt ca_M_cellAt (by decide +kernel) kk_okF ck_M_cellAt (kk_fok fl_M_ok) (kk_sok sl_M_ok) (Or.inl rfl) (cok_M_cellAt l) rfl (by decide) ?_
  rintro av S post ⟨a, rfl, h⟩
  refine ⟨Nat.le_of_ble_eq_true rfl, lm_run 40 ?_⟩
  unfold kd_cell at h
  (try (conv => whnf))
  repeat' first
    | (refine ⟨_, rfl, ?_⟩; conv => whnf)
    | (refine ⟨_, _, rfl, ?_⟩; conv => whnf)
    | (refine ⟨_, _, _, rfl, ?_⟩; conv => whnf)
    | (refine And.intro rfl ?_; conv => whnf)
    | (refine And.intro (lm_vc (by decide)) ?_; conv => whnf)
    | (refine And.intro (by decide) ?_; conv => whnf)
    | (refine ⟨fun hx => absurd hx (by decide), fun _ => ?_⟩; conv => whnf)
    | (refine ⟨fun _ => ?_, fun hx => absurd hx (by decide)⟩; conv => whnf)
    | (refine And.intro (hw hx) ?_; conv => whnf)
    | (refine And.intro hw ?_; conv => whnf)
    | (refine And.intro hw2 ?_; conv => whnf)
    | (refine And.intro hw3 ?_; conv => whnf)
    | (refine And.intro hw4 ?_; conv => whnf)
    | (refine And.intro hw5 ?_; conv => whnf)
    | (refine And.intro hw6 ?_; conv => whnf)
    | (refine And.intro hw7 ?_; conv => whnf)
    | (refine And.intro (hv1 (by assumption)) ?_; conv => whnf)
    | (refine And.intro (hv2 (by assumption) (by assumption)) ?_; conv => whnf)
    | (refine And.intro (hv3 (by assumption) (by assumption)) ?_; conv => whnf)
    | (refine And.intro (lm_v511 _) ?_; conv => whnf)
    | (refine And.intro (lm_v7 _) ?_; conv => whnf)
    | (refine ⟨fun hx => ?_, fun hx => ?_⟩ <;> conv => whnf)
    | (split at h)
    | contradiction
    | exact h
def kd_note2 (a : Int32) (S : lm_S) : lm_S := lm_set (lm_set (lm_set S 9 (S 1 8).toNatClampNeg (a &&& 511)) 10 (S 1 8).toNatClampNeg (S 5 (a &&& 511).toNatClampNeg)) 1 8 (S 1 8 + 1)
def kd_wcell (a v : Int32) (S : lm_S) : lm_S := lm_set (if 2 ≤ S 1 8 then S else kd_note2 a S) 5 (a &&& 511).toNatClampNeg v
def s_M_writeCell : lm_Sp := fun av S post => ∃ a v, av = [.ref 1, .int a, .int v] ∧ ¬ S 1 8 < 0 ∧ post none (kd_wcell a v S)
abbrev ca_M_writeCell : lm_Ca := []
theorem cok_M_writeCell (l : Launch) : lm_cok l (kk_Y kk_shF) R_M 0 0 ca_M_writeCell := kk_cok (kk_nil)
set_option maxHeartbeats 1000000 in
set_option maxRecDepth 20000 in
theorem I_M_writeCell (l : Launch) : lm_I l (kk_Y kk_shF) y_M_writeCell b_M_writeCell 4 (none) 0 0 s_M_writeCell := by
  refine lm_impl g_M_writeCell ca_M_writeCell (by decide +kernel) kk_okF ck_M_writeCell (kk_fok fl_M_ok) (kk_sok sl_M_ok) (Or.inl rfl) (cok_M_writeCell l) rfl (by decide) ?_
  rintro av S post ⟨a, v, rfl, hw0, h⟩
  have hw : ¬ 2 ≤ S 1 8 → vp_in (S 1 8) 2 := fun hx => lm_vb hw0 hx (by decide)
  refine ⟨Nat.le_of_ble_eq_true rfl, lm_run 60 ?_⟩
  unfold kd_wcell kd_note2 at h
  (try (conv => whnf))
  repeat' first
    | (refine ⟨_, rfl, ?_⟩; conv => whnf)
    | (refine ⟨_, _, rfl, ?_⟩; conv => whnf)
    | (refine ⟨_, _, _, rfl, ?_⟩; conv => whnf)
    | (refine And.intro rfl ?_; conv => whnf)
    | (refine And.intro (lm_vc (by decide)) ?_; conv => whnf)
    | (refine And.intro (by decide) ?_; conv => whnf)
    | (refine ⟨fun hx => absurd hx (by decide), fun _ => ?_⟩; conv => whnf)
    | (refine ⟨fun _ => ?_, fun hx => absurd hx (by decide)⟩; conv => whnf)
    | (refine And.intro (hw hx) ?_; conv => whnf)
    | (refine And.intro hw ?_; conv => whnf)
    | (refine And.intro hw2 ?_; conv => whnf)
    | (refine And.intro hw3 ?_; conv => whnf)
    | (refine And.intro hw4 ?_; conv => whnf)
    | (refine And.intro hw5 ?_; conv => whnf)
    | (refine And.intro hw6 ?_; conv => whnf)
    | (refine And.intro hw7 ?_; conv => whnf)
    | (refine And.intro (hv1 (by assumption)) ?_; conv => whnf)
    | (refine And.intro (hv2 (by assumption) (by assumption)) ?_; conv => whnf)
    | (refine And.intro (hv3 (by assumption) (by assumption)) ?_; conv => whnf)
    | (refine And.intro (lm_v511 _) ?_; conv => whnf)
    | (refine And.intro (lm_v7 _) ?_; conv => whnf)
    | (refine ⟨fun hx => ?_, fun hx => ?_⟩ <;> conv => whnf)
    | (split at h)
    | contradiction
    | exact h
def kd_take (S : lm_S) : lm_S := lm_set S 6 3 ((S 6 3 + 1) &&& 255)
def s_M_takeByte : lm_Sp := fun av S post => av = [.ref 1] ∧ post (some (.int (kd_cell (256 + (S 6 3 + 1 &&& 255)) S))) (kd_take S)
abbrev ca_M_takeByte : lm_Ca := [(44, 1, (some 1), s_M_cellAt)]
theorem cok_M_takeByte (l : Launch) : lm_cok l (kk_Y kk_shF) R_M 1 21 ca_M_takeByte := kk_cok (kk_cons ⟨y_M_cellAt, b_M_cellAt, 2, some .int, 0, 0, I_M_cellAt l, ⟨by decide, by decide⟩, yw_M_cellAt, li_M_44⟩ <| kk_nil)
set_option maxHeartbeats 1000000 in
set_option maxRecDepth 20000 in
theorem I_M_takeByte (l : Launch) : lm_I l (kk_Y kk_shF) y_M_takeByte b_M_takeByte 1 (some .int) 1 21 s_M_takeByte := by
  refine lm_impl g_M_takeByte ca_M_takeByte (by decide +kernel) kk_okF ck_M_takeByte (kk_fok fl_M_ok) (kk_sok sl_M_ok) (Or.inl rfl) (cok_M_takeByte l) rfl (by decide) ?_
  rintro av S post ⟨rfl, h⟩
  refine ⟨Nat.le_of_ble_eq_true rfl, lm_run 60 ?_⟩
  unfold kd_take at h
  (try (conv => whnf))
  repeat' first
    | (refine ⟨_, rfl, ?_⟩; conv => whnf)
    | (refine ⟨_, _, rfl, ?_⟩; conv => whnf)
    | (refine ⟨_, _, _, rfl, ?_⟩; conv => whnf)
    | (refine And.intro rfl ?_; conv => whnf)
    | (refine And.intro (lm_vc (by decide)) ?_; conv => whnf)
    | (refine And.intro (by decide) ?_; conv => whnf)
    | (refine ⟨fun hx => absurd hx (by decide), fun _ => ?_⟩; conv => whnf)
    | (refine ⟨fun _ => ?_, fun hx => absurd hx (by decide)⟩; conv => whnf)
    | (refine And.intro (hw hx) ?_; conv => whnf)
    | (refine And.intro hw ?_; conv => whnf)
    | (refine And.intro hw2 ?_; conv => whnf)
    | (refine And.intro hw3 ?_; conv => whnf)
    | (refine And.intro hw4 ?_; conv => whnf)
    | (refine And.intro hw5 ?_; conv => whnf)
    | (refine And.intro hw6 ?_; conv => whnf)
    | (refine And.intro hw7 ?_; conv => whnf)
    | (refine And.intro (hv1 (by assumption)) ?_; conv => whnf)
    | (refine And.intro (hv2 (by assumption) (by assumption)) ?_; conv => whnf)
    | (refine And.intro (hv3 (by assumption) (by assumption)) ?_; conv => whnf)
    | (refine And.intro (lm_v511 _) ?_; conv => whnf)
    | (refine And.intro (lm_v7 _) ?_; conv => whnf)
    | (refine ⟨fun hx => ?_, fun hx => ?_⟩ <;> conv => whnf)
    | (split at h)
    | contradiction
    | exact h
def kd_push (v : Int32) (S : lm_S) : lm_S := lm_set (kd_wcell (256 + S 6 3) v S) 6 3 (((kd_wcell (256 + S 6 3) v S) 6 3 - 1) &&& 255)
def s_M_push : lm_Sp := fun av S post => ∃ v, av = [.ref 1, .int v] ∧ ¬ S 1 8 < 0 ∧ post none (kd_push v S)
abbrev ca_M_push : lm_Ca := [(129, 2, (some 1), s_M_writeCell)]
theorem cok_M_push (l : Launch) : lm_cok l (kk_Y kk_shF) R_M 1 23 ca_M_push := kk_cok (kk_cons ⟨y_M_writeCell, b_M_writeCell, 4, none, 0, 0, I_M_writeCell l, ⟨by decide, by decide⟩, yw_M_writeCell, li_M_129⟩ <| kk_nil)
set_option maxHeartbeats 1000000 in
set_option maxRecDepth 20000 in
theorem I_M_push (l : Launch) : lm_I l (kk_Y kk_shF) y_M_push b_M_push 2 (none) 1 23 s_M_push := by
  refine lm_impl g_M_push ca_M_push (by decide +kernel) kk_okF ck_M_push (kk_fok fl_M_ok) (kk_sok sl_M_ok) (Or.inl rfl) (cok_M_push l) rfl (by decide) ?_
  rintro av S post ⟨v, rfl, hw, h⟩
  refine ⟨Nat.le_of_ble_eq_true rfl, lm_run 60 ?_⟩
  unfold kd_push at h
  (try (conv => whnf))
  repeat' first
    | (refine ⟨_, rfl, ?_⟩; conv => whnf)
    | (refine ⟨_, _, rfl, ?_⟩; conv => whnf)
    | (refine ⟨_, _, _, rfl, ?_⟩; conv => whnf)
    | (refine And.intro rfl ?_; conv => whnf)
    | (refine And.intro (lm_vc (by decide)) ?_; conv => whnf)
    | (refine And.intro (by decide) ?_; conv => whnf)
    | (refine ⟨fun hx => absurd hx (by decide), fun _ => ?_⟩; conv => whnf)
    | (refine ⟨fun _ => ?_, fun hx => absurd hx (by decide)⟩; conv => whnf)
    | (refine And.intro (hw hx) ?_; conv => whnf)
    | (refine And.intro hw ?_; conv => whnf)
    | (refine And.intro hw2 ?_; conv => whnf)
    | (refine And.intro hw3 ?_; conv => whnf)
    | (refine And.intro hw4 ?_; conv => whnf)
    | (refine And.intro hw5 ?_; conv => whnf)
    | (refine And.intro hw6 ?_; conv => whnf)
    | (refine And.intro hw7 ?_; conv => whnf)
    | (refine And.intro (hv1 (by assumption)) ?_; conv => whnf)
    | (refine And.intro (hv2 (by assumption) (by assumption)) ?_; conv => whnf)
    | (refine And.intro (hv3 (by assumption) (by assumption)) ?_; conv => whnf)
    | (refine And.intro (lm_v511 _) ?_; conv => whnf)
    | (refine And.intro (lm_v7 _) ?_; conv => whnf)
    | (refine ⟨fun hx => ?_, fun hx => ?_⟩ <;> conv => whnf)
    | (split at h)
    | contradiction
    | exact h
def kd_wplace (p v : Int32) (S : lm_S) : lm_S := if p = -1 then lm_set S 6 0 v else kd_wcell p v S
def s_M_writePlace : lm_Sp := fun av S post => ∃ p v, av = [.ref 1, .int p, .int v] ∧ ¬ S 1 8 < 0 ∧ post none (kd_wplace p v S)
abbrev ca_M_writePlace : lm_Ca := [(129, 2, (some 1), s_M_writeCell)]
theorem cok_M_writePlace (l : Launch) : lm_cok l (kk_Y kk_shF) R_M 1 23 ca_M_writePlace := kk_cok (kk_cons ⟨y_M_writeCell, b_M_writeCell, 4, none, 0, 0, I_M_writeCell l, ⟨by decide, by decide⟩, yw_M_writeCell, li_M_129⟩ <| kk_nil)
set_option maxHeartbeats 1000000 in
set_option maxRecDepth 20000 in
theorem I_M_writePlace (l : Launch) : lm_I l (kk_Y kk_shF) y_M_writePlace b_M_writePlace 3 (none) 1 23 s_M_writePlace := by
  refine lm_impl g_M_writePlace ca_M_writePlace (by decide +kernel) kk_okF ck_M_writePlace (kk_fok fl_M_ok) (kk_sok sl_M_ok) (Or.inl rfl) (cok_M_writePlace l) rfl (by decide) ?_
  rintro av S post ⟨p, v, rfl, hw, h⟩
  refine ⟨Nat.le_of_ble_eq_true rfl, lm_run 60 ?_⟩
  unfold kd_wplace at h
  (try (conv => whnf))
  repeat' first
    | (refine ⟨_, rfl, ?_⟩; conv => whnf)
    | (refine ⟨_, _, rfl, ?_⟩; conv => whnf)
    | (refine ⟨_, _, _, rfl, ?_⟩; conv => whnf)
    | (refine And.intro rfl ?_; conv => whnf)
    | (refine And.intro (lm_vc (by decide)) ?_; conv => whnf)
    | (refine And.intro (by decide) ?_; conv => whnf)
    | (refine ⟨fun hx => absurd hx (by decide), fun _ => ?_⟩; conv => whnf)
    | (refine ⟨fun _ => ?_, fun hx => absurd hx (by decide)⟩; conv => whnf)
    | (refine And.intro (hw hx) ?_; conv => whnf)
    | (refine And.intro hw ?_; conv => whnf)
    | (refine And.intro hw2 ?_; conv => whnf)
    | (refine And.intro hw3 ?_; conv => whnf)
    | (refine And.intro hw4 ?_; conv => whnf)
    | (refine And.intro hw5 ?_; conv => whnf)
    | (refine And.intro hw6 ?_; conv => whnf)
    | (refine And.intro hw7 ?_; conv => whnf)
    | (refine And.intro (hv1 (by assumption)) ?_; conv => whnf)
    | (refine And.intro (hv2 (by assumption) (by assumption)) ?_; conv => whnf)
    | (refine And.intro (hv3 (by assumption) (by assumption)) ?_; conv => whnf)
    | (refine And.intro (lm_v511 _) ?_; conv => whnf)
    | (refine And.intro (lm_v7 _) ?_; conv => whnf)
    | (refine ⟨fun hx => ?_, fun hx => ?_⟩ <;> conv => whnf)
    | (split at h)
    | contradiction
    | exact h
def s_M_inputsWaiting : lm_Sp := fun av S post => av = [.ref 1] ∧ post (some (.int (S 1 3 - S 6 7))) S
abbrev ca_M_inputsWaiting : lm_Ca := []
theorem cok_M_inputsWaiting (l : Launch) : lm_cok l (kk_Y kk_shF) R_M 0 0 ca_M_inputsWaiting := kk_cok (kk_nil)
set_option maxHeartbeats 1000000 in
set_option maxRecDepth 20000 in
theorem I_M_inputsWaiting (l : Launch) : lm_I l (kk_Y kk_shF) y_M_inputsWaiting b_M_inputsWaiting 1 (some .int) 0 0 s_M_inputsWaiting := by
  refine lm_impl g_M_inputsWaiting ca_M_inputsWaiting (by decide +kernel) kk_okF ck_M_inputsWaiting (kk_fok fl_M_ok) (kk_sok sl_M_ok) (Or.inl rfl) (cok_M_inputsWaiting l) rfl (by decide) ?_
  rintro av S post ⟨rfl, h⟩
  refine ⟨Nat.le_of_ble_eq_true rfl, lm_run 60 ?_⟩
  (try (conv => whnf))
  repeat' first
    | (refine ⟨_, rfl, ?_⟩; conv => whnf)
    | (refine ⟨_, _, rfl, ?_⟩; conv => whnf)
    | (refine ⟨_, _, _, rfl, ?_⟩; conv => whnf)
    | (refine And.intro rfl ?_; conv => whnf)
    | (refine And.intro (lm_vc (by decide)) ?_; conv => whnf)
    | (refine And.intro (by decide) ?_; conv => whnf)
    | (refine ⟨fun hx => absurd hx (by decide), fun _ => ?_⟩; conv => whnf)
    | (refine ⟨fun _ => ?_, fun hx => absurd hx (by decide)⟩; conv => whnf)
    | (refine And.intro (hw hx) ?_; conv => whnf)
    | (refine And.intro hw ?_; conv => whnf)
    | (refine And.intro hw2 ?_; conv => whnf)
    | (refine And.intro hw3 ?_; conv => whnf)
    | (refine And.intro hw4 ?_; conv => whnf)
    | (refine And.intro hw5 ?_; conv => whnf)
    | (refine And.intro hw6 ?_; conv => whnf)
    | (refine And.intro hw7 ?_; conv => whnf)
    | (refine And.intro (hv1 (by assumption)) ?_; conv => whnf)
    | (refine And.intro (hv2 (by assumption) (by assumption)) ?_; conv => whnf)
    | (refine And.intro (hv3 (by assumption) (by assumption)) ?_; conv => whnf)
    | (refine And.intro (lm_v511 _) ?_; conv => whnf)
    | (refine And.intro (lm_v7 _) ?_; conv => whnf)
    | (refine ⟨fun hx => ?_, fun hx => ?_⟩ <;> conv => whnf)
    | (split at h)
    | contradiction
    | exact h
def kd_outb (k : Int32) (S : lm_S) : Int32 := if k < S 6 8 then S 8 (S 6 8 - 1 - k).toNatClampNeg else -1
def s_M_outputBehind : lm_Sp := fun av S post => ∃ k, av = [.ref 1, .int k] ∧ (k < S 6 8 → vp_in (S 6 8 - 1 - k) 308) ∧ post (some (.int (kd_outb k S))) S
abbrev ca_M_outputBehind : lm_Ca := []
theorem cok_M_outputBehind (l : Launch) : lm_cok l (kk_Y kk_shF) R_M 0 0 ca_M_outputBehind := kk_cok (kk_nil)
set_option maxHeartbeats 1000000 in
set_option maxRecDepth 20000 in
theorem I_M_outputBehind (l : Launch) : lm_I l (kk_Y kk_shF) y_M_outputBehind b_M_outputBehind 2 (some .int) 0 0 s_M_outputBehind := by
  refine lm_impl g_M_outputBehind ca_M_outputBehind (by decide +kernel) kk_okF ck_M_outputBehind (kk_fok fl_M_ok) (kk_sok sl_M_ok) (Or.inl rfl) (cok_M_outputBehind l) rfl (by decide) ?_
  rintro av S post ⟨k, rfl, hw, h⟩
  refine ⟨Nat.le_of_ble_eq_true rfl, lm_run 60 ?_⟩
  unfold kd_outb at h
  (try (conv => whnf))
  repeat' first
    | (refine ⟨_, rfl, ?_⟩; conv => whnf)
    | (refine ⟨_, _, rfl, ?_⟩; conv => whnf)
    | (refine ⟨_, _, _, rfl, ?_⟩; conv => whnf)
    | (refine And.intro rfl ?_; conv => whnf)
    | (refine And.intro (lm_vc (by decide)) ?_; conv => whnf)
    | (refine And.intro (by decide) ?_; conv => whnf)
    | (refine ⟨fun hx => absurd hx (by decide), fun _ => ?_⟩; conv => whnf)
    | (refine ⟨fun _ => ?_, fun hx => absurd hx (by decide)⟩; conv => whnf)
    | (refine And.intro (hw hx) ?_; conv => whnf)
    | (refine And.intro hw ?_; conv => whnf)
    | (refine And.intro hw2 ?_; conv => whnf)
    | (refine And.intro hw3 ?_; conv => whnf)
    | (refine And.intro hw4 ?_; conv => whnf)
    | (refine And.intro hw5 ?_; conv => whnf)
    | (refine And.intro hw6 ?_; conv => whnf)
    | (refine And.intro hw7 ?_; conv => whnf)
    | (refine And.intro (hv1 (by assumption)) ?_; conv => whnf)
    | (refine And.intro (hv2 (by assumption) (by assumption)) ?_; conv => whnf)
    | (refine And.intro (hv3 (by assumption) (by assumption)) ?_; conv => whnf)
    | (refine And.intro (lm_v511 _) ?_; conv => whnf)
    | (refine And.intro (lm_v7 _) ?_; conv => whnf)
    | (refine ⟨fun hx => ?_, fun hx => ?_⟩ <;> conv => whnf)
    | (split at h)
    | contradiction
    | exact h
def kd_forget (S : lm_S) : lm_S := lm_set (lm_set (lm_set S 1 8 0) 9 0 (-1)) 9 1 (-1)
def s_M_forgetWrites : lm_Sp := fun av S post => av = [.ref 1] ∧ post none (kd_forget S)
abbrev ca_M_forgetWrites : lm_Ca := []
theorem cok_M_forgetWrites (l : Launch) : lm_cok l (kk_Y kk_shF) R_M 0 0 ca_M_forgetWrites := kk_cok (kk_nil)
set_option maxHeartbeats 1000000 in
set_option maxRecDepth 20000 in
theorem I_M_forgetWrites (l : Launch) : lm_I l (kk_Y kk_shF) y_M_forgetWrites b_M_forgetWrites 2 (none) 0 0 s_M_forgetWrites := by
  refine lm_impl g_M_forgetWrites ca_M_forgetWrites (by decide +kernel) kk_okF ck_M_forgetWrites (kk_fok fl_M_ok) (kk_sok sl_M_ok) (Or.inl rfl) (cok_M_forgetWrites l) rfl (by decide) ?_
  rintro av S post ⟨rfl, h⟩
  refine ⟨Nat.le_of_ble_eq_true rfl, lm_run 60 ?_⟩
  unfold kd_forget at h
  (try (conv => whnf))
  repeat' first
    | (refine ⟨_, rfl, ?_⟩; conv => whnf)
    | (refine ⟨_, _, rfl, ?_⟩; conv => whnf)
    | (refine ⟨_, _, _, rfl, ?_⟩; conv => whnf)
    | (refine And.intro rfl ?_; conv => whnf)
    | (refine And.intro (lm_vc (by decide)) ?_; conv => whnf)
    | (refine And.intro (by decide) ?_; conv => whnf)
    | (refine ⟨fun hx => absurd hx (by decide), fun _ => ?_⟩; conv => whnf)
    | (refine ⟨fun _ => ?_, fun hx => absurd hx (by decide)⟩; conv => whnf)
    | (refine And.intro (hw hx) ?_; conv => whnf)
    | (refine And.intro hw ?_; conv => whnf)
    | (refine And.intro hw2 ?_; conv => whnf)
    | (refine And.intro hw3 ?_; conv => whnf)
    | (refine And.intro hw4 ?_; conv => whnf)
    | (refine And.intro hw5 ?_; conv => whnf)
    | (refine And.intro hw6 ?_; conv => whnf)
    | (refine And.intro hw7 ?_; conv => whnf)
    | (refine And.intro (hv1 (by assumption)) ?_; conv => whnf)
    | (refine And.intro (hv2 (by assumption) (by assumption)) ?_; conv => whnf)
    | (refine And.intro (hv3 (by assumption) (by assumption)) ?_; conv => whnf)
    | (refine And.intro (lm_v511 _) ?_; conv => whnf)
    | (refine And.intro (lm_v7 _) ?_; conv => whnf)
    | (refine ⟨fun hx => ?_, fun hx => ?_⟩ <;> conv => whnf)
    | (split at h)
    | contradiction
    | exact h
def kd_len (op md : Int32) : Int32 := if 22 < op then (if op = 26 then 2 else 1) else ([2, 2, 2, 3, 3, 3, 2, 1] : List Int32).getD md.toNatClampNeg 0
def s_M_lengthOf : lm_Sp := fun av S post => ∃ op md, av = [.int op, .int md] ∧ vp_in md 8 ∧ post (some (.int (kd_len op md))) S
abbrev ca_M_lengthOf : lm_Ca := []
theorem cok_M_lengthOf (l : Launch) : lm_cok l (kk_Y kk_shF) R_M 0 0 ca_M_lengthOf := kk_cok (kk_nil)
set_option maxHeartbeats 1000000 in
set_option maxRecDepth 20000 in
theorem I_M_lengthOf (l : Launch) : lm_I l (kk_Y kk_shF) y_M_lengthOf b_M_lengthOf 2 (some .int) 0 0 s_M_lengthOf := by
  refine lm_impl g_M_lengthOf ca_M_lengthOf (by decide +kernel) kk_okF ck_M_lengthOf (kk_fok fl_M_ok) (kk_sok sl_M_ok) (Or.inl rfl) (cok_M_lengthOf l) rfl (by decide) ?_
  rintro av S post ⟨op, md, rfl, hw, h⟩
  refine ⟨Nat.le_of_ble_eq_true rfl, lm_run 60 ?_⟩
  unfold kd_len at h
  (try (conv => whnf))
  repeat' first
    | (refine ⟨_, rfl, ?_⟩; conv => whnf)
    | (refine ⟨_, _, rfl, ?_⟩; conv => whnf)
    | (refine ⟨_, _, _, rfl, ?_⟩; conv => whnf)
    | (refine And.intro rfl ?_; conv => whnf)
    | (refine And.intro (lm_vc (by decide)) ?_; conv => whnf)
    | (refine And.intro (by decide) ?_; conv => whnf)
    | (refine ⟨fun hx => absurd hx (by decide), fun _ => ?_⟩; conv => whnf)
    | (refine ⟨fun _ => ?_, fun hx => absurd hx (by decide)⟩; conv => whnf)
    | (refine And.intro (hw hx) ?_; conv => whnf)
    | (refine And.intro hw ?_; conv => whnf)
    | (refine And.intro hw2 ?_; conv => whnf)
    | (refine And.intro hw3 ?_; conv => whnf)
    | (refine And.intro hw4 ?_; conv => whnf)
    | (refine And.intro hw5 ?_; conv => whnf)
    | (refine And.intro hw6 ?_; conv => whnf)
    | (refine And.intro hw7 ?_; conv => whnf)
    | (refine And.intro (hv1 (by assumption)) ?_; conv => whnf)
    | (refine And.intro (hv2 (by assumption) (by assumption)) ?_; conv => whnf)
    | (refine And.intro (hv3 (by assumption) (by assumption)) ?_; conv => whnf)
    | (refine And.intro (lm_v511 _) ?_; conv => whnf)
    | (refine And.intro (lm_v7 _) ?_; conv => whnf)
    | (refine ⟨fun hx => ?_, fun hx => ?_⟩ <;> conv => whnf)
    | (split at h)
    | contradiction
    | exact h
def kd_point (a : Int32) (S : lm_S) : Int32 := kd_cell a S + 256 * kd_cell ((a + 1) &&& 255) S
def s_M_pointerAt : lm_Sp := fun av S post => ∃ a, av = [.ref 1, .int a] ∧ post (some (.int (kd_point a S))) S
abbrev ca_M_pointerAt : lm_Ca := [(44, 1, (some 1), s_M_cellAt)]
theorem cok_M_pointerAt (l : Launch) : lm_cok l (kk_Y kk_shF) R_M 1 21 ca_M_pointerAt := kk_cok (kk_cons ⟨y_M_cellAt, b_M_cellAt, 2, some .int, 0, 0, I_M_cellAt l, ⟨by decide, by decide⟩, yw_M_cellAt, li_M_44⟩ <| kk_nil)
set_option maxHeartbeats 1000000 in
set_option maxRecDepth 20000 in
theorem I_M_pointerAt (l : Launch) : lm_I l (kk_Y kk_shF) y_M_pointerAt b_M_pointerAt 2 (some .int) 1 21 s_M_pointerAt := by
  refine lm_impl g_M_pointerAt ca_M_pointerAt (by decide +kernel) kk_okF ck_M_pointerAt (kk_fok fl_M_ok) (kk_sok sl_M_ok) (Or.inl rfl) (cok_M_pointerAt l) rfl (by decide) ?_
  rintro av S post ⟨a, rfl, h⟩
  refine ⟨Nat.le_of_ble_eq_true rfl, lm_run 60 ?_⟩
  unfold kd_point at h
  (try (conv => whnf))
  repeat' first
    | (refine ⟨_, rfl, ?_⟩; conv => whnf)
    | (refine ⟨_, _, rfl, ?_⟩; conv => whnf)
    | (refine ⟨_, _, _, rfl, ?_⟩; conv => whnf)
    | (refine And.intro rfl ?_; conv => whnf)
    | (refine And.intro (lm_vc (by decide)) ?_; conv => whnf)
    | (refine And.intro (by decide) ?_; conv => whnf)
    | (refine ⟨fun hx => absurd hx (by decide), fun _ => ?_⟩; conv => whnf)
    | (refine ⟨fun _ => ?_, fun hx => absurd hx (by decide)⟩; conv => whnf)
    | (refine And.intro (hw hx) ?_; conv => whnf)
    | (refine And.intro hw ?_; conv => whnf)
    | (refine And.intro hw2 ?_; conv => whnf)
    | (refine And.intro hw3 ?_; conv => whnf)
    | (refine And.intro hw4 ?_; conv => whnf)
    | (refine And.intro hw5 ?_; conv => whnf)
    | (refine And.intro hw6 ?_; conv => whnf)
    | (refine And.intro hw7 ?_; conv => whnf)
    | (refine And.intro (hv1 (by assumption)) ?_; conv => whnf)
    | (refine And.intro (hv2 (by assumption) (by assumption)) ?_; conv => whnf)
    | (refine And.intro (hv3 (by assumption) (by assumption)) ?_; conv => whnf)
    | (refine And.intro (lm_v511 _) ?_; conv => whnf)
    | (refine And.intro (lm_v7 _) ?_; conv => whnf)
    | (refine ⟨fun hx => ?_, fun hx => ?_⟩ <;> conv => whnf)
    | (split at h)
    | contradiction
    | exact h
def kd_wide (a : Int32) (S : lm_S) : Int32 := kd_cell (a + 1) S + 256 * kd_cell (a + 2) S
def kd_place (md a : Int32) (S : lm_S) : Int32 := if md.toInt = 0 then (a + 1) &&& 511 else if md.toInt = 0 + 1 then kd_cell (a + 1) S else if md.toInt = 0 + 1 + 1 then (kd_cell (a + 1) S + S 6 1) &&& 255 else if md.toInt = 0 + 1 + 1 + 1 then kd_wide a S &&& 511 else if md.toInt = 0 + 1 + 1 + 1 + 1 then (kd_wide a S + S 6 1) &&& 511 else if md.toInt = 0 + 1 + 1 + 1 + 1 + 1 then (kd_wide a S + S 6 2) &&& 511 else if md.toInt = 0 + 1 + 1 + 1 + 1 + 1 + 1 then (kd_point (kd_cell (a + 1) S) S + S 6 2) &&& 511 else -1
def s_M_placeOf : lm_Sp := fun av S post => ∃ md a, av = [.ref 1, .int md, .int a] ∧ post (some (.int (kd_place md a S))) S
abbrev ca_M_placeOf : lm_Ca := [(44, 1, (some 1), s_M_cellAt), (79, 1, (some 1), s_M_pointerAt)]
theorem cok_M_placeOf (l : Launch) : lm_cok l (kk_Y kk_shF) R_M 2 42 ca_M_placeOf := kk_cok (kk_cons ⟨y_M_cellAt, b_M_cellAt, 2, some .int, 0, 0, I_M_cellAt l, ⟨by decide, by decide⟩, yw_M_cellAt, li_M_44⟩ <| kk_cons ⟨y_M_pointerAt, b_M_pointerAt, 2, some .int, 1, 21, I_M_pointerAt l, ⟨by decide, by decide⟩, yw_M_pointerAt, li_M_79⟩ <| kk_nil)
set_option maxHeartbeats 1000000 in
set_option maxRecDepth 20000 in
theorem I_M_placeOf (l : Launch) : lm_I l (kk_Y kk_shF) y_M_placeOf b_M_placeOf 5 (some .int) 2 42 s_M_placeOf := by
  refine lm_impl g_M_placeOf ca_M_placeOf (by decide +kernel) kk_okF ck_M_placeOf (kk_fok fl_M_ok) (kk_sok sl_M_ok) (Or.inl rfl) (cok_M_placeOf l) rfl (by decide) ?_
  rintro av S post ⟨md, a, rfl, h⟩
  refine ⟨Nat.le_of_ble_eq_true rfl, lm_run 60 ?_⟩
  unfold kd_place kd_wide at h
  (try (conv => whnf))
  repeat' first
    | (refine ⟨_, rfl, ?_⟩; conv => whnf)
    | (refine ⟨_, _, rfl, ?_⟩; conv => whnf)
    | (refine ⟨_, _, _, rfl, ?_⟩; conv => whnf)
    | (refine And.intro rfl ?_; conv => whnf)
    | (refine And.intro (lm_vc (by decide)) ?_; conv => whnf)
    | (refine And.intro (by decide) ?_; conv => whnf)
    | (refine ⟨fun hx => absurd hx (by decide), fun _ => ?_⟩; conv => whnf)
    | (refine ⟨fun _ => ?_, fun hx => absurd hx (by decide)⟩; conv => whnf)
    | (refine And.intro (hw hx) ?_; conv => whnf)
    | (refine And.intro hw ?_; conv => whnf)
    | (refine And.intro hw2 ?_; conv => whnf)
    | (refine And.intro hw3 ?_; conv => whnf)
    | (refine And.intro hw4 ?_; conv => whnf)
    | (refine And.intro hw5 ?_; conv => whnf)
    | (refine And.intro hw6 ?_; conv => whnf)
    | (refine And.intro hw7 ?_; conv => whnf)
    | (refine And.intro (hv1 (by assumption)) ?_; conv => whnf)
    | (refine And.intro (hv2 (by assumption) (by assumption)) ?_; conv => whnf)
    | (refine And.intro (hv3 (by assumption) (by assumption)) ?_; conv => whnf)
    | (refine And.intro (lm_v511 _) ?_; conv => whnf)
    | (refine And.intro (lm_v7 _) ?_; conv => whnf)
    | (refine ⟨fun hx => ?_, fun hx => ?_⟩ <;> conv => whnf)
    | (split at h)
    | contradiction
    | exact h
