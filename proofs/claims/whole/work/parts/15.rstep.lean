/-! the reference: work, stack, transfer, step -/
theorem lm_tos {Y : lm_Y} {G : lm_G} {cal : lm_Ca} {post : Option Value → lm_S → Prop} (cut : Nat → Bool) (n : Nat) {pc : Nat} {L : lm_L} {st : List Value} {S : lm_S} (h : lm_wp Y G cal post cut (fun q L st S => lm_Go Y G cal post q L st S) n pc L st S) : lm_Go Y G cal post pc L st S := lm_wp_go (fun _ _ _ _ _ h => h) n pc L st S h
theorem km_opj {op : Int32} (j : Nat) (hj : j < 50) (h : op.toInt = (j : Int)) : op = nI j := Int32.toInt_inj.mp (by rw [h, nI_toInt (by omega)])
def km_wld (op t : Int32) (S : lm_S) : lm_S := lm_set (km_mark t S) 18 (512 + op).toNatClampNeg (t &&& 255)
def km_wst (op p : Int32) (S : lm_S) : lm_S := km_change p (S 18 (512 + op - 3).toNatClampNeg) S
def km_wbt (v : Int32) (S : lm_S) : lm_S := lm_set (km_mark v S) 18 512 (v &&& 255)
def km_wcm (op t : Int32) (S : lm_S) : lm_S := km_cmp (S 18 (512 + op - 11).toNatClampNeg) t S
def km_wt2 (t : Int32) (S : lm_S) : lm_S := km_flag 64 (if t &&& 64 = 0 then 0 else 1) (km_flag 128 (if t &&& 128 = 0 then 0 else 1) S)
def km_wte (t : Int32) (S : lm_S) : lm_S := km_flag 2 (if (km_wt2 t S) 18 512 &&& t = 0 then 1 else 0) (km_wt2 t S)
def km_win (p v : Int32) (S : lm_S) : lm_S := km_change p (v &&& 255) (km_mark v S)
def km_wsl (op p t c : Int32) (S : lm_S) : lm_S := km_flag 1 (if t ≤ 127 then 0 else 1) (km_win p (t * 2 + (if op = 19 then c else 0)) S)
def km_wsr (op p t c : Int32) (S : lm_S) : lm_S := km_flag 1 (if t - t / 2 * 2 = 1 then 1 else 0) (km_win p (t / 2 + (if op = 20 then 128 * c else 0)) S)
abbrev ca_wk : lm_Ca := [(36, 2, (some 4), s_R_flag), (77, 1, (some 4), s_R_marked), (81, 2, (some 4), s_R_change), (84, 1, (some 4), s_R_add), (87, 2, (some 4), s_R_compare)]
set_option maxHeartbeats 1000000 in
theorem wk_116 {post : Option Value → lm_S → Prop} (op p t c : Int32) (S : lm_S) (hw : vp_in (512 + op) 569) (h : post none (km_wld op t S)) : lm_Go YF g_R_work ca_wk post 116 [(0, .ref 16), (1, .int op), (2, .int p), (3, .int t), (4, .int c)] [] S := by
  refine lm_run 60 ?_
  unfold km_wld at h
  (try (conv => whnf))
  repeat' first
    | (refine ⟨_, rfl, ?_⟩; conv => whnf)
    | (refine ⟨_, _, rfl, ?_⟩; conv => whnf)
    | (refine ⟨_, _, _, rfl, ?_⟩; conv => whnf)
    | (refine ⟨_, _, _, _, rfl, ?_⟩; conv => whnf)
    | (refine And.intro rfl ?_; conv => whnf)
    | (refine And.intro (lm_vc (by decide)) ?_; conv => whnf)
    | (refine And.intro (by decide) ?_; conv => whnf)
    | (refine ⟨fun hx => absurd hx (by decide), fun _ => ?_⟩; conv => whnf)
    | (refine ⟨fun _ => ?_, fun hx => absurd hx (by decide)⟩; conv => whnf)
    | (refine And.intro (hw hx) ?_; conv => whnf)
    | (refine And.intro hw ?_; conv => whnf)
    | (refine And.intro hw2 ?_; conv => whnf)
    | (refine And.intro hw3 ?_; conv => whnf)
    | (refine And.intro hw4 ?_; conv => whnf)
    | (refine And.intro hw5 ?_; conv => whnf)
    | (refine And.intro hw6 ?_; conv => whnf)
    | (refine And.intro hw7 ?_; conv => whnf)
    | (refine And.intro (hv1 (by assumption)) ?_; conv => whnf)
    | (refine And.intro (hv2 (by assumption) (by assumption)) ?_; conv => whnf)
    | (refine And.intro (hv3 (by assumption) (by assumption)) ?_; conv => whnf)
    | (refine And.intro (lm_v511 _) ?_; conv => whnf)
    | (refine And.intro (lm_v7 _) ?_; conv => whnf)
    | (refine ⟨fun hx => ?_, fun hx => ?_⟩ <;> conv => whnf)
    | (split at h)
    | contradiction
    | exact h
set_option maxHeartbeats 1000000 in
theorem wk_134 {post : Option Value → lm_S → Prop} (op p t c : Int32) (S : lm_S) (hw : vp_in (512 + op - 3) 569) (hw2 : vp_in p 569) (h : post none (km_wst op p S)) : lm_Go YF g_R_work ca_wk post 134 [(0, .ref 16), (1, .int op), (2, .int p), (3, .int t), (4, .int c)] [] S := by
  refine lm_run 60 ?_
  unfold km_wst at h
  (try (conv => whnf))
  repeat' first
    | (refine ⟨_, rfl, ?_⟩; conv => whnf)
    | (refine ⟨_, _, rfl, ?_⟩; conv => whnf)
    | (refine ⟨_, _, _, rfl, ?_⟩; conv => whnf)
    | (refine ⟨_, _, _, _, rfl, ?_⟩; conv => whnf)
    | (refine And.intro rfl ?_; conv => whnf)
    | (refine And.intro (lm_vc (by decide)) ?_; conv => whnf)
    | (refine And.intro (by decide) ?_; conv => whnf)
    | (refine ⟨fun hx => absurd hx (by decide), fun _ => ?_⟩; conv => whnf)
    | (refine ⟨fun _ => ?_, fun hx => absurd hx (by decide)⟩; conv => whnf)
    | (refine And.intro (hw hx) ?_; conv => whnf)
    | (refine And.intro hw ?_; conv => whnf)
    | (refine And.intro hw2 ?_; conv => whnf)
    | (refine And.intro hw3 ?_; conv => whnf)
    | (refine And.intro hw4 ?_; conv => whnf)
    | (refine And.intro hw5 ?_; conv => whnf)
    | (refine And.intro hw6 ?_; conv => whnf)
    | (refine And.intro hw7 ?_; conv => whnf)
    | (refine And.intro (hv1 (by assumption)) ?_; conv => whnf)
    | (refine And.intro (hv2 (by assumption) (by assumption)) ?_; conv => whnf)
    | (refine And.intro (hv3 (by assumption) (by assumption)) ?_; conv => whnf)
    | (refine And.intro (lm_v511 _) ?_; conv => whnf)
    | (refine And.intro (lm_v7 _) ?_; conv => whnf)
    | (refine ⟨fun hx => ?_, fun hx => ?_⟩ <;> conv => whnf)
    | (split at h)
    | contradiction
    | exact h
set_option maxHeartbeats 1000000 in
theorem wk_154 {post : Option Value → lm_S → Prop} (op p t c : Int32) (S : lm_S) (h : post none (km_add t S)) : lm_Go YF g_R_work ca_wk post 154 [(0, .ref 16), (1, .int op), (2, .int p), (3, .int t), (4, .int c)] [] S := by
  refine lm_run 60 ?_
  (try (conv => whnf))
  repeat' first
    | (refine ⟨_, rfl, ?_⟩; conv => whnf)
    | (refine ⟨_, _, rfl, ?_⟩; conv => whnf)
    | (refine ⟨_, _, _, rfl, ?_⟩; conv => whnf)
    | (refine ⟨_, _, _, _, rfl, ?_⟩; conv => whnf)
    | (refine And.intro rfl ?_; conv => whnf)
    | (refine And.intro (lm_vc (by decide)) ?_; conv => whnf)
    | (refine And.intro (by decide) ?_; conv => whnf)
    | (refine ⟨fun hx => absurd hx (by decide), fun _ => ?_⟩; conv => whnf)
    | (refine ⟨fun _ => ?_, fun hx => absurd hx (by decide)⟩; conv => whnf)
    | (refine And.intro (hw hx) ?_; conv => whnf)
    | (refine And.intro hw ?_; conv => whnf)
    | (refine And.intro hw2 ?_; conv => whnf)
    | (refine And.intro hw3 ?_; conv => whnf)
    | (refine And.intro hw4 ?_; conv => whnf)
    | (refine And.intro hw5 ?_; conv => whnf)
    | (refine And.intro hw6 ?_; conv => whnf)
    | (refine And.intro hw7 ?_; conv => whnf)
    | (refine And.intro (hv1 (by assumption)) ?_; conv => whnf)
    | (refine And.intro (hv2 (by assumption) (by assumption)) ?_; conv => whnf)
    | (refine And.intro (hv3 (by assumption) (by assumption)) ?_; conv => whnf)
    | (refine And.intro (lm_v511 _) ?_; conv => whnf)
    | (refine And.intro (lm_v7 _) ?_; conv => whnf)
    | (refine ⟨fun hx => ?_, fun hx => ?_⟩ <;> conv => whnf)
    | (split at h)
    | contradiction
    | exact h
set_option maxHeartbeats 1000000 in
theorem wk_162 {post : Option Value → lm_S → Prop} (op p t c : Int32) (S : lm_S) (h : post none (km_add (255 - t) S)) : lm_Go YF g_R_work ca_wk post 162 [(0, .ref 16), (1, .int op), (2, .int p), (3, .int t), (4, .int c)] [] S := by
  refine lm_run 60 ?_
  (try (conv => whnf))
  repeat' first
    | (refine ⟨_, rfl, ?_⟩; conv => whnf)
    | (refine ⟨_, _, rfl, ?_⟩; conv => whnf)
    | (refine ⟨_, _, _, rfl, ?_⟩; conv => whnf)
    | (refine ⟨_, _, _, _, rfl, ?_⟩; conv => whnf)
    | (refine And.intro rfl ?_; conv => whnf)
    | (refine And.intro (lm_vc (by decide)) ?_; conv => whnf)
    | (refine And.intro (by decide) ?_; conv => whnf)
    | (refine ⟨fun hx => absurd hx (by decide), fun _ => ?_⟩; conv => whnf)
    | (refine ⟨fun _ => ?_, fun hx => absurd hx (by decide)⟩; conv => whnf)
    | (refine And.intro (hw hx) ?_; conv => whnf)
    | (refine And.intro hw ?_; conv => whnf)
    | (refine And.intro hw2 ?_; conv => whnf)
    | (refine And.intro hw3 ?_; conv => whnf)
    | (refine And.intro hw4 ?_; conv => whnf)
    | (refine And.intro hw5 ?_; conv => whnf)
    | (refine And.intro hw6 ?_; conv => whnf)
    | (refine And.intro hw7 ?_; conv => whnf)
    | (refine And.intro (hv1 (by assumption)) ?_; conv => whnf)
    | (refine And.intro (hv2 (by assumption) (by assumption)) ?_; conv => whnf)
    | (refine And.intro (hv3 (by assumption) (by assumption)) ?_; conv => whnf)
    | (refine And.intro (lm_v511 _) ?_; conv => whnf)
    | (refine And.intro (lm_v7 _) ?_; conv => whnf)
    | (refine ⟨fun hx => ?_, fun hx => ?_⟩ <;> conv => whnf)
    | (split at h)
    | contradiction
    | exact h
set_option maxHeartbeats 1000000 in
theorem wk_174 {post : Option Value → lm_S → Prop} (op p t c : Int32) (S : lm_S)  (h : post none (km_wbt (S 18 512 &&& t) S)) : lm_Go YF g_R_work ca_wk post 174 [(0, .ref 16), (1, .int op), (2, .int p), (3, .int t), (4, .int c)] [] S := by
  refine lm_run 60 ?_
  unfold km_wbt at h
  (try (conv => whnf))
  repeat' first
    | (refine ⟨_, rfl, ?_⟩; conv => whnf)
    | (refine ⟨_, _, rfl, ?_⟩; conv => whnf)
    | (refine ⟨_, _, _, rfl, ?_⟩; conv => whnf)
    | (refine ⟨_, _, _, _, rfl, ?_⟩; conv => whnf)
    | (refine And.intro rfl ?_; conv => whnf)
    | (refine And.intro (lm_vc (by decide)) ?_; conv => whnf)
    | (refine And.intro (by decide) ?_; conv => whnf)
    | (refine ⟨fun hx => absurd hx (by decide), fun _ => ?_⟩; conv => whnf)
    | (refine ⟨fun _ => ?_, fun hx => absurd hx (by decide)⟩; conv => whnf)
    | (refine And.intro (hw hx) ?_; conv => whnf)
    | (refine And.intro hw ?_; conv => whnf)
    | (refine And.intro hw2 ?_; conv => whnf)
    | (refine And.intro hw3 ?_; conv => whnf)
    | (refine And.intro hw4 ?_; conv => whnf)
    | (refine And.intro hw5 ?_; conv => whnf)
    | (refine And.intro hw6 ?_; conv => whnf)
    | (refine And.intro hw7 ?_; conv => whnf)
    | (refine And.intro (hv1 (by assumption)) ?_; conv => whnf)
    | (refine And.intro (hv2 (by assumption) (by assumption)) ?_; conv => whnf)
    | (refine And.intro (hv3 (by assumption) (by assumption)) ?_; conv => whnf)
    | (refine And.intro (lm_v511 _) ?_; conv => whnf)
    | (refine And.intro (lm_v7 _) ?_; conv => whnf)
    | (refine ⟨fun hx => ?_, fun hx => ?_⟩ <;> conv => whnf)
    | (split at h)
    | contradiction
    | exact h
set_option maxHeartbeats 1000000 in
theorem wk_199 {post : Option Value → lm_S → Prop} (op p t c : Int32) (S : lm_S)  (h : post none (km_wbt (S 18 512 ||| t) S)) : lm_Go YF g_R_work ca_wk post 199 [(0, .ref 16), (1, .int op), (2, .int p), (3, .int t), (4, .int c)] [] S := by
  refine lm_run 60 ?_
  unfold km_wbt at h
  (try (conv => whnf))
  repeat' first
    | (refine ⟨_, rfl, ?_⟩; conv => whnf)
    | (refine ⟨_, _, rfl, ?_⟩; conv => whnf)
    | (refine ⟨_, _, _, rfl, ?_⟩; conv => whnf)
    | (refine ⟨_, _, _, _, rfl, ?_⟩; conv => whnf)
    | (refine And.intro rfl ?_; conv => whnf)
    | (refine And.intro (lm_vc (by decide)) ?_; conv => whnf)
    | (refine And.intro (by decide) ?_; conv => whnf)
    | (refine ⟨fun hx => absurd hx (by decide), fun _ => ?_⟩; conv => whnf)
    | (refine ⟨fun _ => ?_, fun hx => absurd hx (by decide)⟩; conv => whnf)
    | (refine And.intro (hw hx) ?_; conv => whnf)
    | (refine And.intro hw ?_; conv => whnf)
    | (refine And.intro hw2 ?_; conv => whnf)
    | (refine And.intro hw3 ?_; conv => whnf)
    | (refine And.intro hw4 ?_; conv => whnf)
    | (refine And.intro hw5 ?_; conv => whnf)
    | (refine And.intro hw6 ?_; conv => whnf)
    | (refine And.intro hw7 ?_; conv => whnf)
    | (refine And.intro (hv1 (by assumption)) ?_; conv => whnf)
    | (refine And.intro (hv2 (by assumption) (by assumption)) ?_; conv => whnf)
    | (refine And.intro (hv3 (by assumption) (by assumption)) ?_; conv => whnf)
    | (refine And.intro (lm_v511 _) ?_; conv => whnf)
    | (refine And.intro (lm_v7 _) ?_; conv => whnf)
    | (refine ⟨fun hx => ?_, fun hx => ?_⟩ <;> conv => whnf)
    | (split at h)
    | contradiction
    | exact h
set_option maxHeartbeats 1000000 in
theorem wk_224 {post : Option Value → lm_S → Prop} (op p t c : Int32) (S : lm_S)  (h : post none (km_wbt (S 18 512 ^^^ t) S)) : lm_Go YF g_R_work ca_wk post 224 [(0, .ref 16), (1, .int op), (2, .int p), (3, .int t), (4, .int c)] [] S := by
  refine lm_run 60 ?_
  unfold km_wbt at h
  (try (conv => whnf))
  repeat' first
    | (refine ⟨_, rfl, ?_⟩; conv => whnf)
    | (refine ⟨_, _, rfl, ?_⟩; conv => whnf)
    | (refine ⟨_, _, _, rfl, ?_⟩; conv => whnf)
    | (refine ⟨_, _, _, _, rfl, ?_⟩; conv => whnf)
    | (refine And.intro rfl ?_; conv => whnf)
    | (refine And.intro (lm_vc (by decide)) ?_; conv => whnf)
    | (refine And.intro (by decide) ?_; conv => whnf)
    | (refine ⟨fun hx => absurd hx (by decide), fun _ => ?_⟩; conv => whnf)
    | (refine ⟨fun _ => ?_, fun hx => absurd hx (by decide)⟩; conv => whnf)
    | (refine And.intro (hw hx) ?_; conv => whnf)
    | (refine And.intro hw ?_; conv => whnf)
    | (refine And.intro hw2 ?_; conv => whnf)
    | (refine And.intro hw3 ?_; conv => whnf)
    | (refine And.intro hw4 ?_; conv => whnf)
    | (refine And.intro hw5 ?_; conv => whnf)
    | (refine And.intro hw6 ?_; conv => whnf)
    | (refine And.intro hw7 ?_; conv => whnf)
    | (refine And.intro (hv1 (by assumption)) ?_; conv => whnf)
    | (refine And.intro (hv2 (by assumption) (by assumption)) ?_; conv => whnf)
    | (refine And.intro (hv3 (by assumption) (by assumption)) ?_; conv => whnf)
    | (refine And.intro (lm_v511 _) ?_; conv => whnf)
    | (refine And.intro (lm_v7 _) ?_; conv => whnf)
    | (refine ⟨fun hx => ?_, fun hx => ?_⟩ <;> conv => whnf)
    | (split at h)
    | contradiction
    | exact h
set_option maxHeartbeats 1000000 in
theorem wk_249 {post : Option Value → lm_S → Prop} (op p t c : Int32) (S : lm_S) (hw : vp_in (512 + op - 11) 569) (h : post none (km_wcm op t S)) : lm_Go YF g_R_work ca_wk post 249 [(0, .ref 16), (1, .int op), (2, .int p), (3, .int t), (4, .int c)] [] S := by
  refine lm_run 60 ?_
  unfold km_wcm at h
  (try (conv => whnf))
  repeat' first
    | (refine ⟨_, rfl, ?_⟩; conv => whnf)
    | (refine ⟨_, _, rfl, ?_⟩; conv => whnf)
    | (refine ⟨_, _, _, rfl, ?_⟩; conv => whnf)
    | (refine ⟨_, _, _, _, rfl, ?_⟩; conv => whnf)
    | (refine And.intro rfl ?_; conv => whnf)
    | (refine And.intro (lm_vc (by decide)) ?_; conv => whnf)
    | (refine And.intro (by decide) ?_; conv => whnf)
    | (refine ⟨fun hx => absurd hx (by decide), fun _ => ?_⟩; conv => whnf)
    | (refine ⟨fun _ => ?_, fun hx => absurd hx (by decide)⟩; conv => whnf)
    | (refine And.intro (hw hx) ?_; conv => whnf)
    | (refine And.intro hw ?_; conv => whnf)
    | (refine And.intro hw2 ?_; conv => whnf)
    | (refine And.intro hw3 ?_; conv => whnf)
    | (refine And.intro hw4 ?_; conv => whnf)
    | (refine And.intro hw5 ?_; conv => whnf)
    | (refine And.intro hw6 ?_; conv => whnf)
    | (refine And.intro hw7 ?_; conv => whnf)
    | (refine And.intro (hv1 (by assumption)) ?_; conv => whnf)
    | (refine And.intro (hv2 (by assumption) (by assumption)) ?_; conv => whnf)
    | (refine And.intro (hv3 (by assumption) (by assumption)) ?_; conv => whnf)
    | (refine And.intro (lm_v511 _) ?_; conv => whnf)
    | (refine And.intro (lm_v7 _) ?_; conv => whnf)
    | (refine ⟨fun hx => ?_, fun hx => ?_⟩ <;> conv => whnf)
    | (split at h)
    | contradiction
    | exact h
set_option maxHeartbeats 1000000 in
theorem wk_270 {post : Option Value → lm_S → Prop} (op p t c : Int32) (S : lm_S)  (h : post none (km_wte t S)) : lm_Go YF g_R_work ca_wk post 270 [(0, .ref 16), (1, .int op), (2, .int p), (3, .int t), (4, .int c)] [] S := by
  refine lm_run 60 ?_
  unfold km_wte km_wt2 at h
  (try (conv => whnf))
  repeat' first
    | (refine ⟨_, rfl, ?_⟩; conv => whnf)
    | (refine ⟨_, _, rfl, ?_⟩; conv => whnf)
    | (refine ⟨_, _, _, rfl, ?_⟩; conv => whnf)
    | (refine ⟨_, _, _, _, rfl, ?_⟩; conv => whnf)
    | (refine And.intro rfl ?_; conv => whnf)
    | (refine And.intro (lm_vc (by decide)) ?_; conv => whnf)
    | (refine And.intro (by decide) ?_; conv => whnf)
    | (refine ⟨fun hx => absurd hx (by decide), fun _ => ?_⟩; conv => whnf)
    | (refine ⟨fun _ => ?_, fun hx => absurd hx (by decide)⟩; conv => whnf)
    | (refine And.intro (hw hx) ?_; conv => whnf)
    | (refine And.intro hw ?_; conv => whnf)
    | (refine And.intro hw2 ?_; conv => whnf)
    | (refine And.intro hw3 ?_; conv => whnf)
    | (refine And.intro hw4 ?_; conv => whnf)
    | (refine And.intro hw5 ?_; conv => whnf)
    | (refine And.intro hw6 ?_; conv => whnf)
    | (refine And.intro hw7 ?_; conv => whnf)
    | (refine And.intro (hv1 (by assumption)) ?_; conv => whnf)
    | (refine And.intro (hv2 (by assumption) (by assumption)) ?_; conv => whnf)
    | (refine And.intro (hv3 (by assumption) (by assumption)) ?_; conv => whnf)
    | (refine And.intro (lm_v511 _) ?_; conv => whnf)
    | (refine And.intro (lm_v7 _) ?_; conv => whnf)
    | (refine ⟨fun hx => ?_, fun hx => ?_⟩ <;> conv => whnf)
    | (split at h)
    | contradiction
    | exact h
set_option maxHeartbeats 1000000 in
theorem wk_334 {post : Option Value → lm_S → Prop} (op p t c : Int32) (S : lm_S) (hw : vp_in p 569) (h : post none (km_win p (t + 1) S)) : lm_Go YF g_R_work ca_wk post 334 [(0, .ref 16), (1, .int op), (2, .int p), (3, .int t), (4, .int c)] [] S := by
  refine lm_run 60 ?_
  unfold km_win at h
  (try (conv => whnf))
  repeat' first
    | (refine ⟨_, rfl, ?_⟩; conv => whnf)
    | (refine ⟨_, _, rfl, ?_⟩; conv => whnf)
    | (refine ⟨_, _, _, rfl, ?_⟩; conv => whnf)
    | (refine ⟨_, _, _, _, rfl, ?_⟩; conv => whnf)
    | (refine And.intro rfl ?_; conv => whnf)
    | (refine And.intro (lm_vc (by decide)) ?_; conv => whnf)
    | (refine And.intro (by decide) ?_; conv => whnf)
    | (refine ⟨fun hx => absurd hx (by decide), fun _ => ?_⟩; conv => whnf)
    | (refine ⟨fun _ => ?_, fun hx => absurd hx (by decide)⟩; conv => whnf)
    | (refine And.intro (hw hx) ?_; conv => whnf)
    | (refine And.intro hw ?_; conv => whnf)
    | (refine And.intro hw2 ?_; conv => whnf)
    | (refine And.intro hw3 ?_; conv => whnf)
    | (refine And.intro hw4 ?_; conv => whnf)
    | (refine And.intro hw5 ?_; conv => whnf)
    | (refine And.intro hw6 ?_; conv => whnf)
    | (refine And.intro hw7 ?_; conv => whnf)
    | (refine And.intro (hv1 (by assumption)) ?_; conv => whnf)
    | (refine And.intro (hv2 (by assumption) (by assumption)) ?_; conv => whnf)
    | (refine And.intro (hv3 (by assumption) (by assumption)) ?_; conv => whnf)
    | (refine And.intro (lm_v511 _) ?_; conv => whnf)
    | (refine And.intro (lm_v7 _) ?_; conv => whnf)
    | (refine ⟨fun hx => ?_, fun hx => ?_⟩ <;> conv => whnf)
    | (split at h)
    | contradiction
    | exact h
set_option maxHeartbeats 1000000 in
theorem wk_349 {post : Option Value → lm_S → Prop} (op p t c : Int32) (S : lm_S) (hw : vp_in p 569) (h : post none (km_win p (t - 1) S)) : lm_Go YF g_R_work ca_wk post 349 [(0, .ref 16), (1, .int op), (2, .int p), (3, .int t), (4, .int c)] [] S := by
  refine lm_run 60 ?_
  unfold km_win at h
  (try (conv => whnf))
  repeat' first
    | (refine ⟨_, rfl, ?_⟩; conv => whnf)
    | (refine ⟨_, _, rfl, ?_⟩; conv => whnf)
    | (refine ⟨_, _, _, rfl, ?_⟩; conv => whnf)
    | (refine ⟨_, _, _, _, rfl, ?_⟩; conv => whnf)
    | (refine And.intro rfl ?_; conv => whnf)
    | (refine And.intro (lm_vc (by decide)) ?_; conv => whnf)
    | (refine And.intro (by decide) ?_; conv => whnf)
    | (refine ⟨fun hx => absurd hx (by decide), fun _ => ?_⟩; conv => whnf)
    | (refine ⟨fun _ => ?_, fun hx => absurd hx (by decide)⟩; conv => whnf)
    | (refine And.intro (hw hx) ?_; conv => whnf)
    | (refine And.intro hw ?_; conv => whnf)
    | (refine And.intro hw2 ?_; conv => whnf)
    | (refine And.intro hw3 ?_; conv => whnf)
    | (refine And.intro hw4 ?_; conv => whnf)
    | (refine And.intro hw5 ?_; conv => whnf)
    | (refine And.intro hw6 ?_; conv => whnf)
    | (refine And.intro hw7 ?_; conv => whnf)
    | (refine And.intro (hv1 (by assumption)) ?_; conv => whnf)
    | (refine And.intro (hv2 (by assumption) (by assumption)) ?_; conv => whnf)
    | (refine And.intro (hv3 (by assumption) (by assumption)) ?_; conv => whnf)
    | (refine And.intro (lm_v511 _) ?_; conv => whnf)
    | (refine And.intro (lm_v7 _) ?_; conv => whnf)
    | (refine ⟨fun hx => ?_, fun hx => ?_⟩ <;> conv => whnf)
    | (split at h)
    | contradiction
    | exact h
set_option maxHeartbeats 1000000 in
theorem wk_364 {post : Option Value → lm_S → Prop} (op p t c : Int32) (S : lm_S) (hw : vp_in p 569) (h : post none (km_wsl op p t c S)) : lm_Go YF g_R_work ca_wk post 364 [(0, .ref 16), (1, .int op), (2, .int p), (3, .int t), (4, .int c)] [] S := by
  refine lm_run 60 ?_
  unfold km_wsl km_win at h
  (try (conv => whnf))
  repeat' first
    | (refine ⟨_, rfl, ?_⟩; conv => whnf)
    | (refine ⟨_, _, rfl, ?_⟩; conv => whnf)
    | (refine ⟨_, _, _, rfl, ?_⟩; conv => whnf)
    | (refine ⟨_, _, _, _, rfl, ?_⟩; conv => whnf)
    | (refine And.intro rfl ?_; conv => whnf)
    | (refine And.intro (lm_vc (by decide)) ?_; conv => whnf)
    | (refine And.intro (by decide) ?_; conv => whnf)
    | (refine ⟨fun hx => absurd hx (by decide), fun _ => ?_⟩; conv => whnf)
    | (refine ⟨fun _ => ?_, fun hx => absurd hx (by decide)⟩; conv => whnf)
    | (refine And.intro (hw hx) ?_; conv => whnf)
    | (refine And.intro hw ?_; conv => whnf)
    | (refine And.intro hw2 ?_; conv => whnf)
    | (refine And.intro hw3 ?_; conv => whnf)
    | (refine And.intro hw4 ?_; conv => whnf)
    | (refine And.intro hw5 ?_; conv => whnf)
    | (refine And.intro hw6 ?_; conv => whnf)
    | (refine And.intro hw7 ?_; conv => whnf)
    | (refine And.intro (hv1 (by assumption)) ?_; conv => whnf)
    | (refine And.intro (hv2 (by assumption) (by assumption)) ?_; conv => whnf)
    | (refine And.intro (hv3 (by assumption) (by assumption)) ?_; conv => whnf)
    | (refine And.intro (lm_v511 _) ?_; conv => whnf)
    | (refine And.intro (lm_v7 _) ?_; conv => whnf)
    | (refine ⟨fun hx => ?_, fun hx => ?_⟩ <;> conv => whnf)
    | (split at h)
    | contradiction
    | exact h
set_option maxHeartbeats 1000000 in
theorem wk_408 {post : Option Value → lm_S → Prop} (op p t c : Int32) (S : lm_S) (hw : vp_in p 569) (h : post none (km_wsr op p t c S)) : lm_Go YF g_R_work ca_wk post 408 [(0, .ref 16), (1, .int op), (2, .int p), (3, .int t), (4, .int c)] [] S := by
  refine lm_run 60 ?_
  unfold km_wsr km_win at h
  (try (conv => whnf))
  repeat' first
    | (refine ⟨_, rfl, ?_⟩; conv => whnf)
    | (refine ⟨_, _, rfl, ?_⟩; conv => whnf)
    | (refine ⟨_, _, _, rfl, ?_⟩; conv => whnf)
    | (refine ⟨_, _, _, _, rfl, ?_⟩; conv => whnf)
    | (refine And.intro rfl ?_; conv => whnf)
    | (refine And.intro (lm_vc (by decide)) ?_; conv => whnf)
    | (refine And.intro (by decide) ?_; conv => whnf)
    | (refine ⟨fun hx => absurd hx (by decide), fun _ => ?_⟩; conv => whnf)
    | (refine ⟨fun _ => ?_, fun hx => absurd hx (by decide)⟩; conv => whnf)
    | (refine And.intro (hw hx) ?_; conv => whnf)
    | (refine And.intro hw ?_; conv => whnf)
    | (refine And.intro hw2 ?_; conv => whnf)
    | (refine And.intro hw3 ?_; conv => whnf)
    | (refine And.intro hw4 ?_; conv => whnf)
    | (refine And.intro hw5 ?_; conv => whnf)
    | (refine And.intro hw6 ?_; conv => whnf)
    | (refine And.intro hw7 ?_; conv => whnf)
    | (refine And.intro (hv1 (by assumption)) ?_; conv => whnf)
    | (refine And.intro (hv2 (by assumption) (by assumption)) ?_; conv => whnf)
    | (refine And.intro (hv3 (by assumption) (by assumption)) ?_; conv => whnf)
    | (refine And.intro (lm_v511 _) ?_; conv => whnf)
    | (refine And.intro (lm_v7 _) ?_; conv => whnf)
    | (refine ⟨fun hx => ?_, fun hx => ?_⟩ <;> conv => whnf)
    | (split at h)
    | contradiction
    | exact h
def km_wk (op p t c : Int32) (S : lm_S) : lm_S := if op.toInt = 0 then km_wld op t S else if op.toInt = 0 + 1 then km_wld op t S else if op.toInt = 0 + 1 + 1 then km_wld op t S else if op.toInt = 0 + 1 + 1 + 1 then km_wst op p S else if op.toInt = 0 + 1 + 1 + 1 + 1 then km_wst op p S else if op.toInt = 0 + 1 + 1 + 1 + 1 + 1 then km_wst op p S else if op.toInt = 0 + 1 + 1 + 1 + 1 + 1 + 1 then km_add t S else if op.toInt = 0 + 1 + 1 + 1 + 1 + 1 + 1 + 1 then km_add (255 - t) S else if op.toInt = 0 + 1 + 1 + 1 + 1 + 1 + 1 + 1 + 1 then km_wbt (S 18 512 &&& t) S else if op.toInt = 0 + 1 + 1 + 1 + 1 + 1 + 1 + 1 + 1 + 1 then km_wbt (S 18 512 ||| t) S else if op.toInt = 0 + 1 + 1 + 1 + 1 + 1 + 1 + 1 + 1 + 1 + 1 then km_wbt (S 18 512 ^^^ t) S else if op.toInt = 0 + 1 + 1 + 1 + 1 + 1 + 1 + 1 + 1 + 1 + 1 + 1 then km_wcm op t S else if op.toInt = 0 + 1 + 1 + 1 + 1 + 1 + 1 + 1 + 1 + 1 + 1 + 1 + 1 then km_wcm op t S else if op.toInt = 0 + 1 + 1 + 1 + 1 + 1 + 1 + 1 + 1 + 1 + 1 + 1 + 1 + 1 then km_wcm op t S else if op.toInt = 0 + 1 + 1 + 1 + 1 + 1 + 1 + 1 + 1 + 1 + 1 + 1 + 1 + 1 + 1 then km_wte t S else if op.toInt = 0 + 1 + 1 + 1 + 1 + 1 + 1 + 1 + 1 + 1 + 1 + 1 + 1 + 1 + 1 + 1 then km_win p (t + 1) S else if op.toInt = 0 + 1 + 1 + 1 + 1 + 1 + 1 + 1 + 1 + 1 + 1 + 1 + 1 + 1 + 1 + 1 + 1 then km_win p (t - 1) S else if op.toInt = 0 + 1 + 1 + 1 + 1 + 1 + 1 + 1 + 1 + 1 + 1 + 1 + 1 + 1 + 1 + 1 + 1 + 1 then km_wsl op p t c S else if op.toInt = 0 + 1 + 1 + 1 + 1 + 1 + 1 + 1 + 1 + 1 + 1 + 1 + 1 + 1 + 1 + 1 + 1 + 1 + 1 then km_wsr op p t c S else if op.toInt = 0 + 1 + 1 + 1 + 1 + 1 + 1 + 1 + 1 + 1 + 1 + 1 + 1 + 1 + 1 + 1 + 1 + 1 + 1 + 1 then km_wsl op p t c S else km_wsr op p t c S
def km_work (op p : Int32) (S : lm_S) : lm_S := km_wk op p (S 18 p.toNatClampNeg) (S 18 516 &&& 1) S
def s_R_work : lm_Sp := fun av S post => ∃ op p, av = [.ref 16, .int op, .int p] ∧ vp_in p 569 ∧ post none (km_work op p S)
set_option maxRecDepth 20000 in
theorem wk_sw {post : Option Value → lm_S → Prop} (op p t c : Int32) (S : lm_S) (hp : vp_in p 569) (h : post none (km_wk op p t c S)) : lm_Go YF g_R_work ca_wk post 19 [(0, .ref 16), (1, .int op), (2, .int p), (3, .int t), (4, .int c)] [] S := by
  refine lm_tos (fun q => Nat.beq q 116 || Nat.beq q 134 || Nat.beq q 154 || Nat.beq q 162 || Nat.beq q 174 || Nat.beq q 199 || Nat.beq q 224 || Nat.beq q 249 || Nat.beq q 270 || Nat.beq q 334 || Nat.beq q 349 || Nat.beq q 364 || Nat.beq q 408) 10 ?_
  unfold km_wk at h
  conv => whnf
  refine ⟨fun hx => by
    rw [if_pos hx] at h
    exact wk_116 op p t c S (by rw [km_opj 0 (by omega) hx]; exact lm_vc (by decide)) h, fun hx => ?_⟩
  rw [if_neg hx] at h
  clear hx
  conv => whnf
  refine ⟨fun hx => by
    rw [if_pos hx] at h
    exact wk_116 op p t c S (by rw [km_opj 1 (by omega) hx]; exact lm_vc (by decide)) h, fun hx => ?_⟩
  rw [if_neg hx] at h
  clear hx
  conv => whnf
  refine ⟨fun hx => by
    rw [if_pos hx] at h
    exact wk_116 op p t c S (by rw [km_opj 2 (by omega) hx]; exact lm_vc (by decide)) h, fun hx => ?_⟩
  rw [if_neg hx] at h
  clear hx
  conv => whnf
  refine ⟨fun hx => by
    rw [if_pos hx] at h
    exact wk_134 op p t c S (by rw [km_opj 3 (by omega) hx]; exact lm_vc (by decide)) hp h, fun hx => ?_⟩
  rw [if_neg hx] at h
  clear hx
  conv => whnf
  refine ⟨fun hx => by
    rw [if_pos hx] at h
    exact wk_134 op p t c S (by rw [km_opj 4 (by omega) hx]; exact lm_vc (by decide)) hp h, fun hx => ?_⟩
  rw [if_neg hx] at h
  clear hx
  conv => whnf
  refine ⟨fun hx => by
    rw [if_pos hx] at h
    exact wk_134 op p t c S (by rw [km_opj 5 (by omega) hx]; exact lm_vc (by decide)) hp h, fun hx => ?_⟩
  rw [if_neg hx] at h
  clear hx
  conv => whnf
  refine ⟨fun hx => by
    rw [if_pos hx] at h
    exact wk_154 op p t c S h, fun hx => ?_⟩
  rw [if_neg hx] at h
  clear hx
  conv => whnf
  refine ⟨fun hx => by
    rw [if_pos hx] at h
    exact wk_162 op p t c S h, fun hx => ?_⟩
  rw [if_neg hx] at h
  clear hx
  conv => whnf
  refine ⟨fun hx => by
    rw [if_pos hx] at h
    exact wk_174 op p t c S h, fun hx => ?_⟩
  rw [if_neg hx] at h
  clear hx
  conv => whnf
  refine ⟨fun hx => by
    rw [if_pos hx] at h
    exact wk_199 op p t c S h, fun hx => ?_⟩
  rw [if_neg hx] at h
  clear hx
  conv => whnf
  refine ⟨fun hx => by
    rw [if_pos hx] at h
    exact wk_224 op p t c S h, fun hx => ?_⟩
  rw [if_neg hx] at h
  clear hx
  conv => whnf
  refine ⟨fun hx => by
    rw [if_pos hx] at h
    exact wk_249 op p t c S (by rw [km_opj 11 (by omega) hx]; exact lm_vc (by decide)) h, fun hx => ?_⟩
  rw [if_neg hx] at h
  clear hx
  conv => whnf
  refine ⟨fun hx => by
    rw [if_pos hx] at h
    exact wk_249 op p t c S (by rw [km_opj 12 (by omega) hx]; exact lm_vc (by decide)) h, fun hx => ?_⟩
  rw [if_neg hx] at h
  clear hx
  conv => whnf
  refine ⟨fun hx => by
    rw [if_pos hx] at h
    exact wk_249 op p t c S (by rw [km_opj 13 (by omega) hx]; exact lm_vc (by decide)) h, fun hx => ?_⟩
  rw [if_neg hx] at h
  clear hx
  conv => whnf
  refine ⟨fun hx => by
    rw [if_pos hx] at h
    exact wk_270 op p t c S h, fun hx => ?_⟩
  rw [if_neg hx] at h
  clear hx
  conv => whnf
  refine ⟨fun hx => by
    rw [if_pos hx] at h
    exact wk_334 op p t c S hp h, fun hx => ?_⟩
  rw [if_neg hx] at h
  clear hx
  conv => whnf
  refine ⟨fun hx => by
    rw [if_pos hx] at h
    exact wk_349 op p t c S hp h, fun hx => ?_⟩
  rw [if_neg hx] at h
  clear hx
  conv => whnf
  refine ⟨fun hx => by
    rw [if_pos hx] at h
    exact wk_364 op p t c S hp h, fun hx => ?_⟩
  rw [if_neg hx] at h
  clear hx
  conv => whnf
  refine ⟨fun hx => by
    rw [if_pos hx] at h
    exact wk_408 op p t c S hp h, fun hx => ?_⟩
  rw [if_neg hx] at h
  clear hx
  conv => whnf
  refine ⟨fun hx => by
    rw [if_pos hx] at h
    exact wk_364 op p t c S hp h, fun hx => ?_⟩
  rw [if_neg hx] at h
  exact wk_408 op p t c S hp h
abbrev ca_R_work : lm_Ca := [(36, 2, (some 4), s_R_flag), (77, 1, (some 4), s_R_marked), (81, 2, (some 4), s_R_change), (84, 1, (some 4), s_R_add), (87, 2, (some 4), s_R_compare)]
theorem cok_R_work (l : Launch) : lm_cok l (kk_Y kk_shF) R_R 3 66 ca_R_work := kk_cok (kk_cons ⟨y_R_flag, b_R_flag, 3, none, 0, 0, I_R_flag l, ⟨by decide, by decide⟩, yw_R_flag, li_R_36⟩ <| kk_cons ⟨y_R_marked, b_R_marked, 2, some .int, 1, 22, I_R_marked l, ⟨by decide, by decide⟩, yw_R_marked, li_R_77⟩ <| kk_cons ⟨y_R_change, b_R_change, 3, none, 1, 22, I_R_change l, ⟨by decide, by decide⟩, yw_R_change, li_R_81⟩ <| kk_cons ⟨y_R_add, b_R_add, 3, none, 2, 43, I_R_add l, ⟨by decide, by decide⟩, yw_R_add, li_R_84⟩ <| kk_cons ⟨y_R_compare, b_R_compare, 4, none, 2, 43, I_R_compare l, ⟨by decide, by decide⟩, yw_R_compare, li_R_87⟩ <| kk_nil)
set_option maxHeartbeats 1000000 in
set_option maxRecDepth 20000 in
theorem I_R_work (l : Launch) : lm_I l (kk_Y kk_shF) y_R_work b_R_work 5 (none) 3 66 s_R_work := by
  refine lm_impl g_R_work ca_R_work (by decide +kernel) kk_okF ck_R_work (kk_fok fl_R_ok) (kk_sok sl_R_ok) (Or.inl rfl) (cok_R_work l) rfl (by decide) ?_
  rintro av S post ⟨op, p, rfl, hp, h⟩
  refine ⟨Nat.le_of_ble_eq_true rfl, lm_to 19 20 ?_⟩
  conv => whnf
  refine ⟨hp, ?_⟩
  conv => whnf
  refine ⟨lm_vc (by decide), ?_⟩
  exact lm_Go.sub (wk_sw op p _ _ S hp h) (kk_cons rfl (kk_cons rfl (kk_cons rfl (kk_cons rfl (kk_cons rfl kk_nil)))))
def km_tr (d : Nat) (v : Int32) (S : lm_S) : lm_S := lm_set (km_mark v S) 18 d (v &&& 255)
def km_move (md : Int32) (S : lm_S) : lm_S := if md.toInt = 0 then km_tr 513 (S 18 512) S else if md.toInt = 0 + 1 then km_tr 512 (S 18 513) S else if md.toInt = 0 + 1 + 1 then km_tr 514 (S 18 512) S else if md.toInt = 0 + 1 + 1 + 1 then km_tr 512 (S 18 514) S else if md.toInt = 0 + 1 + 1 + 1 + 1 then km_tr 513 (S 18 515) S else if md.toInt = 0 + 1 + 1 + 1 + 1 + 1 then lm_set S 18 515 (S 18 513) else if md.toInt = 0 + 1 + 1 + 1 + 1 + 1 + 1 then km_tr 513 (S 18 513 + 1) S else km_tr 513 (S 18 513 - 1) S
def s_R_transfer : lm_Sp := fun av S post => ∃ md, av = [.ref 16, .int md] ∧ post none (km_move md S)
abbrev ca_R_transfer : lm_Ca := [(77, 1, (some 4), s_R_marked)]
theorem cok_R_transfer (l : Launch) : lm_cok l (kk_Y kk_shF) R_R 2 43 ca_R_transfer := kk_cok (kk_cons ⟨y_R_marked, b_R_marked, 2, some .int, 1, 22, I_R_marked l, ⟨by decide, by decide⟩, yw_R_marked, li_R_77⟩ <| kk_nil)
set_option maxHeartbeats 1000000 in
set_option maxRecDepth 20000 in
theorem I_R_transfer (l : Launch) : lm_I l (kk_Y kk_shF) y_R_transfer b_R_transfer 2 (none) 2 43 s_R_transfer := by
  refine lm_impl g_R_transfer ca_R_transfer (by decide +kernel) kk_okF ck_R_transfer (kk_fok fl_R_ok) (kk_sok sl_R_ok) (Or.inl rfl) (cok_R_transfer l) rfl (by decide) ?_
  rintro av S post ⟨md, rfl, h⟩
  refine ⟨Nat.le_of_ble_eq_true rfl, lm_run 90 ?_⟩
  unfold km_move km_tr at h
  (try (conv => whnf))
  repeat' first
    | (refine ⟨_, rfl, ?_⟩; conv => whnf)
    | (refine ⟨_, _, rfl, ?_⟩; conv => whnf)
    | (refine ⟨_, _, _, rfl, ?_⟩; conv => whnf)
    | (refine ⟨_, _, _, _, rfl, ?_⟩; conv => whnf)
    | (refine And.intro rfl ?_; conv => whnf)
    | (refine And.intro (lm_vc (by decide)) ?_; conv => whnf)
    | (refine And.intro (by decide) ?_; conv => whnf)
    | (refine ⟨fun hx => absurd hx (by decide), fun _ => ?_⟩; conv => whnf)
    | (refine ⟨fun _ => ?_, fun hx => absurd hx (by decide)⟩; conv => whnf)
    | (refine And.intro (hw hx) ?_; conv => whnf)
    | (refine And.intro hw ?_; conv => whnf)
    | (refine And.intro hw2 ?_; conv => whnf)
    | (refine And.intro hw3 ?_; conv => whnf)
    | (refine And.intro hw4 ?_; conv => whnf)
    | (refine And.intro hw5 ?_; conv => whnf)
    | (refine And.intro hw6 ?_; conv => whnf)
    | (refine And.intro hw7 ?_; conv => whnf)
    | (refine And.intro (hv1 (by assumption)) ?_; conv => whnf)
    | (refine And.intro (hv2 (by assumption) (by assumption)) ?_; conv => whnf)
    | (refine And.intro (hv3 (by assumption) (by assumption)) ?_; conv => whnf)
    | (refine And.intro (lm_v511 _) ?_; conv => whnf)
    | (refine And.intro (lm_v7 _) ?_; conv => whnf)
    | (refine ⟨fun hx => ?_, fun hx => ?_⟩ <;> conv => whnf)
    | (split at h)
    | contradiction
    | exact h
def km_o1 (k : Int32) (S : lm_S) : lm_S := lm_set S 18 (561 + k).toNatClampNeg (S 18 (561 + k - 1).toNatClampNeg)
def km_o7 (S : lm_S) : lm_S := km_o1 (7 + -1 + -1 + -1 + -1 + -1 + -1) (km_o1 (7 + -1 + -1 + -1 + -1 + -1) (km_o1 (7 + -1 + -1 + -1 + -1) (km_o1 (7 + -1 + -1 + -1) (km_o1 (7 + -1 + -1) (km_o1 (7 + -1) (km_o1 7 S))))))
def km_oe (S : lm_S) : lm_S := lm_set (lm_set S 18 561 (S 18 512)) 18 560 (S 18 560 + 1)
def km_out (S : lm_S) : lm_S := km_oe (km_o7 S)
abbrev ca_st : lm_Ca := [(36, 2, (some 4), s_R_flag), (61, 1, (some 4), s_R_push), (77, 1, (some 4), s_R_marked), (90, 0, (some 4), s_R_pull)]
theorem st_oe {post : Option Value → lm_S → Prop} (S : lm_S) (h : post none (km_oe S)) : lm_Go YF g_R_stack ca_st post 333 [(0, .ref 16)] [] S := by
  refine lm_run 40 ?_
  unfold km_oe at h
  (try (conv => whnf))
  repeat' first
    | (refine ⟨_, rfl, ?_⟩; conv => whnf)
    | (refine ⟨_, _, rfl, ?_⟩; conv => whnf)
    | (refine ⟨_, _, _, rfl, ?_⟩; conv => whnf)
    | (refine ⟨_, _, _, _, rfl, ?_⟩; conv => whnf)
    | (refine And.intro rfl ?_; conv => whnf)
    | (refine And.intro (lm_vc (by decide)) ?_; conv => whnf)
    | (refine And.intro (by decide) ?_; conv => whnf)
    | (refine ⟨fun hx => absurd hx (by decide), fun _ => ?_⟩; conv => whnf)
    | (refine ⟨fun _ => ?_, fun hx => absurd hx (by decide)⟩; conv => whnf)
    | (refine And.intro (hw hx) ?_; conv => whnf)
    | (refine And.intro hw ?_; conv => whnf)
    | (refine And.intro hw2 ?_; conv => whnf)
    | (refine And.intro hw3 ?_; conv => whnf)
    | (refine And.intro hw4 ?_; conv => whnf)
    | (refine And.intro hw5 ?_; conv => whnf)
    | (refine And.intro hw6 ?_; conv => whnf)
    | (refine And.intro hw7 ?_; conv => whnf)
    | (refine And.intro (hv1 (by assumption)) ?_; conv => whnf)
    | (refine And.intro (hv2 (by assumption) (by assumption)) ?_; conv => whnf)
    | (refine And.intro (hv3 (by assumption) (by assumption)) ?_; conv => whnf)
    | (refine And.intro (lm_v511 _) ?_; conv => whnf)
    | (refine And.intro (lm_v7 _) ?_; conv => whnf)
    | (refine ⟨fun hx => ?_, fun hx => ?_⟩ <;> conv => whnf)
    | (split at h)
    | contradiction
    | exact h
theorem st_o1 {post : Option Value → lm_S → Prop} (k : Int32) (S : lm_S) (hk : (decide (0 < k) && decide (k ≤ 7)) = true) (h : lm_Go YF g_R_stack ca_st post 298 [(0, .ref 16), (5, .int (k + -1))] [] (km_o1 k S)) : lm_Go YF g_R_stack ca_st post 298 [(0, .ref 16), (5, .int k)] [] S := by
  rw [Bool.and_eq_true, decide_eq_true_eq, decide_eq_true_eq] at hk
  have hk1 : ¬ k ≤ 0 := Int32.not_le.mpr hk.1
  have hk2 : k.toInt ≤ 7 := by
    have := Int32.le_iff_toInt_le.mp hk.2
    rw [show (7 : Int32).toInt = 7 from by decide] at this
    exact this
  have hk3 : 0 < k.toInt := by
    have := Int32.lt_iff_toInt_lt.mp hk.1
    rw [Int32.toInt_zero] at this
    exact this
  obtain ⟨j, hj, rfl⟩ := nI_of (x := k) (by rw [Int32.lt_iff_toInt_lt, Int32.toInt_zero]; omega)
  rw [nI_toInt hj] at hk2 hk3
  have hv1 : vp_in (561 + nI j) 569 := by rw [show (561 : Int32) = nI 561 from rfl, nI_add]; exact vp_in_nI (by omega) (by decide)
  have hv2 : vp_in (561 + nI j - 1) 569 := by rw [show (561 : Int32) = nI 561 from rfl, nI_add, show (1 : Int32) = nI 1 from rfl, pk_sub (by omega)]; exact vp_in_nI (by omega) (by decide)
  refine lm_to 298 30 ?_
  conv => whnf
  refine ⟨fun hy => absurd hy hk1, fun _ => ?_⟩
  conv => whnf
  refine ⟨hv2, ?_⟩
  conv => whnf
  refine ⟨hv1, ?_⟩
  exact lm_Go.sub h (kk_cons rfl (kk_cons rfl kk_nil))
theorem st_out {post : Option Value → lm_S → Prop} (S : lm_S) (h : post none (km_out S)) : lm_Go YF g_R_stack ca_st post 294 [(0, .ref 16)] [] S := by
  refine lm_to 298 10 ?_
  refine lm_Go.sub (L1 := [(0, .ref 16), (5, .int 7)]) ?_ (kk_cons rfl (kk_cons rfl kk_nil))
  refine st_o1 _ _ (by decide) (st_o1 _ _ (by decide) (st_o1 _ _ (by decide) (st_o1 _ _ (by decide) (st_o1 _ _ (by decide) (st_o1 _ _ (by decide) (st_o1 _ _ (by decide) ?_))))))
  refine lm_to 333 10 ?_
  conv => whnf
  refine ⟨fun _ => ?_, fun hy => absurd (by decide) hy⟩
  exact lm_Go.sub (st_oe _ h) (kk_cons rfl kk_nil)
def km_shi : Nat → Nat → lm_S → lm_S
  | 0, _, S => S
  | n + 1, k, S => km_shi n (k + 1) (lm_set S 18 (520 + nI k).toNatClampNeg (S 18 (520 + nI k + 1).toNatClampNeg))
theorem st_shi {post : Option Value → lm_S → Prop} (w : Nat) (hw : w ≤ 39) : ∀ (m k : Nat) (S : lm_S), k + m = w → S 18 519 = nI w → post none (km_shi m k S) → lm_Go YF g_R_stack ca_st post 248 [(0, .ref 16), (5, .int (nI k))] [] S
  | 0, k, S, hk, hS, h => by
    refine lm_run 20 ?_
    conv => whnf
    refine ⟨lm_vc (by decide), ?_⟩
    conv => whnf
    refine ⟨fun _ => ?_, fun hy => absurd (show S 18 519 ≤ nI k by rw [hS]; exact nI_le (by omega) (by omega)) hy⟩
    exact h
  | m + 1, k, S, hk, hS, h => by
    have e1 : (520 : Int32) + nI k = nI (520 + k) := by rw [show (520 : Int32) = nI 520 from rfl, nI_add]
    refine lm_to 248 30 ?_
    conv => whnf
    refine ⟨lm_vc (by decide), ?_⟩
    conv => whnf
    refine ⟨fun hy => absurd (show S 18 519 ≤ nI k from hy) (by rw [hS]; exact nI_ge (by omega) (by omega)), fun _ => ?_⟩
    conv => whnf
    refine ⟨by rw [e1, nI_1]; exact vp_in_nI (by omega) (by decide), ?_⟩
    conv => whnf
    refine ⟨by rw [e1]; exact vp_in_nI (by omega) (by decide), ?_⟩
    refine lm_Go.sub (st_shi w hw m (k + 1) (lm_set S 18 (520 + nI k).toNatClampNeg (S 18 (520 + nI k + 1).toNatClampNeg)) (by omega) ?_ h) (kk_cons rfl (kk_cons ?_ kk_nil))
    · rw [← hS, e1, nI_clamp (by omega)]
      show (upd (S 18) (520 + k) _) 519 = S 18 519
      rw [pk_un (by omega)]
    · show some (Value.int (nI k + 1)) = some (Value.int (nI (k + 1)))
      rw [nI_1]
def km_i1 (S : lm_S) : lm_S := km_flag 1 (if S 18 519 = 0 then 1 else 0) S
def km_i2 (v : Int32) (S : lm_S) : lm_S := lm_set (km_mark v S) 18 512 (v &&& 255)
def km_i3 (w : Nat) (S : lm_S) : lm_S := if w = 0 then S else km_shi (w - 1) 0 (lm_set S 18 519 (S 18 519 - 1))
def km_in (w : Nat) (S : lm_S) : lm_S := km_i3 w (km_i2 (if S 18 519 = 0 then 0 else S 18 520) (km_i1 S))
theorem st_i3 {post : Option Value → lm_S → Prop} (w : Nat) (hw : w ≤ 40) (S : lm_S) (hS : S 18 519 = nI w) (h : post none (km_i3 w S)) : lm_Go YF g_R_stack ca_st post 216 [(0, .ref 16)] [] S := by
  refine lm_to 248 30 ?_
  unfold km_i3 at h
  conv => whnf
  refine ⟨lm_vc (by decide), ?_⟩
  conv => whnf
  refine ⟨fun hy => ?_, fun hy => ?_⟩
  · have h0 : w = 0 := by
      have q : S 18 519 ≤ nI 0 := hy
      rw [hS, nI_leI (by omega) (by omega)] at q
      omega
    rw [if_pos h0] at h
    exact h
  · have h0 : ¬ w = 0 := by
      have q : ¬ S 18 519 ≤ nI 0 := hy
      rw [hS, nI_leI (by omega) (by omega)] at q
      omega
    rw [if_neg h0] at h
    conv => whnf
    refine ⟨lm_vc (by decide), ?_⟩
    conv => whnf
    refine ⟨lm_vc (by decide), ?_⟩
    refine lm_Go.sub (st_shi (w - 1) (by omega) (w - 1) 0 (lm_set S 18 519 (S 18 519 - 1)) (by omega) ?_ h) (kk_cons rfl (kk_cons rfl kk_nil))
    show S 18 519 - 1 = nI (w - 1)
    rw [hS, show (1 : Int32) = nI 1 from rfl, pk_sub (by omega)]
theorem st_in {post : Option Value → lm_S → Prop} (w : Nat) (hw : w ≤ 40) (S : lm_S) (hS : S 18 519 = nI w) (h : post none (km_in w S)) : lm_Go YF g_R_stack ca_st post 160 [(0, .ref 16)] [] S := by
  refine lm_to 216 60 ?_
  unfold km_in km_i2 km_i1 at h
  conv => whnf
  refine ⟨lm_vc (by decide), ?_⟩
  conv => whnf
  refine ⟨fun (hy : ¬ S 18 519 = 0) => ?_, fun (hy : S 18 519 = 0) => ?_⟩
  · rw [if_neg hy, if_neg hy] at h
    conv => whnf
    refine ⟨_, _, rfl, ?_⟩
    conv => whnf
    refine ⟨lm_vc (by decide), ?_⟩
    conv => whnf
    refine ⟨fun _ => ?_, fun hz => absurd (show S 18 519 = 0 from hz) hy⟩
    conv => whnf
    refine ⟨lm_vc (by decide), ?_⟩
    conv => whnf
    refine ⟨_, rfl, ?_⟩
    conv => whnf
    refine ⟨lm_vc (by decide), ?_⟩
    exact lm_Go.sub (st_i3 w hw _ hS h) (kk_cons rfl kk_nil)
  · rw [if_pos hy, if_pos hy] at h
    conv => whnf
    refine ⟨_, _, rfl, ?_⟩
    conv => whnf
    refine ⟨lm_vc (by decide), ?_⟩
    conv => whnf
    refine ⟨fun hz => absurd (show S 18 519 = 0 from hy) hz, fun _ => ?_⟩
    conv => whnf
    refine ⟨_, rfl, ?_⟩
    conv => whnf
    refine ⟨lm_vc (by decide), ?_⟩
    exact lm_Go.sub (st_i3 w hw _ hS h) (kk_cons rfl kk_nil)
def km_stack (w : Nat) (md : Int32) (S : lm_S) : lm_S := if md.toInt = 0 then lm_set (km_pull (km_pull S)) 18 517 ((km_pv S + 256 * km_pv (km_pull S)) &&& 511) else if md.toInt = 0 + 1 then km_push (S 18 512) S else if md.toInt = 0 + 1 + 1 then km_tr 512 (km_pv S) (km_pull S) else if md.toInt = 0 + 1 + 1 + 1 then km_push (S 18 516) S else if md.toInt = 0 + 1 + 1 + 1 + 1 then lm_set (km_pull S) 18 516 (km_pv S &&& 195) else if md.toInt = 0 + 1 + 1 + 1 + 1 + 1 then lm_set S 18 518 1 else if md.toInt = 0 + 1 + 1 + 1 + 1 + 1 + 1 then km_in w S else km_out S
def s_R_stack : lm_Sp := fun av S post => ∃ (md : Int32) (w : Nat), av = [.ref 16, .int md] ∧ w ≤ 40 ∧ S 18 519 = nI w ∧ vp_in (256 + S 18 515) 569 ∧ post none (km_stack w md S)
abbrev ca_R_stack : lm_Ca := [(36, 2, (some 4), s_R_flag), (61, 1, (some 4), s_R_push), (77, 1, (some 4), s_R_marked), (90, 0, (some 4), s_R_pull)]
theorem cok_R_stack (l : Launch) : lm_cok l (kk_Y kk_shF) R_R 2 43 ca_R_stack := kk_cok (kk_cons ⟨y_R_flag, b_R_flag, 3, none, 0, 0, I_R_flag l, ⟨by decide, by decide⟩, yw_R_flag, li_R_36⟩ <| kk_cons ⟨y_R_push, b_R_push, 2, none, 1, 22, I_R_push l, ⟨by decide, by decide⟩, yw_R_push, li_R_61⟩ <| kk_cons ⟨y_R_marked, b_R_marked, 2, some .int, 1, 22, I_R_marked l, ⟨by decide, by decide⟩, yw_R_marked, li_R_77⟩ <| kk_cons ⟨y_R_pull, b_R_pull, 1, some .int, 0, 0, I_R_pull l, ⟨by decide, by decide⟩, yw_R_pull, li_R_90⟩ <| kk_nil)
set_option maxHeartbeats 1000000 in
set_option maxRecDepth 20000 in
theorem I_R_stack (l : Launch) : lm_I l (kk_Y kk_shF) y_R_stack b_R_stack 6 (none) 2 43 s_R_stack := by
  refine lm_impl g_R_stack ca_R_stack (by decide +kernel) kk_okF ck_R_stack (kk_fok fl_R_ok) (kk_sok sl_R_ok) (Or.inl rfl) (cok_R_stack l) rfl (by decide) ?_
  rintro av S post ⟨md, w, rfl, hw40, hS, hw, h⟩
  refine ⟨Nat.le_of_ble_eq_true rfl, lm_tos (fun q => Nat.beq q 160 || Nat.beq q 294) 60 ?_⟩
  unfold km_stack at h
  conv => whnf
  refine ⟨fun hx => by
    rw [if_pos hx] at h
    conv => whnf
    refine ⟨rfl, ?_⟩
    conv => whnf
    refine ⟨rfl, ?_⟩
    conv => whnf
    refine ⟨lm_vc (by decide), ?_⟩
    exact h, fun hx => ?_⟩
  rw [if_neg hx] at h
  clear hx
  conv => whnf
  refine ⟨fun hx => by
    rw [if_pos hx] at h
    conv => whnf
    refine ⟨lm_vc (by decide), ?_⟩
    conv => whnf
    refine ⟨_, rfl, hw, ?_⟩
    exact h, fun hx => ?_⟩
  rw [if_neg hx] at h
  clear hx
  conv => whnf
  refine ⟨fun hx => by
    rw [if_pos hx] at h
    conv => whnf
    refine ⟨rfl, ?_⟩
    conv => whnf
    refine ⟨_, rfl, ?_⟩
    conv => whnf
    refine ⟨lm_vc (by decide), ?_⟩
    exact h, fun hx => ?_⟩
  rw [if_neg hx] at h
  clear hx
  conv => whnf
  refine ⟨fun hx => by
    rw [if_pos hx] at h
    conv => whnf
    refine ⟨lm_vc (by decide), ?_⟩
    conv => whnf
    refine ⟨_, rfl, hw, ?_⟩
    exact h, fun hx => ?_⟩
  rw [if_neg hx] at h
  clear hx
  conv => whnf
  refine ⟨fun hx => by
    rw [if_pos hx] at h
    conv => whnf
    refine ⟨rfl, ?_⟩
    conv => whnf
    refine ⟨lm_vc (by decide), ?_⟩
    exact h, fun hx => ?_⟩
  rw [if_neg hx] at h
  clear hx
  conv => whnf
  refine ⟨fun hx => by
    rw [if_pos hx] at h
    conv => whnf
    refine ⟨lm_vc (by decide), ?_⟩
    exact h, fun hx => ?_⟩
  rw [if_neg hx] at h
  clear hx
  conv => whnf
  refine ⟨fun hx => by
    rw [if_pos hx] at h
    exact lm_Go.sub (st_in w hw40 S hS h) (kk_cons rfl kk_nil), fun hx => ?_⟩
  rw [if_neg hx] at h
  clear hx
  exact lm_Go.sub (st_out S h) (kk_cons rfl kk_nil)
