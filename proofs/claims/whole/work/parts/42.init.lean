/-! the state behind the constructors -/
def zS : lm_S := fun i k => if i = 6 then (if k = 3 then 255 else 0) else if i = 18 then (if k = 515 then 255 else 0) else 0
theorem zS_6 (k : Nat) : zS 6 k = if k = 3 then 255 else 0 := rfl
theorem zS_18 (k : Nat) : zS 18 k = if k = 515 then 255 else 0 := rfl
theorem zS_o (i k : Nat) (h6 : i ≠ 6) (h18 : i ≠ 18) : zS i k = 0 := by
  unfold zS
  rw [if_neg h6, if_neg h18]
theorem zS_rs : rs zS zS := by
  have n0 : (0 : Int32) = nI 0 := rfl
  refine ⟨fun a ha => ?_, fun k hk => ?_, ⟨fun a ha => ?_, fun k hk => ?_, ?_⟩, 0, 0, 0, 0, rfl, rfl, by omega, by omega, rfl, fun k hk => by omega, rfl, rfl, rfl, fun k _ hk => by omega, fun _ => rfl, by omega⟩
  · rw [zS_o 5 a (by omega) (by omega), zS_18, if_neg (by omega)]
  · rw [zS_6, zS_18]
    by_cases e : k = 3
    · rw [if_pos e, if_pos (by omega)]
    · rw [if_neg e, if_neg (by omega)]
  · rw [zS_18, if_neg (by omega)]
    exact kb_0
  · rw [zS_18]
    split
    · exact ⟨255, by omega, rfl⟩
    · exact kb_0
  · exact lm_vc (by decide)
theorem zS_mk (l f m s : Nat) (hm : m ≠ 6) (hm2 : m ≠ 18) (hs : s ≠ 6) (hs2 : s ≠ 18) : mk l f m s 0 zS := ⟨by omega, zS_o 16 f (by omega) (by omega), zS_o s 1 hs hs2, fun k hk => by omega, fun i j hi => by omega, fun p hp => Or.inr ⟨zS_o m p hm hm2, fun k hk => by omega⟩⟩
theorem IV_0 : IV 0 (km_an (kd_begin zS)) := by
  have r9 : rs zS (ns_S (zS 18)) := zS_rs.cong (fun _ _ => rfl) (fun _ _ => rfl) rfl rfl rfl rfl
  have e18 : (kd_begin zS) 18 = zS 18 := do_begin zS 18 (by omega)
  refine IV.both (dr := 0) (zS_mk 19 6 14 3 (by omega) (by omega) (by omega) (by omega)) (zS_mk 20 7 15 4 (by omega) (by omega) (by omega) (by omega)) (HD.begin r9 ⟨0, by omega, rfl⟩) (do_begin zS) (mo_an _) ⟨?_, ?_, ?_, ?_⟩ ?_ (by omega)
  · unfold km_an
    rw [ls_o _ (by omega), ls_o _ (by omega), va_up_self]
    exact e18
  · unfold km_an
    rw [ls_o _ (by omega), ls_o _ (by omega), va_up_ne _ _ (by omega)]
    exact e18
  · unfold km_an
    rw [ls_n _ _ (by omega), ls_i]
    rfl
  · unfold km_an
    rw [ls_i]
    rfl
  · have e : (kd_begin zS) 1 = zS 1 := by
      unfold kd_begin kd_keep
      rw [va_up_ne _ _ (by omega), ls_o _ (by omega), ls_o _ (by omega)]
    rw [e]
    rfl
