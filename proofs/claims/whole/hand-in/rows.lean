section
-- ===== PART A: goes FIRST, ahead of the names: the tables' words, and 'selects' of the private methods out of them =====
/-- a private method of a class that the tables say can be made, by its rows of tables_1 -/
def lw_okq (q : MethodName × Nat) : Prop := (q.1.cls ≠ "java/lang/invoke/MethodHandle" ∧ q.1.cls ≠ "java/lang/invoke/VarHandle") ∧ Cond.instantiable q.1.cls q.2 ∈ tables_1 ∧ Cond.privateMethod q.1 ∈ tables_1 ∧ Cond.instanceMethod q.1 ∈ tables_1
theorem lw_p0 : lw_okq (⟨"ReplayDesk$History", "keepPresent", "(LReplayDesk$Machine;)V"⟩, 5) := ⟨⟨by decide +kernel, by decide +kernel⟩, List.mem_of_getElem? (i := 58) (by decide +kernel), List.mem_of_getElem? (i := 100) (by decide +kernel), List.mem_of_getElem? (i := 101) (by decide +kernel)⟩
theorem lw_p1 : lw_okq (⟨"ReplayDesk", "beginAnew", "()V"⟩, 4) := ⟨⟨by decide +kernel, by decide +kernel⟩, List.mem_of_getElem? (i := 8) (by decide +kernel), List.mem_of_getElem? (i := 127) (by decide +kernel), List.mem_of_getElem? (i := 128) (by decide +kernel)⟩
theorem lw_p2 : lw_okq (⟨"ReplayDesk", "stepOn", "()Z"⟩, 4) := ⟨⟨by decide +kernel, by decide +kernel⟩, List.mem_of_getElem? (i := 8) (by decide +kernel), List.mem_of_getElem? (i := 166) (by decide +kernel), List.mem_of_getElem? (i := 167) (by decide +kernel)⟩
theorem lw_p3 : lw_okq (⟨"ReplayDesk$History", "swapByte", "(I[I)V"⟩, 5) := ⟨⟨by decide +kernel, by decide +kernel⟩, List.mem_of_getElem? (i := 58) (by decide +kernel), List.mem_of_getElem? (i := 174) (by decide +kernel), List.mem_of_getElem? (i := 175) (by decide +kernel)⟩
theorem lw_p4 : lw_okq (⟨"ReplayDesk$Machine", "forgetWrites", "()V"⟩, 9) := ⟨⟨by decide +kernel, by decide +kernel⟩, List.mem_of_getElem? (i := 16) (by decide +kernel), List.mem_of_getElem? (i := 183) (by decide +kernel), List.mem_of_getElem? (i := 184) (by decide +kernel)⟩
theorem lw_p5 : lw_okq (⟨"ReplayDesk$Machine", "cellAt", "(I)I"⟩, 9) := ⟨⟨by decide +kernel, by decide +kernel⟩, List.mem_of_getElem? (i := 16) (by decide +kernel), List.mem_of_getElem? (i := 187) (by decide +kernel), List.mem_of_getElem? (i := 188) (by decide +kernel)⟩
theorem lw_p6 : lw_okq (⟨"ReplayDesk$Machine", "placeOf", "(II)I"⟩, 9) := ⟨⟨by decide +kernel, by decide +kernel⟩, List.mem_of_getElem? (i := 16) (by decide +kernel), List.mem_of_getElem? (i := 191) (by decide +kernel), List.mem_of_getElem? (i := 192) (by decide +kernel)⟩
theorem lw_p7 : lw_okq (⟨"ReplayDesk$Machine", "pointerAt", "(I)I"⟩, 9) := ⟨⟨by decide +kernel, by decide +kernel⟩, List.mem_of_getElem? (i := 16) (by decide +kernel), List.mem_of_getElem? (i := 195) (by decide +kernel), List.mem_of_getElem? (i := 196) (by decide +kernel)⟩
theorem lw_p8 : lw_okq (⟨"ReplayDesk$Machine", "workOnPlace", "(II)V"⟩, 9) := ⟨⟨by decide +kernel, by decide +kernel⟩, List.mem_of_getElem? (i := 16) (by decide +kernel), List.mem_of_getElem? (i := 204) (by decide +kernel), List.mem_of_getElem? (i := 205) (by decide +kernel)⟩
theorem lw_p9 : lw_okq (⟨"ReplayDesk$Machine", "load", "(II)V"⟩, 9) := ⟨⟨by decide +kernel, by decide +kernel⟩, List.mem_of_getElem? (i := 16) (by decide +kernel), List.mem_of_getElem? (i := 208) (by decide +kernel), List.mem_of_getElem? (i := 209) (by decide +kernel)⟩
theorem lw_p10 : lw_okq (⟨"ReplayDesk$Machine", "noteResult", "(I)V"⟩, 9) := ⟨⟨by decide +kernel, by decide +kernel⟩, List.mem_of_getElem? (i := 16) (by decide +kernel), List.mem_of_getElem? (i := 212) (by decide +kernel), List.mem_of_getElem? (i := 213) (by decide +kernel)⟩
theorem lw_p11 : lw_okq (⟨"ReplayDesk$Machine", "writePlace", "(II)V"⟩, 9) := ⟨⟨by decide +kernel, by decide +kernel⟩, List.mem_of_getElem? (i := 16) (by decide +kernel), List.mem_of_getElem? (i := 216) (by decide +kernel), List.mem_of_getElem? (i := 217) (by decide +kernel)⟩
theorem lw_p12 : lw_okq (⟨"ReplayDesk$Machine", "writeCell", "(II)V"⟩, 9) := ⟨⟨by decide +kernel, by decide +kernel⟩, List.mem_of_getElem? (i := 16) (by decide +kernel), List.mem_of_getElem? (i := 220) (by decide +kernel), List.mem_of_getElem? (i := 221) (by decide +kernel)⟩
theorem lw_p13 : lw_okq (⟨"ReplayDesk$Machine", "addToA", "(I)V"⟩, 9) := ⟨⟨by decide +kernel, by decide +kernel⟩, List.mem_of_getElem? (i := 16) (by decide +kernel), List.mem_of_getElem? (i := 224) (by decide +kernel), List.mem_of_getElem? (i := 225) (by decide +kernel)⟩
theorem lw_p14 : lw_okq (⟨"ReplayDesk$Machine", "putFlag", "(IZ)V"⟩, 9) := ⟨⟨by decide +kernel, by decide +kernel⟩, List.mem_of_getElem? (i := 16) (by decide +kernel), List.mem_of_getElem? (i := 228) (by decide +kernel), List.mem_of_getElem? (i := 229) (by decide +kernel)⟩
theorem lw_p15 : lw_okq (⟨"ReplayDesk$Machine", "bitsWithA", "(II)I"⟩, 9) := ⟨⟨by decide +kernel, by decide +kernel⟩, List.mem_of_getElem? (i := 16) (by decide +kernel), List.mem_of_getElem? (i := 232) (by decide +kernel), List.mem_of_getElem? (i := 233) (by decide +kernel)⟩
def lw_privs_1 : List (MethodName × Nat) := [(⟨"ReplayDesk$History", "keepPresent", "(LReplayDesk$Machine;)V"⟩, 5), (⟨"ReplayDesk", "beginAnew", "()V"⟩, 4), (⟨"ReplayDesk", "stepOn", "()Z"⟩, 4), (⟨"ReplayDesk$History", "swapByte", "(I[I)V"⟩, 5), (⟨"ReplayDesk$Machine", "forgetWrites", "()V"⟩, 9), (⟨"ReplayDesk$Machine", "cellAt", "(I)I"⟩, 9), (⟨"ReplayDesk$Machine", "placeOf", "(II)I"⟩, 9), (⟨"ReplayDesk$Machine", "pointerAt", "(I)I"⟩, 9), (⟨"ReplayDesk$Machine", "workOnPlace", "(II)V"⟩, 9), (⟨"ReplayDesk$Machine", "load", "(II)V"⟩, 9), (⟨"ReplayDesk$Machine", "noteResult", "(I)V"⟩, 9), (⟨"ReplayDesk$Machine", "writePlace", "(II)V"⟩, 9), (⟨"ReplayDesk$Machine", "writeCell", "(II)V"⟩, 9), (⟨"ReplayDesk$Machine", "addToA", "(I)V"⟩, 9), (⟨"ReplayDesk$Machine", "putFlag", "(IZ)V"⟩, 9), (⟨"ReplayDesk$Machine", "bitsWithA", "(II)I"⟩, 9)]
theorem lw_r1 : ∀ q ∈ lw_privs_1, lw_okq q := List.forall_mem_cons.mpr ⟨lw_p0, List.forall_mem_cons.mpr ⟨lw_p1, List.forall_mem_cons.mpr ⟨lw_p2, List.forall_mem_cons.mpr ⟨lw_p3, List.forall_mem_cons.mpr ⟨lw_p4, List.forall_mem_cons.mpr ⟨lw_p5, List.forall_mem_cons.mpr ⟨lw_p6, List.forall_mem_cons.mpr ⟨lw_p7, List.forall_mem_cons.mpr ⟨lw_p8, List.forall_mem_cons.mpr ⟨lw_p9, List.forall_mem_cons.mpr ⟨lw_p10, List.forall_mem_cons.mpr ⟨lw_p11, List.forall_mem_cons.mpr ⟨lw_p12, List.forall_mem_cons.mpr ⟨lw_p13, List.forall_mem_cons.mpr ⟨lw_p14, List.forall_mem_cons.mpr ⟨lw_p15, fun _ h => absurd h List.not_mem_nil⟩⟩⟩⟩⟩⟩⟩⟩⟩⟩⟩⟩⟩⟩⟩⟩
theorem lw_p16 : lw_okq (⟨"ReplayDesk$Machine", "compare", "(II)V"⟩, 9) := ⟨⟨by decide +kernel, by decide +kernel⟩, List.mem_of_getElem? (i := 16) (by decide +kernel), List.mem_of_getElem? (i := 236) (by decide +kernel), List.mem_of_getElem? (i := 237) (by decide +kernel)⟩
theorem lw_p17 : lw_okq (⟨"ReplayDesk$Machine", "testBits", "(I)V"⟩, 9) := ⟨⟨by decide +kernel, by decide +kernel⟩, List.mem_of_getElem? (i := 16) (by decide +kernel), List.mem_of_getElem? (i := 240) (by decide +kernel), List.mem_of_getElem? (i := 241) (by decide +kernel)⟩
theorem lw_p18 : lw_okq (⟨"ReplayDesk$Machine", "alterPlace", "(III)V"⟩, 9) := ⟨⟨by decide +kernel, by decide +kernel⟩, List.mem_of_getElem? (i := 16) (by decide +kernel), List.mem_of_getElem? (i := 244) (by decide +kernel), List.mem_of_getElem? (i := 245) (by decide +kernel)⟩
theorem lw_p19 : lw_okq (⟨"ReplayDesk$Machine", "alteredByte", "(II)I"⟩, 9) := ⟨⟨by decide +kernel, by decide +kernel⟩, List.mem_of_getElem? (i := 16) (by decide +kernel), List.mem_of_getElem? (i := 248) (by decide +kernel), List.mem_of_getElem? (i := 249) (by decide +kernel)⟩
theorem lw_p20 : lw_okq (⟨"ReplayDesk$Machine", "jump", "(ZII)V"⟩, 9) := ⟨⟨by decide +kernel, by decide +kernel⟩, List.mem_of_getElem? (i := 16) (by decide +kernel), List.mem_of_getElem? (i := 252) (by decide +kernel), List.mem_of_getElem? (i := 253) (by decide +kernel)⟩
theorem lw_p21 : lw_okq (⟨"ReplayDesk$Machine", "push", "(I)V"⟩, 9) := ⟨⟨by decide +kernel, by decide +kernel⟩, List.mem_of_getElem? (i := 16) (by decide +kernel), List.mem_of_getElem? (i := 256) (by decide +kernel), List.mem_of_getElem? (i := 257) (by decide +kernel)⟩
theorem lw_p22 : lw_okq (⟨"ReplayDesk$Machine", "useStackOrPort", "(I)V"⟩, 9) := ⟨⟨by decide +kernel, by decide +kernel⟩, List.mem_of_getElem? (i := 16) (by decide +kernel), List.mem_of_getElem? (i := 260) (by decide +kernel), List.mem_of_getElem? (i := 261) (by decide +kernel)⟩
theorem lw_p23 : lw_okq (⟨"ReplayDesk$Machine", "takeByte", "()I"⟩, 9) := ⟨⟨by decide +kernel, by decide +kernel⟩, List.mem_of_getElem? (i := 16) (by decide +kernel), List.mem_of_getElem? (i := 264) (by decide +kernel), List.mem_of_getElem? (i := 265) (by decide +kernel)⟩
theorem lw_p24 : lw_okq (⟨"ReplayDesk$Machine", "takeInput", "()V"⟩, 9) := ⟨⟨by decide +kernel, by decide +kernel⟩, List.mem_of_getElem? (i := 16) (by decide +kernel), List.mem_of_getElem? (i := 268) (by decide +kernel), List.mem_of_getElem? (i := 269) (by decide +kernel)⟩
theorem lw_p25 : lw_okq (⟨"ReplayDesk$Machine", "putOut", "()V"⟩, 9) := ⟨⟨by decide +kernel, by decide +kernel⟩, List.mem_of_getElem? (i := 16) (by decide +kernel), List.mem_of_getElem? (i := 272) (by decide +kernel), List.mem_of_getElem? (i := 273) (by decide +kernel)⟩
theorem lw_p26 : lw_okq (⟨"ReplayDesk$Machine", "moveRegister", "(I)V"⟩, 9) := ⟨⟨by decide +kernel, by decide +kernel⟩, List.mem_of_getElem? (i := 16) (by decide +kernel), List.mem_of_getElem? (i := 276) (by decide +kernel), List.mem_of_getElem? (i := 277) (by decide +kernel)⟩
theorem lw_p27 : lw_okq (⟨"ReplayDesk$Machine", "changeYOrFlag", "(I)V"⟩, 9) := ⟨⟨by decide +kernel, by decide +kernel⟩, List.mem_of_getElem? (i := 16) (by decide +kernel), List.mem_of_getElem? (i := 280) (by decide +kernel), List.mem_of_getElem? (i := 281) (by decide +kernel)⟩
theorem lw_p28 : lw_okq (⟨"ReplayDesk$Machine", "branch", "(II)V"⟩, 9) := ⟨⟨by decide +kernel, by decide +kernel⟩, List.mem_of_getElem? (i := 16) (by decide +kernel), List.mem_of_getElem? (i := 284) (by decide +kernel), List.mem_of_getElem? (i := 285) (by decide +kernel)⟩
theorem lw_p29 : lw_okq (⟨"ReplayDesk", "isMet", "(I)Z"⟩, 4) := ⟨⟨by decide +kernel, by decide +kernel⟩, List.mem_of_getElem? (i := 8) (by decide +kernel), List.mem_of_getElem? (i := 302) (by decide +kernel), List.mem_of_getElem? (i := 303) (by decide +kernel)⟩
theorem lw_p30 : lw_okq (⟨"ReplayDeskModel", "anew", "()V"⟩, 10) := ⟨⟨by decide +kernel, by decide +kernel⟩, List.mem_of_getElem? (i := 367) (by decide +kernel), List.mem_of_getElem? (i := 373) (by decide +kernel), List.mem_of_getElem? (i := 374) (by decide +kernel)⟩
theorem lw_p31 : lw_okq (⟨"ReplayDeskModel", "step", "()V"⟩, 10) := ⟨⟨by decide +kernel, by decide +kernel⟩, List.mem_of_getElem? (i := 367) (by decide +kernel), List.mem_of_getElem? (i := 430) (by decide +kernel), List.mem_of_getElem? (i := 431) (by decide +kernel)⟩
def lw_privs_2 : List (MethodName × Nat) := [(⟨"ReplayDesk$Machine", "compare", "(II)V"⟩, 9), (⟨"ReplayDesk$Machine", "testBits", "(I)V"⟩, 9), (⟨"ReplayDesk$Machine", "alterPlace", "(III)V"⟩, 9), (⟨"ReplayDesk$Machine", "alteredByte", "(II)I"⟩, 9), (⟨"ReplayDesk$Machine", "jump", "(ZII)V"⟩, 9), (⟨"ReplayDesk$Machine", "push", "(I)V"⟩, 9), (⟨"ReplayDesk$Machine", "useStackOrPort", "(I)V"⟩, 9), (⟨"ReplayDesk$Machine", "takeByte", "()I"⟩, 9), (⟨"ReplayDesk$Machine", "takeInput", "()V"⟩, 9), (⟨"ReplayDesk$Machine", "putOut", "()V"⟩, 9), (⟨"ReplayDesk$Machine", "moveRegister", "(I)V"⟩, 9), (⟨"ReplayDesk$Machine", "changeYOrFlag", "(I)V"⟩, 9), (⟨"ReplayDesk$Machine", "branch", "(II)V"⟩, 9), (⟨"ReplayDesk", "isMet", "(I)Z"⟩, 4), (⟨"ReplayDeskModel", "anew", "()V"⟩, 10), (⟨"ReplayDeskModel", "step", "()V"⟩, 10)]
theorem lw_r2 : ∀ q ∈ lw_privs_2, lw_okq q := List.forall_mem_cons.mpr ⟨lw_p16, List.forall_mem_cons.mpr ⟨lw_p17, List.forall_mem_cons.mpr ⟨lw_p18, List.forall_mem_cons.mpr ⟨lw_p19, List.forall_mem_cons.mpr ⟨lw_p20, List.forall_mem_cons.mpr ⟨lw_p21, List.forall_mem_cons.mpr ⟨lw_p22, List.forall_mem_cons.mpr ⟨lw_p23, List.forall_mem_cons.mpr ⟨lw_p24, List.forall_mem_cons.mpr ⟨lw_p25, List.forall_mem_cons.mpr ⟨lw_p26, List.forall_mem_cons.mpr ⟨lw_p27, List.forall_mem_cons.mpr ⟨lw_p28, List.forall_mem_cons.mpr ⟨lw_p29, List.forall_mem_cons.mpr ⟨lw_p30, List.forall_mem_cons.mpr ⟨lw_p31, fun _ h => absurd h List.not_mem_nil⟩⟩⟩⟩⟩⟩⟩⟩⟩⟩⟩⟩⟩⟩⟩⟩
theorem lw_p32 : lw_okq (⟨"ReplayDeskModel", "place", "(IIII)I"⟩, 10) := ⟨⟨by decide +kernel, by decide +kernel⟩, List.mem_of_getElem? (i := 367) (by decide +kernel), List.mem_of_getElem? (i := 437) (by decide +kernel), List.mem_of_getElem? (i := 438) (by decide +kernel)⟩
theorem lw_p33 : lw_okq (⟨"ReplayDeskModel", "work", "(II)V"⟩, 10) := ⟨⟨by decide +kernel, by decide +kernel⟩, List.mem_of_getElem? (i := 367) (by decide +kernel), List.mem_of_getElem? (i := 441) (by decide +kernel), List.mem_of_getElem? (i := 442) (by decide +kernel)⟩
theorem lw_p34 : lw_okq (⟨"ReplayDeskModel", "marked", "(I)I"⟩, 10) := ⟨⟨by decide +kernel, by decide +kernel⟩, List.mem_of_getElem? (i := 367) (by decide +kernel), List.mem_of_getElem? (i := 445) (by decide +kernel), List.mem_of_getElem? (i := 446) (by decide +kernel)⟩
theorem lw_p35 : lw_okq (⟨"ReplayDeskModel", "flag", "(IZ)V"⟩, 10) := ⟨⟨by decide +kernel, by decide +kernel⟩, List.mem_of_getElem? (i := 367) (by decide +kernel), List.mem_of_getElem? (i := 449) (by decide +kernel), List.mem_of_getElem? (i := 450) (by decide +kernel)⟩
theorem lw_p36 : lw_okq (⟨"ReplayDeskModel", "change", "(II)V"⟩, 10) := ⟨⟨by decide +kernel, by decide +kernel⟩, List.mem_of_getElem? (i := 367) (by decide +kernel), List.mem_of_getElem? (i := 453) (by decide +kernel), List.mem_of_getElem? (i := 454) (by decide +kernel)⟩
theorem lw_p37 : lw_okq (⟨"ReplayDeskModel", "write", "(II)V"⟩, 10) := ⟨⟨by decide +kernel, by decide +kernel⟩, List.mem_of_getElem? (i := 367) (by decide +kernel), List.mem_of_getElem? (i := 457) (by decide +kernel), List.mem_of_getElem? (i := 458) (by decide +kernel)⟩
theorem lw_p38 : lw_okq (⟨"ReplayDeskModel", "add", "(I)V"⟩, 10) := ⟨⟨by decide +kernel, by decide +kernel⟩, List.mem_of_getElem? (i := 367) (by decide +kernel), List.mem_of_getElem? (i := 461) (by decide +kernel), List.mem_of_getElem? (i := 462) (by decide +kernel)⟩
theorem lw_p39 : lw_okq (⟨"ReplayDeskModel", "compare", "(II)V"⟩, 10) := ⟨⟨by decide +kernel, by decide +kernel⟩, List.mem_of_getElem? (i := 367) (by decide +kernel), List.mem_of_getElem? (i := 465) (by decide +kernel), List.mem_of_getElem? (i := 466) (by decide +kernel)⟩
theorem lw_p40 : lw_okq (⟨"ReplayDeskModel", "push", "(I)V"⟩, 10) := ⟨⟨by decide +kernel, by decide +kernel⟩, List.mem_of_getElem? (i := 367) (by decide +kernel), List.mem_of_getElem? (i := 469) (by decide +kernel), List.mem_of_getElem? (i := 470) (by decide +kernel)⟩
theorem lw_p41 : lw_okq (⟨"ReplayDeskModel", "stack", "(I)V"⟩, 10) := ⟨⟨by decide +kernel, by decide +kernel⟩, List.mem_of_getElem? (i := 367) (by decide +kernel), List.mem_of_getElem? (i := 473) (by decide +kernel), List.mem_of_getElem? (i := 474) (by decide +kernel)⟩
theorem lw_p42 : lw_okq (⟨"ReplayDeskModel", "pull", "()I"⟩, 10) := ⟨⟨by decide +kernel, by decide +kernel⟩, List.mem_of_getElem? (i := 367) (by decide +kernel), List.mem_of_getElem? (i := 477) (by decide +kernel), List.mem_of_getElem? (i := 478) (by decide +kernel)⟩
theorem lw_p43 : lw_okq (⟨"ReplayDeskModel", "transfer", "(I)V"⟩, 10) := ⟨⟨by decide +kernel, by decide +kernel⟩, List.mem_of_getElem? (i := 367) (by decide +kernel), List.mem_of_getElem? (i := 481) (by decide +kernel), List.mem_of_getElem? (i := 482) (by decide +kernel)⟩
theorem lw_p44 : lw_okq (⟨"ReplayDeskModel", "small", "(I)V"⟩, 10) := ⟨⟨by decide +kernel, by decide +kernel⟩, List.mem_of_getElem? (i := 367) (by decide +kernel), List.mem_of_getElem? (i := 485) (by decide +kernel), List.mem_of_getElem? (i := 486) (by decide +kernel)⟩
theorem lw_p45 : lw_okq (⟨"ReplayDeskModel", "branch", "(II)V"⟩, 10) := ⟨⟨by decide +kernel, by decide +kernel⟩, List.mem_of_getElem? (i := 367) (by decide +kernel), List.mem_of_getElem? (i := 489) (by decide +kernel), List.mem_of_getElem? (i := 490) (by decide +kernel)⟩
theorem lw_p46 : lw_okq (⟨"ReplayDeskModel", "come", "(I)V"⟩, 10) := ⟨⟨by decide +kernel, by decide +kernel⟩, List.mem_of_getElem? (i := 367) (by decide +kernel), List.mem_of_getElem? (i := 497) (by decide +kernel), List.mem_of_getElem? (i := 498) (by decide +kernel)⟩
def lw_privs_3 : List (MethodName × Nat) := [(⟨"ReplayDeskModel", "place", "(IIII)I"⟩, 10), (⟨"ReplayDeskModel", "work", "(II)V"⟩, 10), (⟨"ReplayDeskModel", "marked", "(I)I"⟩, 10), (⟨"ReplayDeskModel", "flag", "(IZ)V"⟩, 10), (⟨"ReplayDeskModel", "change", "(II)V"⟩, 10), (⟨"ReplayDeskModel", "write", "(II)V"⟩, 10), (⟨"ReplayDeskModel", "add", "(I)V"⟩, 10), (⟨"ReplayDeskModel", "compare", "(II)V"⟩, 10), (⟨"ReplayDeskModel", "push", "(I)V"⟩, 10), (⟨"ReplayDeskModel", "stack", "(I)V"⟩, 10), (⟨"ReplayDeskModel", "pull", "()I"⟩, 10), (⟨"ReplayDeskModel", "transfer", "(I)V"⟩, 10), (⟨"ReplayDeskModel", "small", "(I)V"⟩, 10), (⟨"ReplayDeskModel", "branch", "(II)V"⟩, 10), (⟨"ReplayDeskModel", "come", "(I)V"⟩, 10)]
theorem lw_r3 : ∀ q ∈ lw_privs_3, lw_okq q := List.forall_mem_cons.mpr ⟨lw_p32, List.forall_mem_cons.mpr ⟨lw_p33, List.forall_mem_cons.mpr ⟨lw_p34, List.forall_mem_cons.mpr ⟨lw_p35, List.forall_mem_cons.mpr ⟨lw_p36, List.forall_mem_cons.mpr ⟨lw_p37, List.forall_mem_cons.mpr ⟨lw_p38, List.forall_mem_cons.mpr ⟨lw_p39, List.forall_mem_cons.mpr ⟨lw_p40, List.forall_mem_cons.mpr ⟨lw_p41, List.forall_mem_cons.mpr ⟨lw_p42, List.forall_mem_cons.mpr ⟨lw_p43, List.forall_mem_cons.mpr ⟨lw_p44, List.forall_mem_cons.mpr ⟨lw_p45, List.forall_mem_cons.mpr ⟨lw_p46, fun _ h => absurd h List.not_mem_nil⟩⟩⟩⟩⟩⟩⟩⟩⟩⟩⟩⟩⟩⟩⟩
def lw_privs : List (MethodName × Nat) := lw_privs_1 ++ (lw_privs_2 ++ (lw_privs_3))
def lw_tbl : List Cond := k2_sels lw_privs ++ tables_1
theorem lw_privs_ok : ∀ q ∈ lw_privs, lw_okq q := by
  show ∀ q ∈ lw_privs_1 ++ (lw_privs_2 ++ (lw_privs_3)), lw_okq q
  exact List.forall_mem_append.mpr ⟨lw_r1, List.forall_mem_append.mpr ⟨lw_r2, lw_r3⟩⟩
end
section
/-! THE LIGHT MACHINE: a small machine over cells of one fixed shape. A reference is the number of its cell; the state is, for each cell, its numbers.
    lm_st is one instruction as a predicate transformer; lm_Go: the walk from here comes to an end with the postcondition; lm_closed: then the machine does. -/
abbrev lm_Sh : Type := (FieldType × Nat) ⊕ (Nat × List (Option Nat))
abbrev lm_S : Type := Nat → Nat → Int32
abbrev lm_L : Type := List (Nat × Value)
abbrev lm_Tb : Type := List (String × String × List Int32)
/-- a system: its classes, its shape, its static tables, the words of its nest, its words -/
abbrev lm_Y : Type := List vw_C × List lm_Sh × lm_Tb × List Cond × List Cond
/-- where it lies: the tables' numbers, the arrays' classes, the addresses, the class of each array -/
abbrev lm_X : Type := va_G × List (ClassId × FieldType) × (Nat → Nat) × (Nat → ClassId)
/-- an instruction, the next pc, its constant, its target -/
abbrev lm_R : Type := Instr × Nat × Int32 × Nat
/-- what a call does: arguments, state, postcondition -/
abbrev lm_Sp : Type := List Value → lm_S → (Option Value → lm_S → Prop) → Prop
/-- a method: code, fields by pool number (class, place), static tables by pool number, arraycopy's pool number, its answer (0 none, 1 an int, 2 a boolean), the law's script -/
abbrev lm_G : Type := List (Nat × lm_R) × List (Nat × Nat × Nat) × List (Nat × Nat) × Nat × Nat × Option (Nat × (Nat → Int32))
/-- calls by pool number: how many arguments, the receiver's class (none: static), what it does -/
abbrev lm_Ca : Type := List (Nat × Nat × Option Nat × lm_Sp)
def lm_t (ad : Nat → Nat) (v : Value) : Value := match v with
  | .ref i => .ref (ad i)
  | .int x => .int x
  | v => v
theorem lm_tcat (ad : Nat → Nat) (v : Value) : (lm_t ad v).category = v.category := by cases v <;> rfl
def lm_v (ad : Nat → Nat) (x : Int32) (o : Option Nat) : Value := match o with
  | none => .int x
  | some j => .ref (ad j)
def lm_E (ad : Nat → Nat) (cA : Nat → ClassId) (i : Nat) (c : lm_Sh) (g : Nat → Int32) : va_E := match c with
  | .inl a => .inl (cA i, a.2, .inl g)
  | .inr o => .inr (o.1, o.2.mapIdx (fun k r => lm_v ad (g k) r))
def lm_W (sh : List lm_Sh) (ad : Nat → Nat) (cA : Nat → ClassId) (S : lm_S) : va_W := sh.mapIdx (fun i c => (ad i, lm_E ad cA i c (S i)))
def lm_set (S : lm_S) (i k : Nat) (x : Int32) : lm_S := va_up S i (upd (S i) k x)
def lm_A (n : Nat) (ad : Nat → Nat) (sz : Nat) : Nat → Prop := fun q => (∃ i, i < n ∧ q = ad i) ∨ sz ≤ q
theorem lm_get {sh : List lm_Sh} {ad : Nat → Nat} {cA : Nat → ClassId} {S : lm_S} {i : Nat} {c : lm_Sh} (h : sh[i]? = some c) : (lm_W sh ad cA S)[i]? = some (ad i, lm_E ad cA i c (S i)) := by
  simp [lm_W, List.getElem?_mapIdx, h]
theorem lm_inv {sh : List lm_Sh} {ad : Nat → Nat} {cA : Nat → ClassId} {S : lm_S} {k : Nat} {q : Nat × va_E} (h : (lm_W sh ad cA S)[k]? = some q) : k < sh.length ∧ q.1 = ad k := by
  simp only [lm_W, List.getElem?_mapIdx] at h
  cases hs : sh[k]? with
  | none => rw [hs] at h; cases h
  | some c =>
    rw [hs] at h
    have h2 := Option.some.inj h
    exact ⟨(List.getElem?_eq_some_iff.mp hs).1, by rw [← h2]⟩
theorem lm_setA {sh : List lm_Sh} {ad : Nat → Nat} {cA : Nat → ClassId} {S : lm_S} {i n : Nat} {ty : FieldType} (h : sh[i]? = some (.inl (ty, n))) (f : Nat → Int32) : (lm_W sh ad cA S).set i (ad i, .inl (cA i, n, .inl f)) = lm_W sh ad cA (va_up S i f) := by
  apply List.ext_getElem?
  intro j
  by_cases hj : j = i
  · subst hj
    have hl : j < (lm_W sh ad cA S).length := (List.getElem?_eq_some_iff.mp (lm_get (ad := ad) (cA := cA) (S := S) h)).1
    rw [List.getElem?_set_self hl, lm_get h]
    simp [lm_E, va_up]
  · rw [List.getElem?_set_ne (Ne.symm hj)]
    simp only [lm_W, List.getElem?_mapIdx]
    cases sh[j]? with
    | none => rfl
    | some c => simp [va_up, hj]
theorem lm_setF {fl : List (Option Nat)} {k : Nat} (h : fl[k]? = some none) (ad : Nat → Nat) (g : Nat → Int32) (x : Int32) : (fl.mapIdx (fun k r => lm_v ad (g k) r)).set k (.int x) = fl.mapIdx (fun j r => lm_v ad (upd g k x j) r) := by
  apply List.ext_getElem?
  intro j
  by_cases hj : j = k
  · subst hj
    have hl : j < (fl.mapIdx (fun k r => lm_v ad (g k) r)).length := by
      rw [List.length_mapIdx]
      exact (List.getElem?_eq_some_iff.mp h).1
    rw [List.getElem?_set_self hl, List.getElem?_mapIdx, h]
    simp [lm_v, upd]
  · rw [List.getElem?_set_ne (Ne.symm hj), List.getElem?_mapIdx, List.getElem?_mapIdx]
    simp [upd, hj]
theorem lm_setO {sh : List lm_Sh} {ad : Nat → Nat} {cA : Nat → ClassId} {S : lm_S} {i ci k : Nat} {fl : List (Option Nat)} (h : sh[i]? = some (.inr (ci, fl))) (hk : fl[k]? = some none) (x : Int32) : (lm_W sh ad cA S).set i (ad i, .inr (ci, (fl.mapIdx (fun k r => lm_v ad (S i k) r)).set k (.int x))) = lm_W sh ad cA (lm_set S i k x) := by
  apply List.ext_getElem?
  intro j
  by_cases hj : j = i
  · subst hj
    have hl : j < (lm_W sh ad cA S).length := (List.getElem?_eq_some_iff.mp (lm_get (ad := ad) (cA := cA) (S := S) h)).1
    rw [List.getElem?_set_self hl, lm_get h, lm_setF hk ad (S j) x]
    simp [lm_E, lm_set, va_up]
  · rw [List.getElem?_set_ne (Ne.symm hj)]
    simp only [lm_W, List.getElem?_mapIdx]
    cases sh[j]? with
    | none => rfl
    | some c => simp [lm_set, va_up, hj]
/-- static tables -/
def lm_Z (tb : lm_Tb) (ad : Nat → Nat) (A : Nat → Prop) (U : State) (H : Heap) : Prop := ∀ (j : Nat) (C n : String) (vs : List Int32), tb[j]? = some (C, n, vs) → va_Z C n "[I" (.ref (ad (1000 + j))) A U H ∧ va_T .int (ad (1000 + j)) vs.length (fun k => .int (vs.getD k 0)) A U H
/-- the addresses are apart, the arrays' classes are known -/
def lm_ok (Y : lm_Y) (X : lm_X) : Prop := (∀ i j, i < Y.2.1.length → j < Y.2.1.length → X.2.2.1 i = X.2.2.1 j → i = j) ∧ ∀ (i : Nat) (ty : FieldType) (n : Nat), Y.2.1[i]? = some (.inl (ty, n)) → (X.2.2.2 i, ty) ∈ X.2.1
/-- what a system's words must be -/
def lm_Yok (Y : lm_Y) : Prop := (∀ w ∈ Y.2.2.2.2, goodWord w = true) ∧ (∀ w ∈ Y.2.2.2.1, (∃ a i b n d h, w = Cond.fieldLinkNest a i b n d h) ∨ ∃ a i x h, w = Cond.methodLinkNest a i x h) ∧ ∀ (ci : Nat) (C : String) (T : u_T) (N : Nat), Y.1[ci]? = some (C, T, N) → ∃ ty0 : Nat → FieldType, (∀ k, k < N → parseFieldDescriptor (T k).2.2.1 = some (ty0 k)) ∧ (∀ a, a < N → ∀ b, b < N → a ≠ b → (T a).2.1 ≠ (T b).2.1) ∧ (∀ w ∈ u_ws C T N, w ∈ Y.2.2.2.2) ∧ ∀ (i k : Nat) (gl : List (Option Nat)), Y.2.1[i]? = some (.inr (ci, gl)) → gl[k]? = some none → (T k).2.2.2 = false ∧ parseFieldDescriptor (T k).2.2.1 = some .int
/-- the world -/
def lm_B (Y : lm_Y) (X : lm_X) (sz : Nat) (S : lm_S) (U : State) : Prop := U.heap.size = sz ∧ va_P X.1 Y.1 (lm_W Y.2.1 X.2.2.1 X.2.2.2 S) U.heap ∧ va_K X.1 Y.1 X.2.1 U ∧ (∀ w ∈ Y.2.2.2.1, va_Nw w U) ∧ lm_Z Y.2.2.1 X.2.2.1 (lm_A Y.2.1.length X.2.2.1 sz) U U.heap
def lm_Qc (Y : lm_Y) (X : lm_X) (sz : Nat) (post : Option Value → lm_S → Prop) : Array Value → State → Outcome → State → Prop := fun _ st oc t =>
  ∃ (r : Option Value) (S : lm_S), oc = .returned (r.map (lm_t X.2.2.1)) ∧ post r S ∧ va_P X.1 Y.1 (lm_W Y.2.1 X.2.2.1 X.2.2.2 S) t.heap ∧ va_F (lm_A Y.2.1.length X.2.2.1 sz) st t
abbrev lm_rm (f lo : Nat) : Room := { frames := f, cells := 0, slots := 0, locals := lo }
/-- a method does what sp says -/
def lm_I (l : Launch) (Y : lm_Y) (y : MethodName) (b : ByteArray) (mL : Nat) (rt : Option FieldType) (f lo : Nat) (sp : lm_Sp) : Prop := ∀ (X : lm_X) (sz : Nat) (av : List Value) (S : lm_S) (post : Option Value → lm_S → Prop), lm_ok Y X → sp av S post →
  Met l y (Cond.code y b mL rt :: Y.2.2.2.2) (lm_rm f lo) (va_Pc (av.map (lm_t X.2.2.1)) (lm_B Y X sz S)) (lm_Qc Y X sz post) 0 0 (lm_A Y.2.1.length X.2.2.1 sz)
theorem lm_Dof {Y : lm_Y} {X : lm_X} {S : lm_S} {sz : Nat} (h : lm_ok Y X) : va_D (lm_A Y.2.1.length X.2.2.1 sz) (lm_W Y.2.1 X.2.2.1 X.2.2.2 S) := by
  refine ⟨fun i j p q hi hj hpq => ?_, fun k q hk => ?_⟩
  · obtain ⟨h1, h2⟩ := lm_inv hi
    obtain ⟨h3, h4⟩ := lm_inv hj
    exact h.1 i j h1 h3 (by rw [← h2, ← h4]; exact hpq)
  · obtain ⟨h1, h2⟩ := lm_inv hk
    exact Or.inl ⟨k, h1, h2⟩
theorem lm_A_le {n : Nat} {ad : Nat → Nat} {a b : Nat} (h : a ≤ b) : ∀ q, lm_A n ad b q → lm_A n ad a q := by
  intro q hq
  rcases hq with hq | hq
  · exact Or.inl hq
  · exact Or.inr (Nat.le_trans h hq)
theorem lm_Z_to {tb : lm_Tb} {ad : Nat → Nat} {A B : Nat → Prop} {s U : State} {H : Heap} (h : lm_Z tb ad A s s.heap) (hvm : s.vm.Alike U.vm) (hk : ∀ q : Nat, q < s.heap.size → ¬ A q → H[q]? = s.heap[q]?) (hAB : ∀ q, B q → A q) : lm_Z tb ad B U H :=
  fun j C n vs hj => ⟨(((h j C n vs hj).1.kept hk).moved hvm).narrow hAB, (((h j C n vs hj).2.kept hk).moved hvm).narrow hAB⟩
theorem lm_nw_warm {Y : lm_Y} (hY : lm_Yok Y) {s U : State} (hW : s.WarmedH U.vm) (h : ∀ w ∈ Y.2.2.2.1, va_Nw w s) : ∀ w ∈ Y.2.2.2.1, va_Nw w U := by
  intro w hw
  have h0 := h w hw
  rcases hY.2.1 w hw with ⟨a, i, b, n, d, hh, rfl⟩ | ⟨a, i, x, hh, rfl⟩
  · exact va_Nw.warmF hW h0
  · exact va_Nw.warmM hW h0
theorem lm_nw_same {Y : lm_Y} (hY : lm_Yok Y) {s U : State} (hW : s.vm = U.vm) (h : ∀ w ∈ Y.2.2.2.1, va_Nw w s) : ∀ w ∈ Y.2.2.2.1, va_Nw w U := by
  intro w hw
  have h0 := h w hw
  rcases hY.2.1 w hw with ⟨a, i, b, n, d, hh, rfl⟩ | ⟨a, i, x, hh, rfl⟩
  · exact va_Nw.same rfl hW h0
  · exact va_Nw.same rfl hW h0
/-! one instruction -/
def lm_pi (st : List Value) (k : Int32 → List Value → Prop) : Prop := match st with
  | .int x :: r => k x r
  | _ => False
def lm_pr (st : List Value) (k : Nat → List Value → Prop) : Prop := match st with
  | .ref x :: r => k x r
  | _ => False
def lm_pv (st : List Value) (k : Value → List Value → Prop) : Prop := match st with
  | .int x :: r => k (.int x) r
  | .ref x :: r => k (.ref x) r
  | _ => False
def lm_li (L : lm_L) (j : Nat) (k : Int32 → Prop) : Prop := match L.lookup j with
  | some (.int x) => k x
  | _ => False
def lm_lr (L : lm_L) (j : Nat) (k : Nat → Prop) : Prop := match L.lookup j with
  | some (.ref x) => k x
  | _ => False
def lm_up (L : lm_L) (i : Nat) (v : Value) : lm_L := (i, v) :: L.filter (fun q => !(q.1 == i) && !(q.1 + 1 == i && q.2.category == 2))
theorem lm_pi_of {st : List Value} {k : Int32 → List Value → Prop} (h : lm_pi st k) : ∃ x r, st = .int x :: r ∧ k x r := by
  unfold lm_pi at h
  split at h
  · exact ⟨_, _, rfl, h⟩
  · exact h.elim
theorem lm_pr_of {st : List Value} {k : Nat → List Value → Prop} (h : lm_pr st k) : ∃ x r, st = .ref x :: r ∧ k x r := by
  unfold lm_pr at h
  split at h
  · exact ⟨_, _, rfl, h⟩
  · exact h.elim
theorem lm_pv_of {st : List Value} {k : Value → List Value → Prop} (h : lm_pv st k) : ∃ x r, st = x :: r ∧ x.category = 1 ∧ k x r := by
  unfold lm_pv at h
  split at h
  · exact ⟨_, _, rfl, rfl, h⟩
  · exact ⟨_, _, rfl, rfl, h⟩
  · exact h.elim
theorem lm_lk {L : lm_L} {j : Nat} {v : Value} (h : L.lookup j = some v) : (j, v) ∈ L := by
  induction L with
  | nil => cases h
  | cons q L ih =>
    obtain ⟨a, b⟩ := q
    rw [List.lookup_cons] at h
    split at h
    · rename_i hb
      have e1 : j = a := by simpa using hb
      have e2 := Option.some.inj h
      subst e1
      subst e2
      exact List.mem_cons_self
    · exact List.mem_cons_of_mem _ (ih h)
theorem lm_li_of {L : lm_L} {j : Nat} {k : Int32 → Prop} (h : lm_li L j k) : ∃ x, (j, Value.int x) ∈ L ∧ k x := by
  unfold lm_li at h
  split at h
  · rename_i x hx
    exact ⟨x, lm_lk hx, h⟩
  · exact h.elim
theorem lm_lr_of {L : lm_L} {j : Nat} {k : Nat → Prop} (h : lm_lr L j k) : ∃ x, (j, Value.ref x) ∈ L ∧ k x := by
  unfold lm_lr at h
  split at h
  · rename_i x hx
    exact ⟨x, lm_lk hx, h⟩
  · exact h.elim
/-- a field -/
def lm_fd (Y : lm_Y) (fl : List (Nat × Nat × Nat)) (i idx : Nat) (kk : Nat → Option Nat → Prop) : Prop := match fl.lookup idx with
  | some (ci, k) => match Y.2.1[i]? with
    | some (.inr (cj, gl)) => match Nat.beq ci cj with
      | true => match gl[k]? with
        | some o => kk k o
        | none => False
      | false => False
    | _ => False
  | none => False
theorem lm_fd_of {Y : lm_Y} {fl : List (Nat × Nat × Nat)} {i idx : Nat} {kk : Nat → Option Nat → Prop} (h : lm_fd Y fl i idx kk) : ∃ ci k gl o, fl.lookup idx = some (ci, k) ∧ Y.2.1[i]? = some (.inr (ci, gl)) ∧ gl[k]? = some o ∧ kk k o := by
  unfold lm_fd at h
  split at h
  · rename_i ci k h1
    split at h
    · rename_i cj gl h2
      split at h
      · rename_i h3
        split at h
        · rename_i o h4
          have e : ci = cj := Nat.eq_of_beq_eq_true h3
          subst e
          exact ⟨ci, k, gl, o, h1, h2, h4, h⟩
        · exact h.elim
      · exact h.elim
    · exact h.elim
  · exact h.elim
/-- an int read from an array: the system's own, a static table, the law's script (999) -/
def lm_ld (Y : lm_Y) (sc : Option (Nat × (Nat → Int32))) (S : lm_S) (i : Nat) (j : Int32) (k : Int32 → Prop) : Prop := match Y.2.1[i]? with
  | some (.inl (.int, n)) => vp_in j n ∧ k (S i j.toNatClampNeg)
  | some _ => False
  | none => match Nat.ble 1000 i with
    | true => match Y.2.2.1[i - 1000]? with
      | some (_, _, vs) => vp_in j vs.length ∧ k (vs.getD j.toNatClampNeg 0)
      | none => False
    | false => match Nat.beq i 999 with
      | true => match sc with
        | some (n, xs) => vp_in j n ∧ k (xs j.toNatClampNeg)
        | none => False
      | false => False
theorem lm_ld_of {Y : lm_Y} {sc : Option (Nat × (Nat → Int32))} {S : lm_S} {i : Nat} {j : Int32} {k : Int32 → Prop} (h : lm_ld Y sc S i j k) :
    (∃ n, Y.2.1[i]? = some (.inl (.int, n)) ∧ vp_in j n ∧ k (S i j.toNatClampNeg)) ∨ (∃ q C nm vs, i = 1000 + q ∧ Y.2.2.1[q]? = some (C, nm, vs) ∧ vp_in j vs.length ∧ k (vs.getD j.toNatClampNeg 0)) ∨ ∃ n xs, i = 999 ∧ sc = some (n, xs) ∧ vp_in j n ∧ k (xs j.toNatClampNeg) := by
  unfold lm_ld at h
  split at h
  · rename_i n h1
    exact Or.inl ⟨n, h1, h⟩
  · exact h.elim
  · split at h
    · rename_i h2
      split at h
      · rename_i C nm vs h3
        have h4 := Nat.le_of_ble_eq_true h2
        exact Or.inr (Or.inl ⟨i - 1000, C, nm, vs, by omega, h3, h⟩)
      · exact h.elim
    · split at h
      · rename_i h3
        cases sc with
        | none => exact h.elim
        | some q =>
          obtain ⟨n, xs⟩ := q
          exact Or.inr (Or.inr ⟨n, xs, Nat.eq_of_beq_eq_true h3, rfl, h⟩)
      · exact h.elim
def lm_ai (Y : lm_Y) (i : Nat) (k : Nat → Prop) : Prop := match Y.2.1[i]? with
  | some (.inl (.int, n)) => k n
  | _ => False
theorem lm_ai_of {Y : lm_Y} {i : Nat} {k : Nat → Prop} (h : lm_ai Y i k) : ∃ n, Y.2.1[i]? = some (.inl (.int, n)) ∧ k n := by
  unfold lm_ai at h
  split at h
  · rename_i n h1
    exact ⟨n, h1, h⟩
  · exact h.elim
def lm_az (Y : lm_Y) (i : Nat) (k : Nat → Prop) : Prop := match Y.2.1[i]? with
  | some (.inl (.boolean, n)) => k n
  | _ => False
theorem lm_az_of {Y : lm_Y} {i : Nat} {k : Nat → Prop} (h : lm_az Y i k) : ∃ n, Y.2.1[i]? = some (.inl (.boolean, n)) ∧ k n := by
  unfold lm_az at h
  split at h
  · rename_i n h1
    exact ⟨n, h1, h⟩
  · exact h.elim
/-- tableswitch from lo on -/
def lm_sw (pc : Nat) (x : Int32) (d : Int) (k : Nat → Prop) : Int → List Int → Prop
  | _, [] => k ((pc : Int) + d).toNat
  | lo, o :: os => (x.toInt = lo → k ((pc : Int) + o).toNat) ∧ (¬ x.toInt = lo → lm_sw pc x d k (lo + 1) os)
def lm_lw (pc : Nat) (x : Int32) (d : Int) (k : Nat → Prop) : List (Int × Int) → Prop
  | [] => k ((pc : Int) + d).toNat
  | (a, o) :: r => (x.toInt = a → k ((pc : Int) + o).toNat) ∧ (¬ x.toInt = a → lm_lw pc x d k r)
/-- a call: the arguments off the stack -/
def lm_cat (st : List Value) : Nat := (st.map fun v => v.category).sum
def lm_cs (cal : lm_Ca) (idx : Nat) (st : List Value) (S : lm_S) (k : List Value → lm_S → Prop) : Prop := match cal.lookup idx with
  | some (n, none, sp) => match Nat.ble n st.length && Nat.ble (lm_cat (st.drop n)) 8 with
    | true => sp (st.take n).reverse S (fun r S1 => k (r.toList ++ st.drop n) S1)
    | false => False
  | _ => False
def lm_cv (Y : lm_Y) (cal : lm_Ca) (idx : Nat) (st : List Value) (S : lm_S) (k : List Value → lm_S → Prop) : Prop := match cal.lookup idx with
  | some (n, some ci, sp) => match Nat.ble n st.length with
    | true => match st.drop n with
      | .ref i :: rest => match Y.2.1[i]? with
        | some (.inr (cj, _)) => match Nat.beq ci cj && Nat.ble (lm_cat rest) 8 with
          | true => sp (.ref i :: (st.take n).reverse) S (fun r S1 => k (r.toList ++ rest) S1)
          | false => False
        | _ => False
      | _ => False
    | false => False
  | _ => False
theorem lm_cs_of {cal : lm_Ca} {idx : Nat} {st : List Value} {S : lm_S} {k : List Value → lm_S → Prop} (h : lm_cs cal idx st S k) : ∃ n sp as rest, cal.lookup idx = some (n, none, sp) ∧ st = as.reverse ++ rest ∧ as.length = n ∧ lm_cat rest ≤ 8 ∧ sp as S (fun r S1 => k (r.toList ++ rest) S1) := by
  unfold lm_cs at h
  split at h
  · rename_i n sp h1
    split at h
    · rename_i h2
      rw [Bool.and_eq_true] at h2
      refine ⟨n, sp, (st.take n).reverse, st.drop n, h1, ?_, ?_, Nat.le_of_ble_eq_true h2.2, h⟩
      · rw [List.reverse_reverse, List.take_append_drop]
      · rw [List.length_reverse, List.length_take]
        exact Nat.min_eq_left (Nat.le_of_ble_eq_true h2.1)
    · exact h.elim
  · exact h.elim
theorem lm_cv_of {Y : lm_Y} {cal : lm_Ca} {idx : Nat} {st : List Value} {S : lm_S} {k : List Value → lm_S → Prop} (h : lm_cv Y cal idx st S k) : ∃ n ci sp as i gl rest, cal.lookup idx = some (n, some ci, sp) ∧ st = as.reverse ++ Value.ref i :: rest ∧ as.length = n ∧ lm_cat rest ≤ 8 ∧ Y.2.1[i]? = some (.inr (ci, gl)) ∧ sp (.ref i :: as) S (fun r S1 => k (r.toList ++ rest) S1) := by
  unfold lm_cv at h
  split at h
  · rename_i n ci sp h1
    split at h
    · rename_i h2
      split at h
      · rename_i i rest h3
        split at h
        · rename_i cj gl h4
          split at h
          · rename_i h5
            rw [Bool.and_eq_true] at h5
            have e : ci = cj := Nat.eq_of_beq_eq_true h5.1
            subst e
            refine ⟨n, ci, sp, (st.take n).reverse, i, gl, rest, h1, ?_, ?_, Nat.le_of_ble_eq_true h5.2, h4, h⟩
            · rw [List.reverse_reverse, ← h3, List.take_append_drop]
            · rw [List.length_reverse, List.length_take]
              exact Nat.min_eq_left (Nat.le_of_ble_eq_true h2)
          · exact h.elim
        · exact h.elim
      · exact h.elim
    · exact h.elim
  · exact h.elim
/-- System.arraycopy -/
def lm_cp (Y : lm_Y) (st : List Value) (S : lm_S) (k : List Value → lm_S → Prop) : Prop :=
  lm_pi st fun n t => lm_pi t fun dp t => lm_pr t fun b t => lm_pi t fun sp t => lm_pr t fun a t => lm_ai Y a fun n0 => lm_ai Y b fun n1 =>
    match Nat.ble (lm_cat t) 8 with
    | true => (¬ sp < 0 ∧ ¬ dp < 0 ∧ ¬ n < 0 ∧ sp.toNatClampNeg + n.toNatClampNeg ≤ n0 ∧ dp.toNatClampNeg + n.toNatClampNeg ≤ n1) ∧ k t (va_up S b (va_cpy (S a) (S b) sp.toNatClampNeg dp.toNatClampNeg n.toNatClampNeg))
    | false => False
def lm_st (Y : lm_Y) (G : lm_G) (cal : lm_Ca) (post : Option Value → lm_S → Prop) (pc : Nat) (r : lm_R) (L : lm_L) (st : List Value) (S : lm_S) (k : Nat → lm_L → List Value → lm_S → Prop) : Prop :=
  match r with
  | (i0, nx, ca, tg) => match i0 with
  | .iconst _ => k nx L (.int ca :: st) S
  | .bipush _ => k nx L (.int ca :: st) S
  | .sipush _ => k nx L (.int ca :: st) S
  | .iload_n j => lm_li L j.val fun x => k nx L (.int x :: st) S
  | .iload j => lm_li L j fun x => k nx L (.int x :: st) S
  | .aload_n j => lm_lr L j.val fun x => k nx L (.ref x :: st) S
  | .aload j => lm_lr L j fun x => k nx L (.ref x :: st) S
  | .istore_n j => lm_pi st fun x t => k nx (lm_up L j.val (.int x)) t S
  | .istore j => lm_pi st fun x t => k nx (lm_up L j (.int x)) t S
  | .astore_n j => lm_pr st fun x t => k nx (lm_up L j.val (.ref x)) t S
  | .astore j => lm_pr st fun x t => k nx (lm_up L j (.ref x)) t S
  | .iinc j _ => lm_li L j fun x => k nx (lm_up L j (.int (x + ca))) st S
  | .iadd => lm_pi st fun y t => lm_pi t fun x t => k nx L (.int (x + y) :: t) S
  | .isub => lm_pi st fun y t => lm_pi t fun x t => k nx L (.int (x - y) :: t) S
  | .imul => lm_pi st fun y t => lm_pi t fun x t => k nx L (.int (x * y) :: t) S
  | .iand => lm_pi st fun y t => lm_pi t fun x t => k nx L (.int (x &&& y) :: t) S
  | .ior => lm_pi st fun y t => lm_pi t fun x t => k nx L (.int (x ||| y) :: t) S
  | .ixor => lm_pi st fun y t => lm_pi t fun x t => k nx L (.int (x ^^^ y) :: t) S
  | .ishl => lm_pi st fun y t => lm_pi t fun x t => k nx L (.int (x <<< (y &&& 31)) :: t) S
  | .ishr => lm_pi st fun y t => lm_pi t fun x t => k nx L (.int (x >>> (y &&& 31)) :: t) S
  | .idiv => lm_pi st fun y t => lm_pi t fun x t => (¬ y = 0) ∧ k nx L (.int (x / y) :: t) S
  | .irem => lm_pi st fun y t => lm_pi t fun x t => (¬ y = 0) ∧ k nx L (.int (x - x / y * y) :: t) S
  | .dup => lm_pv st fun a t => k nx L (a :: a :: t) S
  | .pop => lm_pv st fun _ t => k nx L t S
  | .dup2 => lm_pv st fun a t => lm_pv t fun b t => k nx L (a :: b :: a :: b :: t) S
  | .dup_x1 => lm_pv st fun a t => lm_pv t fun b t => k nx L (a :: b :: a :: t) S
  | .dup_x2 => lm_pv st fun a t => lm_pv t fun b t => lm_pv t fun d t => k nx L (a :: b :: d :: a :: t) S
  | .ifCond c _ => lm_pi st fun x t => match c with
    | .eq => (x = 0 → k tg L t S) ∧ (¬ x = 0 → k nx L t S)
    | .ne => (¬ x = 0 → k tg L t S) ∧ (x = 0 → k nx L t S)
    | .lt => (x < 0 → k tg L t S) ∧ (¬ x < 0 → k nx L t S)
    | .ge => (0 ≤ x → k tg L t S) ∧ (¬ 0 ≤ x → k nx L t S)
    | .gt => (0 < x → k tg L t S) ∧ (¬ 0 < x → k nx L t S)
    | .le => (x ≤ 0 → k tg L t S) ∧ (¬ x ≤ 0 → k nx L t S)
  | .if_icmp c _ => lm_pi st fun y t => lm_pi t fun x t => match c with
    | .eq => (x = y → k tg L t S) ∧ (¬ x = y → k nx L t S)
    | .ne => (¬ x = y → k tg L t S) ∧ (x = y → k nx L t S)
    | .lt => (x < y → k tg L t S) ∧ (¬ x < y → k nx L t S)
    | .ge => (y ≤ x → k tg L t S) ∧ (¬ y ≤ x → k nx L t S)
    | .gt => (y < x → k tg L t S) ∧ (¬ y < x → k nx L t S)
    | .le => (x ≤ y → k tg L t S) ∧ (¬ x ≤ y → k nx L t S)
  | .goto _ => k tg L st S
  | .tableswitch d lo _ offs => lm_pi st fun x t => lm_sw pc x d (fun p => k p L t S) lo offs.toList
  | .lookupswitch d ps => lm_pi st fun x t => lm_lw pc x d (fun p => k p L t S) ps.toList
  | .getfield i => lm_pr st fun a t => lm_fd Y G.2.1 a i fun f o => match o with
    | none => k nx L (.int (S a f) :: t) S
    | some b => k nx L (.ref b :: t) S
  | .putfield i => lm_pi st fun x t => lm_pr t fun a t => lm_fd Y G.2.1 a i fun f o => match o with
    | none => k nx L t (lm_set S a f x)
    | some _ => False
  | .getstatic i => match G.2.2.1.lookup i with
    | some j => k nx L (.ref (1000 + j) :: st) S
    | none => False
  | .arraylength => lm_pr st fun a t => match Nat.beq a 999 with
    | true => match G.2.2.2.2.2 with
      | some (n, _) => k nx L (.int (Int32.ofNat n) :: t) S
      | none => False
    | false => False
  | .iaload => lm_pi st fun j t => lm_pr t fun a t => lm_ld Y G.2.2.2.2.2 S a j fun x => k nx L (.int x :: t) S
  | .baload => lm_pi st fun j t => lm_pr t fun a t => lm_az Y a fun n => vp_in j n ∧ k nx L (.int (S a j.toNatClampNeg) :: t) S
  | .iastore => lm_pi st fun x t => lm_pi t fun j t => lm_pr t fun a t => lm_ai Y a fun n => vp_in j n ∧ k nx L t (lm_set S a j.toNatClampNeg x)
  | .bastore => lm_pi st fun x t => lm_pi t fun j t => lm_pr t fun a t => lm_az Y a fun n => vp_in j n ∧ k nx L t (lm_set S a j.toNatClampNeg (x &&& 1))
  | .invokestatic i => match Nat.beq i G.2.2.2.1 with
    | true => lm_cp Y st S (fun t S1 => k nx L t S1)
    | false => lm_cs cal i st S (fun t S1 => k nx L t S1)
  | .invokevirtual i => lm_cv Y cal i st S (fun t S1 => k nx L t S1)
  | .ireturn => lm_pi st fun x t => match t with
    | [] => match G.2.2.2.2.1 with
      | 1 => post (some (.int x)) S
      | 2 => x &&& 1 = x ∧ post (some (.int x)) S
      | _ => False
    | _ => False
  | .return_ => match st with
    | [] => match G.2.2.2.2.1 with
      | 0 => post none S
      | _ => False
    | _ => False
  | _ => False
def lm_len (i : Instr) : Nat := match i with
  | .bipush _ => 2
  | .iload _ => 2
  | .istore _ => 2
  | .aload _ => 2
  | .astore _ => 2
  | .sipush _ => 3
  | .iinc _ _ => 3
  | .ifCond _ _ => 3
  | .if_icmp _ _ => 3
  | .goto _ => 3
  | .getfield _ => 3
  | .putfield _ => 3
  | .getstatic _ => 3
  | .invokestatic _ => 3
  | .invokevirtual _ => 3
  | _ => 1
/-- a row of the table says what the bytes say -/
def lm_ck (b : ByteArray) (nL pc : Nat) (r : lm_R) : Bool :=
  match r.1 with
  | .tableswitch d lo hi offs => (match decode b pc with
    | .ok x => decide (x.1 = r.1)
    | _ => false) && decide ((offs.size : Int) = hi - lo + 1) && decide (0 ≤ (pc : Int) + d) && offs.toList.all (fun o => decide (0 ≤ (pc : Int) + o))
  | .lookupswitch d ps => (match decode b pc with
    | .ok x => decide (x.1 = r.1)
    | _ => false) && decide (0 ≤ (pc : Int) + d) && ps.toList.all (fun o => decide (0 ≤ (pc : Int) + o.2)) && (ps.toList.zip (ps.toList.drop 1)).all (fun (a, next) => decide (a.1 < next.1))
  | i => (match decode b pc with
    | .ok x => decide (x = (i, lm_len i))
    | _ => false) && decide (r.2.1 = pc + lm_len i) && (match i with
    | .iconst n => decide (Int32.ofInt n = r.2.2.1)
    | .bipush n => decide ((Int8.ofInt n).toInt32 = r.2.2.1)
    | .sipush n => decide ((Int16.ofInt n).toInt32 = r.2.2.1)
    | .iinc j n => decide (Int32.ofInt n = r.2.2.1) && decide (j < nL)
    | .ifCond _ o => decide ((pc : Int) + o = (r.2.2.2 : Int))
    | .if_icmp _ o => decide ((pc : Int) + o = (r.2.2.2 : Int))
    | .goto o => decide ((pc : Int) + o = (r.2.2.2 : Int))
    | .istore_n j => decide (j.val < nL)
    | .astore_n j => decide (j.val < nL)
    | .istore j => decide (j < nL)
    | .astore j => decide (j < nL)
    | .invokestatic j => decide (0 < j)
    | _ => true)
/-- L1's values are among L's -/
def lm_sub (L1 L : lm_L) : Prop := ∀ q ∈ L1, L.lookup q.1 = some q.2
/-- the same where the cells are -/
def lm_eq (Y : lm_Y) (S1 S : lm_S) : Prop := (∀ (i : Nat) (ty : FieldType) (n : Nat), Y.2.1[i]? = some (.inl (ty, n)) → ∀ k, k < n → S1 i k = S i k) ∧ ∀ (i ci : Nat) (gl : List (Option Nat)), Y.2.1[i]? = some (.inr (ci, gl)) → ∀ k : Nat, gl[k]? = some none → S1 i k = S i k
theorem lm_P_eq {Y : lm_Y} {D : va_G} {ad : Nat → Nat} {cA : Nat → ClassId} {S1 S : lm_S} {H : Heap} (he : lm_eq Y S1 S) (hP : va_P D Y.1 (lm_W Y.2.1 ad cA S) H) : va_P D Y.1 (lm_W Y.2.1 ad cA S1) H := by
  intro k q hk
  have hk0 := hk
  simp only [lm_W, List.getElem?_mapIdx] at hk
  cases hs : Y.2.1[k]? with
  | none => rw [hs] at hk; cases hk
  | some c =>
    rw [lm_get hs] at hk0
    have hq := Option.some.inj hk0
    subst hq
    have h0 := hP k _ (lm_get (ad := ad) (cA := cA) (S := S) hs)
    cases c with
    | inl a =>
      obtain ⟨ty, n⟩ := a
      have h1 : H[ad k]? = some (vp_cell (cA k) (n, .inl (S k))) := h0
      show H[ad k]? = some (vp_cell (cA k) (n, .inl (S1 k)))
      rw [h1]
      have e : ∀ j : Fin n, S k j.val = S1 k j.val := fun j => (he.1 k ty n hs j.val j.isLt).symm
      simp only [vp_cell, arrV, e]
    | inr o =>
      obtain ⟨ci, gl⟩ := o
      have e : gl.mapIdx (fun j r => lm_v ad (S1 k j) r) = gl.mapIdx (fun j r => lm_v ad (S k j) r) := by
        apply List.ext_getElem?
        intro j
        rw [List.getElem?_mapIdx, List.getElem?_mapIdx]
        cases hj : gl[j]? with
        | none => rfl
        | some r =>
          cases r with
          | none => simp only [Option.map_some, lm_v, he.2 k ci gl hs j hj]
          | some b => rfl
      have h1 : va_at D Y.1 (ad k, .inr (ci, gl.mapIdx (fun j r => lm_v ad (S k j) r))) H := h0
      show va_at D Y.1 (ad k, .inr (ci, gl.mapIdx (fun j r => lm_v ad (S1 k j) r))) H
      rw [e]
      exact h1
/-- closed under the machine -/
def lm_Cl (Y : lm_Y) (G : lm_G) (cal : lm_Ca) (post : Option Value → lm_S → Prop) (Z : Nat → lm_L → List Value → lm_S → Prop) : Prop :=
  (∀ (pc : Nat) (r : lm_R), G.1.lookup pc = some r → ∀ (L : lm_L) (st : List Value) (S : lm_S) (k : Nat → lm_L → List Value → lm_S → Prop), (∀ pc L st S, k pc L st S → Z pc L st S) → lm_st Y G cal post pc r L st S k → Z pc L st S) ∧ ∀ pc L1 L st S1 S, lm_sub L1 L → lm_eq Y S1 S → Z pc L1 st S1 → Z pc L st S
def lm_Go (Y : lm_Y) (G : lm_G) (cal : lm_Ca) (post : Option Value → lm_S → Prop) (pc : Nat) (L : lm_L) (st : List Value) (S : lm_S) : Prop := ∀ Z, lm_Cl Y G cal post Z → Z pc L st S
/-- n steps, up to the cuts -/
def lm_wp (Y : lm_Y) (G : lm_G) (cal : lm_Ca) (post : Option Value → lm_S → Prop) (cut : Nat → Bool) (K : Nat → lm_L → List Value → lm_S → Prop) : Nat → Nat → lm_L → List Value → lm_S → Prop
  | 0, _, _, _, _ => False
  | n + 1, pc, L, st, S => match G.1.lookup pc with
    | some r => lm_st Y G cal post pc r L st S (fun pc1 L1 st1 S1 => match cut pc1 with
      | true => K pc1 L1 st1 S1
      | false => lm_wp Y G cal post cut K n pc1 L1 st1 S1)
    | none => False
theorem lm_wp_go {Y : lm_Y} {G : lm_G} {cal : lm_Ca} {post : Option Value → lm_S → Prop} {cut : Nat → Bool} {K : Nat → lm_L → List Value → lm_S → Prop} (hK : ∀ pc L st S, cut pc = true → K pc L st S → lm_Go Y G cal post pc L st S) : ∀ (n pc : Nat) (L : lm_L) (st : List Value) (S : lm_S), lm_wp Y G cal post cut K n pc L st S → lm_Go Y G cal post pc L st S
  | 0, _, _, _, _, h => h.elim
  | n + 1, pc, L, st, S, h => by
    intro Z hZ
    unfold lm_wp at h
    split at h
    · rename_i r hr
      refine hZ.1 pc r hr L st S _ (fun pc1 L1 st1 S1 h1 => ?_) h
      split at h1
      · rename_i hc
        exact hK pc1 L1 st1 S1 hc h1 Z hZ
      · exact lm_wp_go hK n pc1 L1 st1 S1 h1 Z hZ
    · exact h.elim
theorem lm_Go.sub {Y : lm_Y} {G : lm_G} {cal : lm_Ca} {post : Option Value → lm_S → Prop} {pc : Nat} {L1 L : lm_L} {st : List Value} {S : lm_S} (h : lm_Go Y G cal post pc L1 st S) (hs : lm_sub L1 L) : lm_Go Y G cal post pc L st S :=
  fun Z hZ => hZ.2 pc L1 L st S S hs ⟨fun _ _ _ _ _ _ => rfl, fun _ _ _ _ _ _ => rfl⟩ (h Z hZ)
theorem lm_Go.to {Y : lm_Y} {G : lm_G} {cal : lm_Ca} {post : Option Value → lm_S → Prop} {pc : Nat} {L1 L : lm_L} {st : List Value} {S1 S : lm_S} (h : lm_Go Y G cal post pc L1 st S1) (hs : lm_sub L1 L) (he : lm_eq Y S1 S) : lm_Go Y G cal post pc L st S :=
  fun Z hZ => hZ.2 pc L1 L st S1 S hs he (h Z hZ)
/-- a walk without loops -/
theorem lm_run {Y : lm_Y} {G : lm_G} {cal : lm_Ca} {post : Option Value → lm_S → Prop} (n : Nat) {pc : Nat} {L : lm_L} {st : List Value} {S : lm_S} (h : lm_wp Y G cal post (fun _ => false) (fun _ _ _ _ => False) n pc L st S) : lm_Go Y G cal post pc L st S :=
  lm_wp_go (fun _ _ _ _ h _ => by cases h) n pc L st S h
/-- a walk up to the head of a loop -/
theorem lm_to {Y : lm_Y} {G : lm_G} {cal : lm_Ca} {post : Option Value → lm_S → Prop} (pc0 n : Nat) {pc : Nat} {L : lm_L} {st : List Value} {S : lm_S} (h : lm_wp Y G cal post (fun q => Nat.beq q pc0) (fun _ L st S => lm_Go Y G cal post pc0 L st S) n pc L st S) : lm_Go Y G cal post pc L st S := by
  refine lm_wp_go (fun q L st S hq hk => ?_) n pc L st S h
  have e : q = pc0 := Nat.eq_of_beq_eq_true hq
  subst e
  exact hk
/-- a loop: I by a measure; the body comes back to the head with less, or ends -/
theorem lm_loop {Y : lm_Y} {G : lm_G} {cal : lm_Ca} {post : Option Value → lm_S → Prop} (pc0 n : Nat) (I : Nat → lm_L → lm_S → Prop)
    (hs : ∀ k L S, I k L S → lm_wp Y G cal post (fun q => Nat.beq q pc0) (fun _ L1 st1 S1 => st1 = [] ∧ ∃ k1 L2 S2, k1 < k ∧ lm_sub L2 L1 ∧ lm_eq Y S2 S1 ∧ I k1 L2 S2) n pc0 L [] S) : ∀ k L S, I k L S → lm_Go Y G cal post pc0 L [] S := by
  intro k
  induction k using Nat.strongRecOn with
  | _ k ih =>
    intro L S h
    refine lm_wp_go (fun q L1 st1 S1 hq hk => ?_) n pc0 L [] S (hs k L S h)
    have e : q = pc0 := Nat.eq_of_beq_eq_true hq
    subst e
    obtain ⟨rfl, k1, L2, S2, hlt, hsub, he, hI⟩ := hk
    exact (ih k1 hlt L2 S2 hI).to hsub he
end
section
/-! the light machine is the machine -/
def lm_LW (p : Program) (l : Launch) (e : Env) (R : Room) (nc ns : Nat) (s : State) (m : MethodId) (args : Array Value) (below : List Frame) (meth : Method) (c : Code) (Y : lm_Y) (X : lm_X) (nL : Nat) (Q : State → Prop) (pc : Nat) (L : lm_L) (st : List Value) (S : lm_S) : Prop :=
  ∀ (H : Heap) (locs : List Loc) (ls : Array Slot), va_P X.1 Y.1 (lm_W Y.2.1 X.2.2.1 X.2.2.2 S) H → va_S (lm_A Y.2.1.length X.2.2.1 s.heap.size) s.heap H locs → lv_has ls nL (L.map (fun q => (q.1, lm_t X.2.2.1 q.2))) → W p l e R s m args below meth c H locs nc ns Q (F0 m pc ls (st.map (lm_t X.2.2.1)))
def lm_Cx (p : Program) (s : State) (m : MethodId) (args : Array Value) (c : Code) (Y : lm_Y) (X : lm_X) (nL : Nat) (cc : ByteArray) (own : String) : Prop :=
  p.tables.exec = Jvm.exec ∧ c.code = cc ∧ c.maxLocals = nL ∧ s.vm.findClass own = some m.cls ∧ (∀ w ∈ Y.2.2.2.2, w.before args s = true) ∧ va_K X.1 Y.1 X.2.1 s ∧ (∀ w ∈ Y.2.2.2.1, va_Nw w s) ∧ lm_Z Y.2.2.1 X.2.2.1 (lm_A Y.2.1.length X.2.2.1 s.heap.size) s s.heap ∧ lm_ok Y X
/-- the fields' pool numbers -/
def lm_fok (Y : lm_Y) (own : String) (fl : List (Nat × Nat × Nat)) : Prop := ∀ idx ci k, fl.lookup idx = some (ci, k) → ∃ (C : String) (T : u_T) (N : Nat), Y.1[ci]? = some (C, T, N) ∧ k < N ∧ (T k).1 = C ∧ (Cond.fieldLink own idx C (T k).2.1 (T k).2.2.1 ∈ Y.2.2.2.2 ∨ ∃ host, Cond.fieldLinkNest own idx C (T k).2.1 (T k).2.2.1 host ∈ Y.2.2.2.1)
/-- the static tables' pool numbers -/
def lm_sok (Y : lm_Y) (own : String) (sl : List (Nat × Nat)) : Prop := ∀ idx j, sl.lookup idx = some j → ∃ (C n : String) (vs : List Int32), Y.2.2.1[j]? = some (C, n, vs) ∧ (Cond.fieldLink own idx C n "[I" ∈ Y.2.2.2.2 ∨ ∃ host, Cond.fieldLinkNest own idx C n "[I" host ∈ Y.2.2.2.1)
/-- the calls' pool numbers -/
def lm_cok (l : Launch) (Y : lm_Y) (own : String) (fr lo : Nat) (cal : lm_Ca) : Prop := ∀ idx n vi sp, cal.lookup idx = some (n, vi, sp) → ∃ (y : MethodName) (b : ByteArray) (mL : Nat) (rt : Option FieldType) (f1 lo1 : Nat), lm_I l Y y b mL rt f1 lo1 sp ∧ (f1 + 1 ≤ fr ∧ 8 + (mL + 11) + lo1 ≤ lo) ∧ Cond.code y b mL rt ∈ Y.2.2.2.2 ∧ Cond.initialized y.cls ∈ Y.2.2.2.2 ∧ (y.cls ≠ "java/lang/invoke/MethodHandle" ∧ y.cls ≠ "java/lang/invoke/VarHandle" ∧ (parseMethodDescriptor y.desc).map (fun d => d.parameters.length) = some n) ∧
  (Cond.methodLink own idx y ∈ Y.2.2.2.2 ∨ ∃ host, Cond.methodLinkNest own idx y host ∈ Y.2.2.2.1) ∧ ((vi = none ∧ Cond.static y ∈ Y.2.2.2.2) ∨ ∃ ci T N, vi = some ci ∧ Y.1[ci]? = some (y.cls, T, N) ∧ Cond.instanceMethod y ∈ Y.2.2.2.2 ∧ Cond.selects y.cls y y ∈ Y.2.2.2.2)
/-- arraycopy's pool number -/
def lm_pok (Y : lm_Y) (own : String) (fr lo idx : Nat) : Prop := idx = 0 ∨ (1 ≤ fr ∧ 26 ≤ lo ∧ Cond.methodLink own idx arraycopyName ∈ Y.2.2.2.2 ∧ Cond.native arraycopyName ∈ Y.2.2.2.2 ∧ Cond.static arraycopyName ∈ Y.2.2.2.2 ∧ Cond.initialized "java/lang/System" ∈ Y.2.2.2.2)
theorem lm_ckN {b : ByteArray} {pc nx : Nat} {i : Instr} {q : Bool} (h : ((match decode b pc with
    | .ok x => decide (x = (i, lm_len i))
    | _ => false) && decide (nx = pc + lm_len i) && q) = true) : decode b pc = .ok (i, lm_len i) ∧ nx = pc + lm_len i ∧ q = true := by
  rw [Bool.and_eq_true, Bool.and_eq_true] at h
  obtain ⟨⟨h1, h2⟩, h3⟩ := h
  refine ⟨?_, of_decide_eq_true h2, h3⟩
  split at h1
  · rename_i x hx
    rw [hx, of_decide_eq_true h1]
  · cases h1
theorem lm_ckS {b : ByteArray} {pc : Nat} {i : Instr} (h : (match decode b pc with
    | .ok x => decide (x.1 = i)
    | _ => false) = true) : ∃ n, decode b pc = .ok (i, n) := by
  split at h
  · rename_i x hx
    exact ⟨x.2, by rw [hx, ← of_decide_eq_true h]⟩
  · cases h
theorem lm_sw_of {pc : Nat} {x : Int32} {d : Int} {k : Nat → Prop} : ∀ {os : List Int} {lo : Int}, lm_sw pc x d k lo os → (∃ (j : Nat) (o : Int), os[j]? = some o ∧ x.toInt = lo + j ∧ k ((pc : Int) + o).toNat) ∨ ((x.toInt < lo ∨ lo + os.length ≤ x.toInt) ∧ k ((pc : Int) + d).toNat)
  | [], lo, h => Or.inr ⟨by simp only [List.length_nil]; omega, h⟩
  | o :: os, lo, h => by
    by_cases hx : x.toInt = lo
    · exact Or.inl ⟨0, o, rfl, by omega, h.1 hx⟩
    · rcases lm_sw_of (h.2 hx) with ⟨j, o1, h1, h2, h3⟩ | ⟨h1, h2⟩
      · exact Or.inl ⟨j + 1, o1, h1, by omega, h3⟩
      · exact Or.inr ⟨by simp only [List.length_cons]; omega, h2⟩
theorem lm_lw_of {pc : Nat} {x : Int32} {d : Int} {k : Nat → Prop} (hd : 0 ≤ (pc : Int) + d) : ∀ {l : List (Int × Int)}, (∀ q ∈ l, 0 ≤ (pc : Int) + q.2) → lm_lw pc x d k l → ∃ t : Nat, (pc : Int) + Op.lookupswitch.offset l d x.toInt = (t : Int) ∧ k t
  | [], _, h => ⟨((pc : Int) + d).toNat, by rw [Op.lookupswitch.offset_nil]; omega, h⟩
  | (a, o) :: r, hn, h => by
    by_cases hx : x.toInt = a
    · have h0 := hn (a, o) List.mem_cons_self
      exact ⟨((pc : Int) + o).toNat, by rw [Op.lookupswitch.offset_cons, if_pos hx.symm]; simp only at h0; omega, h.1 hx⟩
    · obtain ⟨t, h1, h2⟩ := lm_lw_of hd (fun q hq => hn q (List.mem_cons_of_mem _ hq)) (h.2 hx)
      exact ⟨t, by rw [Op.lookupswitch.offset_cons, if_neg (fun q => hx q.symm)]; exact h1, h2⟩
theorem lm_upmap (ad : Nat → Nat) (L : lm_L) (i : Nat) (v : Value) : (i, lm_t ad v) :: (L.map (fun q => (q.1, lm_t ad q.2))).filter (fun q => !(q.1 == i) && !(q.1 + 1 == i && q.2.category == 2)) = (lm_up L i v).map (fun q => (q.1, lm_t ad q.2)) := by
  simp only [lm_up, List.map_cons, List.filter_map, Function.comp_def, lm_tcat]
theorem lm_cat_map (ad : Nat → Nat) (st : List Value) : ((st.map (lm_t ad)).map fun v => v.category).sum = lm_cat st := by
  simp only [lm_cat, List.map_map, Function.comp_def, lm_tcat]
section LMS
variable {p : Program} {l : Launch} {e : Env} {R : Room} {s : State} {m : MethodId} {args : Array Value} {below : List Frame} {meth : Method} {c : Code} {Q : State → Prop} {Y : lm_Y} {X : lm_X} {nL : Nat} {cc : ByteArray} {own : String} {pc : Nat}
/-- behind a call -/
theorem lm_after {nc ns : Nat} {H : Heap} {locs : List Loc} {ls : Array Slot} {st0 rest : List Value} {a : Array Value} {post : Option Value → lm_S → Prop} (hr : va_Run p l e R s m args below meth c H locs nc ns 0 0 (F0 m pc ls st0) rest (lm_Qc Y X H.size post a) (lm_A Y.2.1.length X.2.2.1 H.size)) (hS : va_S (lm_A Y.2.1.length X.2.2.1 s.heap.size) s.heap H locs)
    (kk : ∀ (r : Option Value) (S1 : lm_S) (H1 : Heap) (locs1 : List Loc), post r S1 → va_P X.1 Y.1 (lm_W Y.2.1 X.2.2.1 X.2.2.2 S1) H1 → va_S (lm_A Y.2.1.length X.2.2.1 s.heap.size) s.heap H1 locs1 → W p l e R s m args below meth c H1 locs1 nc ns Q (F0 m (pc + 3) ls ((r.map (lm_t X.2.2.1)).toList ++ rest))) : W p l e R s m args below meth c H locs nc ns Q (F0 m pc ls st0) := by
  intro T hT Xs
  obtain ⟨v, st0, t, T1, Ll, h0, X1, hL, e1, e2, ⟨r, S1, hv, hp, hP1, hz, hkp⟩, st⟩ := hr T hT Xs
  cases hv
  rw [h0] at hz hkp
  obtain ⟨t2, a1, b1⟩ := kk r S1 T1.heap (locs ++ Ll) hp (by rw [e1]; exact hP1)
    ⟨Nat.le_trans hS.1 (by rw [e1]; exact hz), fun q h1 h2 => by rw [e1, hkp q (Nat.lt_of_lt_of_le h1 hS.1) (fun z => h2 (lm_A_le hS.1 q z))]; exact hS.2.1 q h1 h2, fun q hq => by
      rcases List.mem_append.mp hq with h | h
      · exact hS.2.2 q h
      · exact lm_A_le hS.1 _ (hL q h)⟩ T1 rfl X1
  exact ⟨t2, st t2 a1, b1⟩
theorem lm_good (hY : lm_Yok Y) {w : Cond} (h : w ∈ Y.2.2.2.2) : GoodIn Y.2.2.2.2 (w :: Y.2.2.2.2) := by
  intro x hx
  have hx2 : x ∈ Y.2.2.2.2 := by
    rcases List.mem_cons.mp hx with h1 | h1
    · rw [h1]; exact h
    · exact h1
  exact ⟨hx2, good_of_word (hY.1 x hx2)⟩
theorem lm_blind (hY : lm_Yok Y) {av : List Value} {sz : Nat} {S : lm_S} : FrameBlind (va_Pc av (lm_B Y X sz S)) := by
  intro a U g mk q
  obtain ⟨q0, q1, q2, q3, q4, q5⟩ := q
  exact ⟨q0, q1, q2, va_K.moved (u := U) (U := U.calling g mk a) (Vm.Alike.refl U.vm) q3, lm_nw_same hY (s := U) (U := U.calling g mk a) rfl q4, fun j C n vs hj => ⟨(q5 j C n vs hj).1.moved (U := U.calling g mk a) (Vm.Alike.refl U.vm), (q5 j C n vs hj).2.moved (U := U.calling g mk a) (Vm.Alike.refl U.vm)⟩⟩
theorem lm_pre (hY : lm_Yok Y) (C : lm_Cx p s m args c Y X nL cc own) {H : Heap} {locs : List Loc} {S : lm_S} (hP : va_P X.1 Y.1 (lm_W Y.2.1 X.2.2.1 X.2.2.2 S) H) (hS : va_S (lm_A Y.2.1.length X.2.2.1 s.heap.size) s.heap H locs) (av : List Value) :
    PreS s H (va_Pc av (lm_B Y X H.size S)) av := by
  obtain ⟨hx, hb, hml, hown, hts, hK, hN, hZ, hok⟩ := C
  exact ⟨lm_blind hY, fun U hU hW => ⟨rfl, by rw [hU], by rw [hU]; exact hP, va_K.moved hW.alike hK, lm_nw_warm hY hW hN, by rw [hU]; exact lm_Z_to hZ hW.alike hS.2.1 (lm_A_le hS.1)⟩⟩
set_option maxHeartbeats 4000000 in
theorem lm_closed {nc ns : Nat} (hcs : nc ≤ R.cells ∧ ns ≤ R.slots) {G : lm_G} {cal : lm_Ca} {post : Option Value → lm_S → Prop} (hY : lm_Yok Y) (C : lm_Cx p s m args c Y X nL cc own) (hcode : ∀ pc r, G.1.lookup pc = some r → lm_ck cc nL pc r = true) (hfok : lm_fok Y own G.2.1) (hsok : lm_sok Y own G.2.2.1) (hpok : lm_pok Y own R.frames R.locals G.2.2.2.1) (hcok : lm_cok l Y own R.frames R.locals cal)
    (hscr : ∀ n xs, G.2.2.2.2.2 = some (n, xs) → va_X (X.2.2.1 999) n xs s s.heap ∧ X.2.2.1 999 < s.heap.size ∧ ¬ lm_A Y.2.1.length X.2.2.1 s.heap.size (X.2.2.1 999))
    (hri : ∀ pc L x S, decode cc pc = .ok (.ireturn, 1) → (G.2.2.2.2.1 = 1 ∨ (G.2.2.2.2.1 = 2 ∧ x &&& 1 = x)) → post (some (.int x)) S → lm_LW p l e R nc ns s m args below meth c Y X nL Q pc L [.int x] S)
    (hrv : ∀ pc L S, decode cc pc = .ok (.return_, 1) → G.2.2.2.2.1 = 0 → post none S → lm_LW p l e R nc ns s m args below meth c Y X nL Q pc L [] S) :
    lm_Cl Y G cal post (lm_LW p l e R nc ns s m args below meth c Y X nL Q) := by
  refine ⟨fun pc r hr L st S k hk h => ?_, fun pc L1 L st S1 S hs he hz => ?_⟩
  · have hck := hcode pc r hr
    have hC := C
    obtain ⟨i, nx, a, tg⟩ := r
    intro H locs ls hP hS hl
    obtain ⟨hx, hb, hml, hown, hts, hK, hN, hZ, hok⟩ := C
    have hD := lm_Dof (sz := s.heap.size) (S := S) hok
    have hat : ∀ {j : Nat} {v : Value}, (j, v) ∈ L → ls[j]? = some (.val (lm_t X.2.2.1 v)) := fun {j v} hj => hl.2.2 (j, lm_t X.2.2.1 v) (List.mem_map.mpr ⟨(j, v), hj, rfl⟩)
    cases i with
    | iconst n =>
      obtain ⟨hd, rfl, hc⟩ := lm_ckN (i := .iconst n) hck
      exact lv_iconst hx hb hd (of_decide_eq_true hc) (hk _ _ _ _ h H locs ls hP hS hl)
    | bipush n =>
      obtain ⟨hd, rfl, hc⟩ := lm_ckN (i := .bipush n) hck
      exact lv_bipush hx hb hd (of_decide_eq_true hc) (hk _ _ _ _ h H locs ls hP hS hl)
    | sipush n =>
      obtain ⟨hd, rfl, hc⟩ := lm_ckN (i := .sipush n) hck
      exact lv_sipush hx hb hd (of_decide_eq_true hc) (hk _ _ _ _ h H locs ls hP hS hl)
    | iload_n j =>
      obtain ⟨hd, rfl, -⟩ := lm_ckN (i := .iload_n j) hck
      replace h := lm_li_of h
      obtain ⟨x, hm, h⟩ := h
      exact lv_iload_n hx hb hd rfl (hat hm) (hk _ _ _ _ h H locs ls hP hS hl)
    | iload j =>
      obtain ⟨hd, rfl, -⟩ := lm_ckN (i := .iload j) hck
      replace h := lm_li_of h
      obtain ⟨x, hm, h⟩ := h
      exact lv_iload hx hb hd (hat hm) (hk _ _ _ _ h H locs ls hP hS hl)
    | aload_n j =>
      obtain ⟨hd, rfl, -⟩ := lm_ckN (i := .aload_n j) hck
      replace h := lm_lr_of h
      obtain ⟨x, hm, h⟩ := h
      exact lv_aload_n hx hb hd rfl (hat hm) (hk _ _ _ _ h H locs ls hP hS hl)
    | aload j =>
      obtain ⟨hd, rfl, -⟩ := lm_ckN (i := .aload j) hck
      replace h := lm_lr_of h
      obtain ⟨x, hm, h⟩ := h
      exact lv_aload hx hb hd (hat hm) (hk _ _ _ _ h H locs ls hP hS hl)
    | istore_n j =>
      obtain ⟨hd, rfl, hc⟩ := lm_ckN (i := .istore_n j) hck
      replace h := lm_pi_of h
      obtain ⟨x, t, rfl, h⟩ := h
      exact lv_istore_n hx hb hd rfl hl (of_decide_eq_true hc) (lm_upmap X.2.2.1 L j.val (.int x)) (fun ls1 hl1 => hk _ _ _ _ h H locs ls1 hP hS hl1)
    | istore j =>
      obtain ⟨hd, rfl, hc⟩ := lm_ckN (i := .istore j) hck
      replace h := lm_pi_of h
      obtain ⟨x, t, rfl, h⟩ := h
      exact lv_istore hx hb hd hl (of_decide_eq_true hc) (lm_upmap X.2.2.1 L j (.int x)) (fun ls1 hl1 => hk _ _ _ _ h H locs ls1 hP hS hl1)
    | astore_n j =>
      obtain ⟨hd, rfl, hc⟩ := lm_ckN (i := .astore_n j) hck
      replace h := lm_pr_of h
      obtain ⟨x, t, rfl, h⟩ := h
      exact lv_astore_n hx hb hd rfl hl (of_decide_eq_true hc) (lm_upmap X.2.2.1 L j.val (.ref x)) (fun ls1 hl1 => hk _ _ _ _ h H locs ls1 hP hS hl1)
    | astore j =>
      obtain ⟨hd, rfl, hc⟩ := lm_ckN (i := .astore j) hck
      replace h := lm_pr_of h
      obtain ⟨x, t, rfl, h⟩ := h
      exact lv_astore hx hb hd hl (of_decide_eq_true hc) (lm_upmap X.2.2.1 L j (.ref x)) (fun ls1 hl1 => hk _ _ _ _ h H locs ls1 hP hS hl1)
    | iinc j n =>
      obtain ⟨hd, rfl, hc⟩ := lm_ckN (i := .iinc j n) hck
      rw [Bool.and_eq_true] at hc
      replace h := lm_li_of h
      obtain ⟨x, hm, h⟩ := h
      have hm2 : (j, Value.int x) ∈ L.map (fun q => (q.1, lm_t X.2.2.1 q.2)) := List.mem_map.mpr ⟨(j, .int x), hm, rfl⟩
      obtain ⟨kx, hkx⟩ := List.getElem?_of_mem hm2
      exact lv_iinc hx hb hd hl hkx (by rw [of_decide_eq_true hc.1]) (of_decide_eq_true hc.2) (lm_upmap X.2.2.1 L j (.int (x + a))) (fun ls1 hl1 => hk _ _ _ _ h H locs ls1 hP hS hl1)
    | iadd =>
      obtain ⟨hd, rfl, -⟩ := lm_ckN (i := .iadd) hck
      replace h := lm_pi_of h
      obtain ⟨y, t, rfl, h⟩ := h
      replace h := lm_pi_of h
      obtain ⟨x, t, rfl, h⟩ := h
      exact lv_iadd hx hb hd (hk _ _ _ _ h H locs ls hP hS hl)
    | isub =>
      obtain ⟨hd, rfl, -⟩ := lm_ckN (i := .isub) hck
      replace h := lm_pi_of h
      obtain ⟨y, t, rfl, h⟩ := h
      replace h := lm_pi_of h
      obtain ⟨x, t, rfl, h⟩ := h
      exact lv_isub hx hb hd (hk _ _ _ _ h H locs ls hP hS hl)
    | imul =>
      obtain ⟨hd, rfl, -⟩ := lm_ckN (i := .imul) hck
      replace h := lm_pi_of h
      obtain ⟨y, t, rfl, h⟩ := h
      replace h := lm_pi_of h
      obtain ⟨x, t, rfl, h⟩ := h
      exact lv_imul hx hb hd (hk _ _ _ _ h H locs ls hP hS hl)
    | iand =>
      obtain ⟨hd, rfl, -⟩ := lm_ckN (i := .iand) hck
      replace h := lm_pi_of h
      obtain ⟨y, t, rfl, h⟩ := h
      replace h := lm_pi_of h
      obtain ⟨x, t, rfl, h⟩ := h
      exact lv_iand hx hb hd (hk _ _ _ _ h H locs ls hP hS hl)
    | ior =>
      obtain ⟨hd, rfl, -⟩ := lm_ckN (i := .ior) hck
      replace h := lm_pi_of h
      obtain ⟨y, t, rfl, h⟩ := h
      replace h := lm_pi_of h
      obtain ⟨x, t, rfl, h⟩ := h
      exact lv_ior hx hb hd (hk _ _ _ _ h H locs ls hP hS hl)
    | ixor =>
      obtain ⟨hd, rfl, -⟩ := lm_ckN (i := .ixor) hck
      replace h := lm_pi_of h
      obtain ⟨y, t, rfl, h⟩ := h
      replace h := lm_pi_of h
      obtain ⟨x, t, rfl, h⟩ := h
      exact lv_ixor hx hb hd (hk _ _ _ _ h H locs ls hP hS hl)
    | ishl =>
      obtain ⟨hd, rfl, -⟩ := lm_ckN (i := .ishl) hck
      replace h := lm_pi_of h
      obtain ⟨y, t, rfl, h⟩ := h
      replace h := lm_pi_of h
      obtain ⟨x, t, rfl, h⟩ := h
      exact lv_ishl hx hb hd (hk _ _ _ _ h H locs ls hP hS hl)
    | ishr =>
      obtain ⟨hd, rfl, -⟩ := lm_ckN (i := .ishr) hck
      replace h := lm_pi_of h
      obtain ⟨y, t, rfl, h⟩ := h
      replace h := lm_pi_of h
      obtain ⟨x, t, rfl, h⟩ := h
      exact lv_ishr hx hb hd (hk _ _ _ _ h H locs ls hP hS hl)
    | idiv =>
      obtain ⟨hd, rfl, -⟩ := lm_ckN (i := .idiv) hck
      replace h := lm_pi_of h
      obtain ⟨y, t, rfl, h⟩ := h
      replace h := lm_pi_of h
      obtain ⟨x, t, rfl, h⟩ := h
      exact lv_idiv hx hb hd h.1 (hk _ _ _ _ h.2 H locs ls hP hS hl)
    | irem =>
      obtain ⟨hd, rfl, -⟩ := lm_ckN (i := .irem) hck
      replace h := lm_pi_of h
      obtain ⟨y, t, rfl, h⟩ := h
      replace h := lm_pi_of h
      obtain ⟨x, t, rfl, h⟩ := h
      exact lv_irem hx hb hd h.1 (hk _ _ _ _ h.2 H locs ls hP hS hl)
    | dup =>
      obtain ⟨hd, rfl, -⟩ := lm_ckN (i := .dup) hck
      replace h : lm_pv st (fun a t => k (pc + lm_len .dup) L (a :: a :: t) S) := h
      replace h := lm_pv_of h
      obtain ⟨x, t, rfl, hc, h⟩ := h
      exact lv_dup hx hb hd (by rw [lm_tcat]; exact hc) (hk _ _ _ _ h H locs ls hP hS hl)
    | pop =>
      obtain ⟨hd, rfl, -⟩ := lm_ckN (i := .pop) hck
      replace h : lm_pv st (fun _ t => k (pc + lm_len .pop) L t S) := h
      replace h := lm_pv_of h
      obtain ⟨x, t, rfl, hc, h⟩ := h
      exact lv_pop hx hb hd (by rw [lm_tcat]; exact hc) (hk _ _ _ _ h H locs ls hP hS hl)
    | dup2 =>
      obtain ⟨hd, rfl, -⟩ := lm_ckN (i := .dup2) hck
      replace h : lm_pv st (fun a t => lm_pv t (fun b t => k (pc + lm_len .dup2) L (a :: b :: a :: b :: t) S)) := h
      replace h := lm_pv_of h
      obtain ⟨x, t, rfl, hc, h⟩ := h
      replace h := lm_pv_of h
      obtain ⟨y, t, rfl, hc2, h⟩ := h
      exact lv_dup2_11 hx hb hd (by rw [lm_tcat]; exact hc) (by rw [lm_tcat]; exact hc2) (hk _ _ _ _ h H locs ls hP hS hl)
    | dup_x1 =>
      obtain ⟨hd, rfl, -⟩ := lm_ckN (i := .dup_x1) hck
      replace h : lm_pv st (fun a t => lm_pv t (fun b t => k (pc + lm_len .dup_x1) L (a :: b :: a :: t) S)) := h
      replace h := lm_pv_of h
      obtain ⟨x, t, rfl, hc, h⟩ := h
      replace h := lm_pv_of h
      obtain ⟨y, t, rfl, hc2, h⟩ := h
      exact lv_dup_x1 hx hb hd (by rw [lm_tcat]; exact hc) (by rw [lm_tcat]; exact hc2) (hk _ _ _ _ h H locs ls hP hS hl)
    | dup_x2 =>
      obtain ⟨hd, rfl, -⟩ := lm_ckN (i := .dup_x2) hck
      replace h : lm_pv st (fun a t => lm_pv t (fun b t => lm_pv t (fun d t => k (pc + lm_len .dup_x2) L (a :: b :: d :: a :: t) S))) := h
      replace h := lm_pv_of h
      obtain ⟨x, t, rfl, hc, h⟩ := h
      replace h := lm_pv_of h
      obtain ⟨y, t, rfl, hc2, h⟩ := h
      replace h := lm_pv_of h
      obtain ⟨z, t, rfl, hc3, h⟩ := h
      exact lv_dup_x2 hx hb hd (by rw [lm_tcat]; exact hc) (by rw [lm_tcat]; exact hc2) (by rw [lm_tcat]; exact hc3) (hk _ _ _ _ h H locs ls hP hS hl)
    | ifCond q o =>
      obtain ⟨hd, rfl, hc⟩ := lm_ckN (i := .ifCond q o) hck
      have ht : (pc : Int) + o = (tg : Int) := of_decide_eq_true hc
      replace h := lm_pi_of h
      obtain ⟨x, t, rfl, h⟩ := h
      cases q with
      | eq => exact lv_if_eq hx hb hd ht (fun z => hk _ _ _ _ (h.1 z) H locs ls hP hS hl) (fun z => hk _ _ _ _ (h.2 z) H locs ls hP hS hl)
      | ne => exact lv_if_ne hx hb hd ht (fun z => hk _ _ _ _ (h.1 z) H locs ls hP hS hl) (fun z => hk _ _ _ _ (h.2 z) H locs ls hP hS hl)
      | lt => exact lv_if_lt hx hb hd ht (fun z => hk _ _ _ _ (h.1 z) H locs ls hP hS hl) (fun z => hk _ _ _ _ (h.2 z) H locs ls hP hS hl)
      | ge => exact lv_if_ge hx hb hd ht (fun z => hk _ _ _ _ (h.1 z) H locs ls hP hS hl) (fun z => hk _ _ _ _ (h.2 z) H locs ls hP hS hl)
      | gt => exact lv_if_gt hx hb hd ht (fun z => hk _ _ _ _ (h.1 z) H locs ls hP hS hl) (fun z => hk _ _ _ _ (h.2 z) H locs ls hP hS hl)
      | le => exact lv_if_le hx hb hd ht (fun z => hk _ _ _ _ (h.1 z) H locs ls hP hS hl) (fun z => hk _ _ _ _ (h.2 z) H locs ls hP hS hl)
    | if_icmp q o =>
      obtain ⟨hd, rfl, hc⟩ := lm_ckN (i := .if_icmp q o) hck
      have ht : (pc : Int) + o = (tg : Int) := of_decide_eq_true hc
      replace h := lm_pi_of h
      obtain ⟨y, t, rfl, h⟩ := h
      replace h := lm_pi_of h
      obtain ⟨x, t, rfl, h⟩ := h
      cases q with
      | eq => exact lv_icmp_eq hx hb hd ht (fun z => hk _ _ _ _ (h.1 z) H locs ls hP hS hl) (fun z => hk _ _ _ _ (h.2 z) H locs ls hP hS hl)
      | ne => exact lv_icmp_ne hx hb hd ht (fun z => hk _ _ _ _ (h.1 z) H locs ls hP hS hl) (fun z => hk _ _ _ _ (h.2 z) H locs ls hP hS hl)
      | lt => exact lv_icmp_lt hx hb hd ht (fun z => hk _ _ _ _ (h.1 z) H locs ls hP hS hl) (fun z => hk _ _ _ _ (h.2 z) H locs ls hP hS hl)
      | ge => exact lv_icmp_ge hx hb hd ht (fun z => hk _ _ _ _ (h.1 z) H locs ls hP hS hl) (fun z => hk _ _ _ _ (h.2 z) H locs ls hP hS hl)
      | gt => exact lv_icmp_gt hx hb hd ht (fun z => hk _ _ _ _ (h.1 z) H locs ls hP hS hl) (fun z => hk _ _ _ _ (h.2 z) H locs ls hP hS hl)
      | le => exact lv_icmp_le hx hb hd ht (fun z => hk _ _ _ _ (h.1 z) H locs ls hP hS hl) (fun z => hk _ _ _ _ (h.2 z) H locs ls hP hS hl)
    | goto o =>
      obtain ⟨hd, rfl, hc⟩ := lm_ckN (i := .goto o) hck
      exact lv_goto hx hb hd (of_decide_eq_true hc) (hk _ _ _ _ h H locs ls hP hS hl)
    | tableswitch d lo hi offs =>
      have hq : ((match decode cc pc with
        | .ok x => decide (x.1 = Instr.tableswitch d lo hi offs)
        | _ => false) && decide ((offs.size : Int) = hi - lo + 1) && decide (0 ≤ (pc : Int) + d) && offs.toList.all (fun o => decide (0 ≤ (pc : Int) + o))) = true := hck
      rw [Bool.and_eq_true, Bool.and_eq_true, Bool.and_eq_true] at hq
      obtain ⟨⟨⟨h1, h2⟩, h3⟩, h4⟩ := hq
      obtain ⟨n, hd⟩ := lm_ckS h1
      have h2 := of_decide_eq_true h2
      have h3 := of_decide_eq_true h3
      replace h := lm_pi_of h
      obtain ⟨x, t, rfl, h⟩ := h
      replace h := lm_sw_of h
      rcases h with ⟨j, o, g1, g2, g3⟩ | ⟨g1, g2⟩
      · have g4 : j < offs.size := by
          have := (List.getElem?_eq_some_iff.mp g1).1
          simpa using this
        have g5 := of_decide_eq_true (List.all_eq_true.mp h4 o (List.mem_of_getElem? g1))
        exact lv_tableIn hx hb hd (by omega) (by omega) (off := o) (by rw [show (x.toInt - lo).toNat = j by omega, ← Array.getElem?_toList]; exact g1) (tgt := ((pc : Int) + o).toNat) (by omega) (hk _ _ _ _ g3 H locs ls hP hS hl)
      · exact lv_tableOut hx hb hd (by rw [Array.length_toList] at g1; omega) (tgt := ((pc : Int) + d).toNat) (by omega) (hk _ _ _ _ g2 H locs ls hP hS hl)
    | lookupswitch d ps =>
      have hq : ((match decode cc pc with
        | .ok x => decide (x.1 = Instr.lookupswitch d ps)
        | _ => false) && decide (0 ≤ (pc : Int) + d) && ps.toList.all (fun o => decide (0 ≤ (pc : Int) + o.2)) && (ps.toList.zip (ps.toList.drop 1)).all (fun (a, next) => decide (a.1 < next.1))) = true := hck
      rw [Bool.and_eq_true, Bool.and_eq_true, Bool.and_eq_true] at hq
      obtain ⟨⟨⟨h1, h2⟩, h3⟩, h4⟩ := hq
      obtain ⟨n, hd⟩ := lm_ckS h1
      replace h := lm_pi_of h
      obtain ⟨x, t, rfl, h⟩ := h
      obtain ⟨tgt, g1, g2⟩ := lm_lw_of (of_decide_eq_true h2) (fun q hq => of_decide_eq_true (List.all_eq_true.mp h3 q hq)) h
      exact lv_lookup hx hb hd h4 rfl g1 (hk _ _ _ _ g2 H locs ls hP hS hl)
    | getfield idx =>
      obtain ⟨hd, rfl, -⟩ := lm_ckN (i := .getfield idx) hck
      replace h := lm_pr_of h
      obtain ⟨x, t, rfl, h⟩ := h
      replace h := lm_fd_of h
      obtain ⟨ci, f, gl, o, h1, h2, h3, h⟩ := h
      obtain ⟨C1, T, N, g1, g2, g3, g4⟩ := hfok idx ci f h1
      obtain ⟨ty0, y1, y2, y3, y4⟩ := hY.2.2 ci C1 T N g1
      have he : (lm_W Y.2.1 X.2.2.1 X.2.2.2 S)[x]? = some (X.2.2.1 x, .inr (ci, gl.mapIdx (fun k r => lm_v X.2.2.1 (S x k) r))) := lm_get h2
      have hv : (gl.mapIdx (fun k r => lm_v X.2.2.1 (S x k) r))[f]? = some (lm_v X.2.2.1 (S x f) o) := by rw [List.getElem?_mapIdx, h3]; rfl
      have kk : W p l e R s m args below meth c H locs nc ns Q (F0 m (pc + 3) ls (lm_v X.2.2.1 (S x f) o :: t.map (lm_t X.2.2.1))) := by
        cases o with
        | none => exact hk _ _ _ _ h H locs ls hP hS hl
        | some b => exact hk _ _ _ _ h H locs ls hP hS hl
      rcases g4 with g4 | ⟨host, g4⟩
      · exact va_get hx hb hts y3 hown hK hP x he g1 f g2 (hts _ g4) (fun z hz => by rw [g3] at hz; exact hz) hv hd kk
      · exact va_getN hx hb hts y3 hown hK hP x he g1 f g2 (va_Nw.use rfl (hN _ g4)) (fun z hz => by rw [g3] at hz; exact hz) hv hd kk
    | putfield idx =>
      obtain ⟨hd, rfl, -⟩ := lm_ckN (i := .putfield idx) hck
      replace h := lm_pi_of h
      obtain ⟨v, t, rfl, h⟩ := h
      replace h := lm_pr_of h
      obtain ⟨x, t, rfl, h⟩ := h
      replace h := lm_fd_of h
      obtain ⟨ci, f, gl, o, h1, h2, h3, h⟩ := h
      obtain ⟨C1, T, N, g1, g2, g3, g4⟩ := hfok idx ci f h1
      obtain ⟨ty0, y1, y2, y3, y4⟩ := hY.2.2 ci C1 T N g1
      cases o with
      | some b => exact h.elim
      | none =>
        obtain ⟨z1, z2⟩ := y4 x f gl h2 h3
        have he : (lm_W Y.2.1 X.2.2.1 X.2.2.2 S)[x]? = some (X.2.2.1 x, .inr (ci, gl.mapIdx (fun k r => lm_v X.2.2.1 (S x k) r))) := lm_get h2
        have hlen : f < (gl.mapIdx (fun k r => lm_v X.2.2.1 (S x k) r)).length := by
          rw [List.length_mapIdx]
          exact (List.getElem?_eq_some_iff.mp h3).1
        rcases g4 with g4 | ⟨host, g4⟩
        · exact va_put hx hb hts y3 ty0 y1 y2 hown hK hP hD hS x he g1 f g2 (hts _ g4) (fun z hz => by rw [g3] at hz; exact hz) z1 z2 rfl rfl hlen hd (fun H1 locs1 hP1 _ hS1 => hk _ _ _ _ h H1 locs1 ls (by
            have hP2 : va_P X.1 Y.1 ((lm_W Y.2.1 X.2.2.1 X.2.2.2 S).set x (X.2.2.1 x, .inr (ci, (gl.mapIdx (fun k r => lm_v X.2.2.1 (S x k) r)).set f (.int v)))) H1 := hP1
            rw [lm_setO h2 h3 v] at hP2
            exact hP2) hS1 hl)
        · exact va_putN hx hb hts y3 ty0 y1 y2 hown hK hP hD hS x he g1 f g2 (va_Nw.use rfl (hN _ g4)) (fun z hz => by rw [g3] at hz; exact hz) z1 z2 rfl rfl hlen hd (fun H1 locs1 hP1 _ hS1 => hk _ _ _ _ h H1 locs1 ls (by
            have hP2 : va_P X.1 Y.1 ((lm_W Y.2.1 X.2.2.1 X.2.2.2 S).set x (X.2.2.1 x, .inr (ci, (gl.mapIdx (fun k r => lm_v X.2.2.1 (S x k) r)).set f (.int v)))) H1 := hP1
            rw [lm_setO h2 h3 v] at hP2
            exact hP2) hS1 hl)
    | getstatic idx =>
      obtain ⟨hd, rfl, -⟩ := lm_ckN (i := .getstatic idx) hck
      replace h : (match G.2.2.1.lookup idx with
        | some j => k (pc + lm_len (.getstatic idx)) L (.ref (1000 + j) :: st) S
        | none => False) := h
      split at h
      · rename_i j hj
        obtain ⟨C1, n, vs, g1, g2⟩ := hsok idx j hj
        have z := (hZ j C1 n vs g1).1
        rcases g2 with g2 | ⟨host, g2⟩
        · exact va_gets hx hb z hS hown (hts _ g2) (fun _ h9 => h9) hd (hk _ _ _ _ h H locs ls hP hS hl)
        · exact va_getsN hx hb z hS hown (va_Nw.use rfl (hN _ g2)) (fun _ h9 => h9) hd (hk _ _ _ _ h H locs ls hP hS hl)
      · exact h.elim
    | arraylength =>
      obtain ⟨hd, rfl, -⟩ := lm_ckN (i := .arraylength) hck
      replace h := lm_pr_of h
      obtain ⟨x, t, rfl, h⟩ := h
      replace h : (match Nat.beq x 999 with
        | true => match G.2.2.2.2.2 with
          | some (n, _) => k (pc + lm_len .arraylength) L (.int (Int32.ofNat n) :: t) S
          | none => False
        | false => False) := h
      split at h
      · rename_i h1
        split at h
        · rename_i n xs h2
          have e1 : x = 999 := Nat.eq_of_beq_eq_true h1
          subst e1
          obtain ⟨g1, g2, g3⟩ := hscr n xs h2
          exact va_slen hx hb g1 g2 g3 hS hd (hk _ _ _ _ h H locs ls hP hS hl)
        · exact h.elim
      · exact h.elim
    | iaload =>
      obtain ⟨hd, rfl, -⟩ := lm_ckN (i := .iaload) hck
      replace h := lm_pi_of h
      obtain ⟨j, t, rfl, h⟩ := h
      replace h := lm_pr_of h
      obtain ⟨x, t, rfl, h⟩ := h
      replace h := lm_ld_of h
      rcases h with ⟨n, h1, h2, h3⟩ | ⟨q, C1, nm, vs, rfl, h1, h2, h3⟩ | ⟨n, xs, rfl, h1, h2, h3⟩
      · have he : (lm_W Y.2.1 X.2.2.1 X.2.2.2 S)[x]? = some (X.2.2.1 x, .inl (X.2.2.2 x, n, .inl (S x))) := lm_get h1
        obtain ⟨t0, ht0⟩ := List.getElem?_of_mem (hok.2 x .int n h1)
        exact va_iald hx hb hK hP x t0 he ht0 h2 hd (hk _ _ _ _ h3 H locs ls hP hS hl)
      · exact va_ti hx hb (hZ q C1 nm vs h1).2 hS h2 rfl hd (hk _ _ _ _ h3 H locs ls hP hS hl)
      · obtain ⟨g1, g2, g3⟩ := hscr n xs h1
        exact va_sld hx hb g1 g2 g3 hS h2 hd (hk _ _ _ _ h3 H locs ls hP hS hl)
    | baload =>
      obtain ⟨hd, rfl, -⟩ := lm_ckN (i := .baload) hck
      replace h := lm_pi_of h
      obtain ⟨j, t, rfl, h⟩ := h
      replace h := lm_pr_of h
      obtain ⟨x, t, rfl, h⟩ := h
      obtain ⟨n, h1, h2, h3⟩ := lm_az_of h
      have he : (lm_W Y.2.1 X.2.2.1 X.2.2.2 S)[x]? = some (X.2.2.1 x, .inl (X.2.2.2 x, n, .inl (S x))) := lm_get h1
      obtain ⟨t0, ht0⟩ := List.getElem?_of_mem (hok.2 x .boolean n h1)
      exact va_zald hx hb hK hP x t0 he ht0 h2 hd (hk _ _ _ _ h3 H locs ls hP hS hl)
    | iastore =>
      obtain ⟨hd, rfl, -⟩ := lm_ckN (i := .iastore) hck
      replace h := lm_pi_of h
      obtain ⟨v, t, rfl, h⟩ := h
      replace h := lm_pi_of h
      obtain ⟨j, t, rfl, h⟩ := h
      replace h := lm_pr_of h
      obtain ⟨x, t, rfl, h⟩ := h
      obtain ⟨n, h1, h2, h3⟩ := lm_ai_of h
      have he : (lm_W Y.2.1 X.2.2.1 X.2.2.2 S)[x]? = some (X.2.2.1 x, .inl (X.2.2.2 x, n, .inl (S x))) := lm_get h1
      obtain ⟨t0, ht0⟩ := List.getElem?_of_mem (hok.2 x .int n h1)
      exact va_iast hx hb hK hP hD hS x t0 he ht0 h2 hd (fun H1 locs1 hP1 _ hS1 => hk _ _ _ _ h3 H1 locs1 ls (by rw [lm_setA h1] at hP1; exact hP1) hS1 hl)
    | bastore =>
      obtain ⟨hd, rfl, -⟩ := lm_ckN (i := .bastore) hck
      replace h := lm_pi_of h
      obtain ⟨v, t, rfl, h⟩ := h
      replace h := lm_pi_of h
      obtain ⟨j, t, rfl, h⟩ := h
      replace h := lm_pr_of h
      obtain ⟨x, t, rfl, h⟩ := h
      obtain ⟨n, h1, h2, h3⟩ := lm_az_of h
      have he : (lm_W Y.2.1 X.2.2.1 X.2.2.2 S)[x]? = some (X.2.2.1 x, .inl (X.2.2.2 x, n, .inl (S x))) := lm_get h1
      obtain ⟨t0, ht0⟩ := List.getElem?_of_mem (hok.2 x .boolean n h1)
      exact va_zast hx hb hK hP hD hS x t0 he ht0 h2 hd (fun H1 locs1 hP1 _ hS1 => hk _ _ _ _ h3 H1 locs1 ls (by rw [lm_setA h1] at hP1; exact hP1) hS1 hl)
    | invokestatic idx =>
      obtain ⟨hd, rfl, hc⟩ := lm_ckN (i := .invokestatic idx) hck
      have hpos : 0 < idx := of_decide_eq_true hc
      replace h : (match Nat.beq idx G.2.2.2.1 with
        | true => lm_cp Y st S (fun t S1 => k (pc + lm_len (.invokestatic idx)) L t S1)
        | false => lm_cs cal idx st S (fun t S1 => k (pc + lm_len (.invokestatic idx)) L t S1)) := h
      split at h
      · rename_i h1
        have e1 : idx = G.2.2.2.1 := Nat.eq_of_beq_eq_true h1
        rcases hpok with h0 | ⟨f1, f2, f3, f4, f5, f6⟩
        · omega
        rw [← e1] at f3
        replace h := lm_pi_of h
        obtain ⟨n, t, rfl, h⟩ := h
        replace h := lm_pi_of h
        obtain ⟨dp, t, rfl, h⟩ := h
        replace h := lm_pr_of h
        obtain ⟨xb, t, rfl, h⟩ := h
        replace h := lm_pi_of h
        obtain ⟨sp, t, rfl, h⟩ := h
        replace h := lm_pr_of h
        obtain ⟨xa, t, rfl, h⟩ := h
        replace h := lm_ai_of h
        obtain ⟨n0, q0, h⟩ := h
        replace h := lm_ai_of h
        obtain ⟨n1, q1, h⟩ := h
        split at h
        · rename_i hcat
          obtain ⟨⟨c1, c2, c3, c4, c5⟩, h⟩ := h
          have he0 : (lm_W Y.2.1 X.2.2.1 X.2.2.2 S)[xa]? = some (X.2.2.1 xa, .inl (X.2.2.2 xa, n0, .inl (S xa))) := lm_get q0
          have he1 : (lm_W Y.2.1 X.2.2.1 X.2.2.2 S)[xb]? = some (X.2.2.1 xb, .inl (X.2.2.2 xb, n1, .inl (S xb))) := lm_get q1
          obtain ⟨t0, ht0⟩ := List.getElem?_of_mem (hok.2 xa .int n0 q0)
          obtain ⟨t1, ht1⟩ := List.getElem?_of_mem (hok.2 xb .int n1 q1)
          exact va_copyi hx hb (by rw [hml, hl.1]) hown (hts _ f3) (hts _ f4) (hts _ f5) (hts _ f6) hK hP hD hS xa xb t0 t1 he0 he1 ht0 ht1 rfl c1 c2 c3 c4 c5 (fun _ _ => rfl) f1 (by
            rw [lm_cat_map]
            have := Nat.le_of_ble_eq_true hcat
            have e9 : nativeFrameWords "java/lang/System" "arraycopy" 5 = 7 := by decide
            omega) hd (fun H1 locs1 hP1 _ hS1 => hk _ _ _ _ h H1 locs1 ls (by rw [lm_setA q1] at hP1; exact hP1) hS1 hl)
        · exact h.elim
      · replace h := lm_cs_of h
        obtain ⟨n, sp, as, rest, g1, rfl, g3, g4, g5⟩ := h
        obtain ⟨y, b, mL, rt, f1, lo1, i1, ⟨i2, i3⟩, i4, i5, i6, i7, i8⟩ := hcok idx n none sp g1
        have hstat : Cond.static y ∈ Y.2.2.2.2 := by
          rcases i8 with i8 | ⟨ci, T, N, i8, -⟩
          · exact i8.2
          · cases i8
        have hM := i1 X H.size as S _ hok g5
        have hpre := lm_pre hY hC hP hS (as.map (lm_t X.2.2.1))
        have hst : (as.reverse ++ rest).map (lm_t X.2.2.1) = (as.map (lm_t X.2.2.1)).reverse ++ rest.map (lm_t X.2.2.1) := by rw [List.map_append, List.map_reverse]
        have hrm : 2 * (F0 m pc ls ((as.reverse ++ rest).map (lm_t X.2.2.1))).monitorRoom + ((rest.map (lm_t X.2.2.1)).map fun v => v.category).sum ≤ 8 := lv_room (by rw [lm_cat_map]; exact g4)
        have hlen : (as.map (lm_t X.2.2.1)).length = n := by rw [List.length_map]; exact g3
        have kk : ∀ (r : Option Value) (S1 : lm_S) (H1 : Heap) (locs1 : List Loc), k (pc + lm_len (.invokestatic idx)) L (r.toList ++ rest) S1 → va_P X.1 Y.1 (lm_W Y.2.1 X.2.2.1 X.2.2.2 S1) H1 → va_S (lm_A Y.2.1.length X.2.2.1 s.heap.size) s.heap H1 locs1 → W p l e R s m args below meth c H1 locs1 nc ns Q (F0 m (pc + 3) ls ((r.map (lm_t X.2.2.1)).toList ++ rest.map (lm_t X.2.2.1))) := by
          intro r S1 H1 locs1 h1 h2 h3
          have h4 := hk _ _ _ _ h1 H1 locs1 ls h2 h3 hl
          cases r with
          | none => exact h4
          | some v => exact h4
        rcases i7 with i7 | ⟨host, i7⟩
        · exact lm_after (va_runS ⟨hx, hb, hml, hown, hts⟩ hM ⟨callB_of n hts (lm_good hY i4) rfl rfl rfl (hts _ i5) (hts _ i7) i6 ⟨i2, i3⟩, hts _ hstat⟩ hpre rfl hlen hl.1 hst hrm hd hcs) hS kk
        · exact lm_after (va_runSN ⟨hx, hb, hml, hown, hts⟩ hM ⟨va_cnB n hts (lm_good hY i4) rfl rfl rfl (hN _ i7) (hts _ i5) i6 ⟨i2, i3⟩, hts _ hstat, trivial⟩ hpre rfl hlen hl.1 hst hrm hd hcs) hS kk
    | invokevirtual idx =>
      obtain ⟨hd, rfl, -⟩ := lm_ckN (i := .invokevirtual idx) hck
      replace h := lm_cv_of h
      obtain ⟨n, ci, sp, as, x, gl, rest, g1, rfl, g3, g4, g6, g5⟩ := h
      obtain ⟨y, b, mL, rt, f1, lo1, i1, ⟨i2, i3⟩, i4, i5, i6, i7, i8⟩ := hcok idx n (some ci) sp g1
      obtain ⟨T, N, z1, z2, z3⟩ : ∃ T N, Y.1[ci]? = some (y.cls, T, N) ∧ Cond.instanceMethod y ∈ Y.2.2.2.2 ∧ Cond.selects y.cls y y ∈ Y.2.2.2.2 := by
        rcases i8 with i8 | ⟨cj, T, N, i8, i9⟩
        · cases i8.1
        · cases i8
          exact ⟨T, N, i9⟩
      have he : (lm_W Y.2.1 X.2.2.1 X.2.2.2 S)[x]? = some (X.2.2.1 x, .inr (ci, gl.mapIdx (fun k r => lm_v X.2.2.1 (S x k) r))) := lm_get g6
      have hM := i1 X H.size (.ref x :: as) S _ hok g5
      have hpre0 := lm_pre hY hC hP hS ((Value.ref x :: as).map (lm_t X.2.2.1))
      have hpre : PreV s H y.cls (X.2.2.1 x) (va_Pc ((Value.ref x :: as).map (lm_t X.2.2.1)) (lm_B Y X H.size S)) (as.map (lm_t X.2.2.1)) := ⟨hpre0.1, va_recv hK hP z1 he, hpre0.2⟩
      have hst : (as.reverse ++ Value.ref x :: rest).map (lm_t X.2.2.1) = (as.map (lm_t X.2.2.1)).reverse ++ Value.ref (X.2.2.1 x) :: rest.map (lm_t X.2.2.1) := by rw [List.map_append, List.map_reverse]; rfl
      have hrm : 2 * (F0 m pc ls ((as.reverse ++ Value.ref x :: rest).map (lm_t X.2.2.1))).monitorRoom + ((rest.map (lm_t X.2.2.1)).map fun v => v.category).sum ≤ 8 := lv_room (by rw [lm_cat_map]; exact g4)
      have hlen : (as.map (lm_t X.2.2.1)).length = n := by rw [List.length_map]; exact g3
      have kk : ∀ (r : Option Value) (S1 : lm_S) (H1 : Heap) (locs1 : List Loc), k (pc + lm_len (.invokevirtual idx)) L (r.toList ++ rest) S1 → va_P X.1 Y.1 (lm_W Y.2.1 X.2.2.1 X.2.2.2 S1) H1 → va_S (lm_A Y.2.1.length X.2.2.1 s.heap.size) s.heap H1 locs1 → W p l e R s m args below meth c H1 locs1 nc ns Q (F0 m (pc + 3) ls ((r.map (lm_t X.2.2.1)).toList ++ rest.map (lm_t X.2.2.1))) := by
        intro r S1 H1 locs1 h1 h2 h3
        have h4 := hk _ _ _ _ h1 H1 locs1 ls h2 h3 hl
        cases r with
        | none => exact h4
        | some v => exact h4
      rcases i7 with i7 | ⟨host, i7⟩
      · exact lm_after (va_runV ⟨hx, hb, hml, hown, hts⟩ hM ⟨callB_of n hts (lm_good hY i4) rfl rfl rfl (hts _ i5) (hts _ i7) i6 ⟨i2, i3⟩, hts _ z2, hts _ z3⟩ hpre rfl hlen hl.1 hst hrm hd hcs) hS kk
      · exact lm_after (va_runVN ⟨hx, hb, hml, hown, hts⟩ hM ⟨va_cnB n hts (lm_good hY i4) rfl rfl rfl (hN _ i7) (hts _ i5) i6 ⟨i2, i3⟩, hts _ z2, hts _ z3⟩ hpre rfl hlen hl.1 hst hrm hd hcs) hS kk
    | ireturn =>
      obtain ⟨hd, rfl, -⟩ := lm_ckN (i := .ireturn) hck
      replace h := lm_pi_of h
      obtain ⟨x, t, rfl, h⟩ := h
      cases t with
      | cons v t => exact h.elim
      | nil =>
        replace h : (match G.2.2.2.2.1 with
          | 1 => post (some (.int x)) S
          | 2 => x &&& 1 = x ∧ post (some (.int x)) S
          | _ => False) := h
        split at h
        · rename_i hq
          exact hri pc L x S hd (Or.inl hq) h H locs ls hP hS hl
        · rename_i hq
          exact hri pc L x S hd (Or.inr ⟨hq, h.1⟩) h.2 H locs ls hP hS hl
        · exact h.elim
    | return_ =>
      obtain ⟨hd, rfl, -⟩ := lm_ckN (i := .return_) hck
      cases st with
      | cons v t => exact h.elim
      | nil =>
        replace h : (match G.2.2.2.2.1 with
          | 0 => post none S
          | _ => False) := h
        split at h
        · rename_i hq
          exact hrv pc L S hd hq h H locs ls hP hS hl
        · exact h.elim
    | _ => exact False.elim h
  · intro H locs ls hP hS hl
    refine hz H locs ls (lm_P_eq he hP) hS ⟨hl.1, hl.2.1, fun q hq => ?_⟩
    obtain ⟨q0, h1, rfl⟩ := List.mem_map.mp hq
    exact hl.2.2 _ (List.mem_map.mpr ⟨q0, lm_lk (hs q0 h1), rfl⟩)
end LMS
theorem lm_args (ad : Nat → Nat) : ∀ (vs : List Value) (i : Nat), (lv_args i vs).map (fun q => (q.1, lm_t ad q.2)) = lv_args i (vs.map (lm_t ad))
  | [], _ => rfl
  | v :: vs, i => by
    simp only [lv_args, List.map_cons, lm_tcat]
    rw [lm_args ad vs]
theorem lm_sl (ad : Nat → Nat) (vs : List Value) : (lg_sl (vs.map (lm_t ad))).length = (lg_sl vs).length := by
  induction vs with
  | nil => rfl
  | cons v vs ih =>
    simp only [lg_sl, List.map_cons, List.flatMap_cons, List.length_append, lm_tcat] at *
    rw [ih]
    split <;> rfl
set_option maxHeartbeats 4000000 in
/-- a method: its light walk is its contract -/
theorem lm_impl {l : Launch} {Y : lm_Y} {y : MethodName} {b : ByteArray} {mL : Nat} {rt : Option FieldType} {f lo : Nat} {sp : lm_Sp} (G : lm_G) (cal : lm_Ca) (hy : plainName y.cls = true) (hY : lm_Yok Y) (hcode : ∀ pc r, G.1.lookup pc = some r → lm_ck b mL pc r = true) (hfok : lm_fok Y y.cls G.2.1) (hsok : lm_sok Y y.cls G.2.2.1) (hpok : lm_pok Y y.cls f lo G.2.2.2.1) (hcok : lm_cok l Y y.cls f lo cal)
    (hg : G.2.2.2.2.2 = none) (hrt : (rt = some .int ∧ G.2.2.2.2.1 = 1) ∨ (rt = some .boolean ∧ G.2.2.2.2.1 = 2) ∨ (rt = none ∧ G.2.2.2.2.1 = 0))
    (hb : ∀ av S post, sp av S post → (lg_sl av).length ≤ mL ∧ lm_Go Y G cal post 0 (lv_args 0 av) [] S) : lm_I l Y y b mL rt f lo sp := by
  intro X sz av S post hok hsp
  obtain ⟨hlen, hgo⟩ := hb av S post hsp
  refine Met.ofW (cc := b) (maxL := mL) (ret := rt) hy rfl ?_
  intro p e s m args below meth c s₁ B hml hv
  obtain ⟨rfl, hsz, hP, hK, hN, hZ⟩ := hv
  have hx := B.exec
  have hbb := B.bytes
  have hr := B.returns
  have hts0 := atoms_spec (ws := Cond.code y b mL rt :: Y.2.2.2.2) B.pre
  have hown : s.vm.findClass y.cls = some m.cls := findClass_of_methodNamed B.named
  have hlocks := B.notSynchronized
  subst hsz
  have C : lm_Cx p s m (av.map (lm_t X.2.2.1)).toArray c Y X mL b y.cls := ⟨hx, hbb, hml, hown, fun w hw => hts0 w (List.mem_cons_of_mem _ hw), hK, hN, hZ, hok⟩
  have hq : ∀ (r : Option Value) (S1 : lm_S) (H : Heap) (locs : List Loc), post r S1 → va_P X.1 Y.1 (lm_W Y.2.1 X.2.2.1 X.2.2.2 S1) H → va_S (lm_A Y.2.1.length X.2.2.1 s.heap.size) s.heap H locs → ∀ t : State, t.heap = H → s.WarmedH t.vm → lm_Qc Y X s.heap.size post (av.map (lm_t X.2.2.1)).toArray s (.returned (r.map (lm_t X.2.2.1))) t :=
    fun r S1 H locs h1 h2 h3 t ht _ => ⟨r, S1, rfl, h1, by rw [ht]; exact h2, h3.F ht⟩
  have hZc := hgo _ (lm_closed (nc := 0) (ns := 0) ⟨Nat.zero_le _, Nat.zero_le _⟩ (p := p) (l := l) (e := e) (R := (headSpec (Cond.code y b mL rt :: Y.2.2.2.2) (lm_rm f lo)).room) (s := s) (m := m) (args := (av.map (lm_t X.2.2.1)).toArray) (below := below) (meth := meth) (c := c) (Q := MQ below (lm_Qc Y X s.heap.size post) (av.map (lm_t X.2.2.1)).toArray s 0 0 (lm_A Y.2.1.length X.2.2.1 s.heap.size)) (X := X) (cc := b) (own := y.cls) hY C hcode hfok hsok hpok hcok (fun n xs h => by rw [hg] at h; cases h) (fun pc L x S1 hd h1 h2 => ?_) (fun pc L S1 hd h1 h2 => ?_))
  · rw [lg_entry_eq]
    have hl := lv_entry (av.map (lm_t X.2.2.1)) (n := mL) (by rw [lm_sl]; exact hlen)
    rw [← lm_args] at hl
    exact hZc s.heap [] _ hP va_S.rf hl
  · intro H locs ls hP1 hS1 _
    rcases hrt with ⟨e1, e2⟩ | ⟨e1, e2⟩ | ⟨e1, e2⟩
    · subst e1
      exact W.iret hx hbb hr (hq (some (.int x)) S1 H locs h2 hP1 hS1) hS1.2.2 hd
    · subst e1
      exact W.zret hx hbb hr (by
        rcases h1 with h1 | ⟨_, h1⟩
        · rw [e2] at h1; cases h1
        · show Value.int (x &&& 1) = _
          rw [h1]) (hq (some (.int x)) S1 H locs h2 hP1 hS1) hS1.2.2 hd
    · rw [e2] at h1
      rcases h1 with h1 | ⟨h1, _⟩ <;> cases h1
  · intro H locs ls hP1 hS1 _
    rcases hrt with ⟨e1, e2⟩ | ⟨e1, e2⟩ | ⟨e1, e2⟩
    · rw [e2] at h1; cases h1
    · rw [e2] at h1; cases h1
    · subst e1
      exact W.vret hx hbb hr (hq none S1 H locs h2 hP1 hS1) hS1.2.2 hd
end
section
/-! names, tables of code, words: written by wip/whole/gen.py out of javap's listing and the Statement -/
def R_D : String := "ReplayDesk"
def F_D : u_T := fun k => match k with
  | 0 => ("ReplayDesk", "machine", "LReplayDesk$Machine;", true)
  | 1 => ("ReplayDesk", "history", "LReplayDesk$History;", true)
  | 2 => ("ReplayDesk", "stops", "LReplayDesk$Marks;", true)
  | _ => ("ReplayDesk", "watches", "LReplayDesk$Marks;", true)
def t_D : Nat → FieldType := fun k => match k with
  | 0 => .object "ReplayDesk$Machine"
  | 1 => .object "ReplayDesk$History"
  | 2 => .object "ReplayDesk$Marks"
  | _ => .object "ReplayDesk$Marks"
theorem n_D : ∀ a, a < 4 → ∀ b, b < 4 → a ≠ b → (F_D a).2.1 ≠ (F_D b).2.1 := by decide +kernel
theorem t_D_ok : ∀ k, k < 4 → parseFieldDescriptor (F_D k).2.2.1 = some (t_D k) := by decide +kernel
def R_M : String := "ReplayDesk$Machine"
def F_M : u_T := fun k => match k with
  | 0 => ("ReplayDesk$Machine", "cells", "[I", true)
  | 1 => ("ReplayDesk$Machine", "row", "[I", true)
  | 2 => ("ReplayDesk$Machine", "inputs", "[I", true)
  | 3 => ("ReplayDesk$Machine", "inputsFed", "I", false)
  | 4 => ("ReplayDesk$Machine", "outputs", "[I", true)
  | 5 => ("ReplayDesk$Machine", "outputsDropped", "I", false)
  | 6 => ("ReplayDesk$Machine", "places", "[I", true)
  | 7 => ("ReplayDesk$Machine", "oldBytes", "[I", true)
  | _ => ("ReplayDesk$Machine", "writes", "I", false)
def t_M : Nat → FieldType := fun k => match k with
  | 0 => .array .int
  | 1 => .array .int
  | 2 => .array .int
  | 3 => .int
  | 4 => .array .int
  | 5 => .int
  | 6 => .array .int
  | 7 => .array .int
  | _ => .int
theorem n_M : ∀ a, a < 9 → ∀ b, b < 9 → a ≠ b → (F_M a).2.1 ≠ (F_M b).2.1 := by decide +kernel
theorem t_M_ok : ∀ k, k < 9 → parseFieldDescriptor (F_M k).2.2.1 = some (t_M k) := by decide +kernel
def R_H : String := "ReplayDesk$History"
def F_H : u_T := fun k => match k with
  | 0 => ("ReplayDesk$History", "moments", "[I", true)
  | 1 => ("ReplayDesk$History", "places", "[I", true)
  | 2 => ("ReplayDesk$History", "otherBytes", "[I", true)
  | 3 => ("ReplayDesk$History", "now", "I", false)
  | _ => ("ReplayDesk$History", "newest", "I", false)
def t_H : Nat → FieldType := fun k => match k with
  | 0 => .array .int
  | 1 => .array .int
  | 2 => .array .int
  | 3 => .int
  | _ => .int
theorem n_H : ∀ a, a < 5 → ∀ b, b < 5 → a ≠ b → (F_H a).2.1 ≠ (F_H b).2.1 := by decide +kernel
theorem t_H_ok : ∀ k, k < 5 → parseFieldDescriptor (F_H k).2.2.1 = some (t_H k) := by decide +kernel
def R_K : String := "ReplayDesk$Marks"
def F_K : u_T := fun k => match k with
  | 0 => ("ReplayDesk$Marks", "marked", "[Z", true)
  | _ => ("ReplayDesk$Marks", "count", "I", false)
def t_K : Nat → FieldType := fun k => match k with
  | 0 => .array .boolean
  | _ => .int
theorem n_K : ∀ a, a < 2 → ∀ b, b < 2 → a ≠ b → (F_K a).2.1 ≠ (F_K b).2.1 := by decide +kernel
theorem t_K_ok : ∀ k, k < 2 → parseFieldDescriptor (F_K k).2.2.1 = some (t_K k) := by decide +kernel
def R_R : String := "ReplayDeskModel"
def F_R : u_T := fun k => match k with
  | 0 => ("ReplayDeskModel", "base", "[I", true)
  | 1 => ("ReplayDeskModel", "now", "[I", true)
  | 2 => ("ReplayDeskModel", "time", "I", false)
  | 3 => ("ReplayDeskModel", "last", "I", false)
  | 4 => ("ReplayDeskModel", "stops", "[I", true)
  | 5 => ("ReplayDeskModel", "watches", "[I", true)
  | 6 => ("ReplayDeskModel", "stopCount", "I", false)
  | 7 => ("ReplayDeskModel", "watchCount", "I", false)
  | 8 => ("ReplayDeskModel", "written", "I", false)
  | _ => ("ReplayDeskModel", "writtenBefore", "I", false)
def t_R : Nat → FieldType := fun k => match k with
  | 0 => .array .int
  | 1 => .array .int
  | 2 => .int
  | 3 => .int
  | 4 => .array .int
  | 5 => .array .int
  | 6 => .int
  | 7 => .int
  | 8 => .int
  | _ => .int
theorem n_R : ∀ a, a < 10 → ∀ b, b < 10 → a ≠ b → (F_R a).2.1 ≠ (F_R b).2.1 := by decide +kernel
theorem t_R_ok : ∀ k, k < 10 → parseFieldDescriptor (F_R k).2.2.1 = some (t_R k) := by decide +kernel
abbrev kk_cl : List vw_C := [(R_D, F_D, 4), (R_M, F_M, 9), (R_H, F_H, 5), (R_K, F_K, 2), (R_R, F_R, 10)]
def kk_tb : lm_Tb := [("ReplayDesk", "REGISTER_BITS", [255, 255, 255, 255, 195, 511]), ("ReplayDesk", "LENGTH_BY_MODE", [2, 2, 2, 3, 3, 3, 2, 1]), ("ReplayDesk", "BRANCH_FLAGS", [128, 64, 1, 2])]
def kk_nw : List Cond := [Jvm.Cond.fieldLinkNest "ReplayDesk" (41 : Nat) "ReplayDesk$Machine" "cells" "[I" "ReplayDesk", Jvm.Cond.fieldLinkNest "ReplayDesk$History" (38 : Nat) "ReplayDesk$Machine" "cells" "[I" "ReplayDesk", Jvm.Cond.fieldLinkNest "ReplayDesk" (51 : Nat) "ReplayDesk$Machine" "row" "[I" "ReplayDesk", Jvm.Cond.fieldLinkNest "ReplayDesk$History" (45 : Nat) "ReplayDesk$Machine" "row" "[I" "ReplayDesk", Jvm.Cond.fieldLinkNest "ReplayDesk" (90 : Nat) "ReplayDesk$Machine" "outputsDropped" "I" "ReplayDesk", Jvm.Cond.fieldLinkNest "ReplayDesk$History" (32 : Nat) "ReplayDesk$Machine" "places" "[I" "ReplayDesk", Jvm.Cond.fieldLinkNest "ReplayDesk$History" (35 : Nat) "ReplayDesk$Machine" "oldBytes" "[I" "ReplayDesk", Jvm.Cond.methodLinkNest "ReplayDesk" (18 : Nat) ({ cls := "ReplayDesk$History", name := "<init>", desc := "()V" } : Jvm.MethodName) "ReplayDesk", Jvm.Cond.fieldLinkNest "ReplayDesk" (80 : Nat) "ReplayDesk$History" "now" "I" "ReplayDesk", Jvm.Cond.fieldLinkNest "ReplayDesk" (72 : Nat) "ReplayDesk$History" "newest" "I" "ReplayDesk", Jvm.Cond.methodLinkNest "ReplayDesk" (25 : Nat) ({ cls := "ReplayDesk$Marks", name := "<init>", desc := "()V" } : Jvm.MethodName) "ReplayDesk", Jvm.Cond.methodLinkNest "ReplayDesk$Marks" (15 : Nat) ({ cls := "ReplayDesk", name := "isAddress", desc := "(I)Z" } : Jvm.MethodName) "ReplayDesk", Jvm.Cond.methodLinkNest "ReplayDesk$History" (58 : Nat) ({ cls := "ReplayDesk", name := "isAddress", desc := "(I)Z" } : Jvm.MethodName) "ReplayDesk", Jvm.Cond.fieldLinkNest "ReplayDesk$Machine" (76 : Nat) "ReplayDesk" "LENGTH_BY_MODE" "[I" "ReplayDesk", Jvm.Cond.fieldLinkNest "ReplayDesk$Machine" (126 : Nat) "ReplayDesk" "BRANCH_FLAGS" "[I" "ReplayDesk"]
def kk_ws : List Cond := lw_tbl.filter goodWord
abbrev kk_Y (sh : List lm_Sh) : lm_Y := (kk_cl, sh, kk_tb, kk_nw, kk_ws)
theorem kk_tm {w : Cond} (i : Nat) (h : tables_1[i]? = some w) (hg : goodWord w = true) : w ∈ kk_ws := List.mem_filter.mpr ⟨List.mem_append_right _ (List.mem_of_getElem? h), hg⟩
theorem kk_sm {w : Cond} (i : Nat) (h : (k2_sels lw_privs)[i]? = some w) (hg : goodWord w = true) : w ∈ kk_ws := List.mem_filter.mpr ⟨List.mem_append_left _ (List.mem_of_getElem? h), hg⟩
theorem kk_nm {w : Cond} (i : Nat) (h : kk_nw[i]? = some w) : w ∈ kk_nw := List.mem_of_getElem? h
theorem kk_nt : ∀ w ∈ kk_nw, w ∈ tables_1 := by
  intro w hw
  have h : kk_nw.all (fun w => decide (w ∈ tables_1)) = true := by decide +kernel
  exact of_decide_eq_true (List.all_eq_true.mp h w hw)
theorem kk_lk {α : Type} {L : List (Nat × α)} {j : Nat} {v : α} (h : L.lookup j = some v) : (j, v) ∈ L := by
  induction L with
  | nil => cases h
  | cons q L ih =>
    obtain ⟨a, b⟩ := q
    rw [List.lookup_cons] at h
    split at h
    · rename_i hb
      have e1 : j = a := by simpa using hb
      have e2 := Option.some.inj h
      subst e1
      subst e2
      exact List.mem_cons_self
    · exact List.mem_cons_of_mem _ (ih h)
theorem kk_ck {b : ByteArray} {mL : Nat} {c : List (Nat × lm_R)} (h : c.all (fun q => lm_ck b mL q.1 q.2) = true) : ∀ pc r, c.lookup pc = some r → lm_ck b mL pc r = true := fun pc r hr => List.all_eq_true.mp h (pc, r) (kk_lk hr)
def kk_fr (own : String) (q : Nat × Nat × Nat) : Prop := ∃ (C : String) (T : u_T) (N : Nat), kk_cl[q.2.1]? = some (C, T, N) ∧ q.2.2 < N ∧ (T q.2.2).1 = C ∧ (Cond.fieldLink own q.1 C (T q.2.2).2.1 (T q.2.2).2.2.1 ∈ kk_ws ∨ ∃ host, Cond.fieldLinkNest own q.1 C (T q.2.2).2.1 (T q.2.2).2.2.1 host ∈ kk_nw)
theorem kk_fok {sh : List lm_Sh} {own : String} {fl : List (Nat × Nat × Nat)} (h : ∀ q ∈ fl, kk_fr own q) : lm_fok (kk_Y sh) own fl := fun idx ci k hq => h (idx, ci, k) (kk_lk hq)
def kk_sr (own : String) (q : Nat × Nat) : Prop := ∃ (C n : String) (vs : List Int32), kk_tb[q.2]? = some (C, n, vs) ∧ (Cond.fieldLink own q.1 C n "[I" ∈ kk_ws ∨ ∃ host, Cond.fieldLinkNest own q.1 C n "[I" host ∈ kk_nw)
theorem kk_sok {sh : List lm_Sh} {own : String} {sl : List (Nat × Nat)} (h : ∀ q ∈ sl, kk_sr own q) : lm_sok (kk_Y sh) own sl := fun idx j hq => h (idx, j) (kk_lk hq)
/-- what the tables say of a method -/
def kk_yw (y : MethodName) (b : ByteArray) (mL : Nat) (rt : Option FieldType) (n : Nat) (vi : Option Nat) : Prop := Cond.code y b mL rt ∈ kk_ws ∧ Cond.initialized y.cls ∈ kk_ws ∧ (y.cls ≠ "java/lang/invoke/MethodHandle" ∧ y.cls ≠ "java/lang/invoke/VarHandle" ∧ (parseMethodDescriptor y.desc).map (fun d => d.parameters.length) = some n) ∧ ((vi = none ∧ Cond.static y ∈ kk_ws) ∨ ∃ ci T N, vi = some ci ∧ kk_cl[ci]? = some (y.cls, T, N) ∧ Cond.instanceMethod y ∈ kk_ws ∧ Cond.selects y.cls y y ∈ kk_ws)
def kk_li (own : String) (idx : Nat) (y : MethodName) : Prop := Cond.methodLink own idx y ∈ kk_ws ∨ ∃ host, Cond.methodLinkNest own idx y host ∈ kk_nw
def kk_cr (l : Launch) (sh : List lm_Sh) (own : String) (fr lo : Nat) (q : Nat × Nat × Option Nat × lm_Sp) : Prop := ∃ (y : MethodName) (b : ByteArray) (mL : Nat) (rt : Option FieldType) (f1 lo1 : Nat), lm_I l (kk_Y sh) y b mL rt f1 lo1 q.2.2.2 ∧ (f1 + 1 ≤ fr ∧ 8 + (mL + 11) + lo1 ≤ lo) ∧ kk_yw y b mL rt q.2.1 q.2.2.1 ∧ kk_li own q.1 y
theorem kk_cok {l : Launch} {sh : List lm_Sh} {own : String} {fr lo : Nat} {cal : lm_Ca} (h : ∀ q ∈ cal, kk_cr l sh own fr lo q) : lm_cok l (kk_Y sh) own fr lo cal := by
  intro idx n vi sp hq
  obtain ⟨y, b, mL, rt, f1, lo1, h1, h2, ⟨h3, h4, h5, h6⟩, h7⟩ := h (idx, n, vi, sp) (kk_lk hq)
  exact ⟨y, b, mL, rt, f1, lo1, h1, h2, h3, h4, h5, h7, h6⟩
theorem kk_nil {α : Type} {P : α → Prop} : ∀ q ∈ ([] : List α), P q := fun _ h => absurd h List.not_mem_nil
theorem kk_cons {α : Type} {P : α → Prop} {a : α} {l : List α} (h : P a) (t : ∀ q ∈ l, P q) : ∀ q ∈ a :: l, P q := List.forall_mem_cons.mpr ⟨h, t⟩
def fl_D : List (Nat × Nat × Nat) := [(10, 0, 0), (19, 0, 1), (26, 0, 2), (30, 0, 3), (41, 1, 0), (51, 1, 1), (72, 2, 4), (80, 2, 3), (90, 1, 5)]
theorem fl_D_ok : ∀ q ∈ fl_D, kk_fr R_D q :=
  kk_cons (⟨R_D, F_D, 4, rfl, by decide, rfl, Or.inl (kk_tm 106 (by decide +kernel) (by decide +kernel))⟩) <|
  kk_cons (⟨R_D, F_D, 4, rfl, by decide, rfl, Or.inl (kk_tm 107 (by decide +kernel) (by decide +kernel))⟩) <|
  kk_cons (⟨R_D, F_D, 4, rfl, by decide, rfl, Or.inl (kk_tm 108 (by decide +kernel) (by decide +kernel))⟩) <|
  kk_cons (⟨R_D, F_D, 4, rfl, by decide, rfl, Or.inl (kk_tm 109 (by decide +kernel) (by decide +kernel))⟩) <|
  kk_cons (⟨R_M, F_M, 9, rfl, by decide, rfl, Or.inr ⟨"ReplayDesk", kk_nm 0 (by decide +kernel)⟩⟩) <|
  kk_cons (⟨R_M, F_M, 9, rfl, by decide, rfl, Or.inr ⟨"ReplayDesk", kk_nm 2 (by decide +kernel)⟩⟩) <|
  kk_cons (⟨R_H, F_H, 5, rfl, by decide, rfl, Or.inr ⟨"ReplayDesk", kk_nm 9 (by decide +kernel)⟩⟩) <|
  kk_cons (⟨R_H, F_H, 5, rfl, by decide, rfl, Or.inr ⟨"ReplayDesk", kk_nm 8 (by decide +kernel)⟩⟩) <|
  kk_cons (⟨R_M, F_M, 9, rfl, by decide, rfl, Or.inr ⟨"ReplayDesk", kk_nm 4 (by decide +kernel)⟩⟩) <|
  kk_nil
def sl_D : List (Nat × Nat) := [(54, 0)]
theorem sl_D_ok : ∀ q ∈ sl_D, kk_sr R_D q :=
  kk_cons (⟨"ReplayDesk", "REGISTER_BITS", [255, 255, 255, 255, 195, 511], rfl, Or.inl (kk_tm 141 (by decide +kernel) (by decide +kernel))⟩) <|
  kk_nil
def fl_M : List (Nat × Nat × Nat) := [(9, 1, 0), (15, 1, 1), (18, 1, 2), (21, 1, 4), (24, 1, 6), (27, 1, 7), (30, 1, 3), (38, 1, 5), (132, 1, 8)]
theorem fl_M_ok : ∀ q ∈ fl_M, kk_fr R_M q :=
  kk_cons (⟨R_M, F_M, 9, rfl, by decide, rfl, Or.inl (kk_tm 21 (by decide +kernel) (by decide +kernel))⟩) <|
  kk_cons (⟨R_M, F_M, 9, rfl, by decide, rfl, Or.inl (kk_tm 24 (by decide +kernel) (by decide +kernel))⟩) <|
  kk_cons (⟨R_M, F_M, 9, rfl, by decide, rfl, Or.inl (kk_tm 27 (by decide +kernel) (by decide +kernel))⟩) <|
  kk_cons (⟨R_M, F_M, 9, rfl, by decide, rfl, Or.inl (kk_tm 29 (by decide +kernel) (by decide +kernel))⟩) <|
  kk_cons (⟨R_M, F_M, 9, rfl, by decide, rfl, Or.inl (kk_tm 32 (by decide +kernel) (by decide +kernel))⟩) <|
  kk_cons (⟨R_M, F_M, 9, rfl, by decide, rfl, Or.inl (kk_tm 34 (by decide +kernel) (by decide +kernel))⟩) <|
  kk_cons (⟨R_M, F_M, 9, rfl, by decide, rfl, Or.inl (kk_tm 28 (by decide +kernel) (by decide +kernel))⟩) <|
  kk_cons (⟨R_M, F_M, 9, rfl, by decide, rfl, Or.inl (kk_tm 30 (by decide +kernel) (by decide +kernel))⟩) <|
  kk_cons (⟨R_M, F_M, 9, rfl, by decide, rfl, Or.inl (kk_tm 36 (by decide +kernel) (by decide +kernel))⟩) <|
  kk_nil
def sl_M : List (Nat × Nat) := [(76, 1), (126, 2)]
theorem sl_M_ok : ∀ q ∈ sl_M, kk_sr R_M q :=
  kk_cons (⟨"ReplayDesk", "LENGTH_BY_MODE", [2, 2, 2, 3, 3, 3, 2, 1], rfl, Or.inr ⟨"ReplayDesk", kk_nm 13 (by decide +kernel)⟩⟩) <|
  kk_cons (⟨"ReplayDesk", "BRANCH_FLAGS", [128, 64, 1, 2], rfl, Or.inr ⟨"ReplayDesk", kk_nm 14 (by decide +kernel)⟩⟩) <|
  kk_nil
def fl_H : List (Nat × Nat × Nat) := [(9, 2, 0), (15, 2, 1), (18, 2, 2), (21, 2, 3), (25, 2, 4), (32, 1, 6), (35, 1, 7), (38, 1, 0), (45, 1, 1)]
theorem fl_H_ok : ∀ q ∈ fl_H, kk_fr R_H q :=
  kk_cons (⟨R_H, F_H, 5, rfl, by decide, rfl, Or.inl (kk_tm 63 (by decide +kernel) (by decide +kernel))⟩) <|
  kk_cons (⟨R_H, F_H, 5, rfl, by decide, rfl, Or.inl (kk_tm 64 (by decide +kernel) (by decide +kernel))⟩) <|
  kk_cons (⟨R_H, F_H, 5, rfl, by decide, rfl, Or.inl (kk_tm 65 (by decide +kernel) (by decide +kernel))⟩) <|
  kk_cons (⟨R_H, F_H, 5, rfl, by decide, rfl, Or.inl (kk_tm 66 (by decide +kernel) (by decide +kernel))⟩) <|
  kk_cons (⟨R_H, F_H, 5, rfl, by decide, rfl, Or.inl (kk_tm 68 (by decide +kernel) (by decide +kernel))⟩) <|
  kk_cons (⟨R_M, F_M, 9, rfl, by decide, rfl, Or.inr ⟨"ReplayDesk", kk_nm 5 (by decide +kernel)⟩⟩) <|
  kk_cons (⟨R_M, F_M, 9, rfl, by decide, rfl, Or.inr ⟨"ReplayDesk", kk_nm 6 (by decide +kernel)⟩⟩) <|
  kk_cons (⟨R_M, F_M, 9, rfl, by decide, rfl, Or.inr ⟨"ReplayDesk", kk_nm 1 (by decide +kernel)⟩⟩) <|
  kk_cons (⟨R_M, F_M, 9, rfl, by decide, rfl, Or.inr ⟨"ReplayDesk", kk_nm 3 (by decide +kernel)⟩⟩) <|
  kk_nil
def sl_H : List (Nat × Nat) := []
theorem sl_H_ok : ∀ q ∈ sl_H, kk_sr R_H q :=
  kk_nil
def fl_K : List (Nat × Nat × Nat) := [(9, 3, 0), (19, 3, 1)]
theorem fl_K_ok : ∀ q ∈ fl_K, kk_fr R_K q :=
  kk_cons (⟨R_K, F_K, 2, rfl, by decide, rfl, Or.inl (kk_tm 87 (by decide +kernel) (by decide +kernel))⟩) <|
  kk_cons (⟨R_K, F_K, 2, rfl, by decide, rfl, Or.inl (kk_tm 88 (by decide +kernel) (by decide +kernel))⟩) <|
  kk_nil
def sl_K : List (Nat × Nat) := []
theorem sl_K_ok : ∀ q ∈ sl_K, kk_sr R_K q :=
  kk_nil
def fl_R : List (Nat × Nat × Nat) := [(7, 4, 0), (13, 4, 1), (16, 4, 4), (19, 4, 5), (25, 4, 2), (29, 4, 3), (40, 4, 8), (43, 4, 9), (97, 4, 6), (107, 4, 7)]
theorem fl_R_ok : ∀ q ∈ fl_R, kk_fr R_R q :=
  kk_cons (⟨R_R, F_R, 10, rfl, by decide, rfl, Or.inl (kk_tm 376 (by decide +kernel) (by decide +kernel))⟩) <|
  kk_cons (⟨R_R, F_R, 10, rfl, by decide, rfl, Or.inl (kk_tm 377 (by decide +kernel) (by decide +kernel))⟩) <|
  kk_cons (⟨R_R, F_R, 10, rfl, by decide, rfl, Or.inl (kk_tm 380 (by decide +kernel) (by decide +kernel))⟩) <|
  kk_cons (⟨R_R, F_R, 10, rfl, by decide, rfl, Or.inl (kk_tm 381 (by decide +kernel) (by decide +kernel))⟩) <|
  kk_cons (⟨R_R, F_R, 10, rfl, by decide, rfl, Or.inl (kk_tm 378 (by decide +kernel) (by decide +kernel))⟩) <|
  kk_cons (⟨R_R, F_R, 10, rfl, by decide, rfl, Or.inl (kk_tm 379 (by decide +kernel) (by decide +kernel))⟩) <|
  kk_cons (⟨R_R, F_R, 10, rfl, by decide, rfl, Or.inl (kk_tm 384 (by decide +kernel) (by decide +kernel))⟩) <|
  kk_cons (⟨R_R, F_R, 10, rfl, by decide, rfl, Or.inl (kk_tm 385 (by decide +kernel) (by decide +kernel))⟩) <|
  kk_cons (⟨R_R, F_R, 10, rfl, by decide, rfl, Or.inl (kk_tm 382 (by decide +kernel) (by decide +kernel))⟩) <|
  kk_cons (⟨R_R, F_R, 10, rfl, by decide, rfl, Or.inl (kk_tm 383 (by decide +kernel) (by decide +kernel))⟩) <|
  kk_nil
def sl_R : List (Nat × Nat) := []
theorem sl_R_ok : ∀ q ∈ sl_R, kk_sr R_R q :=
  kk_nil
def y_D_init : MethodName := ⟨R_D, "<init>", "()V"⟩
abbrev b_D_init : ByteArray := prog_1_method_1_code
def y_D_poke : MethodName := ⟨R_D, "poke", "(II)Z"⟩
abbrev b_D_poke : ByteArray := prog_1_method_2_code
def y_D_set : MethodName := ⟨R_D, "set", "(II)Z"⟩
abbrev b_D_set : ByteArray := prog_1_method_3_code
def y_D_feed : MethodName := ⟨R_D, "feed", "(I)Z"⟩
abbrev b_D_feed : ByteArray := prog_1_method_4_code
def y_D_run : MethodName := ⟨R_D, "run", "(I)I"⟩
abbrev b_D_run : ByteArray := prog_1_method_5_code
def y_D_go : MethodName := ⟨R_D, "go", "(I)Z"⟩
abbrev b_D_go : ByteArray := prog_1_method_6_code
def y_D_seek : MethodName := ⟨R_D, "seek", "()I"⟩
abbrev b_D_seek : ByteArray := prog_1_method_7_code
def y_D_time : MethodName := ⟨R_D, "time", "()I"⟩
abbrev b_D_time : ByteArray := prog_1_method_8_code
def y_D_last : MethodName := ⟨R_D, "last", "()I"⟩
abbrev b_D_last : ByteArray := prog_1_method_9_code
def y_D_stop : MethodName := ⟨R_D, "stop", "(IZ)Z"⟩
abbrev b_D_stop : ByteArray := prog_1_method_10_code
def y_D_watch : MethodName := ⟨R_D, "watch", "(IZ)Z"⟩
abbrev b_D_watch : ByteArray := prog_1_method_11_code
def y_D_cell : MethodName := ⟨R_D, "cell", "(I)I"⟩
abbrev b_D_cell : ByteArray := prog_1_method_12_code
def y_D_register : MethodName := ⟨R_D, "register", "(I)I"⟩
abbrev b_D_register : ByteArray := prog_1_method_13_code
def y_D_waiting : MethodName := ⟨R_D, "waiting", "()I"⟩
abbrev b_D_waiting : ByteArray := prog_1_method_14_code
def y_D_puts : MethodName := ⟨R_D, "puts", "()I"⟩
abbrev b_D_puts : ByteArray := prog_1_method_15_code
def y_D_output : MethodName := ⟨R_D, "output", "(I)I"⟩
abbrev b_D_output : ByteArray := prog_1_method_16_code
def y_D_wrote : MethodName := ⟨R_D, "wrote", "(I)I"⟩
abbrev b_D_wrote : ByteArray := prog_1_method_17_code
def y_D_isAddress : MethodName := ⟨R_D, "isAddress", "(I)Z"⟩
abbrev b_D_isAddress : ByteArray := prog_1_method_18_code
def y_D_isRegister : MethodName := ⟨R_D, "isRegister", "(I)Z"⟩
abbrev b_D_isRegister : ByteArray := prog_1_method_19_code
def y_D_beginAnew : MethodName := ⟨R_D, "beginAnew", "()V"⟩
abbrev b_D_beginAnew : ByteArray := prog_1_method_20_code
def y_D_stepOn : MethodName := ⟨R_D, "stepOn", "()Z"⟩
abbrev b_D_stepOn : ByteArray := prog_1_method_21_code
def y_D_isMet : MethodName := ⟨R_D, "isMet", "(I)Z"⟩
abbrev b_D_isMet : ByteArray := prog_1_method_22_code
def y_R_init : MethodName := ⟨R_R, "<init>", "()V"⟩
abbrev b_R_init : ByteArray := prog_6_method_1_code
def y_R_within : MethodName := ⟨R_R, "within", "(II)Z"⟩
abbrev b_R_within : ByteArray := prog_6_method_2_code
def y_R_anew : MethodName := ⟨R_R, "anew", "()V"⟩
abbrev b_R_anew : ByteArray := prog_6_method_3_code
def y_R_poke : MethodName := ⟨R_R, "poke", "(II)Z"⟩
abbrev b_R_poke : ByteArray := prog_6_method_4_code
def y_R_set : MethodName := ⟨R_R, "set", "(II)Z"⟩
abbrev b_R_set : ByteArray := prog_6_method_5_code
def y_R_feed : MethodName := ⟨R_R, "feed", "(I)Z"⟩
abbrev b_R_feed : ByteArray := prog_6_method_6_code
def y_R_flag : MethodName := ⟨R_R, "flag", "(IZ)V"⟩
abbrev b_R_flag : ByteArray := prog_6_method_7_code
def y_R_marked : MethodName := ⟨R_R, "marked", "(I)I"⟩
abbrev b_R_marked : ByteArray := prog_6_method_8_code
def y_R_write : MethodName := ⟨R_R, "write", "(II)V"⟩
abbrev b_R_write : ByteArray := prog_6_method_9_code
def y_R_push : MethodName := ⟨R_R, "push", "(I)V"⟩
abbrev b_R_push : ByteArray := prog_6_method_10_code
def y_R_pull : MethodName := ⟨R_R, "pull", "()I"⟩
abbrev b_R_pull : ByteArray := prog_6_method_11_code
def y_R_length : MethodName := ⟨R_R, "length", "(II)I"⟩
abbrev b_R_length : ByteArray := prog_6_method_12_code
def y_R_place : MethodName := ⟨R_R, "place", "(IIII)I"⟩
abbrev b_R_place : ByteArray := prog_6_method_13_code
def y_R_step : MethodName := ⟨R_R, "step", "()V"⟩
abbrev b_R_step : ByteArray := prog_6_method_14_code
def y_R_change : MethodName := ⟨R_R, "change", "(II)V"⟩
abbrev b_R_change : ByteArray := prog_6_method_15_code
def y_R_add : MethodName := ⟨R_R, "add", "(I)V"⟩
abbrev b_R_add : ByteArray := prog_6_method_16_code
def y_R_compare : MethodName := ⟨R_R, "compare", "(II)V"⟩
abbrev b_R_compare : ByteArray := prog_6_method_17_code
def y_R_work : MethodName := ⟨R_R, "work", "(II)V"⟩
abbrev b_R_work : ByteArray := prog_6_method_18_code
def y_R_stack : MethodName := ⟨R_R, "stack", "(I)V"⟩
abbrev b_R_stack : ByteArray := prog_6_method_19_code
def y_R_transfer : MethodName := ⟨R_R, "transfer", "(I)V"⟩
abbrev b_R_transfer : ByteArray := prog_6_method_20_code
def y_R_small : MethodName := ⟨R_R, "small", "(I)V"⟩
abbrev b_R_small : ByteArray := prog_6_method_21_code
def y_R_branch : MethodName := ⟨R_R, "branch", "(II)V"⟩
abbrev b_R_branch : ByteArray := prog_6_method_22_code
def y_R_come : MethodName := ⟨R_R, "come", "(I)V"⟩
abbrev b_R_come : ByteArray := prog_6_method_23_code
def y_R_has : MethodName := ⟨R_R, "has", "([III)Z"⟩
abbrev b_R_has : ByteArray := prog_6_method_24_code
def y_R_run : MethodName := ⟨R_R, "run", "(I)I"⟩
abbrev b_R_run : ByteArray := prog_6_method_25_code
def y_R_go : MethodName := ⟨R_R, "go", "(I)Z"⟩
abbrev b_R_go : ByteArray := prog_6_method_26_code
def y_R_seek : MethodName := ⟨R_R, "seek", "()I"⟩
abbrev b_R_seek : ByteArray := prog_6_method_27_code
def y_R_time : MethodName := ⟨R_R, "time", "()I"⟩
abbrev b_R_time : ByteArray := prog_6_method_28_code
def y_R_last : MethodName := ⟨R_R, "last", "()I"⟩
abbrev b_R_last : ByteArray := prog_6_method_29_code
def y_R_turn : MethodName := ⟨R_R, "turn", "([IIIZ)I"⟩
abbrev b_R_turn : ByteArray := prog_6_method_30_code
def y_R_stop : MethodName := ⟨R_R, "stop", "(IZ)Z"⟩
abbrev b_R_stop : ByteArray := prog_6_method_31_code
def y_R_watch : MethodName := ⟨R_R, "watch", "(IZ)Z"⟩
abbrev b_R_watch : ByteArray := prog_6_method_32_code
def y_R_cell : MethodName := ⟨R_R, "cell", "(I)I"⟩
abbrev b_R_cell : ByteArray := prog_6_method_33_code
def y_R_register : MethodName := ⟨R_R, "register", "(I)I"⟩
abbrev b_R_register : ByteArray := prog_6_method_34_code
def y_R_waiting : MethodName := ⟨R_R, "waiting", "()I"⟩
abbrev b_R_waiting : ByteArray := prog_6_method_35_code
def y_R_puts : MethodName := ⟨R_R, "puts", "()I"⟩
abbrev b_R_puts : ByteArray := prog_6_method_36_code
def y_R_output : MethodName := ⟨R_R, "output", "(I)I"⟩
abbrev b_R_output : ByteArray := prog_6_method_37_code
def y_R_wrote : MethodName := ⟨R_R, "wrote", "(I)I"⟩
abbrev b_R_wrote : ByteArray := prog_6_method_38_code
def y_H_init : MethodName := ⟨R_H, "<init>", "()V"⟩
abbrev b_H_init : ByteArray := prog_2_method_1_code
def y_H_begin : MethodName := ⟨R_H, "begin", "(LReplayDesk$Machine;)V"⟩
abbrev b_H_begin : ByteArray := prog_2_method_2_code
def y_H_append : MethodName := ⟨R_H, "append", "(LReplayDesk$Machine;)V"⟩
abbrev b_H_append : ByteArray := prog_2_method_3_code
def y_H_moveTo : MethodName := ⟨R_H, "moveTo", "(ILReplayDesk$Machine;)V"⟩
abbrev b_H_moveTo : ByteArray := prog_2_method_4_code
def y_H_counterAt : MethodName := ⟨R_H, "counterAt", "(I)I"⟩
abbrev b_H_counterAt : ByteArray := prog_2_method_5_code
def y_H_placeWritten : MethodName := ⟨R_H, "placeWritten", "(II)I"⟩
abbrev b_H_placeWritten : ByteArray := prog_2_method_6_code
def y_H_lastPlaceWritten : MethodName := ⟨R_H, "lastPlaceWritten", "(I)I"⟩
abbrev b_H_lastPlaceWritten : ByteArray := prog_2_method_7_code
def y_H_keepPresent : MethodName := ⟨R_H, "keepPresent", "(LReplayDesk$Machine;)V"⟩
abbrev b_H_keepPresent : ByteArray := prog_2_method_8_code
def y_H_swapByte : MethodName := ⟨R_H, "swapByte", "(I[I)V"⟩
abbrev b_H_swapByte : ByteArray := prog_2_method_9_code
def y_M_init : MethodName := ⟨R_M, "<init>", "()V"⟩
abbrev b_M_init : ByteArray := prog_3_method_1_code
def y_M_inputsWaiting : MethodName := ⟨R_M, "inputsWaiting", "()I"⟩
abbrev b_M_inputsWaiting : ByteArray := prog_3_method_2_code
def y_M_addInput : MethodName := ⟨R_M, "addInput", "(I)V"⟩
abbrev b_M_addInput : ByteArray := prog_3_method_3_code
def y_M_outputBehind : MethodName := ⟨R_M, "outputBehind", "(I)I"⟩
abbrev b_M_outputBehind : ByteArray := prog_3_method_4_code
def y_M_dropOldOutputs : MethodName := ⟨R_M, "dropOldOutputs", "()V"⟩
abbrev b_M_dropOldOutputs : ByteArray := prog_3_method_5_code
def y_M_makeStep : MethodName := ⟨R_M, "makeStep", "()V"⟩
abbrev b_M_makeStep : ByteArray := prog_3_method_6_code
def y_M_lengthOf : MethodName := ⟨R_M, "lengthOf", "(II)I"⟩
abbrev b_M_lengthOf : ByteArray := prog_3_method_7_code
def y_M_placeOf : MethodName := ⟨R_M, "placeOf", "(II)I"⟩
abbrev b_M_placeOf : ByteArray := prog_3_method_8_code
def y_M_pointerAt : MethodName := ⟨R_M, "pointerAt", "(I)I"⟩
abbrev b_M_pointerAt : ByteArray := prog_3_method_9_code
def y_M_workOnPlace : MethodName := ⟨R_M, "workOnPlace", "(II)V"⟩
abbrev b_M_workOnPlace : ByteArray := prog_3_method_10_code
def y_M_bitsWithA : MethodName := ⟨R_M, "bitsWithA", "(II)I"⟩
abbrev b_M_bitsWithA : ByteArray := prog_3_method_11_code
def y_M_addToA : MethodName := ⟨R_M, "addToA", "(I)V"⟩
abbrev b_M_addToA : ByteArray := prog_3_method_12_code
def y_M_compare : MethodName := ⟨R_M, "compare", "(II)V"⟩
abbrev b_M_compare : ByteArray := prog_3_method_13_code
def y_M_testBits : MethodName := ⟨R_M, "testBits", "(I)V"⟩
abbrev b_M_testBits : ByteArray := prog_3_method_14_code
def y_M_alterPlace : MethodName := ⟨R_M, "alterPlace", "(III)V"⟩
abbrev b_M_alterPlace : ByteArray := prog_3_method_15_code
def y_M_alteredByte : MethodName := ⟨R_M, "alteredByte", "(II)I"⟩
abbrev b_M_alteredByte : ByteArray := prog_3_method_16_code
def y_M_jump : MethodName := ⟨R_M, "jump", "(ZII)V"⟩
abbrev b_M_jump : ByteArray := prog_3_method_17_code
def y_M_useStackOrPort : MethodName := ⟨R_M, "useStackOrPort", "(I)V"⟩
abbrev b_M_useStackOrPort : ByteArray := prog_3_method_18_code
def y_M_takeInput : MethodName := ⟨R_M, "takeInput", "()V"⟩
abbrev b_M_takeInput : ByteArray := prog_3_method_19_code
def y_M_putOut : MethodName := ⟨R_M, "putOut", "()V"⟩
abbrev b_M_putOut : ByteArray := prog_3_method_20_code
def y_M_moveRegister : MethodName := ⟨R_M, "moveRegister", "(I)V"⟩
abbrev b_M_moveRegister : ByteArray := prog_3_method_21_code
def y_M_changeYOrFlag : MethodName := ⟨R_M, "changeYOrFlag", "(I)V"⟩
abbrev b_M_changeYOrFlag : ByteArray := prog_3_method_22_code
def y_M_branch : MethodName := ⟨R_M, "branch", "(II)V"⟩
abbrev b_M_branch : ByteArray := prog_3_method_23_code
def y_M_load : MethodName := ⟨R_M, "load", "(II)V"⟩
abbrev b_M_load : ByteArray := prog_3_method_24_code
def y_M_noteResult : MethodName := ⟨R_M, "noteResult", "(I)V"⟩
abbrev b_M_noteResult : ByteArray := prog_3_method_25_code
def y_M_putFlag : MethodName := ⟨R_M, "putFlag", "(IZ)V"⟩
abbrev b_M_putFlag : ByteArray := prog_3_method_26_code
def y_M_push : MethodName := ⟨R_M, "push", "(I)V"⟩
abbrev b_M_push : ByteArray := prog_3_method_27_code
def y_M_takeByte : MethodName := ⟨R_M, "takeByte", "()I"⟩
abbrev b_M_takeByte : ByteArray := prog_3_method_28_code
def y_M_cellAt : MethodName := ⟨R_M, "cellAt", "(I)I"⟩
abbrev b_M_cellAt : ByteArray := prog_3_method_29_code
def y_M_writePlace : MethodName := ⟨R_M, "writePlace", "(II)V"⟩
abbrev b_M_writePlace : ByteArray := prog_3_method_30_code
def y_M_writeCell : MethodName := ⟨R_M, "writeCell", "(II)V"⟩
abbrev b_M_writeCell : ByteArray := prog_3_method_31_code
def y_M_forgetWrites : MethodName := ⟨R_M, "forgetWrites", "()V"⟩
abbrev b_M_forgetWrites : ByteArray := prog_3_method_32_code
def y_K_init : MethodName := ⟨R_K, "<init>", "()V"⟩
abbrev b_K_init : ByteArray := prog_4_method_1_code
def y_K_has : MethodName := ⟨R_K, "has", "(I)Z"⟩
abbrev b_K_has : ByteArray := prog_4_method_2_code
def y_K_change : MethodName := ⟨R_K, "change", "(IZ)Z"⟩
abbrev b_K_change : ByteArray := prog_4_method_3_code
def k_D_poke : List (Nat × lm_R) := [(0, .iload_n 1, 1, 0, 0), (1, .invokestatic 37, 4, 0, 0), (4, .ifCond .ne (5), 7, 0, 9), (7, .iconst 0, 8, 0, 0), (8, .ireturn, 9, 0, 0), (9, .aload_n 0, 10, 0, 0), (10, .getfield 10, 13, 0, 0), (13, .getfield 41, 16, 0, 0), (16, .iload_n 1, 17, 0, 0), (17, .iload_n 2, 18, 0, 0), (18, .sipush (255), 21, 255, 0), (21, .iand, 22, 0, 0), (22, .iastore, 23, 0, 0), (23, .aload_n 0, 24, 0, 0), (24, .invokevirtual 45, 27, 0, 0), (27, .iconst 1, 28, 1, 0), (28, .ireturn, 29, 0, 0)]
abbrev g_D_poke : lm_G := (k_D_poke, fl_D, sl_D, 0, 2, none)
set_option maxRecDepth 20000 in
theorem ck_D_poke : ∀ pc r, k_D_poke.lookup pc = some r → lm_ck b_D_poke 3 pc r = true := kk_ck (by decide +kernel)
set_option maxRecDepth 20000 in
theorem yw_D_poke : kk_yw y_D_poke b_D_poke 3 (some .boolean) 2 (some 0) := ⟨kk_tm 122 (by rfl) rfl, (kk_tm 1 (by decide +kernel) (by decide +kernel)), ⟨by decide, by decide, by decide +kernel⟩, Or.inr ⟨0, F_D, 4, rfl, rfl, (kk_tm 120 (by decide +kernel) (by decide +kernel)), (kk_tm 121 (by decide +kernel) (by decide +kernel))⟩⟩
theorem li_D_37 : kk_li R_D 37 y_D_isAddress := Or.inl (kk_tm 123 (by decide +kernel) (by decide +kernel))
theorem li_D_45 : kk_li R_D 45 y_D_beginAnew := Or.inl (kk_tm 126 (by decide +kernel) (by decide +kernel))
def k_D_set : List (Nat × lm_R) := [(0, .iload_n 1, 1, 0, 0), (1, .invokestatic 48, 4, 0, 0), (4, .ifCond .ne (5), 7, 0, 9), (7, .iconst 0, 8, 0, 0), (8, .ireturn, 9, 0, 0), (9, .iload_n 1, 10, 0, 0), (10, .bipush (6), 12, 6, 0), (12, .if_icmp .ne (25), 15, 0, 37), (15, .aload_n 0, 16, 0, 0), (16, .getfield 10, 19, 0, 0), (19, .getfield 51, 22, 0, 0), (22, .bipush (6), 24, 6, 0), (24, .iload_n 2, 25, 0, 0), (25, .ifCond .eq (7), 28, 0, 32), (28, .iconst 1, 29, 1, 0), (29, .goto (4), 32, 0, 33), (32, .iconst 0, 33, 0, 0), (33, .iastore, 34, 0, 0), (34, .goto (19), 37, 0, 53), (37, .aload_n 0, 38, 0, 0), (38, .getfield 10, 41, 0, 0), (41, .getfield 51, 44, 0, 0), (44, .iload_n 1, 45, 0, 0), (45, .iload_n 2, 46, 0, 0), (46, .getstatic 54, 49, 0, 0), (49, .iload_n 1, 50, 0, 0), (50, .iaload, 51, 0, 0), (51, .iand, 52, 0, 0), (52, .iastore, 53, 0, 0), (53, .aload_n 0, 54, 0, 0), (54, .invokevirtual 45, 57, 0, 0), (57, .iconst 1, 58, 1, 0), (58, .ireturn, 59, 0, 0)]
abbrev g_D_set : lm_G := (k_D_set, fl_D, sl_D, 0, 2, none)
set_option maxRecDepth 20000 in
theorem ck_D_set : ∀ pc r, k_D_set.lookup pc = some r → lm_ck b_D_set 3 pc r = true := kk_ck (by decide +kernel)
set_option maxRecDepth 20000 in
theorem yw_D_set : kk_yw y_D_set b_D_set 3 (some .boolean) 2 (some 0) := ⟨kk_tm 137 (by rfl) rfl, (kk_tm 1 (by decide +kernel) (by decide +kernel)), ⟨by decide, by decide, by decide +kernel⟩, Or.inr ⟨0, F_D, 4, rfl, rfl, (kk_tm 135 (by decide +kernel) (by decide +kernel)), (kk_tm 136 (by decide +kernel) (by decide +kernel))⟩⟩
theorem li_D_48 : kk_li R_D 48 y_D_isRegister := Or.inl (kk_tm 138 (by decide +kernel) (by decide +kernel))
def k_D_feed : List (Nat × lm_R) := [(0, .aload_n 0, 1, 0, 0), (1, .getfield 10, 4, 0, 0), (4, .invokevirtual 57, 7, 0, 0), (7, .bipush (40), 9, 40, 0), (9, .if_icmp .lt (5), 12, 0, 14), (12, .iconst 0, 13, 0, 0), (13, .ireturn, 14, 0, 0), (14, .aload_n 0, 15, 0, 0), (15, .getfield 10, 18, 0, 0), (18, .iload_n 1, 19, 0, 0), (19, .sipush (255), 22, 255, 0), (22, .iand, 23, 0, 0), (23, .invokevirtual 61, 26, 0, 0), (26, .aload_n 0, 27, 0, 0), (27, .invokevirtual 45, 30, 0, 0), (30, .iconst 1, 31, 1, 0), (31, .ireturn, 32, 0, 0)]
abbrev g_D_feed : lm_G := (k_D_feed, fl_D, sl_D, 0, 2, none)
set_option maxRecDepth 20000 in
theorem ck_D_feed : ∀ pc r, k_D_feed.lookup pc = some r → lm_ck b_D_feed 2 pc r = true := kk_ck (by decide +kernel)
set_option maxRecDepth 20000 in
theorem yw_D_feed : kk_yw y_D_feed b_D_feed 2 (some .boolean) 1 (some 0) := ⟨kk_tm 146 (by rfl) rfl, (kk_tm 1 (by decide +kernel) (by decide +kernel)), ⟨by decide, by decide, by decide +kernel⟩, Or.inr ⟨0, F_D, 4, rfl, rfl, (kk_tm 144 (by decide +kernel) (by decide +kernel)), (kk_tm 145 (by decide +kernel) (by decide +kernel))⟩⟩
theorem li_D_57 : kk_li R_D 57 y_M_inputsWaiting := Or.inl (kk_tm 147 (by decide +kernel) (by decide +kernel))
theorem li_D_61 : kk_li R_D 61 y_M_addInput := Or.inl (kk_tm 151 (by decide +kernel) (by decide +kernel))
def k_D_run : List (Nat × lm_R) := [(0, .iload_n 1, 1, 0, 0), (1, .ifCond .lt (10), 4, 0, 11), (4, .iload_n 1, 5, 0, 0), (5, .sipush (300), 8, 300, 0), (8, .if_icmp .le (5), 11, 0, 13), (11, .iconst 0, 12, 0, 0), (12, .ireturn, 13, 0, 0), (13, .iconst 0, 14, 0, 0), (14, .istore_n 2, 15, 0, 0), (15, .iload_n 2, 16, 0, 0), (16, .iload_n 1, 17, 0, 0), (17, .if_icmp .ge (51), 20, 0, 68), (20, .iload_n 2, 21, 0, 0), (21, .ifCond .le (26), 24, 0, 47), (24, .aload_n 0, 25, 0, 0), (25, .getfield 26, 28, 0, 0), (28, .aload_n 0, 29, 0, 0), (29, .getfield 10, 32, 0, 0), (32, .getfield 51, 35, 0, 0), (35, .iconst 5, 36, 5, 0), (36, .iaload, 37, 0, 0), (37, .invokevirtual 65, 40, 0, 0), (40, .ifCond .eq (7), 43, 0, 47), (43, .iconst 1, 44, 1, 0), (44, .goto (4), 47, 0, 48), (47, .iconst 0, 48, 0, 0), (48, .istore_n 3, 49, 0, 0), (49, .iload_n 3, 50, 0, 0), (50, .ifCond .ne (10), 53, 0, 60), (53, .aload_n 0, 54, 0, 0), (54, .invokevirtual 68, 57, 0, 0), (57, .ifCond .ne (5), 60, 0, 62), (60, .iload_n 2, 61, 0, 0), (61, .ireturn, 62, 0, 0), (62, .iinc 2 (1), 65, 1, 0), (65, .goto (-50), 68, 0, 15), (68, .iload_n 1, 69, 0, 0), (69, .ireturn, 70, 0, 0)]
abbrev g_D_run : lm_G := (k_D_run, fl_D, sl_D, 0, 1, none)
set_option maxRecDepth 20000 in
theorem ck_D_run : ∀ pc r, k_D_run.lookup pc = some r → lm_ck b_D_run 4 pc r = true := kk_ck (by decide +kernel)
set_option maxRecDepth 20000 in
theorem yw_D_run : kk_yw y_D_run b_D_run 4 (some .int) 1 (some 0) := ⟨kk_tm 159 (by rfl) rfl, (kk_tm 1 (by decide +kernel) (by decide +kernel)), ⟨by decide, by decide, by decide +kernel⟩, Or.inr ⟨0, F_D, 4, rfl, rfl, (kk_tm 157 (by decide +kernel) (by decide +kernel)), (kk_tm 158 (by decide +kernel) (by decide +kernel))⟩⟩
theorem li_D_65 : kk_li R_D 65 y_K_has := Or.inl (kk_tm 160 (by decide +kernel) (by decide +kernel))
theorem li_D_68 : kk_li R_D 68 y_D_stepOn := Or.inl (kk_tm 165 (by decide +kernel) (by decide +kernel))
def k_D_go : List (Nat × lm_R) := [(0, .iload_n 1, 1, 0, 0), (1, .ifCond .lt (14), 4, 0, 15), (4, .iload_n 1, 5, 0, 0), (5, .aload_n 0, 6, 0, 0), (6, .getfield 19, 9, 0, 0), (9, .getfield 72, 12, 0, 0), (12, .if_icmp .le (5), 15, 0, 17), (15, .iconst 0, 16, 0, 0), (16, .ireturn, 17, 0, 0), (17, .aload_n 0, 18, 0, 0), (18, .getfield 19, 21, 0, 0), (21, .iload_n 1, 22, 0, 0), (22, .aload_n 0, 23, 0, 0), (23, .getfield 10, 26, 0, 0), (26, .invokevirtual 76, 29, 0, 0), (29, .iconst 1, 30, 1, 0), (30, .ireturn, 31, 0, 0)]
abbrev g_D_go : lm_G := (k_D_go, fl_D, sl_D, 0, 2, none)
set_option maxRecDepth 20000 in
theorem ck_D_go : ∀ pc r, k_D_go.lookup pc = some r → lm_ck b_D_go 2 pc r = true := kk_ck (by decide +kernel)
set_option maxRecDepth 20000 in
theorem yw_D_go : kk_yw y_D_go b_D_go 2 (some .boolean) 1 (some 0) := ⟨kk_tm 296 (by rfl) rfl, (kk_tm 1 (by decide +kernel) (by decide +kernel)), ⟨by decide, by decide, by decide +kernel⟩, Or.inr ⟨0, F_D, 4, rfl, rfl, (kk_tm 294 (by decide +kernel) (by decide +kernel)), (kk_tm 295 (by decide +kernel) (by decide +kernel))⟩⟩
theorem li_D_76 : kk_li R_D 76 y_H_moveTo := Or.inl (kk_tm 169 (by decide +kernel) (by decide +kernel))
def k_D_seek : List (Nat × lm_R) := [(0, .aload_n 0, 1, 0, 0), (1, .getfield 19, 4, 0, 0), (4, .getfield 80, 7, 0, 0), (7, .iconst 1, 8, 1, 0), (8, .isub, 9, 0, 0), (9, .istore_n 1, 10, 0, 0), (10, .iload_n 1, 11, 0, 0), (11, .ifCond .lt (31), 14, 0, 42), (14, .aload_n 0, 15, 0, 0), (15, .iload_n 1, 16, 0, 0), (16, .invokevirtual 83, 19, 0, 0), (19, .ifCond .eq (17), 22, 0, 36), (22, .aload_n 0, 23, 0, 0), (23, .getfield 19, 26, 0, 0), (26, .iload_n 1, 27, 0, 0), (27, .aload_n 0, 28, 0, 0), (28, .getfield 10, 31, 0, 0), (31, .invokevirtual 76, 34, 0, 0), (34, .iload_n 1, 35, 0, 0), (35, .ireturn, 36, 0, 0), (36, .iinc 1 (-1), 39, (-1), 0), (39, .goto (-29), 42, 0, 10), (42, .iconst (-1), 43, (-1), 0), (43, .ireturn, 44, 0, 0)]
abbrev g_D_seek : lm_G := (k_D_seek, fl_D, sl_D, 0, 1, none)
set_option maxRecDepth 20000 in
theorem ck_D_seek : ∀ pc r, k_D_seek.lookup pc = some r → lm_ck b_D_seek 2 pc r = true := kk_ck (by decide +kernel)
set_option maxRecDepth 20000 in
theorem yw_D_seek : kk_yw y_D_seek b_D_seek 2 (some .int) 0 (some 0) := ⟨kk_tm 300 (by rfl) rfl, (kk_tm 1 (by decide +kernel) (by decide +kernel)), ⟨by decide, by decide, by decide +kernel⟩, Or.inr ⟨0, F_D, 4, rfl, rfl, (kk_tm 298 (by decide +kernel) (by decide +kernel)), (kk_tm 299 (by decide +kernel) (by decide +kernel))⟩⟩
theorem li_D_83 : kk_li R_D 83 y_D_isMet := Or.inl (kk_tm 301 (by decide +kernel) (by decide +kernel))
def k_D_time : List (Nat × lm_R) := [(0, .aload_n 0, 1, 0, 0), (1, .getfield 19, 4, 0, 0), (4, .getfield 80, 7, 0, 0), (7, .ireturn, 8, 0, 0)]
abbrev g_D_time : lm_G := (k_D_time, fl_D, sl_D, 0, 1, none)
set_option maxRecDepth 20000 in
theorem ck_D_time : ∀ pc r, k_D_time.lookup pc = some r → lm_ck b_D_time 1 pc r = true := kk_ck (by decide +kernel)
set_option maxRecDepth 20000 in
theorem yw_D_time : kk_yw y_D_time b_D_time 1 (some .int) 0 (some 0) := ⟨kk_tm 316 (by rfl) rfl, (kk_tm 1 (by decide +kernel) (by decide +kernel)), ⟨by decide, by decide, by decide +kernel⟩, Or.inr ⟨0, F_D, 4, rfl, rfl, (kk_tm 314 (by decide +kernel) (by decide +kernel)), (kk_tm 315 (by decide +kernel) (by decide +kernel))⟩⟩
def k_D_last : List (Nat × lm_R) := [(0, .aload_n 0, 1, 0, 0), (1, .getfield 19, 4, 0, 0), (4, .getfield 72, 7, 0, 0), (7, .ireturn, 8, 0, 0)]
abbrev g_D_last : lm_G := (k_D_last, fl_D, sl_D, 0, 1, none)
set_option maxRecDepth 20000 in
theorem ck_D_last : ∀ pc r, k_D_last.lookup pc = some r → lm_ck b_D_last 1 pc r = true := kk_ck (by decide +kernel)
set_option maxRecDepth 20000 in
theorem yw_D_last : kk_yw y_D_last b_D_last 1 (some .int) 0 (some 0) := ⟨kk_tm 320 (by rfl) rfl, (kk_tm 1 (by decide +kernel) (by decide +kernel)), ⟨by decide, by decide, by decide +kernel⟩, Or.inr ⟨0, F_D, 4, rfl, rfl, (kk_tm 318 (by decide +kernel) (by decide +kernel)), (kk_tm 319 (by decide +kernel) (by decide +kernel))⟩⟩
def k_D_stop : List (Nat × lm_R) := [(0, .aload_n 0, 1, 0, 0), (1, .getfield 26, 4, 0, 0), (4, .iload_n 1, 5, 0, 0), (5, .iload_n 2, 6, 0, 0), (6, .invokevirtual 86, 9, 0, 0), (9, .ireturn, 10, 0, 0)]
abbrev g_D_stop : lm_G := (k_D_stop, fl_D, sl_D, 0, 2, none)
set_option maxRecDepth 20000 in
theorem ck_D_stop : ∀ pc r, k_D_stop.lookup pc = some r → lm_ck b_D_stop 3 pc r = true := kk_ck (by decide +kernel)
set_option maxRecDepth 20000 in
theorem yw_D_stop : kk_yw y_D_stop b_D_stop 3 (some .boolean) 2 (some 0) := ⟨kk_tm 324 (by rfl) rfl, (kk_tm 1 (by decide +kernel) (by decide +kernel)), ⟨by decide, by decide, by decide +kernel⟩, Or.inr ⟨0, F_D, 4, rfl, rfl, (kk_tm 322 (by decide +kernel) (by decide +kernel)), (kk_tm 323 (by decide +kernel) (by decide +kernel))⟩⟩
theorem li_D_86 : kk_li R_D 86 y_K_change := Or.inl (kk_tm 325 (by decide +kernel) (by decide +kernel))
def k_D_watch : List (Nat × lm_R) := [(0, .aload_n 0, 1, 0, 0), (1, .getfield 30, 4, 0, 0), (4, .iload_n 1, 5, 0, 0), (5, .iload_n 2, 6, 0, 0), (6, .invokevirtual 86, 9, 0, 0), (9, .ireturn, 10, 0, 0)]
abbrev g_D_watch : lm_G := (k_D_watch, fl_D, sl_D, 0, 2, none)
set_option maxRecDepth 20000 in
theorem ck_D_watch : ∀ pc r, k_D_watch.lookup pc = some r → lm_ck b_D_watch 3 pc r = true := kk_ck (by decide +kernel)
set_option maxRecDepth 20000 in
theorem yw_D_watch : kk_yw y_D_watch b_D_watch 3 (some .boolean) 2 (some 0) := ⟨kk_tm 332 (by rfl) rfl, (kk_tm 1 (by decide +kernel) (by decide +kernel)), ⟨by decide, by decide, by decide +kernel⟩, Or.inr ⟨0, F_D, 4, rfl, rfl, (kk_tm 330 (by decide +kernel) (by decide +kernel)), (kk_tm 331 (by decide +kernel) (by decide +kernel))⟩⟩
def k_D_cell : List (Nat × lm_R) := [(0, .iload_n 1, 1, 0, 0), (1, .invokestatic 37, 4, 0, 0), (4, .ifCond .eq (15), 7, 0, 19), (7, .aload_n 0, 8, 0, 0), (8, .getfield 10, 11, 0, 0), (11, .getfield 41, 14, 0, 0), (14, .iload_n 1, 15, 0, 0), (15, .iaload, 16, 0, 0), (16, .goto (4), 19, 0, 20), (19, .iconst (-1), 20, (-1), 0), (20, .ireturn, 21, 0, 0)]
abbrev g_D_cell : lm_G := (k_D_cell, fl_D, sl_D, 0, 1, none)
set_option maxRecDepth 20000 in
theorem ck_D_cell : ∀ pc r, k_D_cell.lookup pc = some r → lm_ck b_D_cell 2 pc r = true := kk_ck (by decide +kernel)
set_option maxRecDepth 20000 in
theorem yw_D_cell : kk_yw y_D_cell b_D_cell 2 (some .int) 1 (some 0) := ⟨kk_tm 336 (by rfl) rfl, (kk_tm 1 (by decide +kernel) (by decide +kernel)), ⟨by decide, by decide, by decide +kernel⟩, Or.inr ⟨0, F_D, 4, rfl, rfl, (kk_tm 334 (by decide +kernel) (by decide +kernel)), (kk_tm 335 (by decide +kernel) (by decide +kernel))⟩⟩
def k_D_register : List (Nat × lm_R) := [(0, .iload_n 1, 1, 0, 0), (1, .invokestatic 48, 4, 0, 0), (4, .ifCond .eq (15), 7, 0, 19), (7, .aload_n 0, 8, 0, 0), (8, .getfield 10, 11, 0, 0), (11, .getfield 51, 14, 0, 0), (14, .iload_n 1, 15, 0, 0), (15, .iaload, 16, 0, 0), (16, .goto (4), 19, 0, 20), (19, .iconst (-1), 20, (-1), 0), (20, .ireturn, 21, 0, 0)]
abbrev g_D_register : lm_G := (k_D_register, fl_D, sl_D, 0, 1, none)
set_option maxRecDepth 20000 in
theorem ck_D_register : ∀ pc r, k_D_register.lookup pc = some r → lm_ck b_D_register 2 pc r = true := kk_ck (by decide +kernel)
set_option maxRecDepth 20000 in
theorem yw_D_register : kk_yw y_D_register b_D_register 2 (some .int) 1 (some 0) := ⟨kk_tm 340 (by rfl) rfl, (kk_tm 1 (by decide +kernel) (by decide +kernel)), ⟨by decide, by decide, by decide +kernel⟩, Or.inr ⟨0, F_D, 4, rfl, rfl, (kk_tm 338 (by decide +kernel) (by decide +kernel)), (kk_tm 339 (by decide +kernel) (by decide +kernel))⟩⟩
def k_D_waiting : List (Nat × lm_R) := [(0, .aload_n 0, 1, 0, 0), (1, .getfield 10, 4, 0, 0), (4, .invokevirtual 57, 7, 0, 0), (7, .ireturn, 8, 0, 0)]
abbrev g_D_waiting : lm_G := (k_D_waiting, fl_D, sl_D, 0, 1, none)
set_option maxRecDepth 20000 in
theorem ck_D_waiting : ∀ pc r, k_D_waiting.lookup pc = some r → lm_ck b_D_waiting 1 pc r = true := kk_ck (by decide +kernel)
set_option maxRecDepth 20000 in
theorem yw_D_waiting : kk_yw y_D_waiting b_D_waiting 1 (some .int) 0 (some 0) := ⟨kk_tm 344 (by rfl) rfl, (kk_tm 1 (by decide +kernel) (by decide +kernel)), ⟨by decide, by decide, by decide +kernel⟩, Or.inr ⟨0, F_D, 4, rfl, rfl, (kk_tm 342 (by decide +kernel) (by decide +kernel)), (kk_tm 343 (by decide +kernel) (by decide +kernel))⟩⟩
def k_D_puts : List (Nat × lm_R) := [(0, .aload_n 0, 1, 0, 0), (1, .getfield 10, 4, 0, 0), (4, .getfield 90, 7, 0, 0), (7, .aload_n 0, 8, 0, 0), (8, .getfield 10, 11, 0, 0), (11, .getfield 51, 14, 0, 0), (14, .bipush (8), 16, 8, 0), (16, .iaload, 17, 0, 0), (17, .iadd, 18, 0, 0), (18, .ireturn, 19, 0, 0)]
abbrev g_D_puts : lm_G := (k_D_puts, fl_D, sl_D, 0, 1, none)
set_option maxRecDepth 20000 in
theorem ck_D_puts : ∀ pc r, k_D_puts.lookup pc = some r → lm_ck b_D_puts 1 pc r = true := kk_ck (by decide +kernel)
set_option maxRecDepth 20000 in
theorem yw_D_puts : kk_yw y_D_puts b_D_puts 1 (some .int) 0 (some 0) := ⟨kk_tm 348 (by rfl) rfl, (kk_tm 1 (by decide +kernel) (by decide +kernel)), ⟨by decide, by decide, by decide +kernel⟩, Or.inr ⟨0, F_D, 4, rfl, rfl, (kk_tm 346 (by decide +kernel) (by decide +kernel)), (kk_tm 347 (by decide +kernel) (by decide +kernel))⟩⟩
def k_D_output : List (Nat × lm_R) := [(0, .iload_n 1, 1, 0, 0), (1, .ifCond .lt (9), 4, 0, 10), (4, .iload_n 1, 5, 0, 0), (5, .bipush (8), 7, 8, 0), (7, .if_icmp .lt (7), 10, 0, 14), (10, .iconst (-1), 11, (-1), 0), (11, .goto (11), 14, 0, 22), (14, .aload_n 0, 15, 0, 0), (15, .getfield 10, 18, 0, 0), (18, .iload_n 1, 19, 0, 0), (19, .invokevirtual 93, 22, 0, 0), (22, .ireturn, 23, 0, 0)]
abbrev g_D_output : lm_G := (k_D_output, fl_D, sl_D, 0, 1, none)
set_option maxRecDepth 20000 in
theorem ck_D_output : ∀ pc r, k_D_output.lookup pc = some r → lm_ck b_D_output 2 pc r = true := kk_ck (by decide +kernel)
set_option maxRecDepth 20000 in
theorem yw_D_output : kk_yw y_D_output b_D_output 2 (some .int) 1 (some 0) := ⟨kk_tm 352 (by rfl) rfl, (kk_tm 1 (by decide +kernel) (by decide +kernel)), ⟨by decide, by decide, by decide +kernel⟩, Or.inr ⟨0, F_D, 4, rfl, rfl, (kk_tm 350 (by decide +kernel) (by decide +kernel)), (kk_tm 351 (by decide +kernel) (by decide +kernel))⟩⟩
theorem li_D_93 : kk_li R_D 93 y_M_outputBehind := Or.inl (kk_tm 353 (by decide +kernel) (by decide +kernel))
def k_D_wrote : List (Nat × lm_R) := [(0, .aload_n 0, 1, 0, 0), (1, .getfield 19, 4, 0, 0), (4, .iload_n 1, 5, 0, 0), (5, .invokevirtual 97, 8, 0, 0), (8, .ireturn, 9, 0, 0)]
abbrev g_D_wrote : lm_G := (k_D_wrote, fl_D, sl_D, 0, 1, none)
set_option maxRecDepth 20000 in
theorem ck_D_wrote : ∀ pc r, k_D_wrote.lookup pc = some r → lm_ck b_D_wrote 2 pc r = true := kk_ck (by decide +kernel)
set_option maxRecDepth 20000 in
theorem yw_D_wrote : kk_yw y_D_wrote b_D_wrote 2 (some .int) 1 (some 0) := ⟨kk_tm 360 (by rfl) rfl, (kk_tm 1 (by decide +kernel) (by decide +kernel)), ⟨by decide, by decide, by decide +kernel⟩, Or.inr ⟨0, F_D, 4, rfl, rfl, (kk_tm 358 (by decide +kernel) (by decide +kernel)), (kk_tm 359 (by decide +kernel) (by decide +kernel))⟩⟩
theorem li_D_97 : kk_li R_D 97 y_H_lastPlaceWritten := Or.inl (kk_tm 361 (by decide +kernel) (by decide +kernel))
def k_D_isAddress : List (Nat × lm_R) := [(0, .iload_n 0, 1, 0, 0), (1, .ifCond .lt (14), 4, 0, 15), (4, .iload_n 0, 5, 0, 0), (5, .sipush (512), 8, 512, 0), (8, .if_icmp .ge (7), 11, 0, 15), (11, .iconst 1, 12, 1, 0), (12, .goto (4), 15, 0, 16), (15, .iconst 0, 16, 0, 0), (16, .ireturn, 17, 0, 0)]
abbrev g_D_isAddress : lm_G := (k_D_isAddress, fl_D, sl_D, 0, 2, none)
set_option maxRecDepth 20000 in
theorem ck_D_isAddress : ∀ pc r, k_D_isAddress.lookup pc = some r → lm_ck b_D_isAddress 1 pc r = true := kk_ck (by decide +kernel)
set_option maxRecDepth 20000 in
theorem yw_D_isAddress : kk_yw y_D_isAddress b_D_isAddress 1 (some .boolean) 1 none := ⟨kk_tm 125 (by rfl) rfl, (kk_tm 1 (by decide +kernel) (by decide +kernel)), ⟨by decide, by decide, by decide +kernel⟩, Or.inl ⟨rfl, (kk_tm 124 (by decide +kernel) (by decide +kernel))⟩⟩
def k_D_isRegister : List (Nat × lm_R) := [(0, .iload_n 0, 1, 0, 0), (1, .ifCond .lt (13), 4, 0, 14), (4, .iload_n 0, 5, 0, 0), (5, .bipush (6), 7, 6, 0), (7, .if_icmp .gt (7), 10, 0, 14), (10, .iconst 1, 11, 1, 0), (11, .goto (4), 14, 0, 15), (14, .iconst 0, 15, 0, 0), (15, .ireturn, 16, 0, 0)]
abbrev g_D_isRegister : lm_G := (k_D_isRegister, fl_D, sl_D, 0, 2, none)
set_option maxRecDepth 20000 in
theorem ck_D_isRegister : ∀ pc r, k_D_isRegister.lookup pc = some r → lm_ck b_D_isRegister 1 pc r = true := kk_ck (by decide +kernel)
set_option maxRecDepth 20000 in
theorem yw_D_isRegister : kk_yw y_D_isRegister b_D_isRegister 1 (some .boolean) 1 none := ⟨kk_tm 140 (by rfl) rfl, (kk_tm 1 (by decide +kernel) (by decide +kernel)), ⟨by decide, by decide, by decide +kernel⟩, Or.inl ⟨rfl, (kk_tm 139 (by decide +kernel) (by decide +kernel))⟩⟩
def k_D_beginAnew : List (Nat × lm_R) := [(0, .aload_n 0, 1, 0, 0), (1, .getfield 10, 4, 0, 0), (4, .invokevirtual 100, 7, 0, 0), (7, .aload_n 0, 8, 0, 0), (8, .getfield 19, 11, 0, 0), (11, .aload_n 0, 12, 0, 0), (12, .getfield 10, 15, 0, 0), (15, .invokevirtual 33, 18, 0, 0), (18, .return_, 19, 0, 0)]
abbrev g_D_beginAnew : lm_G := (k_D_beginAnew, fl_D, sl_D, 0, 0, none)
set_option maxRecDepth 20000 in
theorem ck_D_beginAnew : ∀ pc r, k_D_beginAnew.lookup pc = some r → lm_ck b_D_beginAnew 1 pc r = true := kk_ck (by decide +kernel)
set_option maxRecDepth 20000 in
theorem yw_D_beginAnew : kk_yw y_D_beginAnew b_D_beginAnew 1 (none) 0 (some 0) := ⟨kk_tm 129 (by rfl) rfl, (kk_tm 1 (by decide +kernel) (by decide +kernel)), ⟨by decide, by decide, by decide +kernel⟩, Or.inr ⟨0, F_D, 4, rfl, rfl, (kk_tm 128 (by decide +kernel) (by decide +kernel)), (kk_sm 1 (by decide +kernel) (by decide +kernel))⟩⟩
theorem li_D_100 : kk_li R_D 100 y_M_dropOldOutputs := Or.inl (kk_tm 130 (by decide +kernel) (by decide +kernel))
theorem li_D_33 : kk_li R_D 33 y_H_begin := Or.inl (kk_tm 95 (by decide +kernel) (by decide +kernel))
def k_D_stepOn : List (Nat × lm_R) := [(0, .aload_n 0, 1, 0, 0), (1, .getfield 19, 4, 0, 0), (4, .getfield 80, 7, 0, 0), (7, .aload_n 0, 8, 0, 0), (8, .getfield 19, 11, 0, 0), (11, .getfield 72, 14, 0, 0), (14, .if_icmp .ge (25), 17, 0, 39), (17, .aload_n 0, 18, 0, 0), (18, .getfield 19, 21, 0, 0), (21, .aload_n 0, 22, 0, 0), (22, .getfield 19, 25, 0, 0), (25, .getfield 80, 28, 0, 0), (28, .iconst 1, 29, 1, 0), (29, .iadd, 30, 0, 0), (30, .aload_n 0, 31, 0, 0), (31, .getfield 10, 34, 0, 0), (34, .invokevirtual 76, 37, 0, 0), (37, .iconst 1, 38, 1, 0), (38, .ireturn, 39, 0, 0), (39, .aload_n 0, 40, 0, 0), (40, .getfield 10, 43, 0, 0), (43, .getfield 51, 46, 0, 0), (46, .bipush (6), 48, 6, 0), (48, .iaload, 49, 0, 0), (49, .ifCond .ne (16), 52, 0, 65), (52, .aload_n 0, 53, 0, 0), (53, .getfield 19, 56, 0, 0), (56, .getfield 72, 59, 0, 0), (59, .sipush (300), 62, 300, 0), (62, .if_icmp .lt (5), 65, 0, 67), (65, .iconst 0, 66, 0, 0), (66, .ireturn, 67, 0, 0), (67, .aload_n 0, 68, 0, 0), (68, .getfield 10, 71, 0, 0), (71, .invokevirtual 103, 74, 0, 0), (74, .aload_n 0, 75, 0, 0), (75, .getfield 19, 78, 0, 0), (78, .aload_n 0, 79, 0, 0), (79, .getfield 10, 82, 0, 0), (82, .invokevirtual 106, 85, 0, 0), (85, .iconst 1, 86, 1, 0), (86, .ireturn, 87, 0, 0)]
abbrev g_D_stepOn : lm_G := (k_D_stepOn, fl_D, sl_D, 0, 2, none)
set_option maxRecDepth 20000 in
theorem ck_D_stepOn : ∀ pc r, k_D_stepOn.lookup pc = some r → lm_ck b_D_stepOn 1 pc r = true := kk_ck (by decide +kernel)
set_option maxRecDepth 20000 in
theorem yw_D_stepOn : kk_yw y_D_stepOn b_D_stepOn 1 (some .boolean) 0 (some 0) := ⟨kk_tm 168 (by rfl) rfl, (kk_tm 1 (by decide +kernel) (by decide +kernel)), ⟨by decide, by decide, by decide +kernel⟩, Or.inr ⟨0, F_D, 4, rfl, rfl, (kk_tm 167 (by decide +kernel) (by decide +kernel)), (kk_sm 2 (by decide +kernel) (by decide +kernel))⟩⟩
theorem li_D_103 : kk_li R_D 103 y_M_makeStep := Or.inl (kk_tm 178 (by decide +kernel) (by decide +kernel))
theorem li_D_106 : kk_li R_D 106 y_H_append := Or.inl (kk_tm 289 (by decide +kernel) (by decide +kernel))
def k_D_isMet : List (Nat × lm_R) := [(0, .aload_n 0, 1, 0, 0), (1, .getfield 26, 4, 0, 0), (4, .aload_n 0, 5, 0, 0), (5, .getfield 19, 8, 0, 0), (8, .iload_n 1, 9, 0, 0), (9, .invokevirtual 109, 12, 0, 0), (12, .invokevirtual 65, 15, 0, 0), (15, .ifCond .ne (41), 18, 0, 56), (18, .aload_n 0, 19, 0, 0), (19, .getfield 30, 22, 0, 0), (22, .aload_n 0, 23, 0, 0), (23, .getfield 19, 26, 0, 0), (26, .iload_n 1, 27, 0, 0), (27, .iconst 0, 28, 0, 0), (28, .invokevirtual 112, 31, 0, 0), (31, .invokevirtual 65, 34, 0, 0), (34, .ifCond .ne (22), 37, 0, 56), (37, .aload_n 0, 38, 0, 0), (38, .getfield 30, 41, 0, 0), (41, .aload_n 0, 42, 0, 0), (42, .getfield 19, 45, 0, 0), (45, .iload_n 1, 46, 0, 0), (46, .iconst 1, 47, 1, 0), (47, .invokevirtual 112, 50, 0, 0), (50, .invokevirtual 65, 53, 0, 0), (53, .ifCond .eq (7), 56, 0, 60), (56, .iconst 1, 57, 1, 0), (57, .goto (4), 60, 0, 61), (60, .iconst 0, 61, 0, 0), (61, .ireturn, 62, 0, 0)]
abbrev g_D_isMet : lm_G := (k_D_isMet, fl_D, sl_D, 0, 2, none)
set_option maxRecDepth 20000 in
theorem ck_D_isMet : ∀ pc r, k_D_isMet.lookup pc = some r → lm_ck b_D_isMet 2 pc r = true := kk_ck (by decide +kernel)
set_option maxRecDepth 20000 in
theorem yw_D_isMet : kk_yw y_D_isMet b_D_isMet 2 (some .boolean) 1 (some 0) := ⟨kk_tm 304 (by rfl) rfl, (kk_tm 1 (by decide +kernel) (by decide +kernel)), ⟨by decide, by decide, by decide +kernel⟩, Or.inr ⟨0, F_D, 4, rfl, rfl, (kk_tm 303 (by decide +kernel) (by decide +kernel)), (kk_sm 29 (by decide +kernel) (by decide +kernel))⟩⟩
theorem li_D_109 : kk_li R_D 109 y_H_counterAt := Or.inl (kk_tm 305 (by decide +kernel) (by decide +kernel))
theorem li_D_112 : kk_li R_D 112 y_H_placeWritten := Or.inl (kk_tm 309 (by decide +kernel) (by decide +kernel))
def k_R_within : List (Nat × lm_R) := [(0, .iload_n 0, 1, 0, 0), (1, .ifCond .lt (12), 4, 0, 13), (4, .iload_n 0, 5, 0, 0), (5, .iload_n 1, 6, 0, 0), (6, .if_icmp .gt (7), 9, 0, 13), (9, .iconst 1, 10, 1, 0), (10, .goto (4), 13, 0, 14), (13, .iconst 0, 14, 0, 0), (14, .ireturn, 15, 0, 0)]
abbrev g_R_within : lm_G := (k_R_within, fl_R, sl_R, 0, 2, none)
set_option maxRecDepth 20000 in
theorem ck_R_within : ∀ pc r, k_R_within.lookup pc = some r → lm_ck b_R_within 2 pc r = true := kk_ck (by decide +kernel)
set_option maxRecDepth 20000 in
theorem yw_R_within : kk_yw y_R_within b_R_within 2 (some .boolean) 2 none := ⟨kk_tm 413 (by rfl) rfl, (kk_tm 6 (by decide +kernel) (by decide +kernel)), ⟨by decide, by decide, by decide +kernel⟩, Or.inl ⟨rfl, (kk_tm 412 (by decide +kernel) (by decide +kernel))⟩⟩
def k_R_anew : List (Nat × lm_R) := [(0, .iconst 0, 1, 0, 0), (1, .istore_n 1, 2, 0, 0), (2, .iload_n 1, 3, 0, 0), (3, .sipush (569), 6, 569, 0), (6, .if_icmp .ge (21), 9, 0, 27), (9, .aload_n 0, 10, 0, 0), (10, .getfield 7, 13, 0, 0), (13, .iload_n 1, 14, 0, 0), (14, .aload_n 0, 15, 0, 0), (15, .getfield 13, 18, 0, 0), (18, .iload_n 1, 19, 0, 0), (19, .iaload, 20, 0, 0), (20, .iastore, 21, 0, 0), (21, .iinc 1 (1), 24, 1, 0), (24, .goto (-22), 27, 0, 2), (27, .aload_n 0, 28, 0, 0), (28, .iconst 0, 29, 0, 0), (29, .putfield 25, 32, 0, 0), (32, .aload_n 0, 33, 0, 0), (33, .iconst 0, 34, 0, 0), (34, .putfield 29, 37, 0, 0), (37, .return_, 38, 0, 0)]
abbrev g_R_anew : lm_G := (k_R_anew, fl_R, sl_R, 0, 0, none)
set_option maxRecDepth 20000 in
theorem ck_R_anew : ∀ pc r, k_R_anew.lookup pc = some r → lm_ck b_R_anew 2 pc r = true := kk_ck (by decide +kernel)
set_option maxRecDepth 20000 in
theorem yw_R_anew : kk_yw y_R_anew b_R_anew 2 (none) 0 (some 4) := ⟨kk_tm 375 (by rfl) rfl, (kk_tm 6 (by decide +kernel) (by decide +kernel)), ⟨by decide, by decide, by decide +kernel⟩, Or.inr ⟨4, F_R, 10, rfl, rfl, (kk_tm 374 (by decide +kernel) (by decide +kernel)), (kk_sm 30 (by decide +kernel) (by decide +kernel))⟩⟩
def k_R_poke : List (Nat × lm_R) := [(0, .iload_n 1, 1, 0, 0), (1, .sipush (511), 4, 511, 0), (4, .invokestatic 32, 7, 0, 0), (7, .ifCond .ne (5), 10, 0, 12), (10, .iconst 0, 11, 0, 0), (11, .ireturn, 12, 0, 0), (12, .aload_n 0, 13, 0, 0), (13, .getfield 13, 16, 0, 0), (16, .iload_n 1, 17, 0, 0), (17, .iload_n 2, 18, 0, 0), (18, .sipush (255), 21, 255, 0), (21, .iand, 22, 0, 0), (22, .iastore, 23, 0, 0), (23, .aload_n 0, 24, 0, 0), (24, .invokevirtual 22, 27, 0, 0), (27, .iconst 1, 28, 1, 0), (28, .ireturn, 29, 0, 0)]
abbrev g_R_poke : lm_G := (k_R_poke, fl_R, sl_R, 0, 2, none)
set_option maxRecDepth 20000 in
theorem ck_R_poke : ∀ pc r, k_R_poke.lookup pc = some r → lm_ck b_R_poke 3 pc r = true := kk_ck (by decide +kernel)
set_option maxRecDepth 20000 in
theorem yw_R_poke : kk_yw y_R_poke b_R_poke 3 (some .boolean) 2 (some 4) := ⟨kk_tm 410 (by rfl) rfl, (kk_tm 6 (by decide +kernel) (by decide +kernel)), ⟨by decide, by decide, by decide +kernel⟩, Or.inr ⟨4, F_R, 10, rfl, rfl, (kk_tm 408 (by decide +kernel) (by decide +kernel)), (kk_tm 409 (by decide +kernel) (by decide +kernel))⟩⟩
theorem li_R_32 : kk_li R_R 32 y_R_within := Or.inl (kk_tm 411 (by decide +kernel) (by decide +kernel))
theorem li_R_22 : kk_li R_R 22 y_R_anew := Or.inl (kk_tm 372 (by decide +kernel) (by decide +kernel))
def k_R_set : List (Nat × lm_R) := [(0, .iload_n 1, 1, 0, 0), (1, .bipush (6), 3, 6, 0), (3, .invokestatic 32, 6, 0, 0), (6, .ifCond .ne (5), 9, 0, 11), (9, .iconst 0, 10, 0, 0), (10, .ireturn, 11, 0, 0), (11, .aload_n 0, 12, 0, 0), (12, .getfield 13, 15, 0, 0), (15, .sipush (512), 18, 512, 0), (18, .iload_n 1, 19, 0, 0), (19, .iadd, 20, 0, 0), (20, .iload_n 1, 21, 0, 0), (21, .iconst 4, 22, 4, 0), (22, .if_icmp .ge (11), 25, 0, 33), (25, .iload_n 2, 26, 0, 0), (26, .sipush (255), 29, 255, 0), (29, .iand, 30, 0, 0), (30, .goto (38), 33, 0, 68), (33, .iload_n 1, 34, 0, 0), (34, .iconst 4, 35, 4, 0), (35, .if_icmp .ne (11), 38, 0, 46), (38, .iload_n 2, 39, 0, 0), (39, .sipush (195), 42, 195, 0), (42, .iand, 43, 0, 0), (43, .goto (25), 46, 0, 68), (46, .iload_n 1, 47, 0, 0), (47, .iconst 5, 48, 5, 0), (48, .if_icmp .ne (11), 51, 0, 59), (51, .iload_n 2, 52, 0, 0), (52, .sipush (511), 55, 511, 0), (55, .iand, 56, 0, 0), (56, .goto (12), 59, 0, 68), (59, .iload_n 2, 60, 0, 0), (60, .ifCond .eq (7), 63, 0, 67), (63, .iconst 1, 64, 1, 0), (64, .goto (4), 67, 0, 68), (67, .iconst 0, 68, 0, 0), (68, .iastore, 69, 0, 0), (69, .aload_n 0, 70, 0, 0), (70, .invokevirtual 22, 73, 0, 0), (73, .iconst 1, 74, 1, 0), (74, .ireturn, 75, 0, 0)]
abbrev g_R_set : lm_G := (k_R_set, fl_R, sl_R, 0, 2, none)
set_option maxRecDepth 20000 in
theorem ck_R_set : ∀ pc r, k_R_set.lookup pc = some r → lm_ck b_R_set 3 pc r = true := kk_ck (by decide +kernel)
set_option maxRecDepth 20000 in
theorem yw_R_set : kk_yw y_R_set b_R_set 3 (some .boolean) 2 (some 4) := ⟨kk_tm 417 (by rfl) rfl, (kk_tm 6 (by decide +kernel) (by decide +kernel)), ⟨by decide, by decide, by decide +kernel⟩, Or.inr ⟨4, F_R, 10, rfl, rfl, (kk_tm 415 (by decide +kernel) (by decide +kernel)), (kk_tm 416 (by decide +kernel) (by decide +kernel))⟩⟩
def k_R_feed : List (Nat × lm_R) := [(0, .aload_n 0, 1, 0, 0), (1, .getfield 13, 4, 0, 0), (4, .sipush (519), 7, 519, 0), (7, .iaload, 8, 0, 0), (8, .bipush (40), 10, 40, 0), (10, .if_icmp .ne (5), 13, 0, 15), (13, .iconst 0, 14, 0, 0), (14, .ireturn, 15, 0, 0), (15, .aload_n 0, 16, 0, 0), (16, .getfield 13, 19, 0, 0), (19, .sipush (520), 22, 520, 0), (22, .aload_n 0, 23, 0, 0), (23, .getfield 13, 26, 0, 0), (26, .sipush (519), 29, 519, 0), (29, .iaload, 30, 0, 0), (30, .iadd, 31, 0, 0), (31, .iload_n 1, 32, 0, 0), (32, .sipush (255), 35, 255, 0), (35, .iand, 36, 0, 0), (36, .iastore, 37, 0, 0), (37, .aload_n 0, 38, 0, 0), (38, .getfield 13, 41, 0, 0), (41, .sipush (519), 44, 519, 0), (44, .aload_n 0, 45, 0, 0), (45, .getfield 13, 48, 0, 0), (48, .sipush (519), 51, 519, 0), (51, .iaload, 52, 0, 0), (52, .iconst 1, 53, 1, 0), (53, .iadd, 54, 0, 0), (54, .iastore, 55, 0, 0), (55, .aload_n 0, 56, 0, 0), (56, .invokevirtual 22, 59, 0, 0), (59, .iconst 1, 60, 1, 0), (60, .ireturn, 61, 0, 0)]
abbrev g_R_feed : lm_G := (k_R_feed, fl_R, sl_R, 0, 2, none)
set_option maxRecDepth 20000 in
theorem ck_R_feed : ∀ pc r, k_R_feed.lookup pc = some r → lm_ck b_R_feed 2 pc r = true := kk_ck (by decide +kernel)
set_option maxRecDepth 20000 in
theorem yw_R_feed : kk_yw y_R_feed b_R_feed 2 (some .boolean) 1 (some 4) := ⟨kk_tm 421 (by rfl) rfl, (kk_tm 6 (by decide +kernel) (by decide +kernel)), ⟨by decide, by decide, by decide +kernel⟩, Or.inr ⟨4, F_R, 10, rfl, rfl, (kk_tm 419 (by decide +kernel) (by decide +kernel)), (kk_tm 420 (by decide +kernel) (by decide +kernel))⟩⟩
def k_R_flag : List (Nat × lm_R) := [(0, .aload_n 0, 1, 0, 0), (1, .getfield 13, 4, 0, 0), (4, .sipush (516), 7, 516, 0), (7, .iload_n 2, 8, 0, 0), (8, .ifCond .eq (16), 11, 0, 24), (11, .aload_n 0, 12, 0, 0), (12, .getfield 13, 15, 0, 0), (15, .sipush (516), 18, 516, 0), (18, .iaload, 19, 0, 0), (19, .iload_n 1, 20, 0, 0), (20, .ior, 21, 0, 0), (21, .goto (15), 24, 0, 36), (24, .aload_n 0, 25, 0, 0), (25, .getfield 13, 28, 0, 0), (28, .sipush (516), 31, 516, 0), (31, .iaload, 32, 0, 0), (32, .iload_n 1, 33, 0, 0), (33, .iconst (-1), 34, (-1), 0), (34, .ixor, 35, 0, 0), (35, .iand, 36, 0, 0), (36, .iastore, 37, 0, 0), (37, .return_, 38, 0, 0)]
abbrev g_R_flag : lm_G := (k_R_flag, fl_R, sl_R, 0, 0, none)
set_option maxRecDepth 20000 in
theorem ck_R_flag : ∀ pc r, k_R_flag.lookup pc = some r → lm_ck b_R_flag 3 pc r = true := kk_ck (by decide +kernel)
set_option maxRecDepth 20000 in
theorem yw_R_flag : kk_yw y_R_flag b_R_flag 3 (none) 2 (some 4) := ⟨kk_tm 451 (by rfl) rfl, (kk_tm 6 (by decide +kernel) (by decide +kernel)), ⟨by decide, by decide, by decide +kernel⟩, Or.inr ⟨4, F_R, 10, rfl, rfl, (kk_tm 450 (by decide +kernel) (by decide +kernel)), (kk_sm 35 (by decide +kernel) (by decide +kernel))⟩⟩
def k_R_marked : List (Nat × lm_R) := [(0, .aload_n 0, 1, 0, 0), (1, .sipush (128), 4, 128, 0), (4, .iload_n 1, 5, 0, 0), (5, .sipush (128), 8, 128, 0), (8, .iand, 9, 0, 0), (9, .ifCond .eq (7), 12, 0, 16), (12, .iconst 1, 13, 1, 0), (13, .goto (4), 16, 0, 17), (16, .iconst 0, 17, 0, 0), (17, .invokevirtual 36, 20, 0, 0), (20, .aload_n 0, 21, 0, 0), (21, .iconst 2, 22, 2, 0), (22, .iload_n 1, 23, 0, 0), (23, .sipush (255), 26, 255, 0), (26, .iand, 27, 0, 0), (27, .ifCond .ne (7), 30, 0, 34), (30, .iconst 1, 31, 1, 0), (31, .goto (4), 34, 0, 35), (34, .iconst 0, 35, 0, 0), (35, .invokevirtual 36, 38, 0, 0), (38, .iload_n 1, 39, 0, 0), (39, .sipush (255), 42, 255, 0), (42, .iand, 43, 0, 0), (43, .ireturn, 44, 0, 0)]
abbrev g_R_marked : lm_G := (k_R_marked, fl_R, sl_R, 0, 1, none)
set_option maxRecDepth 20000 in
theorem ck_R_marked : ∀ pc r, k_R_marked.lookup pc = some r → lm_ck b_R_marked 2 pc r = true := kk_ck (by decide +kernel)
set_option maxRecDepth 20000 in
theorem yw_R_marked : kk_yw y_R_marked b_R_marked 2 (some .int) 1 (some 4) := ⟨kk_tm 447 (by rfl) rfl, (kk_tm 6 (by decide +kernel) (by decide +kernel)), ⟨by decide, by decide, by decide +kernel⟩, Or.inr ⟨4, F_R, 10, rfl, rfl, (kk_tm 446 (by decide +kernel) (by decide +kernel)), (kk_sm 34 (by decide +kernel) (by decide +kernel))⟩⟩
theorem li_R_36 : kk_li R_R 36 y_R_flag := Or.inl (kk_tm 448 (by decide +kernel) (by decide +kernel))
def k_R_write : List (Nat × lm_R) := [(0, .aload_n 0, 1, 0, 0), (1, .getfield 13, 4, 0, 0), (4, .iload_n 1, 5, 0, 0), (5, .iload_n 2, 6, 0, 0), (6, .sipush (255), 9, 255, 0), (9, .iand, 10, 0, 0), (10, .iastore, 11, 0, 0), (11, .aload_n 0, 12, 0, 0), (12, .aload_n 0, 13, 0, 0), (13, .getfield 40, 16, 0, 0), (16, .putfield 43, 19, 0, 0), (19, .aload_n 0, 20, 0, 0), (20, .iload_n 1, 21, 0, 0), (21, .putfield 40, 24, 0, 0), (24, .return_, 25, 0, 0)]
abbrev g_R_write : lm_G := (k_R_write, fl_R, sl_R, 0, 0, none)
set_option maxRecDepth 20000 in
theorem ck_R_write : ∀ pc r, k_R_write.lookup pc = some r → lm_ck b_R_write 3 pc r = true := kk_ck (by decide +kernel)
set_option maxRecDepth 20000 in
theorem yw_R_write : kk_yw y_R_write b_R_write 3 (none) 2 (some 4) := ⟨kk_tm 459 (by rfl) rfl, (kk_tm 6 (by decide +kernel) (by decide +kernel)), ⟨by decide, by decide, by decide +kernel⟩, Or.inr ⟨4, F_R, 10, rfl, rfl, (kk_tm 458 (by decide +kernel) (by decide +kernel)), (kk_sm 37 (by decide +kernel) (by decide +kernel))⟩⟩
def k_R_push : List (Nat × lm_R) := [(0, .aload_n 0, 1, 0, 0), (1, .sipush (256), 4, 256, 0), (4, .aload_n 0, 5, 0, 0), (5, .getfield 13, 8, 0, 0), (8, .sipush (515), 11, 515, 0), (11, .iaload, 12, 0, 0), (12, .iadd, 13, 0, 0), (13, .iload_n 1, 14, 0, 0), (14, .invokevirtual 46, 17, 0, 0), (17, .aload_n 0, 18, 0, 0), (18, .getfield 13, 21, 0, 0), (21, .sipush (515), 24, 515, 0), (24, .aload_n 0, 25, 0, 0), (25, .getfield 13, 28, 0, 0), (28, .sipush (515), 31, 515, 0), (31, .iaload, 32, 0, 0), (32, .iconst 1, 33, 1, 0), (33, .isub, 34, 0, 0), (34, .sipush (255), 37, 255, 0), (37, .iand, 38, 0, 0), (38, .iastore, 39, 0, 0), (39, .return_, 40, 0, 0)]
abbrev g_R_push : lm_G := (k_R_push, fl_R, sl_R, 0, 0, none)
set_option maxRecDepth 20000 in
theorem ck_R_push : ∀ pc r, k_R_push.lookup pc = some r → lm_ck b_R_push 2 pc r = true := kk_ck (by decide +kernel)
set_option maxRecDepth 20000 in
theorem yw_R_push : kk_yw y_R_push b_R_push 2 (none) 1 (some 4) := ⟨kk_tm 471 (by rfl) rfl, (kk_tm 6 (by decide +kernel) (by decide +kernel)), ⟨by decide, by decide, by decide +kernel⟩, Or.inr ⟨4, F_R, 10, rfl, rfl, (kk_tm 470 (by decide +kernel) (by decide +kernel)), (kk_sm 40 (by decide +kernel) (by decide +kernel))⟩⟩
theorem li_R_46 : kk_li R_R 46 y_R_write := Or.inl (kk_tm 456 (by decide +kernel) (by decide +kernel))
def k_R_pull : List (Nat × lm_R) := [(0, .aload_n 0, 1, 0, 0), (1, .getfield 13, 4, 0, 0), (4, .sipush (515), 7, 515, 0), (7, .aload_n 0, 8, 0, 0), (8, .getfield 13, 11, 0, 0), (11, .sipush (515), 14, 515, 0), (14, .iaload, 15, 0, 0), (15, .iconst 1, 16, 1, 0), (16, .iadd, 17, 0, 0), (17, .sipush (255), 20, 255, 0), (20, .iand, 21, 0, 0), (21, .iastore, 22, 0, 0), (22, .aload_n 0, 23, 0, 0), (23, .getfield 13, 26, 0, 0), (26, .sipush (256), 29, 256, 0), (29, .aload_n 0, 30, 0, 0), (30, .getfield 13, 33, 0, 0), (33, .sipush (515), 36, 515, 0), (36, .iaload, 37, 0, 0), (37, .iadd, 38, 0, 0), (38, .iaload, 39, 0, 0), (39, .ireturn, 40, 0, 0)]
abbrev g_R_pull : lm_G := (k_R_pull, fl_R, sl_R, 0, 1, none)
set_option maxRecDepth 20000 in
theorem ck_R_pull : ∀ pc r, k_R_pull.lookup pc = some r → lm_ck b_R_pull 1 pc r = true := kk_ck (by decide +kernel)
set_option maxRecDepth 20000 in
theorem yw_R_pull : kk_yw y_R_pull b_R_pull 1 (some .int) 0 (some 4) := ⟨kk_tm 479 (by rfl) rfl, (kk_tm 6 (by decide +kernel) (by decide +kernel)), ⟨by decide, by decide, by decide +kernel⟩, Or.inr ⟨4, F_R, 10, rfl, rfl, (kk_tm 478 (by decide +kernel) (by decide +kernel)), (kk_sm 42 (by decide +kernel) (by decide +kernel))⟩⟩
def k_R_length : List (Nat × lm_R) := [(0, .iload_n 0, 1, 0, 0), (1, .bipush (22), 3, 22, 0), (3, .if_icmp .gt (29), 6, 0, 32), (6, .iload_n 1, 7, 0, 0), (7, .bipush (7), 9, 7, 0), (9, .if_icmp .ne (7), 12, 0, 16), (12, .iconst 1, 13, 1, 0), (13, .goto (18), 16, 0, 31), (16, .iload_n 1, 17, 0, 0), (17, .iconst 3, 18, 3, 0), (18, .if_icmp .lt (12), 21, 0, 30), (21, .iload_n 1, 22, 0, 0), (22, .iconst 5, 23, 5, 0), (23, .if_icmp .gt (7), 26, 0, 30), (26, .iconst 3, 27, 3, 0), (27, .goto (4), 30, 0, 31), (30, .iconst 2, 31, 2, 0), (31, .ireturn, 32, 0, 0), (32, .iload_n 0, 33, 0, 0), (33, .bipush (26), 35, 26, 0), (35, .if_icmp .ne (7), 38, 0, 42), (38, .iconst 2, 39, 2, 0), (39, .goto (4), 42, 0, 43), (42, .iconst 1, 43, 1, 0), (43, .ireturn, 44, 0, 0)]
abbrev g_R_length : lm_G := (k_R_length, fl_R, sl_R, 0, 1, none)
set_option maxRecDepth 20000 in
theorem ck_R_length : ∀ pc r, k_R_length.lookup pc = some r → lm_ck b_R_length 2 pc r = true := kk_ck (by decide +kernel)
set_option maxRecDepth 20000 in
theorem yw_R_length : kk_yw y_R_length b_R_length 2 (some .int) 2 none := ⟨kk_tm 435 (by rfl) rfl, (kk_tm 6 (by decide +kernel) (by decide +kernel)), ⟨by decide, by decide, by decide +kernel⟩, Or.inl ⟨rfl, (kk_tm 434 (by decide +kernel) (by decide +kernel))⟩⟩
def k_R_place : List (Nat × lm_R) := [(0, .iload_n 1, 1, 0, 0), (1, .tableswitch (97) 0 5 #[39, 41, 43, 58, 65, 81], 40, 0, 0), (40, .iload_n 2, 41, 0, 0), (41, .ireturn, 42, 0, 0), (42, .iload_n 3, 43, 0, 0), (43, .ireturn, 44, 0, 0), (44, .iload_n 3, 45, 0, 0), (45, .aload_n 0, 46, 0, 0), (46, .getfield 13, 49, 0, 0), (49, .sipush (513), 52, 513, 0), (52, .iaload, 53, 0, 0), (53, .iadd, 54, 0, 0), (54, .sipush (255), 57, 255, 0), (57, .iand, 58, 0, 0), (58, .ireturn, 59, 0, 0), (59, .iload 4, 61, 0, 0), (61, .sipush (511), 64, 511, 0), (64, .iand, 65, 0, 0), (65, .ireturn, 66, 0, 0), (66, .iload 4, 68, 0, 0), (68, .aload_n 0, 69, 0, 0), (69, .getfield 13, 72, 0, 0), (72, .sipush (513), 75, 513, 0), (75, .iaload, 76, 0, 0), (76, .iadd, 77, 0, 0), (77, .sipush (511), 80, 511, 0), (80, .iand, 81, 0, 0), (81, .ireturn, 82, 0, 0), (82, .iload 4, 84, 0, 0), (84, .aload_n 0, 85, 0, 0), (85, .getfield 13, 88, 0, 0), (88, .sipush (514), 91, 514, 0), (91, .iaload, 92, 0, 0), (92, .iadd, 93, 0, 0), (93, .sipush (511), 96, 511, 0), (96, .iand, 97, 0, 0), (97, .ireturn, 98, 0, 0), (98, .aload_n 0, 99, 0, 0), (99, .getfield 13, 102, 0, 0), (102, .iload_n 3, 103, 0, 0), (103, .iaload, 104, 0, 0), (104, .sipush (256), 107, 256, 0), (107, .aload_n 0, 108, 0, 0), (108, .getfield 13, 111, 0, 0), (111, .iload_n 3, 112, 0, 0), (112, .iconst 1, 113, 1, 0), (113, .iadd, 114, 0, 0), (114, .sipush (255), 117, 255, 0), (117, .iand, 118, 0, 0), (118, .iaload, 119, 0, 0), (119, .imul, 120, 0, 0), (120, .iadd, 121, 0, 0), (121, .aload_n 0, 122, 0, 0), (122, .getfield 13, 125, 0, 0), (125, .sipush (514), 128, 514, 0), (128, .iaload, 129, 0, 0), (129, .iadd, 130, 0, 0), (130, .sipush (511), 133, 511, 0), (133, .iand, 134, 0, 0), (134, .ireturn, 135, 0, 0)]
abbrev g_R_place : lm_G := (k_R_place, fl_R, sl_R, 0, 1, none)
set_option maxRecDepth 20000 in
theorem ck_R_place : ∀ pc r, k_R_place.lookup pc = some r → lm_ck b_R_place 5 pc r = true := kk_ck (by decide +kernel)
set_option maxRecDepth 20000 in
theorem yw_R_place : kk_yw y_R_place b_R_place 5 (some .int) 4 (some 4) := ⟨kk_tm 439 (by rfl) rfl, (kk_tm 6 (by decide +kernel) (by decide +kernel)), ⟨by decide, by decide, by decide +kernel⟩, Or.inr ⟨4, F_R, 10, rfl, rfl, (kk_tm 438 (by decide +kernel) (by decide +kernel)), (kk_sm 32 (by decide +kernel) (by decide +kernel))⟩⟩
def k_R_step : List (Nat × lm_R) := [(0, .aload_n 0, 1, 0, 0), (1, .iconst (-1), 2, (-1), 0), (2, .putfield 40, 5, 0, 0), (5, .aload_n 0, 6, 0, 0), (6, .iconst (-1), 7, (-1), 0), (7, .putfield 43, 10, 0, 0), (10, .aload_n 0, 11, 0, 0), (11, .getfield 13, 14, 0, 0), (14, .sipush (517), 17, 517, 0), (17, .iaload, 18, 0, 0), (18, .istore_n 1, 19, 0, 0), (19, .aload_n 0, 20, 0, 0), (20, .getfield 13, 23, 0, 0), (23, .iload_n 1, 24, 0, 0), (24, .iaload, 25, 0, 0), (25, .iconst 3, 26, 3, 0), (26, .ishr, 27, 0, 0), (27, .istore_n 2, 28, 0, 0), (28, .aload_n 0, 29, 0, 0), (29, .getfield 13, 32, 0, 0), (32, .iload_n 1, 33, 0, 0), (33, .iaload, 34, 0, 0), (34, .bipush (7), 36, 7, 0), (36, .iand, 37, 0, 0), (37, .istore_n 3, 38, 0, 0), (38, .iload_n 1, 39, 0, 0), (39, .iconst 1, 40, 1, 0), (40, .iadd, 41, 0, 0), (41, .sipush (511), 44, 511, 0), (44, .iand, 45, 0, 0), (45, .istore 4, 47, 0, 0), (47, .aload_n 0, 48, 0, 0), (48, .getfield 13, 51, 0, 0), (51, .iload 4, 53, 0, 0), (53, .iaload, 54, 0, 0), (54, .istore 5, 56, 0, 0), (56, .iload 5, 58, 0, 0), (58, .sipush (256), 61, 256, 0), (61, .aload_n 0, 62, 0, 0), (62, .getfield 13, 65, 0, 0), (65, .iload_n 1, 66, 0, 0), (66, .iconst 2, 67, 2, 0), (67, .iadd, 68, 0, 0), (68, .sipush (511), 71, 511, 0), (71, .iand, 72, 0, 0), (72, .iaload, 73, 0, 0), (73, .imul, 74, 0, 0), (74, .iadd, 75, 0, 0), (75, .istore 6, 77, 0, 0), (77, .aload_n 0, 78, 0, 0), (78, .getfield 13, 81, 0, 0), (81, .sipush (517), 84, 517, 0), (84, .iload_n 1, 85, 0, 0), (85, .iload_n 2, 86, 0, 0), (86, .iload_n 3, 87, 0, 0), (87, .invokestatic 50, 90, 0, 0), (90, .iadd, 91, 0, 0), (91, .sipush (511), 94, 511, 0), (94, .iand, 95, 0, 0), (95, .iastore, 96, 0, 0), (96, .iload_n 2, 97, 0, 0), (97, .bipush (20), 99, 20, 0), (99, .if_icmp .gt (34), 102, 0, 133), (102, .aload_n 0, 103, 0, 0), (103, .iload_n 2, 104, 0, 0), (104, .iload_n 3, 105, 0, 0), (105, .bipush (7), 107, 7, 0), (107, .if_icmp .ne (9), 110, 0, 116), (110, .sipush (512), 113, 512, 0), (113, .goto (14), 116, 0, 127), (116, .aload_n 0, 117, 0, 0), (117, .iload_n 3, 118, 0, 0), (118, .iload 4, 120, 0, 0), (120, .iload 5, 122, 0, 0), (122, .iload 6, 124, 0, 0), (124, .invokevirtual 54, 127, 0, 0), (127, .invokevirtual 58, 130, 0, 0), (130, .goto (138), 133, 0, 268), (133, .iload_n 2, 134, 0, 0), (134, .bipush (22), 136, 22, 0), (136, .if_icmp .gt (77), 139, 0, 213), (139, .iload_n 3, 140, 0, 0), (140, .ifCond .le (128), 143, 0, 268), (143, .iload_n 3, 144, 0, 0), (144, .bipush (7), 146, 7, 0), (146, .if_icmp .ge (122), 149, 0, 268), (149, .aload_n 0, 150, 0, 0), (150, .iload_n 3, 151, 0, 0), (151, .iload 4, 153, 0, 0), (153, .iload 5, 155, 0, 0), (155, .iload 6, 157, 0, 0), (157, .invokevirtual 54, 160, 0, 0), (160, .istore 7, 162, 0, 0), (162, .iload_n 2, 163, 0, 0), (163, .bipush (22), 165, 22, 0), (165, .if_icmp .ne (35), 168, 0, 200), (168, .aload_n 0, 169, 0, 0), (169, .aload_n 0, 170, 0, 0), (170, .getfield 13, 173, 0, 0), (173, .sipush (517), 176, 517, 0), (176, .iaload, 177, 0, 0), (177, .sipush (256), 180, 256, 0), (180, .idiv, 181, 0, 0), (181, .invokevirtual 61, 184, 0, 0), (184, .aload_n 0, 185, 0, 0), (185, .aload_n 0, 186, 0, 0), (186, .getfield 13, 189, 0, 0), (189, .sipush (517), 192, 517, 0), (192, .iaload, 193, 0, 0), (193, .sipush (255), 196, 255, 0), (196, .iand, 197, 0, 0), (197, .invokevirtual 61, 200, 0, 0), (200, .aload_n 0, 201, 0, 0), (201, .getfield 13, 204, 0, 0), (204, .sipush (517), 207, 517, 0), (207, .iload 7, 209, 0, 0), (209, .iastore, 210, 0, 0), (210, .goto (58), 213, 0, 268), (213, .iload_n 2, 214, 0, 0), (214, .bipush (23), 216, 23, 0), (216, .if_icmp .ne (11), 219, 0, 227), (219, .aload_n 0, 220, 0, 0), (220, .iload_n 3, 221, 0, 0), (221, .invokevirtual 65, 224, 0, 0), (224, .goto (44), 227, 0, 268), (227, .iload_n 2, 228, 0, 0), (228, .bipush (24), 230, 24, 0), (230, .if_icmp .ne (11), 233, 0, 241), (233, .aload_n 0, 234, 0, 0), (234, .iload_n 3, 235, 0, 0), (235, .invokevirtual 68, 238, 0, 0), (238, .goto (30), 241, 0, 268), (241, .iload_n 2, 242, 0, 0), (242, .bipush (25), 244, 25, 0), (244, .if_icmp .ne (11), 247, 0, 255), (247, .aload_n 0, 248, 0, 0), (248, .iload_n 3, 249, 0, 0), (249, .invokevirtual 71, 252, 0, 0), (252, .goto (16), 255, 0, 268), (255, .iload_n 2, 256, 0, 0), (256, .bipush (26), 258, 26, 0), (258, .if_icmp .ne (10), 261, 0, 268), (261, .aload_n 0, 262, 0, 0), (262, .iload_n 3, 263, 0, 0), (263, .iload 5, 265, 0, 0), (265, .invokevirtual 74, 268, 0, 0), (268, .return_, 269, 0, 0)]
abbrev g_R_step : lm_G := (k_R_step, fl_R, sl_R, 0, 0, none)
set_option maxRecDepth 20000 in
theorem ck_R_step : ∀ pc r, k_R_step.lookup pc = some r → lm_ck b_R_step 8 pc r = true := kk_ck (by decide +kernel)
set_option maxRecDepth 20000 in
theorem yw_R_step : kk_yw y_R_step b_R_step 8 (none) 0 (some 4) := ⟨kk_tm 432 (by rfl) rfl, (kk_tm 6 (by decide +kernel) (by decide +kernel)), ⟨by decide, by decide, by decide +kernel⟩, Or.inr ⟨4, F_R, 10, rfl, rfl, (kk_tm 431 (by decide +kernel) (by decide +kernel)), (kk_sm 31 (by decide +kernel) (by decide +kernel))⟩⟩
theorem li_R_50 : kk_li R_R 50 y_R_length := Or.inl (kk_tm 433 (by decide +kernel) (by decide +kernel))
theorem li_R_54 : kk_li R_R 54 y_R_place := Or.inl (kk_tm 436 (by decide +kernel) (by decide +kernel))
theorem li_R_58 : kk_li R_R 58 y_R_work := Or.inl (kk_tm 440 (by decide +kernel) (by decide +kernel))
theorem li_R_61 : kk_li R_R 61 y_R_push := Or.inl (kk_tm 468 (by decide +kernel) (by decide +kernel))
theorem li_R_65 : kk_li R_R 65 y_R_stack := Or.inl (kk_tm 472 (by decide +kernel) (by decide +kernel))
theorem li_R_68 : kk_li R_R 68 y_R_transfer := Or.inl (kk_tm 480 (by decide +kernel) (by decide +kernel))
theorem li_R_71 : kk_li R_R 71 y_R_small := Or.inl (kk_tm 484 (by decide +kernel) (by decide +kernel))
theorem li_R_74 : kk_li R_R 74 y_R_branch := Or.inl (kk_tm 488 (by decide +kernel) (by decide +kernel))
def k_R_change : List (Nat × lm_R) := [(0, .iload_n 1, 1, 0, 0), (1, .sipush (512), 4, 512, 0), (4, .if_icmp .ne (19), 7, 0, 23), (7, .aload_n 0, 8, 0, 0), (8, .getfield 13, 11, 0, 0), (11, .sipush (512), 14, 512, 0), (14, .iload_n 2, 15, 0, 0), (15, .sipush (255), 18, 255, 0), (18, .iand, 19, 0, 0), (19, .iastore, 20, 0, 0), (20, .goto (9), 23, 0, 29), (23, .aload_n 0, 24, 0, 0), (24, .iload_n 1, 25, 0, 0), (25, .iload_n 2, 26, 0, 0), (26, .invokevirtual 46, 29, 0, 0), (29, .return_, 30, 0, 0)]
abbrev g_R_change : lm_G := (k_R_change, fl_R, sl_R, 0, 0, none)
set_option maxRecDepth 20000 in
theorem ck_R_change : ∀ pc r, k_R_change.lookup pc = some r → lm_ck b_R_change 3 pc r = true := kk_ck (by decide +kernel)
set_option maxRecDepth 20000 in
theorem yw_R_change : kk_yw y_R_change b_R_change 3 (none) 2 (some 4) := ⟨kk_tm 455 (by rfl) rfl, (kk_tm 6 (by decide +kernel) (by decide +kernel)), ⟨by decide, by decide, by decide +kernel⟩, Or.inr ⟨4, F_R, 10, rfl, rfl, (kk_tm 454 (by decide +kernel) (by decide +kernel)), (kk_sm 36 (by decide +kernel) (by decide +kernel))⟩⟩
def k_R_add : List (Nat × lm_R) := [(0, .aload_n 0, 1, 0, 0), (1, .getfield 13, 4, 0, 0), (4, .sipush (512), 7, 512, 0), (7, .iaload, 8, 0, 0), (8, .iload_n 1, 9, 0, 0), (9, .iadd, 10, 0, 0), (10, .aload_n 0, 11, 0, 0), (11, .getfield 13, 14, 0, 0), (14, .sipush (516), 17, 516, 0), (17, .iaload, 18, 0, 0), (18, .iconst 1, 19, 1, 0), (19, .iand, 20, 0, 0), (20, .iadd, 21, 0, 0), (21, .istore_n 2, 22, 0, 0), (22, .aload_n 0, 23, 0, 0), (23, .iconst 1, 24, 1, 0), (24, .iload_n 2, 25, 0, 0), (25, .sipush (255), 28, 255, 0), (28, .if_icmp .le (7), 31, 0, 35), (31, .iconst 1, 32, 1, 0), (32, .goto (4), 35, 0, 36), (35, .iconst 0, 36, 0, 0), (36, .invokevirtual 36, 39, 0, 0), (39, .aload_n 0, 40, 0, 0), (40, .bipush (64), 42, 64, 0), (42, .aload_n 0, 43, 0, 0), (43, .getfield 13, 46, 0, 0), (46, .sipush (512), 49, 512, 0), (49, .iaload, 50, 0, 0), (50, .sipush (128), 53, 128, 0), (53, .iand, 54, 0, 0), (54, .iload_n 1, 55, 0, 0), (55, .sipush (128), 58, 128, 0), (58, .iand, 59, 0, 0), (59, .if_icmp .ne (20), 62, 0, 79), (62, .iload_n 2, 63, 0, 0), (63, .sipush (128), 66, 128, 0), (66, .iand, 67, 0, 0), (67, .iload_n 1, 68, 0, 0), (68, .sipush (128), 71, 128, 0), (71, .iand, 72, 0, 0), (72, .if_icmp .eq (7), 75, 0, 79), (75, .iconst 1, 76, 1, 0), (76, .goto (4), 79, 0, 80), (79, .iconst 0, 80, 0, 0), (80, .invokevirtual 36, 83, 0, 0), (83, .aload_n 0, 84, 0, 0), (84, .getfield 13, 87, 0, 0), (87, .sipush (512), 90, 512, 0), (90, .aload_n 0, 91, 0, 0), (91, .iload_n 2, 92, 0, 0), (92, .invokevirtual 77, 95, 0, 0), (95, .iastore, 96, 0, 0), (96, .return_, 97, 0, 0)]
abbrev g_R_add : lm_G := (k_R_add, fl_R, sl_R, 0, 0, none)
set_option maxRecDepth 20000 in
theorem ck_R_add : ∀ pc r, k_R_add.lookup pc = some r → lm_ck b_R_add 3 pc r = true := kk_ck (by decide +kernel)
set_option maxRecDepth 20000 in
theorem yw_R_add : kk_yw y_R_add b_R_add 3 (none) 1 (some 4) := ⟨kk_tm 463 (by rfl) rfl, (kk_tm 6 (by decide +kernel) (by decide +kernel)), ⟨by decide, by decide, by decide +kernel⟩, Or.inr ⟨4, F_R, 10, rfl, rfl, (kk_tm 462 (by decide +kernel) (by decide +kernel)), (kk_sm 38 (by decide +kernel) (by decide +kernel))⟩⟩
theorem li_R_77 : kk_li R_R 77 y_R_marked := Or.inl (kk_tm 444 (by decide +kernel) (by decide +kernel))
def k_R_compare : List (Nat × lm_R) := [(0, .aload_n 0, 1, 0, 0), (1, .iload_n 1, 2, 0, 0), (2, .iload_n 2, 3, 0, 0), (3, .isub, 4, 0, 0), (4, .invokevirtual 77, 7, 0, 0), (7, .istore_n 3, 8, 0, 0), (8, .aload_n 0, 9, 0, 0), (9, .iconst 1, 10, 1, 0), (10, .iload_n 1, 11, 0, 0), (11, .iload_n 2, 12, 0, 0), (12, .if_icmp .lt (7), 15, 0, 19), (15, .iconst 1, 16, 1, 0), (16, .goto (4), 19, 0, 20), (19, .iconst 0, 20, 0, 0), (20, .invokevirtual 36, 23, 0, 0), (23, .return_, 24, 0, 0)]
abbrev g_R_compare : lm_G := (k_R_compare, fl_R, sl_R, 0, 0, none)
set_option maxRecDepth 20000 in
theorem ck_R_compare : ∀ pc r, k_R_compare.lookup pc = some r → lm_ck b_R_compare 4 pc r = true := kk_ck (by decide +kernel)
set_option maxRecDepth 20000 in
theorem yw_R_compare : kk_yw y_R_compare b_R_compare 4 (none) 2 (some 4) := ⟨kk_tm 467 (by rfl) rfl, (kk_tm 6 (by decide +kernel) (by decide +kernel)), ⟨by decide, by decide, by decide +kernel⟩, Or.inr ⟨4, F_R, 10, rfl, rfl, (kk_tm 466 (by decide +kernel) (by decide +kernel)), (kk_sm 39 (by decide +kernel) (by decide +kernel))⟩⟩
def k_R_work : List (Nat × lm_R) := [(0, .aload_n 0, 1, 0, 0), (1, .getfield 13, 4, 0, 0), (4, .iload_n 2, 5, 0, 0), (5, .iaload, 6, 0, 0), (6, .istore_n 3, 7, 0, 0), (7, .aload_n 0, 8, 0, 0), (8, .getfield 13, 11, 0, 0), (11, .sipush (516), 14, 516, 0), (14, .iaload, 15, 0, 0), (15, .iconst 1, 16, 1, 0), (16, .iand, 17, 0, 0), (17, .istore 4, 19, 0, 0), (19, .iload_n 1, 20, 0, 0), (20, .tableswitch (388) 0 19 #[96, 96, 96, 114, 114, 114, 134, 142, 154, 179, 204, 229, 229, 229, 250, 314, 329, 344, 388, 344], 116, 0, 0), (116, .aload_n 0, 117, 0, 0), (117, .getfield 13, 120, 0, 0), (120, .sipush (512), 123, 512, 0), (123, .iload_n 1, 124, 0, 0), (124, .iadd, 125, 0, 0), (125, .aload_n 0, 126, 0, 0), (126, .iload_n 3, 127, 0, 0), (127, .invokevirtual 77, 130, 0, 0), (130, .iastore, 131, 0, 0), (131, .goto (323), 134, 0, 454), (134, .aload_n 0, 135, 0, 0), (135, .iload_n 2, 136, 0, 0), (136, .aload_n 0, 137, 0, 0), (137, .getfield 13, 140, 0, 0), (140, .sipush (512), 143, 512, 0), (143, .iload_n 1, 144, 0, 0), (144, .iadd, 145, 0, 0), (145, .iconst 3, 146, 3, 0), (146, .isub, 147, 0, 0), (147, .iaload, 148, 0, 0), (148, .invokevirtual 81, 151, 0, 0), (151, .goto (303), 154, 0, 454), (154, .aload_n 0, 155, 0, 0), (155, .iload_n 3, 156, 0, 0), (156, .invokevirtual 84, 159, 0, 0), (159, .goto (295), 162, 0, 454), (162, .aload_n 0, 163, 0, 0), (163, .sipush (255), 166, 255, 0), (166, .iload_n 3, 167, 0, 0), (167, .isub, 168, 0, 0), (168, .invokevirtual 84, 171, 0, 0), (171, .goto (283), 174, 0, 454), (174, .aload_n 0, 175, 0, 0), (175, .getfield 13, 178, 0, 0), (178, .sipush (512), 181, 512, 0), (181, .aload_n 0, 182, 0, 0), (182, .aload_n 0, 183, 0, 0), (183, .getfield 13, 186, 0, 0), (186, .sipush (512), 189, 512, 0), (189, .iaload, 190, 0, 0), (190, .iload_n 3, 191, 0, 0), (191, .iand, 192, 0, 0), (192, .invokevirtual 77, 195, 0, 0), (195, .iastore, 196, 0, 0), (196, .goto (258), 199, 0, 454), (199, .aload_n 0, 200, 0, 0), (200, .getfield 13, 203, 0, 0), (203, .sipush (512), 206, 512, 0), (206, .aload_n 0, 207, 0, 0), (207, .aload_n 0, 208, 0, 0), (208, .getfield 13, 211, 0, 0), (211, .sipush (512), 214, 512, 0), (214, .iaload, 215, 0, 0), (215, .iload_n 3, 216, 0, 0), (216, .ior, 217, 0, 0), (217, .invokevirtual 77, 220, 0, 0), (220, .iastore, 221, 0, 0), (221, .goto (233), 224, 0, 454), (224, .aload_n 0, 225, 0, 0), (225, .getfield 13, 228, 0, 0), (228, .sipush (512), 231, 512, 0), (231, .aload_n 0, 232, 0, 0), (232, .aload_n 0, 233, 0, 0), (233, .getfield 13, 236, 0, 0), (236, .sipush (512), 239, 512, 0), (239, .iaload, 240, 0, 0), (240, .iload_n 3, 241, 0, 0), (241, .ixor, 242, 0, 0), (242, .invokevirtual 77, 245, 0, 0), (245, .iastore, 246, 0, 0), (246, .goto (208), 249, 0, 454), (249, .aload_n 0, 250, 0, 0), (250, .aload_n 0, 251, 0, 0), (251, .getfield 13, 254, 0, 0), (254, .sipush (512), 257, 512, 0), (257, .iload_n 1, 258, 0, 0), (258, .iadd, 259, 0, 0), (259, .bipush (11), 261, 11, 0), (261, .isub, 262, 0, 0), (262, .iaload, 263, 0, 0), (263, .iload_n 3, 264, 0, 0), (264, .invokevirtual 87, 267, 0, 0), (267, .goto (187), 270, 0, 454), (270, .aload_n 0, 271, 0, 0), (271, .sipush (128), 274, 128, 0), (274, .iload_n 3, 275, 0, 0), (275, .sipush (128), 278, 128, 0), (278, .iand, 279, 0, 0), (279, .ifCond .eq (7), 282, 0, 286), (282, .iconst 1, 283, 1, 0), (283, .goto (4), 286, 0, 287), (286, .iconst 0, 287, 0, 0), (287, .invokevirtual 36, 290, 0, 0), (290, .aload_n 0, 291, 0, 0), (291, .bipush (64), 293, 64, 0), (293, .iload_n 3, 294, 0, 0), (294, .bipush (64), 296, 64, 0), (296, .iand, 297, 0, 0), (297, .ifCond .eq (7), 300, 0, 304), (300, .iconst 1, 301, 1, 0), (301, .goto (4), 304, 0, 305), (304, .iconst 0, 305, 0, 0), (305, .invokevirtual 36, 308, 0, 0), (308, .aload_n 0, 309, 0, 0), (309, .iconst 2, 310, 2, 0), (310, .aload_n 0, 311, 0, 0), (311, .getfield 13, 314, 0, 0), (314, .sipush (512), 317, 512, 0), (317, .iaload, 318, 0, 0), (318, .iload_n 3, 319, 0, 0), (319, .iand, 320, 0, 0), (320, .ifCond .ne (7), 323, 0, 327), (323, .iconst 1, 324, 1, 0), (324, .goto (4), 327, 0, 328), (327, .iconst 0, 328, 0, 0), (328, .invokevirtual 36, 331, 0, 0), (331, .goto (123), 334, 0, 454), (334, .aload_n 0, 335, 0, 0), (335, .iload_n 2, 336, 0, 0), (336, .aload_n 0, 337, 0, 0), (337, .iload_n 3, 338, 0, 0), (338, .iconst 1, 339, 1, 0), (339, .iadd, 340, 0, 0), (340, .invokevirtual 77, 343, 0, 0), (343, .invokevirtual 81, 346, 0, 0), (346, .goto (108), 349, 0, 454), (349, .aload_n 0, 350, 0, 0), (350, .iload_n 2, 351, 0, 0), (351, .aload_n 0, 352, 0, 0), (352, .iload_n 3, 353, 0, 0), (353, .iconst 1, 354, 1, 0), (354, .isub, 355, 0, 0), (355, .invokevirtual 77, 358, 0, 0), (358, .invokevirtual 81, 361, 0, 0), (361, .goto (93), 364, 0, 454), (364, .aload_n 0, 365, 0, 0), (365, .iload_n 2, 366, 0, 0), (366, .aload_n 0, 367, 0, 0), (367, .iload_n 3, 368, 0, 0), (368, .iconst 2, 369, 2, 0), (369, .imul, 370, 0, 0), (370, .iload_n 1, 371, 0, 0), (371, .bipush (19), 373, 19, 0), (373, .if_icmp .ne (8), 376, 0, 381), (376, .iload 4, 378, 0, 0), (378, .goto (4), 381, 0, 382), (381, .iconst 0, 382, 0, 0), (382, .iadd, 383, 0, 0), (383, .invokevirtual 77, 386, 0, 0), (386, .invokevirtual 81, 389, 0, 0), (389, .aload_n 0, 390, 0, 0), (390, .iconst 1, 391, 1, 0), (391, .iload_n 3, 392, 0, 0), (392, .bipush (127), 394, 127, 0), (394, .if_icmp .le (7), 397, 0, 401), (397, .iconst 1, 398, 1, 0), (398, .goto (4), 401, 0, 402), (401, .iconst 0, 402, 0, 0), (402, .invokevirtual 36, 405, 0, 0), (405, .goto (49), 408, 0, 454), (408, .aload_n 0, 409, 0, 0), (409, .iload_n 2, 410, 0, 0), (410, .aload_n 0, 411, 0, 0), (411, .iload_n 3, 412, 0, 0), (412, .iconst 2, 413, 2, 0), (413, .idiv, 414, 0, 0), (414, .iload_n 1, 415, 0, 0), (415, .bipush (20), 417, 20, 0), (417, .if_icmp .ne (12), 420, 0, 429), (420, .sipush (128), 423, 128, 0), (423, .iload 4, 425, 0, 0), (425, .imul, 426, 0, 0), (426, .goto (4), 429, 0, 430), (429, .iconst 0, 430, 0, 0), (430, .iadd, 431, 0, 0), (431, .invokevirtual 77, 434, 0, 0), (434, .invokevirtual 81, 437, 0, 0), (437, .aload_n 0, 438, 0, 0), (438, .iconst 1, 439, 1, 0), (439, .iload_n 3, 440, 0, 0), (440, .iconst 2, 441, 2, 0), (441, .irem, 442, 0, 0), (442, .iconst 1, 443, 1, 0), (443, .if_icmp .ne (7), 446, 0, 450), (446, .iconst 1, 447, 1, 0), (447, .goto (4), 450, 0, 451), (450, .iconst 0, 451, 0, 0), (451, .invokevirtual 36, 454, 0, 0), (454, .return_, 455, 0, 0)]
abbrev g_R_work : lm_G := (k_R_work, fl_R, sl_R, 0, 0, none)
set_option maxRecDepth 20000 in
theorem ck_R_work : ∀ pc r, k_R_work.lookup pc = some r → lm_ck b_R_work 5 pc r = true := kk_ck (by decide +kernel)
set_option maxRecDepth 20000 in
theorem yw_R_work : kk_yw y_R_work b_R_work 5 (none) 2 (some 4) := ⟨kk_tm 443 (by rfl) rfl, (kk_tm 6 (by decide +kernel) (by decide +kernel)), ⟨by decide, by decide, by decide +kernel⟩, Or.inr ⟨4, F_R, 10, rfl, rfl, (kk_tm 442 (by decide +kernel) (by decide +kernel)), (kk_sm 33 (by decide +kernel) (by decide +kernel))⟩⟩
theorem li_R_81 : kk_li R_R 81 y_R_change := Or.inl (kk_tm 452 (by decide +kernel) (by decide +kernel))
theorem li_R_84 : kk_li R_R 84 y_R_add := Or.inl (kk_tm 460 (by decide +kernel) (by decide +kernel))
theorem li_R_87 : kk_li R_R 87 y_R_compare := Or.inl (kk_tm 464 (by decide +kernel) (by decide +kernel))
def k_R_stack : List (Nat × lm_R) := [(0, .iload_n 1, 1, 0, 0), (1, .tableswitch (293) 0 6 #[43, 75, 90, 113, 128, 147, 159], 44, 0, 0), (44, .aload_n 0, 45, 0, 0), (45, .invokevirtual 90, 48, 0, 0), (48, .istore_n 2, 49, 0, 0), (49, .aload_n 0, 50, 0, 0), (50, .invokevirtual 90, 53, 0, 0), (53, .istore_n 3, 54, 0, 0), (54, .aload_n 0, 55, 0, 0), (55, .getfield 13, 58, 0, 0), (58, .sipush (517), 61, 517, 0), (61, .iload_n 2, 62, 0, 0), (62, .sipush (256), 65, 256, 0), (65, .iload_n 3, 66, 0, 0), (66, .imul, 67, 0, 0), (67, .iadd, 68, 0, 0), (68, .sipush (511), 71, 511, 0), (71, .iand, 72, 0, 0), (72, .iastore, 73, 0, 0), (73, .goto (294), 76, 0, 367), (76, .aload_n 0, 77, 0, 0), (77, .aload_n 0, 78, 0, 0), (78, .getfield 13, 81, 0, 0), (81, .sipush (512), 84, 512, 0), (84, .iaload, 85, 0, 0), (85, .invokevirtual 61, 88, 0, 0), (88, .goto (279), 91, 0, 367), (91, .aload_n 0, 92, 0, 0), (92, .invokevirtual 90, 95, 0, 0), (95, .istore 4, 97, 0, 0), (97, .aload_n 0, 98, 0, 0), (98, .getfield 13, 101, 0, 0), (101, .sipush (512), 104, 512, 0), (104, .aload_n 0, 105, 0, 0), (105, .iload 4, 107, 0, 0), (107, .invokevirtual 77, 110, 0, 0), (110, .iastore, 111, 0, 0), (111, .goto (256), 114, 0, 367), (114, .aload_n 0, 115, 0, 0), (115, .aload_n 0, 116, 0, 0), (116, .getfield 13, 119, 0, 0), (119, .sipush (516), 122, 516, 0), (122, .iaload, 123, 0, 0), (123, .invokevirtual 61, 126, 0, 0), (126, .goto (241), 129, 0, 367), (129, .aload_n 0, 130, 0, 0), (130, .getfield 13, 133, 0, 0), (133, .sipush (516), 136, 516, 0), (136, .aload_n 0, 137, 0, 0), (137, .invokevirtual 90, 140, 0, 0), (140, .sipush (195), 143, 195, 0), (143, .iand, 144, 0, 0), (144, .iastore, 145, 0, 0), (145, .goto (222), 148, 0, 367), (148, .aload_n 0, 149, 0, 0), (149, .getfield 13, 152, 0, 0), (152, .sipush (518), 155, 518, 0), (155, .iconst 1, 156, 1, 0), (156, .iastore, 157, 0, 0), (157, .goto (210), 160, 0, 367), (160, .aload_n 0, 161, 0, 0), (161, .iconst 1, 162, 1, 0), (162, .aload_n 0, 163, 0, 0), (163, .getfield 13, 166, 0, 0), (166, .sipush (519), 169, 519, 0), (169, .iaload, 170, 0, 0), (170, .ifCond .ne (7), 173, 0, 177), (173, .iconst 1, 174, 1, 0), (174, .goto (4), 177, 0, 178), (177, .iconst 0, 178, 0, 0), (178, .invokevirtual 36, 181, 0, 0), (181, .aload_n 0, 182, 0, 0), (182, .getfield 13, 185, 0, 0), (185, .sipush (512), 188, 512, 0), (188, .aload_n 0, 189, 0, 0), (189, .aload_n 0, 190, 0, 0), (190, .getfield 13, 193, 0, 0), (193, .sipush (519), 196, 519, 0), (196, .iaload, 197, 0, 0), (197, .ifCond .ne (7), 200, 0, 204), (200, .iconst 0, 201, 0, 0), (201, .goto (11), 204, 0, 212), (204, .aload_n 0, 205, 0, 0), (205, .getfield 13, 208, 0, 0), (208, .sipush (520), 211, 520, 0), (211, .iaload, 212, 0, 0), (212, .invokevirtual 77, 215, 0, 0), (215, .iastore, 216, 0, 0), (216, .aload_n 0, 217, 0, 0), (217, .getfield 13, 220, 0, 0), (220, .sipush (519), 223, 519, 0), (223, .iaload, 224, 0, 0), (224, .ifCond .le (143), 227, 0, 367), (227, .aload_n 0, 228, 0, 0), (228, .getfield 13, 231, 0, 0), (231, .sipush (519), 234, 519, 0), (234, .aload_n 0, 235, 0, 0), (235, .getfield 13, 238, 0, 0), (238, .sipush (519), 241, 519, 0), (241, .iaload, 242, 0, 0), (242, .iconst 1, 243, 1, 0), (243, .isub, 244, 0, 0), (244, .iastore, 245, 0, 0), (245, .iconst 0, 246, 0, 0), (246, .istore 5, 248, 0, 0), (248, .iload 5, 250, 0, 0), (250, .aload_n 0, 251, 0, 0), (251, .getfield 13, 254, 0, 0), (254, .sipush (519), 257, 519, 0), (257, .iaload, 258, 0, 0), (258, .if_icmp .ge (33), 261, 0, 291), (261, .aload_n 0, 262, 0, 0), (262, .getfield 13, 265, 0, 0), (265, .sipush (520), 268, 520, 0), (268, .iload 5, 270, 0, 0), (270, .iadd, 271, 0, 0), (271, .aload_n 0, 272, 0, 0), (272, .getfield 13, 275, 0, 0), (275, .sipush (520), 278, 520, 0), (278, .iload 5, 280, 0, 0), (280, .iadd, 281, 0, 0), (281, .iconst 1, 282, 1, 0), (282, .iadd, 283, 0, 0), (283, .iaload, 284, 0, 0), (284, .iastore, 285, 0, 0), (285, .iinc 5 (1), 288, 1, 0), (288, .goto (-40), 291, 0, 248), (291, .goto (76), 294, 0, 367), (294, .bipush (7), 296, 7, 0), (296, .istore 5, 298, 0, 0), (298, .iload 5, 300, 0, 0), (300, .ifCond .le (33), 303, 0, 333), (303, .aload_n 0, 304, 0, 0), (304, .getfield 13, 307, 0, 0), (307, .sipush (561), 310, 561, 0), (310, .iload 5, 312, 0, 0), (312, .iadd, 313, 0, 0), (313, .aload_n 0, 314, 0, 0), (314, .getfield 13, 317, 0, 0), (317, .sipush (561), 320, 561, 0), (320, .iload 5, 322, 0, 0), (322, .iadd, 323, 0, 0), (323, .iconst 1, 324, 1, 0), (324, .isub, 325, 0, 0), (325, .iaload, 326, 0, 0), (326, .iastore, 327, 0, 0), (327, .iinc 5 (-1), 330, (-1), 0), (330, .goto (-32), 333, 0, 298), (333, .aload_n 0, 334, 0, 0), (334, .getfield 13, 337, 0, 0), (337, .sipush (561), 340, 561, 0), (340, .aload_n 0, 341, 0, 0), (341, .getfield 13, 344, 0, 0), (344, .sipush (512), 347, 512, 0), (347, .iaload, 348, 0, 0), (348, .iastore, 349, 0, 0), (349, .aload_n 0, 350, 0, 0), (350, .getfield 13, 353, 0, 0), (353, .sipush (560), 356, 560, 0), (356, .aload_n 0, 357, 0, 0), (357, .getfield 13, 360, 0, 0), (360, .sipush (560), 363, 560, 0), (363, .iaload, 364, 0, 0), (364, .iconst 1, 365, 1, 0), (365, .iadd, 366, 0, 0), (366, .iastore, 367, 0, 0), (367, .return_, 368, 0, 0)]
abbrev g_R_stack : lm_G := (k_R_stack, fl_R, sl_R, 0, 0, none)
set_option maxRecDepth 20000 in
theorem ck_R_stack : ∀ pc r, k_R_stack.lookup pc = some r → lm_ck b_R_stack 6 pc r = true := kk_ck (by decide +kernel)
set_option maxRecDepth 20000 in
theorem yw_R_stack : kk_yw y_R_stack b_R_stack 6 (none) 1 (some 4) := ⟨kk_tm 475 (by rfl) rfl, (kk_tm 6 (by decide +kernel) (by decide +kernel)), ⟨by decide, by decide, by decide +kernel⟩, Or.inr ⟨4, F_R, 10, rfl, rfl, (kk_tm 474 (by decide +kernel) (by decide +kernel)), (kk_sm 41 (by decide +kernel) (by decide +kernel))⟩⟩
theorem li_R_90 : kk_li R_R 90 y_R_pull := Or.inl (kk_tm 476 (by decide +kernel) (by decide +kernel))
def k_R_transfer : List (Nat × lm_R) := [(0, .iload_n 1, 1, 0, 0), (1, .tableswitch (202) 0 6 #[43, 66, 89, 112, 135, 158, 177], 44, 0, 0), (44, .aload_n 0, 45, 0, 0), (45, .getfield 13, 48, 0, 0), (48, .sipush (513), 51, 513, 0), (51, .aload_n 0, 52, 0, 0), (52, .aload_n 0, 53, 0, 0), (53, .getfield 13, 56, 0, 0), (56, .sipush (512), 59, 512, 0), (59, .iaload, 60, 0, 0), (60, .invokevirtual 77, 63, 0, 0), (63, .iastore, 64, 0, 0), (64, .goto (161), 67, 0, 225), (67, .aload_n 0, 68, 0, 0), (68, .getfield 13, 71, 0, 0), (71, .sipush (512), 74, 512, 0), (74, .aload_n 0, 75, 0, 0), (75, .aload_n 0, 76, 0, 0), (76, .getfield 13, 79, 0, 0), (79, .sipush (513), 82, 513, 0), (82, .iaload, 83, 0, 0), (83, .invokevirtual 77, 86, 0, 0), (86, .iastore, 87, 0, 0), (87, .goto (138), 90, 0, 225), (90, .aload_n 0, 91, 0, 0), (91, .getfield 13, 94, 0, 0), (94, .sipush (514), 97, 514, 0), (97, .aload_n 0, 98, 0, 0), (98, .aload_n 0, 99, 0, 0), (99, .getfield 13, 102, 0, 0), (102, .sipush (512), 105, 512, 0), (105, .iaload, 106, 0, 0), (106, .invokevirtual 77, 109, 0, 0), (109, .iastore, 110, 0, 0), (110, .goto (115), 113, 0, 225), (113, .aload_n 0, 114, 0, 0), (114, .getfield 13, 117, 0, 0), (117, .sipush (512), 120, 512, 0), (120, .aload_n 0, 121, 0, 0), (121, .aload_n 0, 122, 0, 0), (122, .getfield 13, 125, 0, 0), (125, .sipush (514), 128, 514, 0), (128, .iaload, 129, 0, 0), (129, .invokevirtual 77, 132, 0, 0), (132, .iastore, 133, 0, 0), (133, .goto (92), 136, 0, 225), (136, .aload_n 0, 137, 0, 0), (137, .getfield 13, 140, 0, 0), (140, .sipush (513), 143, 513, 0), (143, .aload_n 0, 144, 0, 0), (144, .aload_n 0, 145, 0, 0), (145, .getfield 13, 148, 0, 0), (148, .sipush (515), 151, 515, 0), (151, .iaload, 152, 0, 0), (152, .invokevirtual 77, 155, 0, 0), (155, .iastore, 156, 0, 0), (156, .goto (69), 159, 0, 225), (159, .aload_n 0, 160, 0, 0), (160, .getfield 13, 163, 0, 0), (163, .sipush (515), 166, 515, 0), (166, .aload_n 0, 167, 0, 0), (167, .getfield 13, 170, 0, 0), (170, .sipush (513), 173, 513, 0), (173, .iaload, 174, 0, 0), (174, .iastore, 175, 0, 0), (175, .goto (50), 178, 0, 225), (178, .aload_n 0, 179, 0, 0), (179, .getfield 13, 182, 0, 0), (182, .sipush (513), 185, 513, 0), (185, .aload_n 0, 186, 0, 0), (186, .aload_n 0, 187, 0, 0), (187, .getfield 13, 190, 0, 0), (190, .sipush (513), 193, 513, 0), (193, .iaload, 194, 0, 0), (194, .iconst 1, 195, 1, 0), (195, .iadd, 196, 0, 0), (196, .invokevirtual 77, 199, 0, 0), (199, .iastore, 200, 0, 0), (200, .goto (25), 203, 0, 225), (203, .aload_n 0, 204, 0, 0), (204, .getfield 13, 207, 0, 0), (207, .sipush (513), 210, 513, 0), (210, .aload_n 0, 211, 0, 0), (211, .aload_n 0, 212, 0, 0), (212, .getfield 13, 215, 0, 0), (215, .sipush (513), 218, 513, 0), (218, .iaload, 219, 0, 0), (219, .iconst 1, 220, 1, 0), (220, .isub, 221, 0, 0), (221, .invokevirtual 77, 224, 0, 0), (224, .iastore, 225, 0, 0), (225, .return_, 226, 0, 0)]
abbrev g_R_transfer : lm_G := (k_R_transfer, fl_R, sl_R, 0, 0, none)
set_option maxRecDepth 20000 in
theorem ck_R_transfer : ∀ pc r, k_R_transfer.lookup pc = some r → lm_ck b_R_transfer 2 pc r = true := kk_ck (by decide +kernel)
set_option maxRecDepth 20000 in
theorem yw_R_transfer : kk_yw y_R_transfer b_R_transfer 2 (none) 1 (some 4) := ⟨kk_tm 483 (by rfl) rfl, (kk_tm 6 (by decide +kernel) (by decide +kernel)), ⟨by decide, by decide, by decide +kernel⟩, Or.inr ⟨4, F_R, 10, rfl, rfl, (kk_tm 482 (by decide +kernel) (by decide +kernel)), (kk_sm 43 (by decide +kernel) (by decide +kernel))⟩⟩
def k_R_small : List (Nat × lm_R) := [(0, .iload_n 1, 1, 0, 0), (1, .ifCond .ne (25), 4, 0, 26), (4, .aload_n 0, 5, 0, 0), (5, .getfield 13, 8, 0, 0), (8, .sipush (514), 11, 514, 0), (11, .aload_n 0, 12, 0, 0), (12, .aload_n 0, 13, 0, 0), (13, .getfield 13, 16, 0, 0), (16, .sipush (514), 19, 514, 0), (19, .iaload, 20, 0, 0), (20, .iconst 1, 21, 1, 0), (21, .iadd, 22, 0, 0), (22, .invokevirtual 77, 25, 0, 0), (25, .iastore, 26, 0, 0), (26, .iload_n 1, 27, 0, 0), (27, .iconst 1, 28, 1, 0), (28, .if_icmp .ne (25), 31, 0, 53), (31, .aload_n 0, 32, 0, 0), (32, .getfield 13, 35, 0, 0), (35, .sipush (514), 38, 514, 0), (38, .aload_n 0, 39, 0, 0), (39, .aload_n 0, 40, 0, 0), (40, .getfield 13, 43, 0, 0), (43, .sipush (514), 46, 514, 0), (46, .iaload, 47, 0, 0), (47, .iconst 1, 48, 1, 0), (48, .isub, 49, 0, 0), (49, .invokevirtual 77, 52, 0, 0), (52, .iastore, 53, 0, 0), (53, .iload_n 1, 54, 0, 0), (54, .iconst 2, 55, 2, 0), (55, .if_icmp .eq (8), 58, 0, 63), (58, .iload_n 1, 59, 0, 0), (59, .iconst 3, 60, 3, 0), (60, .if_icmp .ne (18), 63, 0, 78), (63, .aload_n 0, 64, 0, 0), (64, .iconst 1, 65, 1, 0), (65, .iload_n 1, 66, 0, 0), (66, .iconst 3, 67, 3, 0), (67, .if_icmp .ne (7), 70, 0, 74), (70, .iconst 1, 71, 1, 0), (71, .goto (4), 74, 0, 75), (74, .iconst 0, 75, 0, 0), (75, .invokevirtual 36, 78, 0, 0), (78, .iload_n 1, 79, 0, 0), (79, .iconst 4, 80, 4, 0), (80, .if_icmp .ne (10), 83, 0, 90), (83, .aload_n 0, 84, 0, 0), (84, .bipush (64), 86, 64, 0), (86, .iconst 0, 87, 0, 0), (87, .invokevirtual 36, 90, 0, 0), (90, .return_, 91, 0, 0)]
abbrev g_R_small : lm_G := (k_R_small, fl_R, sl_R, 0, 0, none)
set_option maxRecDepth 20000 in
theorem ck_R_small : ∀ pc r, k_R_small.lookup pc = some r → lm_ck b_R_small 2 pc r = true := kk_ck (by decide +kernel)
set_option maxRecDepth 20000 in
theorem yw_R_small : kk_yw y_R_small b_R_small 2 (none) 1 (some 4) := ⟨kk_tm 487 (by rfl) rfl, (kk_tm 6 (by decide +kernel) (by decide +kernel)), ⟨by decide, by decide, by decide +kernel⟩, Or.inr ⟨4, F_R, 10, rfl, rfl, (kk_tm 486 (by decide +kernel) (by decide +kernel)), (kk_sm 44 (by decide +kernel) (by decide +kernel))⟩⟩
def k_R_branch : List (Nat × lm_R) := [(0, .iload_n 1, 1, 0, 0), (1, .iconst 2, 2, 2, 0), (2, .if_icmp .ge (9), 5, 0, 11), (5, .sipush (128), 8, 128, 0), (8, .goto (24), 11, 0, 32), (11, .iload_n 1, 12, 0, 0), (12, .iconst 4, 13, 4, 0), (13, .if_icmp .ge (8), 16, 0, 21), (16, .bipush (64), 18, 64, 0), (18, .goto (14), 21, 0, 32), (21, .iload_n 1, 22, 0, 0), (22, .bipush (6), 24, 6, 0), (24, .if_icmp .ge (7), 27, 0, 31), (27, .iconst 1, 28, 1, 0), (28, .goto (4), 31, 0, 32), (31, .iconst 2, 32, 2, 0), (32, .istore_n 3, 33, 0, 0), (33, .aload_n 0, 34, 0, 0), (34, .getfield 13, 37, 0, 0), (37, .sipush (516), 40, 516, 0), (40, .iaload, 41, 0, 0), (41, .iload_n 3, 42, 0, 0), (42, .iand, 43, 0, 0), (43, .ifCond .eq (7), 46, 0, 50), (46, .iconst 1, 47, 1, 0), (47, .goto (4), 50, 0, 51), (50, .iconst 0, 51, 0, 0), (51, .istore 4, 53, 0, 0), (53, .iload 4, 55, 0, 0), (55, .iload_n 1, 56, 0, 0), (56, .iconst 2, 57, 2, 0), (57, .irem, 58, 0, 0), (58, .iconst 1, 59, 1, 0), (59, .if_icmp .ne (7), 62, 0, 66), (62, .iconst 1, 63, 1, 0), (63, .goto (4), 66, 0, 67), (66, .iconst 0, 67, 0, 0), (67, .if_icmp .ne (39), 70, 0, 106), (70, .aload_n 0, 71, 0, 0), (71, .getfield 13, 74, 0, 0), (74, .sipush (517), 77, 517, 0), (77, .aload_n 0, 78, 0, 0), (78, .getfield 13, 81, 0, 0), (81, .sipush (517), 84, 517, 0), (84, .iaload, 85, 0, 0), (85, .iload_n 2, 86, 0, 0), (86, .bipush (127), 88, 127, 0), (88, .if_icmp .le (11), 91, 0, 99), (91, .iload_n 2, 92, 0, 0), (92, .sipush (256), 95, 256, 0), (95, .isub, 96, 0, 0), (96, .goto (4), 99, 0, 100), (99, .iload_n 2, 100, 0, 0), (100, .iadd, 101, 0, 0), (101, .sipush (511), 104, 511, 0), (104, .iand, 105, 0, 0), (105, .iastore, 106, 0, 0), (106, .return_, 107, 0, 0)]
abbrev g_R_branch : lm_G := (k_R_branch, fl_R, sl_R, 0, 0, none)
set_option maxRecDepth 20000 in
theorem ck_R_branch : ∀ pc r, k_R_branch.lookup pc = some r → lm_ck b_R_branch 5 pc r = true := kk_ck (by decide +kernel)
set_option maxRecDepth 20000 in
theorem yw_R_branch : kk_yw y_R_branch b_R_branch 5 (none) 2 (some 4) := ⟨kk_tm 491 (by rfl) rfl, (kk_tm 6 (by decide +kernel) (by decide +kernel)), ⟨by decide, by decide, by decide +kernel⟩, Or.inr ⟨4, F_R, 10, rfl, rfl, (kk_tm 490 (by decide +kernel) (by decide +kernel)), (kk_sm 45 (by decide +kernel) (by decide +kernel))⟩⟩
def k_R_come : List (Nat × lm_R) := [(0, .iconst 0, 1, 0, 0), (1, .istore_n 2, 2, 0, 0), (2, .iload_n 2, 3, 0, 0), (3, .sipush (569), 6, 569, 0), (6, .if_icmp .ge (21), 9, 0, 27), (9, .aload_n 0, 10, 0, 0), (10, .getfield 13, 13, 0, 0), (13, .iload_n 2, 14, 0, 0), (14, .aload_n 0, 15, 0, 0), (15, .getfield 7, 18, 0, 0), (18, .iload_n 2, 19, 0, 0), (19, .iaload, 20, 0, 0), (20, .iastore, 21, 0, 0), (21, .iinc 2 (1), 24, 1, 0), (24, .goto (-22), 27, 0, 2), (27, .iconst 0, 28, 0, 0), (28, .istore_n 2, 29, 0, 0), (29, .iload_n 2, 30, 0, 0), (30, .iload_n 1, 31, 0, 0), (31, .if_icmp .ge (13), 34, 0, 44), (34, .aload_n 0, 35, 0, 0), (35, .invokevirtual 94, 38, 0, 0), (38, .iinc 2 (1), 41, 1, 0), (41, .goto (-12), 44, 0, 29), (44, .aload_n 0, 45, 0, 0), (45, .iload_n 1, 46, 0, 0), (46, .putfield 25, 49, 0, 0), (49, .return_, 50, 0, 0)]
abbrev g_R_come : lm_G := (k_R_come, fl_R, sl_R, 0, 0, none)
set_option maxRecDepth 20000 in
theorem ck_R_come : ∀ pc r, k_R_come.lookup pc = some r → lm_ck b_R_come 3 pc r = true := kk_ck (by decide +kernel)
set_option maxRecDepth 20000 in
theorem yw_R_come : kk_yw y_R_come b_R_come 3 (none) 1 (some 4) := ⟨kk_tm 499 (by rfl) rfl, (kk_tm 6 (by decide +kernel) (by decide +kernel)), ⟨by decide, by decide, by decide +kernel⟩, Or.inr ⟨4, F_R, 10, rfl, rfl, (kk_tm 498 (by decide +kernel) (by decide +kernel)), (kk_sm 46 (by decide +kernel) (by decide +kernel))⟩⟩
theorem li_R_94 : kk_li R_R 94 y_R_step := Or.inl (kk_tm 429 (by decide +kernel) (by decide +kernel))
def k_R_has : List (Nat × lm_R) := [(0, .iconst 0, 1, 0, 0), (1, .istore_n 3, 2, 0, 0), (2, .iload_n 3, 3, 0, 0), (3, .iload_n 1, 4, 0, 0), (4, .if_icmp .ge (18), 7, 0, 22), (7, .aload_n 0, 8, 0, 0), (8, .iload_n 3, 9, 0, 0), (9, .iaload, 10, 0, 0), (10, .iload_n 2, 11, 0, 0), (11, .if_icmp .ne (5), 14, 0, 16), (14, .iconst 1, 15, 1, 0), (15, .ireturn, 16, 0, 0), (16, .iinc 3 (1), 19, 1, 0), (19, .goto (-17), 22, 0, 2), (22, .iconst 0, 23, 0, 0), (23, .ireturn, 24, 0, 0)]
abbrev g_R_has : lm_G := (k_R_has, fl_R, sl_R, 0, 2, none)
set_option maxRecDepth 20000 in
theorem ck_R_has : ∀ pc r, k_R_has.lookup pc = some r → lm_ck b_R_has 4 pc r = true := kk_ck (by decide +kernel)
set_option maxRecDepth 20000 in
theorem yw_R_has : kk_yw y_R_has b_R_has 4 (some .boolean) 3 none := ⟨kk_tm 428 (by rfl) rfl, (kk_tm 6 (by decide +kernel) (by decide +kernel)), ⟨by decide, by decide, by decide +kernel⟩, Or.inl ⟨rfl, (kk_tm 427 (by decide +kernel) (by decide +kernel))⟩⟩
def k_R_run : List (Nat × lm_R) := [(0, .iconst 0, 1, 0, 0), (1, .istore_n 2, 2, 0, 0), (2, .iload_n 1, 3, 0, 0), (3, .sipush (300), 6, 300, 0), (6, .invokestatic 32, 9, 0, 0), (9, .istore_n 3, 10, 0, 0), (10, .iconst 0, 11, 0, 0), (11, .istore 4, 13, 0, 0), (13, .iload 4, 15, 0, 0), (15, .iload_n 1, 16, 0, 0), (16, .if_icmp .ge (118), 19, 0, 134), (19, .iload_n 3, 20, 0, 0), (20, .ifCond .eq (114), 23, 0, 134), (23, .iload_n 2, 24, 0, 0), (24, .ifCond .eq (25), 27, 0, 49), (27, .aload_n 0, 28, 0, 0), (28, .getfield 16, 31, 0, 0), (31, .aload_n 0, 32, 0, 0), (32, .getfield 97, 35, 0, 0), (35, .aload_n 0, 36, 0, 0), (36, .getfield 13, 39, 0, 0), (39, .sipush (517), 42, 517, 0), (42, .iaload, 43, 0, 0), (43, .invokestatic 100, 46, 0, 0), (46, .ifCond .ne (39), 49, 0, 85), (49, .aload_n 0, 50, 0, 0), (50, .getfield 25, 53, 0, 0), (53, .aload_n 0, 54, 0, 0), (54, .getfield 29, 57, 0, 0), (57, .if_icmp .lt (24), 60, 0, 81), (60, .aload_n 0, 61, 0, 0), (61, .getfield 13, 64, 0, 0), (64, .sipush (518), 67, 518, 0), (67, .iaload, 68, 0, 0), (68, .ifCond .ne (17), 71, 0, 85), (71, .aload_n 0, 72, 0, 0), (72, .getfield 29, 75, 0, 0), (75, .sipush (300), 78, 300, 0), (78, .if_icmp .ge (7), 81, 0, 85), (81, .iconst 1, 82, 1, 0), (82, .goto (4), 85, 0, 86), (85, .iconst 0, 86, 0, 0), (86, .istore_n 3, 87, 0, 0), (87, .iload_n 3, 88, 0, 0), (88, .ifCond .eq (40), 91, 0, 128), (91, .aload_n 0, 92, 0, 0), (92, .invokevirtual 94, 95, 0, 0), (95, .aload_n 0, 96, 0, 0), (96, .aload_n 0, 97, 0, 0), (97, .getfield 25, 100, 0, 0), (100, .iconst 1, 101, 1, 0), (101, .iadd, 102, 0, 0), (102, .putfield 25, 105, 0, 0), (105, .aload_n 0, 106, 0, 0), (106, .getfield 25, 109, 0, 0), (109, .aload_n 0, 110, 0, 0), (110, .getfield 29, 113, 0, 0), (113, .if_icmp .le (11), 116, 0, 124), (116, .aload_n 0, 117, 0, 0), (117, .aload_n 0, 118, 0, 0), (118, .getfield 25, 121, 0, 0), (121, .putfield 29, 124, 0, 0), (124, .iload_n 2, 125, 0, 0), (125, .iconst 1, 126, 1, 0), (126, .iadd, 127, 0, 0), (127, .istore_n 2, 128, 0, 0), (128, .iinc 4 (1), 131, 1, 0), (131, .goto (-118), 134, 0, 13), (134, .iload_n 2, 135, 0, 0), (135, .ireturn, 136, 0, 0)]
abbrev g_R_run : lm_G := (k_R_run, fl_R, sl_R, 0, 1, none)
set_option maxRecDepth 20000 in
theorem ck_R_run : ∀ pc r, k_R_run.lookup pc = some r → lm_ck b_R_run 5 pc r = true := kk_ck (by decide +kernel)
set_option maxRecDepth 20000 in
theorem yw_R_run : kk_yw y_R_run b_R_run 5 (some .int) 1 (some 4) := ⟨kk_tm 425 (by rfl) rfl, (kk_tm 6 (by decide +kernel) (by decide +kernel)), ⟨by decide, by decide, by decide +kernel⟩, Or.inr ⟨4, F_R, 10, rfl, rfl, (kk_tm 423 (by decide +kernel) (by decide +kernel)), (kk_tm 424 (by decide +kernel) (by decide +kernel))⟩⟩
theorem li_R_100 : kk_li R_R 100 y_R_has := Or.inl (kk_tm 426 (by decide +kernel) (by decide +kernel))
def k_R_go : List (Nat × lm_R) := [(0, .iload_n 1, 1, 0, 0), (1, .aload_n 0, 2, 0, 0), (2, .getfield 29, 5, 0, 0), (5, .invokestatic 32, 8, 0, 0), (8, .ifCond .ne (5), 11, 0, 13), (11, .iconst 0, 12, 0, 0), (12, .ireturn, 13, 0, 0), (13, .aload_n 0, 14, 0, 0), (14, .iload_n 1, 15, 0, 0), (15, .invokevirtual 104, 18, 0, 0), (18, .iconst 1, 19, 1, 0), (19, .ireturn, 20, 0, 0)]
abbrev g_R_go : lm_G := (k_R_go, fl_R, sl_R, 0, 2, none)
set_option maxRecDepth 20000 in
theorem ck_R_go : ∀ pc r, k_R_go.lookup pc = some r → lm_ck b_R_go 2 pc r = true := kk_ck (by decide +kernel)
set_option maxRecDepth 20000 in
theorem yw_R_go : kk_yw y_R_go b_R_go 2 (some .boolean) 1 (some 4) := ⟨kk_tm 495 (by rfl) rfl, (kk_tm 6 (by decide +kernel) (by decide +kernel)), ⟨by decide, by decide, by decide +kernel⟩, Or.inr ⟨4, F_R, 10, rfl, rfl, (kk_tm 493 (by decide +kernel) (by decide +kernel)), (kk_tm 494 (by decide +kernel) (by decide +kernel))⟩⟩
theorem li_R_104 : kk_li R_R 104 y_R_come := Or.inl (kk_tm 496 (by decide +kernel) (by decide +kernel))
def k_R_seek : List (Nat × lm_R) := [(0, .aload_n 0, 1, 0, 0), (1, .getfield 25, 4, 0, 0), (4, .istore_n 1, 5, 0, 0), (5, .iconst (-1), 6, (-1), 0), (6, .istore_n 2, 7, 0, 0), (7, .aload_n 0, 8, 0, 0), (8, .iconst 0, 9, 0, 0), (9, .invokevirtual 104, 12, 0, 0), (12, .iconst 0, 13, 0, 0), (13, .istore_n 3, 14, 0, 0), (14, .iload_n 3, 15, 0, 0), (15, .iload_n 1, 16, 0, 0), (16, .if_icmp .ge (91), 19, 0, 107), (19, .aload_n 0, 20, 0, 0), (20, .getfield 16, 23, 0, 0), (23, .aload_n 0, 24, 0, 0), (24, .getfield 97, 27, 0, 0), (27, .aload_n 0, 28, 0, 0), (28, .getfield 13, 31, 0, 0), (31, .sipush (517), 34, 517, 0), (34, .iaload, 35, 0, 0), (35, .invokestatic 100, 38, 0, 0), (38, .istore 4, 40, 0, 0), (40, .aload_n 0, 41, 0, 0), (41, .invokevirtual 94, 44, 0, 0), (44, .iload 4, 46, 0, 0), (46, .ifCond .ne (53), 49, 0, 99), (49, .aload_n 0, 50, 0, 0), (50, .getfield 40, 53, 0, 0), (53, .ifCond .lt (21), 56, 0, 74), (56, .aload_n 0, 57, 0, 0), (57, .getfield 19, 60, 0, 0), (60, .aload_n 0, 61, 0, 0), (61, .getfield 107, 64, 0, 0), (64, .aload_n 0, 65, 0, 0), (65, .getfield 40, 68, 0, 0), (68, .invokestatic 100, 71, 0, 0), (71, .ifCond .ne (28), 74, 0, 99), (74, .aload_n 0, 75, 0, 0), (75, .getfield 43, 78, 0, 0), (78, .ifCond .lt (23), 81, 0, 101), (81, .aload_n 0, 82, 0, 0), (82, .getfield 19, 85, 0, 0), (85, .aload_n 0, 86, 0, 0), (86, .getfield 107, 89, 0, 0), (89, .aload_n 0, 90, 0, 0), (90, .getfield 43, 93, 0, 0), (93, .invokestatic 100, 96, 0, 0), (96, .ifCond .eq (5), 99, 0, 101), (99, .iload_n 3, 100, 0, 0), (100, .istore_n 2, 101, 0, 0), (101, .iinc 3 (1), 104, 1, 0), (104, .goto (-90), 107, 0, 14), (107, .aload_n 0, 108, 0, 0), (108, .iload_n 2, 109, 0, 0), (109, .ifCond .ge (7), 112, 0, 116), (112, .iload_n 1, 113, 0, 0), (113, .goto (4), 116, 0, 117), (116, .iload_n 2, 117, 0, 0), (117, .invokevirtual 104, 120, 0, 0), (120, .iload_n 2, 121, 0, 0), (121, .ireturn, 122, 0, 0)]
abbrev g_R_seek : lm_G := (k_R_seek, fl_R, sl_R, 0, 1, none)
set_option maxRecDepth 20000 in
theorem ck_R_seek : ∀ pc r, k_R_seek.lookup pc = some r → lm_ck b_R_seek 5 pc r = true := kk_ck (by decide +kernel)
set_option maxRecDepth 20000 in
theorem yw_R_seek : kk_yw y_R_seek b_R_seek 5 (some .int) 0 (some 4) := ⟨kk_tm 503 (by rfl) rfl, (kk_tm 6 (by decide +kernel) (by decide +kernel)), ⟨by decide, by decide, by decide +kernel⟩, Or.inr ⟨4, F_R, 10, rfl, rfl, (kk_tm 501 (by decide +kernel) (by decide +kernel)), (kk_tm 502 (by decide +kernel) (by decide +kernel))⟩⟩
def k_R_time : List (Nat × lm_R) := [(0, .aload_n 0, 1, 0, 0), (1, .getfield 25, 4, 0, 0), (4, .ireturn, 5, 0, 0)]
abbrev g_R_time : lm_G := (k_R_time, fl_R, sl_R, 0, 1, none)
set_option maxRecDepth 20000 in
theorem ck_R_time : ∀ pc r, k_R_time.lookup pc = some r → lm_ck b_R_time 1 pc r = true := kk_ck (by decide +kernel)
set_option maxRecDepth 20000 in
theorem yw_R_time : kk_yw y_R_time b_R_time 1 (some .int) 0 (some 4) := ⟨kk_tm 507 (by rfl) rfl, (kk_tm 6 (by decide +kernel) (by decide +kernel)), ⟨by decide, by decide, by decide +kernel⟩, Or.inr ⟨4, F_R, 10, rfl, rfl, (kk_tm 505 (by decide +kernel) (by decide +kernel)), (kk_tm 506 (by decide +kernel) (by decide +kernel))⟩⟩
def k_R_last : List (Nat × lm_R) := [(0, .aload_n 0, 1, 0, 0), (1, .getfield 29, 4, 0, 0), (4, .ireturn, 5, 0, 0)]
abbrev g_R_last : lm_G := (k_R_last, fl_R, sl_R, 0, 1, none)
set_option maxRecDepth 20000 in
theorem ck_R_last : ∀ pc r, k_R_last.lookup pc = some r → lm_ck b_R_last 1 pc r = true := kk_ck (by decide +kernel)
set_option maxRecDepth 20000 in
theorem yw_R_last : kk_yw y_R_last b_R_last 1 (some .int) 0 (some 4) := ⟨kk_tm 511 (by rfl) rfl, (kk_tm 6 (by decide +kernel) (by decide +kernel)), ⟨by decide, by decide, by decide +kernel⟩, Or.inr ⟨4, F_R, 10, rfl, rfl, (kk_tm 509 (by decide +kernel) (by decide +kernel)), (kk_tm 510 (by decide +kernel) (by decide +kernel))⟩⟩
def k_R_turn : List (Nat × lm_R) := [(0, .iload_n 2, 1, 0, 0), (1, .sipush (511), 4, 511, 0), (4, .invokestatic 32, 7, 0, 0), (7, .ifCond .eq (22), 10, 0, 29), (10, .aload_n 0, 11, 0, 0), (11, .iload_n 1, 12, 0, 0), (12, .iload_n 2, 13, 0, 0), (13, .invokestatic 100, 16, 0, 0), (16, .iload_n 3, 17, 0, 0), (17, .if_icmp .eq (12), 20, 0, 29), (20, .iload_n 3, 21, 0, 0), (21, .ifCond .eq (10), 24, 0, 31), (24, .iload_n 1, 25, 0, 0), (25, .iconst 4, 26, 4, 0), (26, .if_icmp .ne (5), 29, 0, 31), (29, .iconst (-1), 30, (-1), 0), (30, .ireturn, 31, 0, 0), (31, .iload_n 3, 32, 0, 0), (32, .ifCond .eq (11), 35, 0, 43), (35, .aload_n 0, 36, 0, 0), (36, .iload_n 1, 37, 0, 0), (37, .iload_n 2, 38, 0, 0), (38, .iastore, 39, 0, 0), (39, .iload_n 1, 40, 0, 0), (40, .iconst 1, 41, 1, 0), (41, .iadd, 42, 0, 0), (42, .ireturn, 43, 0, 0), (43, .iconst 0, 44, 0, 0), (44, .istore 4, 46, 0, 0), (46, .iconst 0, 47, 0, 0), (47, .istore 5, 49, 0, 0), (49, .iload 5, 51, 0, 0), (51, .iload_n 1, 52, 0, 0), (52, .if_icmp .ge (33), 55, 0, 85), (55, .aload_n 0, 56, 0, 0), (56, .iload 5, 58, 0, 0), (58, .iaload, 59, 0, 0), (59, .istore 6, 61, 0, 0), (61, .iload 6, 63, 0, 0), (63, .iload_n 2, 64, 0, 0), (64, .if_icmp .eq (15), 67, 0, 79), (67, .aload_n 0, 68, 0, 0), (68, .iload 4, 70, 0, 0), (70, .iload 6, 72, 0, 0), (72, .iastore, 73, 0, 0), (73, .iload 4, 75, 0, 0), (75, .iconst 1, 76, 1, 0), (76, .iadd, 77, 0, 0), (77, .istore 4, 79, 0, 0), (79, .iinc 5 (1), 82, 1, 0), (82, .goto (-33), 85, 0, 49), (85, .iload 4, 87, 0, 0), (87, .ireturn, 88, 0, 0)]
abbrev g_R_turn : lm_G := (k_R_turn, fl_R, sl_R, 0, 1, none)
set_option maxRecDepth 20000 in
theorem ck_R_turn : ∀ pc r, k_R_turn.lookup pc = some r → lm_ck b_R_turn 7 pc r = true := kk_ck (by decide +kernel)
set_option maxRecDepth 20000 in
theorem yw_R_turn : kk_yw y_R_turn b_R_turn 7 (some .int) 4 none := ⟨kk_tm 518 (by rfl) rfl, (kk_tm 6 (by decide +kernel) (by decide +kernel)), ⟨by decide, by decide, by decide +kernel⟩, Or.inl ⟨rfl, (kk_tm 517 (by decide +kernel) (by decide +kernel))⟩⟩
def k_R_stop : List (Nat × lm_R) := [(0, .aload_n 0, 1, 0, 0), (1, .getfield 16, 4, 0, 0), (4, .aload_n 0, 5, 0, 0), (5, .getfield 97, 8, 0, 0), (8, .iload_n 1, 9, 0, 0), (9, .iload_n 2, 10, 0, 0), (10, .invokestatic 110, 13, 0, 0), (13, .istore_n 3, 14, 0, 0), (14, .iload_n 3, 15, 0, 0), (15, .ifCond .ge (5), 18, 0, 20), (18, .iconst 0, 19, 0, 0), (19, .ireturn, 20, 0, 0), (20, .aload_n 0, 21, 0, 0), (21, .iload_n 3, 22, 0, 0), (22, .putfield 97, 25, 0, 0), (25, .iconst 1, 26, 1, 0), (26, .ireturn, 27, 0, 0)]
abbrev g_R_stop : lm_G := (k_R_stop, fl_R, sl_R, 0, 2, none)
set_option maxRecDepth 20000 in
theorem ck_R_stop : ∀ pc r, k_R_stop.lookup pc = some r → lm_ck b_R_stop 4 pc r = true := kk_ck (by decide +kernel)
set_option maxRecDepth 20000 in
theorem yw_R_stop : kk_yw y_R_stop b_R_stop 4 (some .boolean) 2 (some 4) := ⟨kk_tm 515 (by rfl) rfl, (kk_tm 6 (by decide +kernel) (by decide +kernel)), ⟨by decide, by decide, by decide +kernel⟩, Or.inr ⟨4, F_R, 10, rfl, rfl, (kk_tm 513 (by decide +kernel) (by decide +kernel)), (kk_tm 514 (by decide +kernel) (by decide +kernel))⟩⟩
theorem li_R_110 : kk_li R_R 110 y_R_turn := Or.inl (kk_tm 516 (by decide +kernel) (by decide +kernel))
def k_R_watch : List (Nat × lm_R) := [(0, .aload_n 0, 1, 0, 0), (1, .getfield 19, 4, 0, 0), (4, .aload_n 0, 5, 0, 0), (5, .getfield 107, 8, 0, 0), (8, .iload_n 1, 9, 0, 0), (9, .iload_n 2, 10, 0, 0), (10, .invokestatic 110, 13, 0, 0), (13, .istore_n 3, 14, 0, 0), (14, .iload_n 3, 15, 0, 0), (15, .ifCond .ge (5), 18, 0, 20), (18, .iconst 0, 19, 0, 0), (19, .ireturn, 20, 0, 0), (20, .aload_n 0, 21, 0, 0), (21, .iload_n 3, 22, 0, 0), (22, .putfield 107, 25, 0, 0), (25, .iconst 1, 26, 1, 0), (26, .ireturn, 27, 0, 0)]
abbrev g_R_watch : lm_G := (k_R_watch, fl_R, sl_R, 0, 2, none)
set_option maxRecDepth 20000 in
theorem ck_R_watch : ∀ pc r, k_R_watch.lookup pc = some r → lm_ck b_R_watch 4 pc r = true := kk_ck (by decide +kernel)
set_option maxRecDepth 20000 in
theorem yw_R_watch : kk_yw y_R_watch b_R_watch 4 (some .boolean) 2 (some 4) := ⟨kk_tm 522 (by rfl) rfl, (kk_tm 6 (by decide +kernel) (by decide +kernel)), ⟨by decide, by decide, by decide +kernel⟩, Or.inr ⟨4, F_R, 10, rfl, rfl, (kk_tm 520 (by decide +kernel) (by decide +kernel)), (kk_tm 521 (by decide +kernel) (by decide +kernel))⟩⟩
def k_R_cell : List (Nat × lm_R) := [(0, .iload_n 1, 1, 0, 0), (1, .sipush (511), 4, 511, 0), (4, .invokestatic 32, 7, 0, 0), (7, .ifCond .eq (12), 10, 0, 19), (10, .aload_n 0, 11, 0, 0), (11, .getfield 13, 14, 0, 0), (14, .iload_n 1, 15, 0, 0), (15, .iaload, 16, 0, 0), (16, .goto (4), 19, 0, 20), (19, .iconst (-1), 20, (-1), 0), (20, .ireturn, 21, 0, 0)]
abbrev g_R_cell : lm_G := (k_R_cell, fl_R, sl_R, 0, 1, none)
set_option maxRecDepth 20000 in
theorem ck_R_cell : ∀ pc r, k_R_cell.lookup pc = some r → lm_ck b_R_cell 2 pc r = true := kk_ck (by decide +kernel)
set_option maxRecDepth 20000 in
theorem yw_R_cell : kk_yw y_R_cell b_R_cell 2 (some .int) 1 (some 4) := ⟨kk_tm 526 (by rfl) rfl, (kk_tm 6 (by decide +kernel) (by decide +kernel)), ⟨by decide, by decide, by decide +kernel⟩, Or.inr ⟨4, F_R, 10, rfl, rfl, (kk_tm 524 (by decide +kernel) (by decide +kernel)), (kk_tm 525 (by decide +kernel) (by decide +kernel))⟩⟩
def k_R_register : List (Nat × lm_R) := [(0, .iload_n 1, 1, 0, 0), (1, .bipush (6), 3, 6, 0), (3, .invokestatic 32, 6, 0, 0), (6, .ifCond .eq (16), 9, 0, 22), (9, .aload_n 0, 10, 0, 0), (10, .getfield 13, 13, 0, 0), (13, .sipush (512), 16, 512, 0), (16, .iload_n 1, 17, 0, 0), (17, .iadd, 18, 0, 0), (18, .iaload, 19, 0, 0), (19, .goto (4), 22, 0, 23), (22, .iconst (-1), 23, (-1), 0), (23, .ireturn, 24, 0, 0)]
abbrev g_R_register : lm_G := (k_R_register, fl_R, sl_R, 0, 1, none)
set_option maxRecDepth 20000 in
theorem ck_R_register : ∀ pc r, k_R_register.lookup pc = some r → lm_ck b_R_register 2 pc r = true := kk_ck (by decide +kernel)
set_option maxRecDepth 20000 in
theorem yw_R_register : kk_yw y_R_register b_R_register 2 (some .int) 1 (some 4) := ⟨kk_tm 530 (by rfl) rfl, (kk_tm 6 (by decide +kernel) (by decide +kernel)), ⟨by decide, by decide, by decide +kernel⟩, Or.inr ⟨4, F_R, 10, rfl, rfl, (kk_tm 528 (by decide +kernel) (by decide +kernel)), (kk_tm 529 (by decide +kernel) (by decide +kernel))⟩⟩
def k_R_waiting : List (Nat × lm_R) := [(0, .aload_n 0, 1, 0, 0), (1, .getfield 13, 4, 0, 0), (4, .sipush (519), 7, 519, 0), (7, .iaload, 8, 0, 0), (8, .ireturn, 9, 0, 0)]
abbrev g_R_waiting : lm_G := (k_R_waiting, fl_R, sl_R, 0, 1, none)
set_option maxRecDepth 20000 in
theorem ck_R_waiting : ∀ pc r, k_R_waiting.lookup pc = some r → lm_ck b_R_waiting 1 pc r = true := kk_ck (by decide +kernel)
set_option maxRecDepth 20000 in
theorem yw_R_waiting : kk_yw y_R_waiting b_R_waiting 1 (some .int) 0 (some 4) := ⟨kk_tm 534 (by rfl) rfl, (kk_tm 6 (by decide +kernel) (by decide +kernel)), ⟨by decide, by decide, by decide +kernel⟩, Or.inr ⟨4, F_R, 10, rfl, rfl, (kk_tm 532 (by decide +kernel) (by decide +kernel)), (kk_tm 533 (by decide +kernel) (by decide +kernel))⟩⟩
def k_R_puts : List (Nat × lm_R) := [(0, .aload_n 0, 1, 0, 0), (1, .getfield 13, 4, 0, 0), (4, .sipush (560), 7, 560, 0), (7, .iaload, 8, 0, 0), (8, .ireturn, 9, 0, 0)]
abbrev g_R_puts : lm_G := (k_R_puts, fl_R, sl_R, 0, 1, none)
set_option maxRecDepth 20000 in
theorem ck_R_puts : ∀ pc r, k_R_puts.lookup pc = some r → lm_ck b_R_puts 1 pc r = true := kk_ck (by decide +kernel)
set_option maxRecDepth 20000 in
theorem yw_R_puts : kk_yw y_R_puts b_R_puts 1 (some .int) 0 (some 4) := ⟨kk_tm 538 (by rfl) rfl, (kk_tm 6 (by decide +kernel) (by decide +kernel)), ⟨by decide, by decide, by decide +kernel⟩, Or.inr ⟨4, F_R, 10, rfl, rfl, (kk_tm 536 (by decide +kernel) (by decide +kernel)), (kk_tm 537 (by decide +kernel) (by decide +kernel))⟩⟩
def k_R_output : List (Nat × lm_R) := [(0, .iload_n 1, 1, 0, 0), (1, .bipush (7), 3, 7, 0), (3, .invokestatic 32, 6, 0, 0), (6, .ifCond .eq (28), 9, 0, 34), (9, .iload_n 1, 10, 0, 0), (10, .aload_n 0, 11, 0, 0), (11, .getfield 13, 14, 0, 0), (14, .sipush (560), 17, 560, 0), (17, .iaload, 18, 0, 0), (18, .if_icmp .ge (16), 21, 0, 34), (21, .aload_n 0, 22, 0, 0), (22, .getfield 13, 25, 0, 0), (25, .sipush (561), 28, 561, 0), (28, .iload_n 1, 29, 0, 0), (29, .iadd, 30, 0, 0), (30, .iaload, 31, 0, 0), (31, .goto (4), 34, 0, 35), (34, .iconst (-1), 35, (-1), 0), (35, .ireturn, 36, 0, 0)]
abbrev g_R_output : lm_G := (k_R_output, fl_R, sl_R, 0, 1, none)
set_option maxRecDepth 20000 in
theorem ck_R_output : ∀ pc r, k_R_output.lookup pc = some r → lm_ck b_R_output 2 pc r = true := kk_ck (by decide +kernel)
set_option maxRecDepth 20000 in
theorem yw_R_output : kk_yw y_R_output b_R_output 2 (some .int) 1 (some 4) := ⟨kk_tm 542 (by rfl) rfl, (kk_tm 6 (by decide +kernel) (by decide +kernel)), ⟨by decide, by decide, by decide +kernel⟩, Or.inr ⟨4, F_R, 10, rfl, rfl, (kk_tm 540 (by decide +kernel) (by decide +kernel)), (kk_tm 541 (by decide +kernel) (by decide +kernel))⟩⟩
def k_R_wrote : List (Nat × lm_R) := [(0, .iload_n 1, 1, 0, 0), (1, .aload_n 0, 2, 0, 0), (2, .getfield 29, 5, 0, 0), (5, .iconst 1, 6, 1, 0), (6, .isub, 7, 0, 0), (7, .invokestatic 32, 10, 0, 0), (10, .ifCond .ne (5), 13, 0, 15), (13, .iconst (-1), 14, (-1), 0), (14, .ireturn, 15, 0, 0), (15, .aload_n 0, 16, 0, 0), (16, .getfield 25, 19, 0, 0), (19, .istore_n 2, 20, 0, 0), (20, .aload_n 0, 21, 0, 0), (21, .iload_n 1, 22, 0, 0), (22, .iconst 1, 23, 1, 0), (23, .iadd, 24, 0, 0), (24, .invokevirtual 104, 27, 0, 0), (27, .aload_n 0, 28, 0, 0), (28, .getfield 40, 31, 0, 0), (31, .istore_n 3, 32, 0, 0), (32, .aload_n 0, 33, 0, 0), (33, .iload_n 2, 34, 0, 0), (34, .invokevirtual 104, 37, 0, 0), (37, .iload_n 3, 38, 0, 0), (38, .ireturn, 39, 0, 0)]
abbrev g_R_wrote : lm_G := (k_R_wrote, fl_R, sl_R, 0, 1, none)
set_option maxRecDepth 20000 in
theorem ck_R_wrote : ∀ pc r, k_R_wrote.lookup pc = some r → lm_ck b_R_wrote 4 pc r = true := kk_ck (by decide +kernel)
set_option maxRecDepth 20000 in
theorem yw_R_wrote : kk_yw y_R_wrote b_R_wrote 4 (some .int) 1 (some 4) := ⟨kk_tm 546 (by rfl) rfl, (kk_tm 6 (by decide +kernel) (by decide +kernel)), ⟨by decide, by decide, by decide +kernel⟩, Or.inr ⟨4, F_R, 10, rfl, rfl, (kk_tm 544 (by decide +kernel) (by decide +kernel)), (kk_tm 545 (by decide +kernel) (by decide +kernel))⟩⟩
def k_H_begin : List (Nat × lm_R) := [(0, .aload_n 0, 1, 0, 0), (1, .iconst 0, 2, 0, 0), (2, .putfield 21, 5, 0, 0), (5, .aload_n 0, 6, 0, 0), (6, .iconst 0, 7, 0, 0), (7, .putfield 25, 10, 0, 0), (10, .aload_n 0, 11, 0, 0), (11, .aload_n 1, 12, 0, 0), (12, .invokevirtual 28, 15, 0, 0), (15, .return_, 16, 0, 0)]
abbrev g_H_begin : lm_G := (k_H_begin, fl_H, sl_H, 0, 0, none)
set_option maxRecDepth 20000 in
theorem ck_H_begin : ∀ pc r, k_H_begin.lookup pc = some r → lm_ck b_H_begin 2 pc r = true := kk_ck (by decide +kernel)
set_option maxRecDepth 20000 in
theorem yw_H_begin : kk_yw y_H_begin b_H_begin 2 (none) 1 (some 2) := ⟨kk_tm 98 (by rfl) rfl, (kk_tm 3 (by decide +kernel) (by decide +kernel)), ⟨by decide, by decide, by decide +kernel⟩, Or.inr ⟨2, F_H, 5, rfl, rfl, (kk_tm 96 (by decide +kernel) (by decide +kernel)), (kk_tm 97 (by decide +kernel) (by decide +kernel))⟩⟩
theorem li_H_28 : kk_li R_H 28 y_H_keepPresent := Or.inl (kk_tm 99 (by decide +kernel) (by decide +kernel))
def k_H_append : List (Nat × lm_R) := [(0, .aload_n 0, 1, 0, 0), (1, .getfield 25, 4, 0, 0), (4, .sipush (300), 7, 300, 0), (7, .if_icmp .lt (4), 10, 0, 11), (10, .return_, 11, 0, 0), (11, .iconst 0, 12, 0, 0), (12, .istore_n 2, 13, 0, 0), (13, .iload_n 2, 14, 0, 0), (14, .iconst 2, 15, 2, 0), (15, .if_icmp .ge (47), 18, 0, 62), (18, .aload_n 0, 19, 0, 0), (19, .getfield 15, 22, 0, 0), (22, .aload_n 0, 23, 0, 0), (23, .getfield 25, 26, 0, 0), (26, .iconst 2, 27, 2, 0), (27, .imul, 28, 0, 0), (28, .iload_n 2, 29, 0, 0), (29, .iadd, 30, 0, 0), (30, .aload_n 1, 31, 0, 0), (31, .getfield 32, 34, 0, 0), (34, .iload_n 2, 35, 0, 0), (35, .iaload, 36, 0, 0), (36, .iastore, 37, 0, 0), (37, .aload_n 0, 38, 0, 0), (38, .getfield 18, 41, 0, 0), (41, .aload_n 0, 42, 0, 0), (42, .getfield 25, 45, 0, 0), (45, .iconst 2, 46, 2, 0), (46, .imul, 47, 0, 0), (47, .iload_n 2, 48, 0, 0), (48, .iadd, 49, 0, 0), (49, .aload_n 1, 50, 0, 0), (50, .getfield 35, 53, 0, 0), (53, .iload_n 2, 54, 0, 0), (54, .iaload, 55, 0, 0), (55, .iastore, 56, 0, 0), (56, .iinc 2 (1), 59, 1, 0), (59, .goto (-46), 62, 0, 13), (62, .aload_n 0, 63, 0, 0), (63, .dup, 64, 0, 0), (64, .getfield 25, 67, 0, 0), (67, .iconst 1, 68, 1, 0), (68, .iadd, 69, 0, 0), (69, .putfield 25, 72, 0, 0), (72, .aload_n 0, 73, 0, 0), (73, .aload_n 0, 74, 0, 0), (74, .getfield 25, 77, 0, 0), (77, .putfield 21, 80, 0, 0), (80, .aload_n 0, 81, 0, 0), (81, .aload_n 1, 82, 0, 0), (82, .invokevirtual 28, 85, 0, 0), (85, .return_, 86, 0, 0)]
abbrev g_H_append : lm_G := (k_H_append, fl_H, sl_H, 0, 0, none)
set_option maxRecDepth 20000 in
theorem ck_H_append : ∀ pc r, k_H_append.lookup pc = some r → lm_ck b_H_append 3 pc r = true := kk_ck (by decide +kernel)
set_option maxRecDepth 20000 in
theorem yw_H_append : kk_yw y_H_append b_H_append 3 (none) 1 (some 2) := ⟨kk_tm 292 (by rfl) rfl, (kk_tm 3 (by decide +kernel) (by decide +kernel)), ⟨by decide, by decide, by decide +kernel⟩, Or.inr ⟨2, F_H, 5, rfl, rfl, (kk_tm 290 (by decide +kernel) (by decide +kernel)), (kk_tm 291 (by decide +kernel) (by decide +kernel))⟩⟩
def k_H_moveTo : List (Nat × lm_R) := [(0, .iload_n 1, 1, 0, 0), (1, .ifCond .lt (11), 4, 0, 12), (4, .iload_n 1, 5, 0, 0), (5, .aload_n 0, 6, 0, 0), (6, .getfield 25, 9, 0, 0), (9, .if_icmp .le (4), 12, 0, 13), (12, .return_, 13, 0, 0), (13, .aload_n 0, 14, 0, 0), (14, .getfield 21, 17, 0, 0), (17, .iconst 2, 18, 2, 0), (18, .imul, 19, 0, 0), (19, .istore_n 3, 20, 0, 0), (20, .iload_n 3, 21, 0, 0), (21, .iload_n 1, 22, 0, 0), (22, .iconst 2, 23, 2, 0), (23, .imul, 24, 0, 0), (24, .if_icmp .ge (18), 27, 0, 42), (27, .aload_n 0, 28, 0, 0), (28, .iload_n 3, 29, 0, 0), (29, .aload_n 2, 30, 0, 0), (30, .getfield 38, 33, 0, 0), (33, .invokevirtual 41, 36, 0, 0), (36, .iinc 3 (1), 39, 1, 0), (39, .goto (-19), 42, 0, 20), (42, .aload_n 0, 43, 0, 0), (43, .getfield 21, 46, 0, 0), (46, .iconst 2, 47, 2, 0), (47, .imul, 48, 0, 0), (48, .iconst 1, 49, 1, 0), (49, .isub, 50, 0, 0), (50, .istore_n 3, 51, 0, 0), (51, .iload_n 3, 52, 0, 0), (52, .iload_n 1, 53, 0, 0), (53, .iconst 2, 54, 2, 0), (54, .imul, 55, 0, 0), (55, .if_icmp .lt (18), 58, 0, 73), (58, .aload_n 0, 59, 0, 0), (59, .iload_n 3, 60, 0, 0), (60, .aload_n 2, 61, 0, 0), (61, .getfield 38, 64, 0, 0), (64, .invokevirtual 41, 67, 0, 0), (67, .iinc 3 (-1), 70, (-1), 0), (70, .goto (-19), 73, 0, 51), (73, .aload_n 0, 74, 0, 0), (74, .iload_n 1, 75, 0, 0), (75, .putfield 21, 78, 0, 0), (78, .aload_n 0, 79, 0, 0), (79, .getfield 9, 82, 0, 0), (82, .iload_n 1, 83, 0, 0), (83, .bipush (9), 85, 9, 0), (85, .imul, 86, 0, 0), (86, .aload_n 2, 87, 0, 0), (87, .getfield 45, 90, 0, 0), (90, .iconst 0, 91, 0, 0), (91, .bipush (9), 93, 9, 0), (93, .invokestatic 48, 96, 0, 0), (96, .return_, 97, 0, 0)]
abbrev g_H_moveTo : lm_G := (k_H_moveTo, fl_H, sl_H, 48, 0, none)
set_option maxRecDepth 20000 in
theorem ck_H_moveTo : ∀ pc r, k_H_moveTo.lookup pc = some r → lm_ck b_H_moveTo 4 pc r = true := kk_ck (by decide +kernel)
set_option maxRecDepth 20000 in
theorem yw_H_moveTo : kk_yw y_H_moveTo b_H_moveTo 4 (none) 2 (some 2) := ⟨kk_tm 172 (by rfl) rfl, (kk_tm 3 (by decide +kernel) (by decide +kernel)), ⟨by decide, by decide, by decide +kernel⟩, Or.inr ⟨2, F_H, 5, rfl, rfl, (kk_tm 170 (by decide +kernel) (by decide +kernel)), (kk_tm 171 (by decide +kernel) (by decide +kernel))⟩⟩
theorem li_H_41 : kk_li R_H 41 y_H_swapByte := Or.inl (kk_tm 173 (by decide +kernel) (by decide +kernel))
def k_H_counterAt : List (Nat × lm_R) := [(0, .iload_n 1, 1, 0, 0), (1, .ifCond .lt (11), 4, 0, 12), (4, .iload_n 1, 5, 0, 0), (5, .aload_n 0, 6, 0, 0), (6, .getfield 25, 9, 0, 0), (9, .if_icmp .le (7), 12, 0, 16), (12, .iconst (-1), 13, (-1), 0), (13, .goto (14), 16, 0, 27), (16, .aload_n 0, 17, 0, 0), (17, .getfield 9, 20, 0, 0), (20, .iload_n 1, 21, 0, 0), (21, .bipush (9), 23, 9, 0), (23, .imul, 24, 0, 0), (24, .iconst 5, 25, 5, 0), (25, .iadd, 26, 0, 0), (26, .iaload, 27, 0, 0), (27, .ireturn, 28, 0, 0)]
abbrev g_H_counterAt : lm_G := (k_H_counterAt, fl_H, sl_H, 0, 1, none)
set_option maxRecDepth 20000 in
theorem ck_H_counterAt : ∀ pc r, k_H_counterAt.lookup pc = some r → lm_ck b_H_counterAt 2 pc r = true := kk_ck (by decide +kernel)
set_option maxRecDepth 20000 in
theorem yw_H_counterAt : kk_yw y_H_counterAt b_H_counterAt 2 (some .int) 1 (some 2) := ⟨kk_tm 308 (by rfl) rfl, (kk_tm 3 (by decide +kernel) (by decide +kernel)), ⟨by decide, by decide, by decide +kernel⟩, Or.inr ⟨2, F_H, 5, rfl, rfl, (kk_tm 306 (by decide +kernel) (by decide +kernel)), (kk_tm 307 (by decide +kernel) (by decide +kernel))⟩⟩
def k_H_placeWritten : List (Nat × lm_R) := [(0, .iload_n 1, 1, 0, 0), (1, .ifCond .lt (11), 4, 0, 12), (4, .iload_n 1, 5, 0, 0), (5, .aload_n 0, 6, 0, 0), (6, .getfield 25, 9, 0, 0), (9, .if_icmp .lt (7), 12, 0, 16), (12, .iconst (-1), 13, (-1), 0), (13, .goto (13), 16, 0, 26), (16, .aload_n 0, 17, 0, 0), (17, .getfield 15, 20, 0, 0), (20, .iload_n 1, 21, 0, 0), (21, .iconst 2, 22, 2, 0), (22, .imul, 23, 0, 0), (23, .iload_n 2, 24, 0, 0), (24, .iadd, 25, 0, 0), (25, .iaload, 26, 0, 0), (26, .ireturn, 27, 0, 0)]
abbrev g_H_placeWritten : lm_G := (k_H_placeWritten, fl_H, sl_H, 0, 1, none)
set_option maxRecDepth 20000 in
theorem ck_H_placeWritten : ∀ pc r, k_H_placeWritten.lookup pc = some r → lm_ck b_H_placeWritten 3 pc r = true := kk_ck (by decide +kernel)
set_option maxRecDepth 20000 in
theorem yw_H_placeWritten : kk_yw y_H_placeWritten b_H_placeWritten 3 (some .int) 2 (some 2) := ⟨kk_tm 312 (by rfl) rfl, (kk_tm 3 (by decide +kernel) (by decide +kernel)), ⟨by decide, by decide, by decide +kernel⟩, Or.inr ⟨2, F_H, 5, rfl, rfl, (kk_tm 310 (by decide +kernel) (by decide +kernel)), (kk_tm 311 (by decide +kernel) (by decide +kernel))⟩⟩
def k_H_lastPlaceWritten : List (Nat × lm_R) := [(0, .aload_n 0, 1, 0, 0), (1, .iload_n 1, 2, 0, 0), (2, .iconst 1, 3, 1, 0), (3, .invokevirtual 54, 6, 0, 0), (6, .istore_n 2, 7, 0, 0), (7, .iload_n 2, 8, 0, 0), (8, .iconst (-1), 9, (-1), 0), (9, .if_icmp .eq (7), 12, 0, 16), (12, .iload_n 2, 13, 0, 0), (13, .goto (9), 16, 0, 22), (16, .aload_n 0, 17, 0, 0), (17, .iload_n 1, 18, 0, 0), (18, .iconst 0, 19, 0, 0), (19, .invokevirtual 54, 22, 0, 0), (22, .ireturn, 23, 0, 0)]
abbrev g_H_lastPlaceWritten : lm_G := (k_H_lastPlaceWritten, fl_H, sl_H, 0, 1, none)
set_option maxRecDepth 20000 in
theorem ck_H_lastPlaceWritten : ∀ pc r, k_H_lastPlaceWritten.lookup pc = some r → lm_ck b_H_lastPlaceWritten 3 pc r = true := kk_ck (by decide +kernel)
set_option maxRecDepth 20000 in
theorem yw_H_lastPlaceWritten : kk_yw y_H_lastPlaceWritten b_H_lastPlaceWritten 3 (some .int) 1 (some 2) := ⟨kk_tm 364 (by rfl) rfl, (kk_tm 3 (by decide +kernel) (by decide +kernel)), ⟨by decide, by decide, by decide +kernel⟩, Or.inr ⟨2, F_H, 5, rfl, rfl, (kk_tm 362 (by decide +kernel) (by decide +kernel)), (kk_tm 363 (by decide +kernel) (by decide +kernel))⟩⟩
theorem li_H_54 : kk_li R_H 54 y_H_placeWritten := Or.inl (kk_tm 365 (by decide +kernel) (by decide +kernel))
def k_H_keepPresent : List (Nat × lm_R) := [(0, .aload_n 1, 1, 0, 0), (1, .getfield 45, 4, 0, 0), (4, .iconst 0, 5, 0, 0), (5, .aload_n 0, 6, 0, 0), (6, .getfield 9, 9, 0, 0), (9, .aload_n 0, 10, 0, 0), (10, .getfield 21, 13, 0, 0), (13, .bipush (9), 15, 9, 0), (15, .imul, 16, 0, 0), (16, .bipush (9), 18, 9, 0), (18, .invokestatic 48, 21, 0, 0), (21, .return_, 22, 0, 0)]
abbrev g_H_keepPresent : lm_G := (k_H_keepPresent, fl_H, sl_H, 48, 0, none)
set_option maxRecDepth 20000 in
theorem ck_H_keepPresent : ∀ pc r, k_H_keepPresent.lookup pc = some r → lm_ck b_H_keepPresent 2 pc r = true := kk_ck (by decide +kernel)
set_option maxRecDepth 20000 in
theorem yw_H_keepPresent : kk_yw y_H_keepPresent b_H_keepPresent 2 (none) 1 (some 2) := ⟨kk_tm 102 (by rfl) rfl, (kk_tm 3 (by decide +kernel) (by decide +kernel)), ⟨by decide, by decide, by decide +kernel⟩, Or.inr ⟨2, F_H, 5, rfl, rfl, (kk_tm 101 (by decide +kernel) (by decide +kernel)), (kk_sm 0 (by decide +kernel) (by decide +kernel))⟩⟩
def k_H_swapByte : List (Nat × lm_R) := [(0, .aload_n 0, 1, 0, 0), (1, .getfield 15, 4, 0, 0), (4, .iload_n 1, 5, 0, 0), (5, .iaload, 6, 0, 0), (6, .istore_n 3, 7, 0, 0), (7, .iload_n 3, 8, 0, 0), (8, .invokestatic 58, 11, 0, 0), (11, .ifCond .eq (25), 14, 0, 36), (14, .aload_n 0, 15, 0, 0), (15, .getfield 18, 18, 0, 0), (18, .iload_n 1, 19, 0, 0), (19, .iaload, 20, 0, 0), (20, .istore 4, 22, 0, 0), (22, .aload_n 0, 23, 0, 0), (23, .getfield 18, 26, 0, 0), (26, .iload_n 1, 27, 0, 0), (27, .aload_n 2, 28, 0, 0), (28, .iload_n 3, 29, 0, 0), (29, .iaload, 30, 0, 0), (30, .iastore, 31, 0, 0), (31, .aload_n 2, 32, 0, 0), (32, .iload_n 3, 33, 0, 0), (33, .iload 4, 35, 0, 0), (35, .iastore, 36, 0, 0), (36, .return_, 37, 0, 0)]
abbrev g_H_swapByte : lm_G := (k_H_swapByte, fl_H, sl_H, 0, 0, none)
set_option maxRecDepth 20000 in
theorem ck_H_swapByte : ∀ pc r, k_H_swapByte.lookup pc = some r → lm_ck b_H_swapByte 5 pc r = true := kk_ck (by decide +kernel)
set_option maxRecDepth 20000 in
theorem yw_H_swapByte : kk_yw y_H_swapByte b_H_swapByte 5 (none) 2 (some 2) := ⟨kk_tm 176 (by rfl) rfl, (kk_tm 3 (by decide +kernel) (by decide +kernel)), ⟨by decide, by decide, by decide +kernel⟩, Or.inr ⟨2, F_H, 5, rfl, rfl, (kk_tm 175 (by decide +kernel) (by decide +kernel)), (kk_sm 3 (by decide +kernel) (by decide +kernel))⟩⟩
theorem li_H_58 : kk_li R_H 58 y_D_isAddress := Or.inr ⟨"ReplayDesk", kk_nm 12 (by decide +kernel)⟩
def k_M_inputsWaiting : List (Nat × lm_R) := [(0, .aload_n 0, 1, 0, 0), (1, .getfield 30, 4, 0, 0), (4, .aload_n 0, 5, 0, 0), (5, .getfield 15, 8, 0, 0), (8, .bipush (7), 10, 7, 0), (10, .iaload, 11, 0, 0), (11, .isub, 12, 0, 0), (12, .ireturn, 13, 0, 0)]
abbrev g_M_inputsWaiting : lm_G := (k_M_inputsWaiting, fl_M, sl_M, 0, 1, none)
set_option maxRecDepth 20000 in
theorem ck_M_inputsWaiting : ∀ pc r, k_M_inputsWaiting.lookup pc = some r → lm_ck b_M_inputsWaiting 1 pc r = true := kk_ck (by decide +kernel)
set_option maxRecDepth 20000 in
theorem yw_M_inputsWaiting : kk_yw y_M_inputsWaiting b_M_inputsWaiting 1 (some .int) 0 (some 1) := ⟨kk_tm 150 (by rfl) rfl, (kk_tm 2 (by decide +kernel) (by decide +kernel)), ⟨by decide, by decide, by decide +kernel⟩, Or.inr ⟨1, F_M, 9, rfl, rfl, (kk_tm 148 (by decide +kernel) (by decide +kernel)), (kk_tm 149 (by decide +kernel) (by decide +kernel))⟩⟩
def k_M_addInput : List (Nat × lm_R) := [(0, .aload_n 0, 1, 0, 0), (1, .invokevirtual 34, 4, 0, 0), (4, .istore_n 2, 5, 0, 0), (5, .iconst 0, 6, 0, 0), (6, .istore_n 3, 7, 0, 0), (7, .iload_n 3, 8, 0, 0), (8, .iload_n 2, 9, 0, 0), (9, .if_icmp .ge (29), 12, 0, 38), (12, .aload_n 0, 13, 0, 0), (13, .getfield 18, 16, 0, 0), (16, .iload_n 3, 17, 0, 0), (17, .aload_n 0, 18, 0, 0), (18, .getfield 18, 21, 0, 0), (21, .aload_n 0, 22, 0, 0), (22, .getfield 15, 25, 0, 0), (25, .bipush (7), 27, 7, 0), (27, .iaload, 28, 0, 0), (28, .iload_n 3, 29, 0, 0), (29, .iadd, 30, 0, 0), (30, .iaload, 31, 0, 0), (31, .iastore, 32, 0, 0), (32, .iinc 3 (1), 35, 1, 0), (35, .goto (-28), 38, 0, 7), (38, .aload_n 0, 39, 0, 0), (39, .getfield 15, 42, 0, 0), (42, .bipush (7), 44, 7, 0), (44, .iconst 0, 45, 0, 0), (45, .iastore, 46, 0, 0), (46, .aload_n 0, 47, 0, 0), (47, .iload_n 2, 48, 0, 0), (48, .putfield 30, 51, 0, 0), (51, .aload_n 0, 52, 0, 0), (52, .getfield 30, 55, 0, 0), (55, .bipush (40), 57, 40, 0), (57, .if_icmp .ge (23), 60, 0, 80), (60, .aload_n 0, 61, 0, 0), (61, .getfield 18, 64, 0, 0), (64, .aload_n 0, 65, 0, 0), (65, .getfield 30, 68, 0, 0), (68, .iload_n 1, 69, 0, 0), (69, .iastore, 70, 0, 0), (70, .aload_n 0, 71, 0, 0), (71, .dup, 72, 0, 0), (72, .getfield 30, 75, 0, 0), (75, .iconst 1, 76, 1, 0), (76, .iadd, 77, 0, 0), (77, .putfield 30, 80, 0, 0), (80, .return_, 81, 0, 0)]
abbrev g_M_addInput : lm_G := (k_M_addInput, fl_M, sl_M, 0, 0, none)
set_option maxRecDepth 20000 in
theorem ck_M_addInput : ∀ pc r, k_M_addInput.lookup pc = some r → lm_ck b_M_addInput 4 pc r = true := kk_ck (by decide +kernel)
set_option maxRecDepth 20000 in
theorem yw_M_addInput : kk_yw y_M_addInput b_M_addInput 4 (none) 1 (some 1) := ⟨kk_tm 154 (by rfl) rfl, (kk_tm 2 (by decide +kernel) (by decide +kernel)), ⟨by decide, by decide, by decide +kernel⟩, Or.inr ⟨1, F_M, 9, rfl, rfl, (kk_tm 152 (by decide +kernel) (by decide +kernel)), (kk_tm 153 (by decide +kernel) (by decide +kernel))⟩⟩
theorem li_M_34 : kk_li R_M 34 y_M_inputsWaiting := Or.inl (kk_tm 155 (by decide +kernel) (by decide +kernel))
def k_M_outputBehind : List (Nat × lm_R) := [(0, .iload_n 1, 1, 0, 0), (1, .aload_n 0, 2, 0, 0), (2, .getfield 15, 5, 0, 0), (5, .bipush (8), 7, 8, 0), (7, .iaload, 8, 0, 0), (8, .if_icmp .lt (7), 11, 0, 15), (11, .iconst (-1), 12, (-1), 0), (12, .goto (19), 15, 0, 31), (15, .aload_n 0, 16, 0, 0), (16, .getfield 21, 19, 0, 0), (19, .aload_n 0, 20, 0, 0), (20, .getfield 15, 23, 0, 0), (23, .bipush (8), 25, 8, 0), (25, .iaload, 26, 0, 0), (26, .iconst 1, 27, 1, 0), (27, .isub, 28, 0, 0), (28, .iload_n 1, 29, 0, 0), (29, .isub, 30, 0, 0), (30, .iaload, 31, 0, 0), (31, .ireturn, 32, 0, 0)]
abbrev g_M_outputBehind : lm_G := (k_M_outputBehind, fl_M, sl_M, 0, 1, none)
set_option maxRecDepth 20000 in
theorem ck_M_outputBehind : ∀ pc r, k_M_outputBehind.lookup pc = some r → lm_ck b_M_outputBehind 2 pc r = true := kk_ck (by decide +kernel)
set_option maxRecDepth 20000 in
theorem yw_M_outputBehind : kk_yw y_M_outputBehind b_M_outputBehind 2 (some .int) 1 (some 1) := ⟨kk_tm 356 (by rfl) rfl, (kk_tm 2 (by decide +kernel) (by decide +kernel)), ⟨by decide, by decide, by decide +kernel⟩, Or.inr ⟨1, F_M, 9, rfl, rfl, (kk_tm 354 (by decide +kernel) (by decide +kernel)), (kk_tm 355 (by decide +kernel) (by decide +kernel))⟩⟩
def k_M_dropOldOutputs : List (Nat × lm_R) := [(0, .aload_n 0, 1, 0, 0), (1, .getfield 15, 4, 0, 0), (4, .bipush (8), 6, 8, 0), (6, .iaload, 7, 0, 0), (7, .bipush (8), 9, 8, 0), (9, .isub, 10, 0, 0), (10, .istore_n 1, 11, 0, 0), (11, .iload_n 1, 12, 0, 0), (12, .ifCond .gt (4), 15, 0, 16), (15, .return_, 16, 0, 0), (16, .iconst 0, 17, 0, 0), (17, .istore_n 2, 18, 0, 0), (18, .iload_n 2, 19, 0, 0), (19, .bipush (8), 21, 8, 0), (21, .if_icmp .ge (23), 24, 0, 44), (24, .aload_n 0, 25, 0, 0), (25, .getfield 21, 28, 0, 0), (28, .iload_n 2, 29, 0, 0), (29, .aload_n 0, 30, 0, 0), (30, .getfield 21, 33, 0, 0), (33, .iload_n 1, 34, 0, 0), (34, .iload_n 2, 35, 0, 0), (35, .iadd, 36, 0, 0), (36, .iaload, 37, 0, 0), (37, .iastore, 38, 0, 0), (38, .iinc 2 (1), 41, 1, 0), (41, .goto (-23), 44, 0, 18), (44, .aload_n 0, 45, 0, 0), (45, .dup, 46, 0, 0), (46, .getfield 38, 49, 0, 0), (49, .iload_n 1, 50, 0, 0), (50, .iadd, 51, 0, 0), (51, .putfield 38, 54, 0, 0), (54, .aload_n 0, 55, 0, 0), (55, .getfield 15, 58, 0, 0), (58, .bipush (8), 60, 8, 0), (60, .bipush (8), 62, 8, 0), (62, .iastore, 63, 0, 0), (63, .return_, 64, 0, 0)]
abbrev g_M_dropOldOutputs : lm_G := (k_M_dropOldOutputs, fl_M, sl_M, 0, 0, none)
set_option maxRecDepth 20000 in
theorem ck_M_dropOldOutputs : ∀ pc r, k_M_dropOldOutputs.lookup pc = some r → lm_ck b_M_dropOldOutputs 3 pc r = true := kk_ck (by decide +kernel)
set_option maxRecDepth 20000 in
theorem yw_M_dropOldOutputs : kk_yw y_M_dropOldOutputs b_M_dropOldOutputs 3 (none) 0 (some 1) := ⟨kk_tm 133 (by rfl) rfl, (kk_tm 2 (by decide +kernel) (by decide +kernel)), ⟨by decide, by decide, by decide +kernel⟩, Or.inr ⟨1, F_M, 9, rfl, rfl, (kk_tm 131 (by decide +kernel) (by decide +kernel)), (kk_tm 132 (by decide +kernel) (by decide +kernel))⟩⟩
def k_M_makeStep : List (Nat × lm_R) := [(0, .aload_n 0, 1, 0, 0), (1, .invokevirtual 41, 4, 0, 0), (4, .aload_n 0, 5, 0, 0), (5, .getfield 15, 8, 0, 0), (8, .iconst 5, 9, 5, 0), (9, .iaload, 10, 0, 0), (10, .istore_n 1, 11, 0, 0), (11, .aload_n 0, 12, 0, 0), (12, .getfield 9, 15, 0, 0), (15, .iload_n 1, 16, 0, 0), (16, .iaload, 17, 0, 0), (17, .iconst 3, 18, 3, 0), (18, .ishr, 19, 0, 0), (19, .istore_n 2, 20, 0, 0), (20, .aload_n 0, 21, 0, 0), (21, .getfield 9, 24, 0, 0), (24, .iload_n 1, 25, 0, 0), (25, .iaload, 26, 0, 0), (26, .bipush (7), 28, 7, 0), (28, .iand, 29, 0, 0), (29, .istore_n 3, 30, 0, 0), (30, .aload_n 0, 31, 0, 0), (31, .iload_n 1, 32, 0, 0), (32, .iconst 1, 33, 1, 0), (33, .iadd, 34, 0, 0), (34, .invokevirtual 44, 37, 0, 0), (37, .istore 4, 39, 0, 0), (39, .aload_n 0, 40, 0, 0), (40, .iload_n 3, 41, 0, 0), (41, .iload_n 1, 42, 0, 0), (42, .invokevirtual 48, 45, 0, 0), (45, .istore 5, 47, 0, 0), (47, .aload_n 0, 48, 0, 0), (48, .getfield 15, 51, 0, 0), (51, .iconst 5, 52, 5, 0), (52, .iload_n 1, 53, 0, 0), (53, .iload_n 2, 54, 0, 0), (54, .iload_n 3, 55, 0, 0), (55, .invokestatic 52, 58, 0, 0), (58, .iadd, 59, 0, 0), (59, .sipush (511), 62, 511, 0), (62, .iand, 63, 0, 0), (63, .iastore, 64, 0, 0), (64, .iload_n 2, 65, 0, 0), (65, .bipush (20), 67, 20, 0), (67, .if_icmp .gt (13), 70, 0, 80), (70, .aload_n 0, 71, 0, 0), (71, .iload_n 2, 72, 0, 0), (72, .iload 5, 74, 0, 0), (74, .invokevirtual 55, 77, 0, 0), (77, .goto (85), 80, 0, 162), (80, .iload_n 2, 81, 0, 0), (81, .bipush (22), 83, 22, 0), (83, .if_icmp .gt (24), 86, 0, 107), (86, .aload_n 0, 87, 0, 0), (87, .iload_n 2, 88, 0, 0), (88, .bipush (22), 90, 22, 0), (90, .if_icmp .ne (7), 93, 0, 97), (93, .iconst 1, 94, 1, 0), (94, .goto (4), 97, 0, 98), (97, .iconst 0, 98, 0, 0), (98, .iload_n 3, 99, 0, 0), (99, .iload 5, 101, 0, 0), (101, .invokevirtual 59, 104, 0, 0), (104, .goto (58), 107, 0, 162), (107, .iload_n 2, 108, 0, 0), (108, .bipush (23), 110, 23, 0), (110, .if_icmp .ne (11), 113, 0, 121), (113, .aload_n 0, 114, 0, 0), (114, .iload_n 3, 115, 0, 0), (115, .invokevirtual 63, 118, 0, 0), (118, .goto (44), 121, 0, 162), (121, .iload_n 2, 122, 0, 0), (122, .bipush (24), 124, 24, 0), (124, .if_icmp .ne (11), 127, 0, 135), (127, .aload_n 0, 128, 0, 0), (128, .iload_n 3, 129, 0, 0), (129, .invokevirtual 67, 132, 0, 0), (132, .goto (30), 135, 0, 162), (135, .iload_n 2, 136, 0, 0), (136, .bipush (25), 138, 25, 0), (138, .if_icmp .ne (11), 141, 0, 149), (141, .aload_n 0, 142, 0, 0), (142, .iload_n 3, 143, 0, 0), (143, .invokevirtual 70, 146, 0, 0), (146, .goto (16), 149, 0, 162), (149, .iload_n 2, 150, 0, 0), (150, .bipush (26), 152, 26, 0), (152, .if_icmp .ne (10), 155, 0, 162), (155, .aload_n 0, 156, 0, 0), (156, .iload_n 3, 157, 0, 0), (157, .iload 4, 159, 0, 0), (159, .invokevirtual 73, 162, 0, 0), (162, .return_, 163, 0, 0)]
abbrev g_M_makeStep : lm_G := (k_M_makeStep, fl_M, sl_M, 0, 0, none)
set_option maxRecDepth 20000 in
theorem ck_M_makeStep : ∀ pc r, k_M_makeStep.lookup pc = some r → lm_ck b_M_makeStep 6 pc r = true := kk_ck (by decide +kernel)
set_option maxRecDepth 20000 in
theorem yw_M_makeStep : kk_yw y_M_makeStep b_M_makeStep 6 (none) 0 (some 1) := ⟨kk_tm 181 (by rfl) rfl, (kk_tm 2 (by decide +kernel) (by decide +kernel)), ⟨by decide, by decide, by decide +kernel⟩, Or.inr ⟨1, F_M, 9, rfl, rfl, (kk_tm 179 (by decide +kernel) (by decide +kernel)), (kk_tm 180 (by decide +kernel) (by decide +kernel))⟩⟩
theorem li_M_41 : kk_li R_M 41 y_M_forgetWrites := Or.inl (kk_tm 182 (by decide +kernel) (by decide +kernel))
theorem li_M_44 : kk_li R_M 44 y_M_cellAt := Or.inl (kk_tm 186 (by decide +kernel) (by decide +kernel))
theorem li_M_48 : kk_li R_M 48 y_M_placeOf := Or.inl (kk_tm 190 (by decide +kernel) (by decide +kernel))
theorem li_M_52 : kk_li R_M 52 y_M_lengthOf := Or.inl (kk_tm 198 (by decide +kernel) (by decide +kernel))
theorem li_M_55 : kk_li R_M 55 y_M_workOnPlace := Or.inl (kk_tm 203 (by decide +kernel) (by decide +kernel))
theorem li_M_59 : kk_li R_M 59 y_M_jump := Or.inl (kk_tm 251 (by decide +kernel) (by decide +kernel))
theorem li_M_63 : kk_li R_M 63 y_M_useStackOrPort := Or.inl (kk_tm 259 (by decide +kernel) (by decide +kernel))
theorem li_M_67 : kk_li R_M 67 y_M_moveRegister := Or.inl (kk_tm 275 (by decide +kernel) (by decide +kernel))
theorem li_M_70 : kk_li R_M 70 y_M_changeYOrFlag := Or.inl (kk_tm 279 (by decide +kernel) (by decide +kernel))
theorem li_M_73 : kk_li R_M 73 y_M_branch := Or.inl (kk_tm 283 (by decide +kernel) (by decide +kernel))
def k_M_lengthOf : List (Nat × lm_R) := [(0, .iload_n 0, 1, 0, 0), (1, .bipush (22), 3, 22, 0), (3, .if_icmp .gt (9), 6, 0, 12), (6, .getstatic 76, 9, 0, 0), (9, .iload_n 1, 10, 0, 0), (10, .iaload, 11, 0, 0), (11, .ireturn, 12, 0, 0), (12, .iload_n 0, 13, 0, 0), (13, .bipush (26), 15, 26, 0), (15, .if_icmp .ne (7), 18, 0, 22), (18, .iconst 2, 19, 2, 0), (19, .goto (4), 22, 0, 23), (22, .iconst 1, 23, 1, 0), (23, .ireturn, 24, 0, 0)]
abbrev g_M_lengthOf : lm_G := (k_M_lengthOf, fl_M, sl_M, 0, 1, none)
set_option maxRecDepth 20000 in
theorem ck_M_lengthOf : ∀ pc r, k_M_lengthOf.lookup pc = some r → lm_ck b_M_lengthOf 2 pc r = true := kk_ck (by decide +kernel)
set_option maxRecDepth 20000 in
theorem yw_M_lengthOf : kk_yw y_M_lengthOf b_M_lengthOf 2 (some .int) 2 none := ⟨kk_tm 200 (by rfl) rfl, (kk_tm 2 (by decide +kernel) (by decide +kernel)), ⟨by decide, by decide, by decide +kernel⟩, Or.inl ⟨rfl, (kk_tm 199 (by decide +kernel) (by decide +kernel))⟩⟩
def k_M_placeOf : List (Nat × lm_R) := [(0, .aload_n 0, 1, 0, 0), (1, .iload_n 2, 2, 0, 0), (2, .iconst 1, 3, 1, 0), (3, .iadd, 4, 0, 0), (4, .invokevirtual 44, 7, 0, 0), (7, .istore_n 3, 8, 0, 0), (8, .iload_n 3, 9, 0, 0), (9, .sipush (256), 12, 256, 0), (12, .aload_n 0, 13, 0, 0), (13, .iload_n 2, 14, 0, 0), (14, .iconst 2, 15, 2, 0), (15, .iadd, 16, 0, 0), (16, .invokevirtual 44, 19, 0, 0), (19, .imul, 20, 0, 0), (20, .iadd, 21, 0, 0), (21, .istore 4, 23, 0, 0), (23, .iload_n 1, 24, 0, 0), (24, .tableswitch (119) 0 6 #[44, 52, 54, 67, 74, 88, 102], 68, 0, 0), (68, .iload_n 2, 69, 0, 0), (69, .iconst 1, 70, 1, 0), (70, .iadd, 71, 0, 0), (71, .sipush (511), 74, 511, 0), (74, .iand, 75, 0, 0), (75, .ireturn, 76, 0, 0), (76, .iload_n 3, 77, 0, 0), (77, .ireturn, 78, 0, 0), (78, .iload_n 3, 79, 0, 0), (79, .aload_n 0, 80, 0, 0), (80, .getfield 15, 83, 0, 0), (83, .iconst 1, 84, 1, 0), (84, .iaload, 85, 0, 0), (85, .iadd, 86, 0, 0), (86, .sipush (255), 89, 255, 0), (89, .iand, 90, 0, 0), (90, .ireturn, 91, 0, 0), (91, .iload 4, 93, 0, 0), (93, .sipush (511), 96, 511, 0), (96, .iand, 97, 0, 0), (97, .ireturn, 98, 0, 0), (98, .iload 4, 100, 0, 0), (100, .aload_n 0, 101, 0, 0), (101, .getfield 15, 104, 0, 0), (104, .iconst 1, 105, 1, 0), (105, .iaload, 106, 0, 0), (106, .iadd, 107, 0, 0), (107, .sipush (511), 110, 511, 0), (110, .iand, 111, 0, 0), (111, .ireturn, 112, 0, 0), (112, .iload 4, 114, 0, 0), (114, .aload_n 0, 115, 0, 0), (115, .getfield 15, 118, 0, 0), (118, .iconst 2, 119, 2, 0), (119, .iaload, 120, 0, 0), (120, .iadd, 121, 0, 0), (121, .sipush (511), 124, 511, 0), (124, .iand, 125, 0, 0), (125, .ireturn, 126, 0, 0), (126, .aload_n 0, 127, 0, 0), (127, .iload_n 3, 128, 0, 0), (128, .invokevirtual 79, 131, 0, 0), (131, .aload_n 0, 132, 0, 0), (132, .getfield 15, 135, 0, 0), (135, .iconst 2, 136, 2, 0), (136, .iaload, 137, 0, 0), (137, .iadd, 138, 0, 0), (138, .sipush (511), 141, 511, 0), (141, .iand, 142, 0, 0), (142, .ireturn, 143, 0, 0), (143, .iconst (-1), 144, (-1), 0), (144, .ireturn, 145, 0, 0)]
abbrev g_M_placeOf : lm_G := (k_M_placeOf, fl_M, sl_M, 0, 1, none)
set_option maxRecDepth 20000 in
theorem ck_M_placeOf : ∀ pc r, k_M_placeOf.lookup pc = some r → lm_ck b_M_placeOf 5 pc r = true := kk_ck (by decide +kernel)
set_option maxRecDepth 20000 in
theorem yw_M_placeOf : kk_yw y_M_placeOf b_M_placeOf 5 (some .int) 2 (some 1) := ⟨kk_tm 193 (by rfl) rfl, (kk_tm 2 (by decide +kernel) (by decide +kernel)), ⟨by decide, by decide, by decide +kernel⟩, Or.inr ⟨1, F_M, 9, rfl, rfl, (kk_tm 192 (by decide +kernel) (by decide +kernel)), (kk_sm 6 (by decide +kernel) (by decide +kernel))⟩⟩
theorem li_M_79 : kk_li R_M 79 y_M_pointerAt := Or.inl (kk_tm 194 (by decide +kernel) (by decide +kernel))
def k_M_pointerAt : List (Nat × lm_R) := [(0, .aload_n 0, 1, 0, 0), (1, .iload_n 1, 2, 0, 0), (2, .invokevirtual 44, 5, 0, 0), (5, .sipush (256), 8, 256, 0), (8, .aload_n 0, 9, 0, 0), (9, .iload_n 1, 10, 0, 0), (10, .iconst 1, 11, 1, 0), (11, .iadd, 12, 0, 0), (12, .sipush (255), 15, 255, 0), (15, .iand, 16, 0, 0), (16, .invokevirtual 44, 19, 0, 0), (19, .imul, 20, 0, 0), (20, .iadd, 21, 0, 0), (21, .ireturn, 22, 0, 0)]
abbrev g_M_pointerAt : lm_G := (k_M_pointerAt, fl_M, sl_M, 0, 1, none)
set_option maxRecDepth 20000 in
theorem ck_M_pointerAt : ∀ pc r, k_M_pointerAt.lookup pc = some r → lm_ck b_M_pointerAt 2 pc r = true := kk_ck (by decide +kernel)
set_option maxRecDepth 20000 in
theorem yw_M_pointerAt : kk_yw y_M_pointerAt b_M_pointerAt 2 (some .int) 1 (some 1) := ⟨kk_tm 197 (by rfl) rfl, (kk_tm 2 (by decide +kernel) (by decide +kernel)), ⟨by decide, by decide, by decide +kernel⟩, Or.inr ⟨1, F_M, 9, rfl, rfl, (kk_tm 196 (by decide +kernel) (by decide +kernel)), (kk_sm 7 (by decide +kernel) (by decide +kernel))⟩⟩
def k_M_workOnPlace : List (Nat × lm_R) := [(0, .iload_n 2, 1, 0, 0), (1, .iconst (-1), 2, (-1), 0), (2, .if_icmp .ne (12), 5, 0, 14), (5, .aload_n 0, 6, 0, 0), (6, .getfield 15, 9, 0, 0), (9, .iconst 0, 10, 0, 0), (10, .iaload, 11, 0, 0), (11, .goto (8), 14, 0, 19), (14, .aload_n 0, 15, 0, 0), (15, .iload_n 2, 16, 0, 0), (16, .invokevirtual 44, 19, 0, 0), (19, .istore_n 3, 20, 0, 0), (20, .iload_n 1, 21, 0, 0), (21, .iconst 2, 22, 2, 0), (22, .if_icmp .gt (12), 25, 0, 34), (25, .aload_n 0, 26, 0, 0), (26, .iload_n 1, 27, 0, 0), (27, .iload_n 3, 28, 0, 0), (28, .invokevirtual 82, 31, 0, 0), (31, .goto (120), 34, 0, 151), (34, .iload_n 1, 35, 0, 0), (35, .iconst 5, 36, 5, 0), (36, .if_icmp .gt (19), 39, 0, 55), (39, .aload_n 0, 40, 0, 0), (40, .iload_n 2, 41, 0, 0), (41, .aload_n 0, 42, 0, 0), (42, .getfield 15, 45, 0, 0), (45, .iload_n 1, 46, 0, 0), (46, .iconst 3, 47, 3, 0), (47, .isub, 48, 0, 0), (48, .iaload, 49, 0, 0), (49, .invokevirtual 85, 52, 0, 0), (52, .goto (99), 55, 0, 151), (55, .iload_n 1, 56, 0, 0), (56, .bipush (6), 58, 6, 0), (58, .if_icmp .ne (11), 61, 0, 69), (61, .aload_n 0, 62, 0, 0), (62, .iload_n 3, 63, 0, 0), (63, .invokevirtual 88, 66, 0, 0), (66, .goto (85), 69, 0, 151), (69, .iload_n 1, 70, 0, 0), (70, .bipush (7), 72, 7, 0), (72, .if_icmp .ne (15), 75, 0, 87), (75, .aload_n 0, 76, 0, 0), (76, .sipush (255), 79, 255, 0), (79, .iload_n 3, 80, 0, 0), (80, .isub, 81, 0, 0), (81, .invokevirtual 88, 84, 0, 0), (84, .goto (67), 87, 0, 151), (87, .iload_n 1, 88, 0, 0), (88, .bipush (10), 90, 10, 0), (90, .if_icmp .gt (17), 93, 0, 107), (93, .aload_n 0, 94, 0, 0), (94, .iconst 0, 95, 0, 0), (95, .aload_n 0, 96, 0, 0), (96, .iload_n 1, 97, 0, 0), (97, .iload_n 3, 98, 0, 0), (98, .invokevirtual 91, 101, 0, 0), (101, .invokevirtual 82, 104, 0, 0), (104, .goto (47), 107, 0, 151), (107, .iload_n 1, 108, 0, 0), (108, .bipush (13), 110, 13, 0), (110, .if_icmp .gt (20), 113, 0, 130), (113, .aload_n 0, 114, 0, 0), (114, .aload_n 0, 115, 0, 0), (115, .getfield 15, 118, 0, 0), (118, .iload_n 1, 119, 0, 0), (119, .bipush (11), 121, 11, 0), (121, .isub, 122, 0, 0), (122, .iaload, 123, 0, 0), (123, .iload_n 3, 124, 0, 0), (124, .invokevirtual 94, 127, 0, 0), (127, .goto (24), 130, 0, 151), (130, .iload_n 1, 131, 0, 0), (131, .bipush (14), 133, 14, 0), (133, .if_icmp .ne (11), 136, 0, 144), (136, .aload_n 0, 137, 0, 0), (137, .iload_n 3, 138, 0, 0), (138, .invokevirtual 97, 141, 0, 0), (141, .goto (10), 144, 0, 151), (144, .aload_n 0, 145, 0, 0), (145, .iload_n 1, 146, 0, 0), (146, .iload_n 2, 147, 0, 0), (147, .iload_n 3, 148, 0, 0), (148, .invokevirtual 100, 151, 0, 0), (151, .return_, 152, 0, 0)]
abbrev g_M_workOnPlace : lm_G := (k_M_workOnPlace, fl_M, sl_M, 0, 0, none)
set_option maxRecDepth 20000 in
theorem ck_M_workOnPlace : ∀ pc r, k_M_workOnPlace.lookup pc = some r → lm_ck b_M_workOnPlace 4 pc r = true := kk_ck (by decide +kernel)
set_option maxRecDepth 20000 in
theorem yw_M_workOnPlace : kk_yw y_M_workOnPlace b_M_workOnPlace 4 (none) 2 (some 1) := ⟨kk_tm 206 (by rfl) rfl, (kk_tm 2 (by decide +kernel) (by decide +kernel)), ⟨by decide, by decide, by decide +kernel⟩, Or.inr ⟨1, F_M, 9, rfl, rfl, (kk_tm 205 (by decide +kernel) (by decide +kernel)), (kk_sm 8 (by decide +kernel) (by decide +kernel))⟩⟩
theorem li_M_82 : kk_li R_M 82 y_M_load := Or.inl (kk_tm 207 (by decide +kernel) (by decide +kernel))
theorem li_M_85 : kk_li R_M 85 y_M_writePlace := Or.inl (kk_tm 215 (by decide +kernel) (by decide +kernel))
theorem li_M_88 : kk_li R_M 88 y_M_addToA := Or.inl (kk_tm 223 (by decide +kernel) (by decide +kernel))
theorem li_M_91 : kk_li R_M 91 y_M_bitsWithA := Or.inl (kk_tm 231 (by decide +kernel) (by decide +kernel))
theorem li_M_94 : kk_li R_M 94 y_M_compare := Or.inl (kk_tm 235 (by decide +kernel) (by decide +kernel))
theorem li_M_97 : kk_li R_M 97 y_M_testBits := Or.inl (kk_tm 239 (by decide +kernel) (by decide +kernel))
theorem li_M_100 : kk_li R_M 100 y_M_alterPlace := Or.inl (kk_tm 243 (by decide +kernel) (by decide +kernel))
def k_M_bitsWithA : List (Nat × lm_R) := [(0, .iload_n 1, 1, 0, 0), (1, .lookupswitch (45) #[(8, 27), (9, 36)], 28, 0, 0), (28, .aload_n 0, 29, 0, 0), (29, .getfield 15, 32, 0, 0), (32, .iconst 0, 33, 0, 0), (33, .iaload, 34, 0, 0), (34, .iload_n 2, 35, 0, 0), (35, .iand, 36, 0, 0), (36, .ireturn, 37, 0, 0), (37, .aload_n 0, 38, 0, 0), (38, .getfield 15, 41, 0, 0), (41, .iconst 0, 42, 0, 0), (42, .iaload, 43, 0, 0), (43, .iload_n 2, 44, 0, 0), (44, .ior, 45, 0, 0), (45, .ireturn, 46, 0, 0), (46, .aload_n 0, 47, 0, 0), (47, .getfield 15, 50, 0, 0), (50, .iconst 0, 51, 0, 0), (51, .iaload, 52, 0, 0), (52, .iload_n 2, 53, 0, 0), (53, .ixor, 54, 0, 0), (54, .ireturn, 55, 0, 0)]
abbrev g_M_bitsWithA : lm_G := (k_M_bitsWithA, fl_M, sl_M, 0, 1, none)
set_option maxRecDepth 20000 in
theorem ck_M_bitsWithA : ∀ pc r, k_M_bitsWithA.lookup pc = some r → lm_ck b_M_bitsWithA 3 pc r = true := kk_ck (by decide +kernel)
set_option maxRecDepth 20000 in
theorem yw_M_bitsWithA : kk_yw y_M_bitsWithA b_M_bitsWithA 3 (some .int) 2 (some 1) := ⟨kk_tm 234 (by rfl) rfl, (kk_tm 2 (by decide +kernel) (by decide +kernel)), ⟨by decide, by decide, by decide +kernel⟩, Or.inr ⟨1, F_M, 9, rfl, rfl, (kk_tm 233 (by decide +kernel) (by decide +kernel)), (kk_sm 15 (by decide +kernel) (by decide +kernel))⟩⟩
def k_M_addToA : List (Nat × lm_R) := [(0, .aload_n 0, 1, 0, 0), (1, .getfield 15, 4, 0, 0), (4, .iconst 0, 5, 0, 0), (5, .iaload, 6, 0, 0), (6, .istore_n 2, 7, 0, 0), (7, .iload_n 2, 8, 0, 0), (8, .iload_n 1, 9, 0, 0), (9, .iadd, 10, 0, 0), (10, .aload_n 0, 11, 0, 0), (11, .getfield 15, 14, 0, 0), (14, .iconst 4, 15, 4, 0), (15, .iaload, 16, 0, 0), (16, .iconst 1, 17, 1, 0), (17, .iand, 18, 0, 0), (18, .iadd, 19, 0, 0), (19, .istore_n 3, 20, 0, 0), (20, .iload_n 2, 21, 0, 0), (21, .iload_n 1, 22, 0, 0), (22, .ixor, 23, 0, 0), (23, .sipush (128), 26, 128, 0), (26, .iand, 27, 0, 0), (27, .ifCond .ne (7), 30, 0, 34), (30, .iconst 1, 31, 1, 0), (31, .goto (4), 34, 0, 35), (34, .iconst 0, 35, 0, 0), (35, .istore 4, 37, 0, 0), (37, .aload_n 0, 38, 0, 0), (38, .iconst 0, 39, 0, 0), (39, .iload_n 3, 40, 0, 0), (40, .invokevirtual 82, 43, 0, 0), (43, .aload_n 0, 44, 0, 0), (44, .iconst 1, 45, 1, 0), (45, .iload_n 3, 46, 0, 0), (46, .sipush (255), 49, 255, 0), (49, .if_icmp .le (7), 52, 0, 56), (52, .iconst 1, 53, 1, 0), (53, .goto (4), 56, 0, 57), (56, .iconst 0, 57, 0, 0), (57, .invokevirtual 104, 60, 0, 0), (60, .aload_n 0, 61, 0, 0), (61, .bipush (64), 63, 64, 0), (63, .iload 4, 65, 0, 0), (65, .ifCond .eq (22), 68, 0, 87), (68, .iload_n 2, 69, 0, 0), (69, .aload_n 0, 70, 0, 0), (70, .getfield 15, 73, 0, 0), (73, .iconst 0, 74, 0, 0), (74, .iaload, 75, 0, 0), (75, .ixor, 76, 0, 0), (76, .sipush (128), 79, 128, 0), (79, .iand, 80, 0, 0), (80, .ifCond .eq (7), 83, 0, 87), (83, .iconst 1, 84, 1, 0), (84, .goto (4), 87, 0, 88), (87, .iconst 0, 88, 0, 0), (88, .invokevirtual 104, 91, 0, 0), (91, .return_, 92, 0, 0)]
abbrev g_M_addToA : lm_G := (k_M_addToA, fl_M, sl_M, 0, 0, none)
set_option maxRecDepth 20000 in
theorem ck_M_addToA : ∀ pc r, k_M_addToA.lookup pc = some r → lm_ck b_M_addToA 5 pc r = true := kk_ck (by decide +kernel)
set_option maxRecDepth 20000 in
theorem yw_M_addToA : kk_yw y_M_addToA b_M_addToA 5 (none) 1 (some 1) := ⟨kk_tm 226 (by rfl) rfl, (kk_tm 2 (by decide +kernel) (by decide +kernel)), ⟨by decide, by decide, by decide +kernel⟩, Or.inr ⟨1, F_M, 9, rfl, rfl, (kk_tm 225 (by decide +kernel) (by decide +kernel)), (kk_sm 13 (by decide +kernel) (by decide +kernel))⟩⟩
theorem li_M_104 : kk_li R_M 104 y_M_putFlag := Or.inl (kk_tm 227 (by decide +kernel) (by decide +kernel))
def k_M_compare : List (Nat × lm_R) := [(0, .aload_n 0, 1, 0, 0), (1, .iload_n 1, 2, 0, 0), (2, .iload_n 2, 3, 0, 0), (3, .isub, 4, 0, 0), (4, .sipush (255), 7, 255, 0), (7, .iand, 8, 0, 0), (8, .invokevirtual 108, 11, 0, 0), (11, .aload_n 0, 12, 0, 0), (12, .iconst 1, 13, 1, 0), (13, .iload_n 1, 14, 0, 0), (14, .iload_n 2, 15, 0, 0), (15, .if_icmp .lt (7), 18, 0, 22), (18, .iconst 1, 19, 1, 0), (19, .goto (4), 22, 0, 23), (22, .iconst 0, 23, 0, 0), (23, .invokevirtual 104, 26, 0, 0), (26, .return_, 27, 0, 0)]
abbrev g_M_compare : lm_G := (k_M_compare, fl_M, sl_M, 0, 0, none)
set_option maxRecDepth 20000 in
theorem ck_M_compare : ∀ pc r, k_M_compare.lookup pc = some r → lm_ck b_M_compare 3 pc r = true := kk_ck (by decide +kernel)
set_option maxRecDepth 20000 in
theorem yw_M_compare : kk_yw y_M_compare b_M_compare 3 (none) 2 (some 1) := ⟨kk_tm 238 (by rfl) rfl, (kk_tm 2 (by decide +kernel) (by decide +kernel)), ⟨by decide, by decide, by decide +kernel⟩, Or.inr ⟨1, F_M, 9, rfl, rfl, (kk_tm 237 (by decide +kernel) (by decide +kernel)), (kk_sm 16 (by decide +kernel) (by decide +kernel))⟩⟩
theorem li_M_108 : kk_li R_M 108 y_M_noteResult := Or.inl (kk_tm 211 (by decide +kernel) (by decide +kernel))
def k_M_testBits : List (Nat × lm_R) := [(0, .aload_n 0, 1, 0, 0), (1, .sipush (128), 4, 128, 0), (4, .iload_n 1, 5, 0, 0), (5, .sipush (128), 8, 128, 0), (8, .iand, 9, 0, 0), (9, .ifCond .eq (7), 12, 0, 16), (12, .iconst 1, 13, 1, 0), (13, .goto (4), 16, 0, 17), (16, .iconst 0, 17, 0, 0), (17, .invokevirtual 104, 20, 0, 0), (20, .aload_n 0, 21, 0, 0), (21, .bipush (64), 23, 64, 0), (23, .iload_n 1, 24, 0, 0), (24, .bipush (64), 26, 64, 0), (26, .iand, 27, 0, 0), (27, .ifCond .eq (7), 30, 0, 34), (30, .iconst 1, 31, 1, 0), (31, .goto (4), 34, 0, 35), (34, .iconst 0, 35, 0, 0), (35, .invokevirtual 104, 38, 0, 0), (38, .aload_n 0, 39, 0, 0), (39, .iconst 2, 40, 2, 0), (40, .aload_n 0, 41, 0, 0), (41, .getfield 15, 44, 0, 0), (44, .iconst 0, 45, 0, 0), (45, .iaload, 46, 0, 0), (46, .iload_n 1, 47, 0, 0), (47, .iand, 48, 0, 0), (48, .ifCond .ne (7), 51, 0, 55), (51, .iconst 1, 52, 1, 0), (52, .goto (4), 55, 0, 56), (55, .iconst 0, 56, 0, 0), (56, .invokevirtual 104, 59, 0, 0), (59, .return_, 60, 0, 0)]
abbrev g_M_testBits : lm_G := (k_M_testBits, fl_M, sl_M, 0, 0, none)
set_option maxRecDepth 20000 in
theorem ck_M_testBits : ∀ pc r, k_M_testBits.lookup pc = some r → lm_ck b_M_testBits 2 pc r = true := kk_ck (by decide +kernel)
set_option maxRecDepth 20000 in
theorem yw_M_testBits : kk_yw y_M_testBits b_M_testBits 2 (none) 1 (some 1) := ⟨kk_tm 242 (by rfl) rfl, (kk_tm 2 (by decide +kernel) (by decide +kernel)), ⟨by decide, by decide, by decide +kernel⟩, Or.inr ⟨1, F_M, 9, rfl, rfl, (kk_tm 241 (by decide +kernel) (by decide +kernel)), (kk_sm 17 (by decide +kernel) (by decide +kernel))⟩⟩
def k_M_alterPlace : List (Nat × lm_R) := [(0, .aload_n 0, 1, 0, 0), (1, .iload_n 1, 2, 0, 0), (2, .iload_n 3, 3, 0, 0), (3, .invokevirtual 111, 6, 0, 0), (6, .sipush (255), 9, 255, 0), (9, .iand, 10, 0, 0), (10, .istore 4, 12, 0, 0), (12, .iload_n 1, 13, 0, 0), (13, .bipush (17), 15, 17, 0), (15, .if_icmp .eq (9), 18, 0, 24), (18, .iload_n 1, 19, 0, 0), (19, .bipush (19), 21, 19, 0), (21, .if_icmp .ne (24), 24, 0, 45), (24, .aload_n 0, 25, 0, 0), (25, .iconst 1, 26, 1, 0), (26, .iload_n 3, 27, 0, 0), (27, .sipush (128), 30, 128, 0), (30, .iand, 31, 0, 0), (31, .ifCond .eq (7), 34, 0, 38), (34, .iconst 1, 35, 1, 0), (35, .goto (4), 38, 0, 39), (38, .iconst 0, 39, 0, 0), (39, .invokevirtual 104, 42, 0, 0), (42, .goto (31), 45, 0, 73), (45, .iload_n 1, 46, 0, 0), (46, .bipush (18), 48, 18, 0), (48, .if_icmp .eq (9), 51, 0, 57), (51, .iload_n 1, 52, 0, 0), (52, .bipush (20), 54, 20, 0), (54, .if_icmp .ne (19), 57, 0, 73), (57, .aload_n 0, 58, 0, 0), (58, .iconst 1, 59, 1, 0), (59, .iload_n 3, 60, 0, 0), (60, .iconst 1, 61, 1, 0), (61, .iand, 62, 0, 0), (62, .ifCond .eq (7), 65, 0, 69), (65, .iconst 1, 66, 1, 0), (66, .goto (4), 69, 0, 70), (69, .iconst 0, 70, 0, 0), (70, .invokevirtual 104, 73, 0, 0), (73, .aload_n 0, 74, 0, 0), (74, .iload 4, 76, 0, 0), (76, .invokevirtual 108, 79, 0, 0), (79, .aload_n 0, 80, 0, 0), (80, .iload_n 2, 81, 0, 0), (81, .iload 4, 83, 0, 0), (83, .invokevirtual 85, 86, 0, 0), (86, .return_, 87, 0, 0)]
abbrev g_M_alterPlace : lm_G := (k_M_alterPlace, fl_M, sl_M, 0, 0, none)
set_option maxRecDepth 20000 in
theorem ck_M_alterPlace : ∀ pc r, k_M_alterPlace.lookup pc = some r → lm_ck b_M_alterPlace 5 pc r = true := kk_ck (by decide +kernel)
set_option maxRecDepth 20000 in
theorem yw_M_alterPlace : kk_yw y_M_alterPlace b_M_alterPlace 5 (none) 3 (some 1) := ⟨kk_tm 246 (by rfl) rfl, (kk_tm 2 (by decide +kernel) (by decide +kernel)), ⟨by decide, by decide, by decide +kernel⟩, Or.inr ⟨1, F_M, 9, rfl, rfl, (kk_tm 245 (by decide +kernel) (by decide +kernel)), (kk_sm 18 (by decide +kernel) (by decide +kernel))⟩⟩
theorem li_M_111 : kk_li R_M 111 y_M_alteredByte := Or.inl (kk_tm 247 (by decide +kernel) (by decide +kernel))
def k_M_alteredByte : List (Nat × lm_R) := [(0, .aload_n 0, 1, 0, 0), (1, .getfield 15, 4, 0, 0), (4, .iconst 4, 5, 4, 0), (5, .iaload, 6, 0, 0), (6, .iconst 1, 7, 1, 0), (7, .iand, 8, 0, 0), (8, .istore_n 3, 9, 0, 0), (9, .iload_n 1, 10, 0, 0), (10, .tableswitch (56) 15 19 #[34, 38, 42, 46, 50], 44, 0, 0), (44, .iload_n 2, 45, 0, 0), (45, .iconst 1, 46, 1, 0), (46, .iadd, 47, 0, 0), (47, .ireturn, 48, 0, 0), (48, .iload_n 2, 49, 0, 0), (49, .iconst 1, 50, 1, 0), (50, .isub, 51, 0, 0), (51, .ireturn, 52, 0, 0), (52, .iload_n 2, 53, 0, 0), (53, .iconst 1, 54, 1, 0), (54, .ishl, 55, 0, 0), (55, .ireturn, 56, 0, 0), (56, .iload_n 2, 57, 0, 0), (57, .iconst 1, 58, 1, 0), (58, .ishr, 59, 0, 0), (59, .ireturn, 60, 0, 0), (60, .iload_n 2, 61, 0, 0), (61, .iconst 1, 62, 1, 0), (62, .ishl, 63, 0, 0), (63, .iload_n 3, 64, 0, 0), (64, .iadd, 65, 0, 0), (65, .ireturn, 66, 0, 0), (66, .iload_n 2, 67, 0, 0), (67, .iconst 1, 68, 1, 0), (68, .ishr, 69, 0, 0), (69, .sipush (128), 72, 128, 0), (72, .iload_n 3, 73, 0, 0), (73, .imul, 74, 0, 0), (74, .iadd, 75, 0, 0), (75, .ireturn, 76, 0, 0)]
abbrev g_M_alteredByte : lm_G := (k_M_alteredByte, fl_M, sl_M, 0, 1, none)
set_option maxRecDepth 20000 in
theorem ck_M_alteredByte : ∀ pc r, k_M_alteredByte.lookup pc = some r → lm_ck b_M_alteredByte 4 pc r = true := kk_ck (by decide +kernel)
set_option maxRecDepth 20000 in
theorem yw_M_alteredByte : kk_yw y_M_alteredByte b_M_alteredByte 4 (some .int) 2 (some 1) := ⟨kk_tm 250 (by rfl) rfl, (kk_tm 2 (by decide +kernel) (by decide +kernel)), ⟨by decide, by decide, by decide +kernel⟩, Or.inr ⟨1, F_M, 9, rfl, rfl, (kk_tm 249 (by decide +kernel) (by decide +kernel)), (kk_sm 19 (by decide +kernel) (by decide +kernel))⟩⟩
def k_M_jump : List (Nat × lm_R) := [(0, .iload_n 2, 1, 0, 0), (1, .ifCond .eq (8), 4, 0, 9), (4, .iload_n 3, 5, 0, 0), (5, .iconst (-1), 6, (-1), 0), (6, .if_icmp .ne (4), 9, 0, 10), (9, .return_, 10, 0, 0), (10, .iload_n 1, 11, 0, 0), (11, .ifCond .eq (31), 14, 0, 42), (14, .aload_n 0, 15, 0, 0), (15, .aload_n 0, 16, 0, 0), (16, .getfield 15, 19, 0, 0), (19, .iconst 5, 20, 5, 0), (20, .iaload, 21, 0, 0), (21, .sipush (256), 24, 256, 0), (24, .idiv, 25, 0, 0), (25, .invokevirtual 114, 28, 0, 0), (28, .aload_n 0, 29, 0, 0), (29, .aload_n 0, 30, 0, 0), (30, .getfield 15, 33, 0, 0), (33, .iconst 5, 34, 5, 0), (34, .iaload, 35, 0, 0), (35, .sipush (255), 38, 255, 0), (38, .iand, 39, 0, 0), (39, .invokevirtual 114, 42, 0, 0), (42, .aload_n 0, 43, 0, 0), (43, .getfield 15, 46, 0, 0), (46, .iconst 5, 47, 5, 0), (47, .iload_n 3, 48, 0, 0), (48, .iastore, 49, 0, 0), (49, .return_, 50, 0, 0)]
abbrev g_M_jump : lm_G := (k_M_jump, fl_M, sl_M, 0, 0, none)
set_option maxRecDepth 20000 in
theorem ck_M_jump : ∀ pc r, k_M_jump.lookup pc = some r → lm_ck b_M_jump 4 pc r = true := kk_ck (by decide +kernel)
set_option maxRecDepth 20000 in
theorem yw_M_jump : kk_yw y_M_jump b_M_jump 4 (none) 3 (some 1) := ⟨kk_tm 254 (by rfl) rfl, (kk_tm 2 (by decide +kernel) (by decide +kernel)), ⟨by decide, by decide, by decide +kernel⟩, Or.inr ⟨1, F_M, 9, rfl, rfl, (kk_tm 253 (by decide +kernel) (by decide +kernel)), (kk_sm 20 (by decide +kernel) (by decide +kernel))⟩⟩
theorem li_M_114 : kk_li R_M 114 y_M_push := Or.inl (kk_tm 255 (by decide +kernel) (by decide +kernel))
def k_M_useStackOrPort : List (Nat × lm_R) := [(0, .iload_n 1, 1, 0, 0), (1, .tableswitch (144) 0 6 #[43, 71, 84, 96, 109, 126, 137], 44, 0, 0), (44, .aload_n 0, 45, 0, 0), (45, .invokevirtual 117, 48, 0, 0), (48, .istore_n 2, 49, 0, 0), (49, .aload_n 0, 50, 0, 0), (50, .getfield 15, 53, 0, 0), (53, .iconst 5, 54, 5, 0), (54, .iload_n 2, 55, 0, 0), (55, .sipush (256), 58, 256, 0), (58, .aload_n 0, 59, 0, 0), (59, .invokevirtual 117, 62, 0, 0), (62, .imul, 63, 0, 0), (63, .iadd, 64, 0, 0), (64, .sipush (511), 67, 511, 0), (67, .iand, 68, 0, 0), (68, .iastore, 69, 0, 0), (69, .goto (80), 72, 0, 149), (72, .aload_n 0, 73, 0, 0), (73, .aload_n 0, 74, 0, 0), (74, .getfield 15, 77, 0, 0), (77, .iconst 0, 78, 0, 0), (78, .iaload, 79, 0, 0), (79, .invokevirtual 114, 82, 0, 0), (82, .goto (67), 85, 0, 149), (85, .aload_n 0, 86, 0, 0), (86, .iconst 0, 87, 0, 0), (87, .aload_n 0, 88, 0, 0), (88, .invokevirtual 117, 91, 0, 0), (91, .invokevirtual 82, 94, 0, 0), (94, .goto (55), 97, 0, 149), (97, .aload_n 0, 98, 0, 0), (98, .aload_n 0, 99, 0, 0), (99, .getfield 15, 102, 0, 0), (102, .iconst 4, 103, 4, 0), (103, .iaload, 104, 0, 0), (104, .invokevirtual 114, 107, 0, 0), (107, .goto (42), 110, 0, 149), (110, .aload_n 0, 111, 0, 0), (111, .getfield 15, 114, 0, 0), (114, .iconst 4, 115, 4, 0), (115, .aload_n 0, 116, 0, 0), (116, .invokevirtual 117, 119, 0, 0), (119, .sipush (195), 122, 195, 0), (122, .iand, 123, 0, 0), (123, .iastore, 124, 0, 0), (124, .goto (25), 127, 0, 149), (127, .aload_n 0, 128, 0, 0), (128, .getfield 15, 131, 0, 0), (131, .bipush (6), 133, 6, 0), (133, .iconst 1, 134, 1, 0), (134, .iastore, 135, 0, 0), (135, .goto (14), 138, 0, 149), (138, .aload_n 0, 139, 0, 0), (139, .invokevirtual 120, 142, 0, 0), (142, .goto (7), 145, 0, 149), (145, .aload_n 0, 146, 0, 0), (146, .invokevirtual 123, 149, 0, 0), (149, .return_, 150, 0, 0)]
abbrev g_M_useStackOrPort : lm_G := (k_M_useStackOrPort, fl_M, sl_M, 0, 0, none)
set_option maxRecDepth 20000 in
theorem ck_M_useStackOrPort : ∀ pc r, k_M_useStackOrPort.lookup pc = some r → lm_ck b_M_useStackOrPort 3 pc r = true := kk_ck (by decide +kernel)
set_option maxRecDepth 20000 in
theorem yw_M_useStackOrPort : kk_yw y_M_useStackOrPort b_M_useStackOrPort 3 (none) 1 (some 1) := ⟨kk_tm 262 (by rfl) rfl, (kk_tm 2 (by decide +kernel) (by decide +kernel)), ⟨by decide, by decide, by decide +kernel⟩, Or.inr ⟨1, F_M, 9, rfl, rfl, (kk_tm 261 (by decide +kernel) (by decide +kernel)), (kk_sm 22 (by decide +kernel) (by decide +kernel))⟩⟩
theorem li_M_117 : kk_li R_M 117 y_M_takeByte := Or.inl (kk_tm 263 (by decide +kernel) (by decide +kernel))
theorem li_M_120 : kk_li R_M 120 y_M_takeInput := Or.inl (kk_tm 267 (by decide +kernel) (by decide +kernel))
theorem li_M_123 : kk_li R_M 123 y_M_putOut := Or.inl (kk_tm 271 (by decide +kernel) (by decide +kernel))
def k_M_takeInput : List (Nat × lm_R) := [(0, .aload_n 0, 1, 0, 0), (1, .invokevirtual 34, 4, 0, 0), (4, .ifCond .le (7), 7, 0, 11), (7, .iconst 1, 8, 1, 0), (8, .goto (4), 11, 0, 12), (11, .iconst 0, 12, 0, 0), (12, .istore_n 1, 13, 0, 0), (13, .aload_n 0, 14, 0, 0), (14, .getfield 15, 17, 0, 0), (17, .bipush (7), 19, 7, 0), (19, .iaload, 20, 0, 0), (20, .istore_n 2, 21, 0, 0), (21, .aload_n 0, 22, 0, 0), (22, .iconst 0, 23, 0, 0), (23, .iload_n 1, 24, 0, 0), (24, .ifCond .eq (12), 27, 0, 36), (27, .aload_n 0, 28, 0, 0), (28, .getfield 18, 31, 0, 0), (31, .iload_n 2, 32, 0, 0), (32, .iaload, 33, 0, 0), (33, .goto (4), 36, 0, 37), (36, .iconst 0, 37, 0, 0), (37, .invokevirtual 82, 40, 0, 0), (40, .aload_n 0, 41, 0, 0), (41, .iconst 1, 42, 1, 0), (42, .iload_n 1, 43, 0, 0), (43, .ifCond .ne (7), 46, 0, 50), (46, .iconst 1, 47, 1, 0), (47, .goto (4), 50, 0, 51), (50, .iconst 0, 51, 0, 0), (51, .invokevirtual 104, 54, 0, 0), (54, .aload_n 0, 55, 0, 0), (55, .getfield 15, 58, 0, 0), (58, .bipush (7), 60, 7, 0), (60, .iload_n 1, 61, 0, 0), (61, .ifCond .eq (9), 64, 0, 70), (64, .iload_n 2, 65, 0, 0), (65, .iconst 1, 66, 1, 0), (66, .iadd, 67, 0, 0), (67, .goto (4), 70, 0, 71), (70, .iload_n 2, 71, 0, 0), (71, .iastore, 72, 0, 0), (72, .return_, 73, 0, 0)]
abbrev g_M_takeInput : lm_G := (k_M_takeInput, fl_M, sl_M, 0, 0, none)
set_option maxRecDepth 20000 in
theorem ck_M_takeInput : ∀ pc r, k_M_takeInput.lookup pc = some r → lm_ck b_M_takeInput 3 pc r = true := kk_ck (by decide +kernel)
set_option maxRecDepth 20000 in
theorem yw_M_takeInput : kk_yw y_M_takeInput b_M_takeInput 3 (none) 0 (some 1) := ⟨kk_tm 270 (by rfl) rfl, (kk_tm 2 (by decide +kernel) (by decide +kernel)), ⟨by decide, by decide, by decide +kernel⟩, Or.inr ⟨1, F_M, 9, rfl, rfl, (kk_tm 269 (by decide +kernel) (by decide +kernel)), (kk_sm 24 (by decide +kernel) (by decide +kernel))⟩⟩
def k_M_putOut : List (Nat × lm_R) := [(0, .aload_n 0, 1, 0, 0), (1, .getfield 15, 4, 0, 0), (4, .bipush (8), 6, 8, 0), (6, .iaload, 7, 0, 0), (7, .sipush (308), 10, 308, 0), (10, .if_icmp .ge (32), 13, 0, 42), (13, .aload_n 0, 14, 0, 0), (14, .getfield 21, 17, 0, 0), (17, .aload_n 0, 18, 0, 0), (18, .getfield 15, 21, 0, 0), (21, .bipush (8), 23, 8, 0), (23, .iaload, 24, 0, 0), (24, .aload_n 0, 25, 0, 0), (25, .getfield 15, 28, 0, 0), (28, .iconst 0, 29, 0, 0), (29, .iaload, 30, 0, 0), (30, .iastore, 31, 0, 0), (31, .aload_n 0, 32, 0, 0), (32, .getfield 15, 35, 0, 0), (35, .bipush (8), 37, 8, 0), (37, .dup2, 38, 0, 0), (38, .iaload, 39, 0, 0), (39, .iconst 1, 40, 1, 0), (40, .iadd, 41, 0, 0), (41, .iastore, 42, 0, 0), (42, .return_, 43, 0, 0)]
abbrev g_M_putOut : lm_G := (k_M_putOut, fl_M, sl_M, 0, 0, none)
set_option maxRecDepth 20000 in
theorem ck_M_putOut : ∀ pc r, k_M_putOut.lookup pc = some r → lm_ck b_M_putOut 1 pc r = true := kk_ck (by decide +kernel)
set_option maxRecDepth 20000 in
theorem yw_M_putOut : kk_yw y_M_putOut b_M_putOut 1 (none) 0 (some 1) := ⟨kk_tm 274 (by rfl) rfl, (kk_tm 2 (by decide +kernel) (by decide +kernel)), ⟨by decide, by decide, by decide +kernel⟩, Or.inr ⟨1, F_M, 9, rfl, rfl, (kk_tm 273 (by decide +kernel) (by decide +kernel)), (kk_sm 25 (by decide +kernel) (by decide +kernel))⟩⟩
def k_M_moveRegister : List (Nat × lm_R) := [(0, .iload_n 1, 1, 0, 0), (1, .tableswitch (144) 0 6 #[43, 57, 71, 85, 99, 113, 128], 44, 0, 0), (44, .aload_n 0, 45, 0, 0), (45, .iconst 1, 46, 1, 0), (46, .aload_n 0, 47, 0, 0), (47, .getfield 15, 50, 0, 0), (50, .iconst 0, 51, 0, 0), (51, .iaload, 52, 0, 0), (52, .invokevirtual 82, 55, 0, 0), (55, .goto (103), 58, 0, 158), (58, .aload_n 0, 59, 0, 0), (59, .iconst 0, 60, 0, 0), (60, .aload_n 0, 61, 0, 0), (61, .getfield 15, 64, 0, 0), (64, .iconst 1, 65, 1, 0), (65, .iaload, 66, 0, 0), (66, .invokevirtual 82, 69, 0, 0), (69, .goto (89), 72, 0, 158), (72, .aload_n 0, 73, 0, 0), (73, .iconst 2, 74, 2, 0), (74, .aload_n 0, 75, 0, 0), (75, .getfield 15, 78, 0, 0), (78, .iconst 0, 79, 0, 0), (79, .iaload, 80, 0, 0), (80, .invokevirtual 82, 83, 0, 0), (83, .goto (75), 86, 0, 158), (86, .aload_n 0, 87, 0, 0), (87, .iconst 0, 88, 0, 0), (88, .aload_n 0, 89, 0, 0), (89, .getfield 15, 92, 0, 0), (92, .iconst 2, 93, 2, 0), (93, .iaload, 94, 0, 0), (94, .invokevirtual 82, 97, 0, 0), (97, .goto (61), 100, 0, 158), (100, .aload_n 0, 101, 0, 0), (101, .iconst 1, 102, 1, 0), (102, .aload_n 0, 103, 0, 0), (103, .getfield 15, 106, 0, 0), (106, .iconst 3, 107, 3, 0), (107, .iaload, 108, 0, 0), (108, .invokevirtual 82, 111, 0, 0), (111, .goto (47), 114, 0, 158), (114, .aload_n 0, 115, 0, 0), (115, .getfield 15, 118, 0, 0), (118, .iconst 3, 119, 3, 0), (119, .aload_n 0, 120, 0, 0), (120, .getfield 15, 123, 0, 0), (123, .iconst 1, 124, 1, 0), (124, .iaload, 125, 0, 0), (125, .iastore, 126, 0, 0), (126, .goto (32), 129, 0, 158), (129, .aload_n 0, 130, 0, 0), (130, .iconst 1, 131, 1, 0), (131, .aload_n 0, 132, 0, 0), (132, .getfield 15, 135, 0, 0), (135, .iconst 1, 136, 1, 0), (136, .iaload, 137, 0, 0), (137, .iconst 1, 138, 1, 0), (138, .iadd, 139, 0, 0), (139, .invokevirtual 82, 142, 0, 0), (142, .goto (16), 145, 0, 158), (145, .aload_n 0, 146, 0, 0), (146, .iconst 1, 147, 1, 0), (147, .aload_n 0, 148, 0, 0), (148, .getfield 15, 151, 0, 0), (151, .iconst 1, 152, 1, 0), (152, .iaload, 153, 0, 0), (153, .iconst 1, 154, 1, 0), (154, .isub, 155, 0, 0), (155, .invokevirtual 82, 158, 0, 0), (158, .return_, 159, 0, 0)]
abbrev g_M_moveRegister : lm_G := (k_M_moveRegister, fl_M, sl_M, 0, 0, none)
set_option maxRecDepth 20000 in
theorem ck_M_moveRegister : ∀ pc r, k_M_moveRegister.lookup pc = some r → lm_ck b_M_moveRegister 2 pc r = true := kk_ck (by decide +kernel)
set_option maxRecDepth 20000 in
theorem yw_M_moveRegister : kk_yw y_M_moveRegister b_M_moveRegister 2 (none) 1 (some 1) := ⟨kk_tm 278 (by rfl) rfl, (kk_tm 2 (by decide +kernel) (by decide +kernel)), ⟨by decide, by decide, by decide +kernel⟩, Or.inr ⟨1, F_M, 9, rfl, rfl, (kk_tm 277 (by decide +kernel) (by decide +kernel)), (kk_sm 26 (by decide +kernel) (by decide +kernel))⟩⟩
def k_M_changeYOrFlag : List (Nat × lm_R) := [(0, .iload_n 1, 1, 0, 0), (1, .tableswitch (95) 0 4 #[35, 51, 67, 76, 85], 36, 0, 0), (36, .aload_n 0, 37, 0, 0), (37, .iconst 2, 38, 2, 0), (38, .aload_n 0, 39, 0, 0), (39, .getfield 15, 42, 0, 0), (42, .iconst 2, 43, 2, 0), (43, .iaload, 44, 0, 0), (44, .iconst 1, 45, 1, 0), (45, .iadd, 46, 0, 0), (46, .invokevirtual 82, 49, 0, 0), (49, .goto (47), 52, 0, 96), (52, .aload_n 0, 53, 0, 0), (53, .iconst 2, 54, 2, 0), (54, .aload_n 0, 55, 0, 0), (55, .getfield 15, 58, 0, 0), (58, .iconst 2, 59, 2, 0), (59, .iaload, 60, 0, 0), (60, .iconst 1, 61, 1, 0), (61, .isub, 62, 0, 0), (62, .invokevirtual 82, 65, 0, 0), (65, .goto (31), 68, 0, 96), (68, .aload_n 0, 69, 0, 0), (69, .iconst 1, 70, 1, 0), (70, .iconst 0, 71, 0, 0), (71, .invokevirtual 104, 74, 0, 0), (74, .goto (22), 77, 0, 96), (77, .aload_n 0, 78, 0, 0), (78, .iconst 1, 79, 1, 0), (79, .iconst 1, 80, 1, 0), (80, .invokevirtual 104, 83, 0, 0), (83, .goto (13), 86, 0, 96), (86, .aload_n 0, 87, 0, 0), (87, .bipush (64), 89, 64, 0), (89, .iconst 0, 90, 0, 0), (90, .invokevirtual 104, 93, 0, 0), (93, .goto (3), 96, 0, 96), (96, .return_, 97, 0, 0)]
abbrev g_M_changeYOrFlag : lm_G := (k_M_changeYOrFlag, fl_M, sl_M, 0, 0, none)
set_option maxRecDepth 20000 in
theorem ck_M_changeYOrFlag : ∀ pc r, k_M_changeYOrFlag.lookup pc = some r → lm_ck b_M_changeYOrFlag 2 pc r = true := kk_ck (by decide +kernel)
set_option maxRecDepth 20000 in
theorem yw_M_changeYOrFlag : kk_yw y_M_changeYOrFlag b_M_changeYOrFlag 2 (none) 1 (some 1) := ⟨kk_tm 282 (by rfl) rfl, (kk_tm 2 (by decide +kernel) (by decide +kernel)), ⟨by decide, by decide, by decide +kernel⟩, Or.inr ⟨1, F_M, 9, rfl, rfl, (kk_tm 281 (by decide +kernel) (by decide +kernel)), (kk_sm 27 (by decide +kernel) (by decide +kernel))⟩⟩
def k_M_branch : List (Nat × lm_R) := [(0, .iload_n 1, 1, 0, 0), (1, .iconst 1, 2, 1, 0), (2, .iand, 3, 0, 0), (3, .ifCond .eq (7), 6, 0, 10), (6, .iconst 1, 7, 1, 0), (7, .goto (4), 10, 0, 11), (10, .iconst 0, 11, 0, 0), (11, .istore_n 3, 12, 0, 0), (12, .aload_n 0, 13, 0, 0), (13, .getfield 15, 16, 0, 0), (16, .iconst 4, 17, 4, 0), (17, .iaload, 18, 0, 0), (18, .getstatic 126, 21, 0, 0), (21, .iload_n 1, 22, 0, 0), (22, .iconst 1, 23, 1, 0), (23, .ishr, 24, 0, 0), (24, .iaload, 25, 0, 0), (25, .iand, 26, 0, 0), (26, .ifCond .eq (7), 29, 0, 33), (29, .iconst 1, 30, 1, 0), (30, .goto (4), 33, 0, 34), (33, .iconst 0, 34, 0, 0), (34, .istore 4, 36, 0, 0), (36, .iload 4, 38, 0, 0), (38, .iload_n 3, 39, 0, 0), (39, .if_icmp .ne (40), 42, 0, 79), (42, .iload_n 2, 43, 0, 0), (43, .sipush (128), 46, 128, 0), (46, .if_icmp .ge (7), 49, 0, 53), (49, .iload_n 2, 50, 0, 0), (50, .goto (8), 53, 0, 58), (53, .iload_n 2, 54, 0, 0), (54, .sipush (256), 57, 256, 0), (57, .isub, 58, 0, 0), (58, .istore 5, 60, 0, 0), (60, .aload_n 0, 61, 0, 0), (61, .getfield 15, 64, 0, 0), (64, .iconst 5, 65, 5, 0), (65, .aload_n 0, 66, 0, 0), (66, .getfield 15, 69, 0, 0), (69, .iconst 5, 70, 5, 0), (70, .iaload, 71, 0, 0), (71, .iload 5, 73, 0, 0), (73, .iadd, 74, 0, 0), (74, .sipush (511), 77, 511, 0), (77, .iand, 78, 0, 0), (78, .iastore, 79, 0, 0), (79, .return_, 80, 0, 0)]
abbrev g_M_branch : lm_G := (k_M_branch, fl_M, sl_M, 0, 0, none)
set_option maxRecDepth 20000 in
theorem ck_M_branch : ∀ pc r, k_M_branch.lookup pc = some r → lm_ck b_M_branch 6 pc r = true := kk_ck (by decide +kernel)
set_option maxRecDepth 20000 in
theorem yw_M_branch : kk_yw y_M_branch b_M_branch 6 (none) 2 (some 1) := ⟨kk_tm 286 (by rfl) rfl, (kk_tm 2 (by decide +kernel) (by decide +kernel)), ⟨by decide, by decide, by decide +kernel⟩, Or.inr ⟨1, F_M, 9, rfl, rfl, (kk_tm 285 (by decide +kernel) (by decide +kernel)), (kk_sm 28 (by decide +kernel) (by decide +kernel))⟩⟩
def k_M_load : List (Nat × lm_R) := [(0, .aload_n 0, 1, 0, 0), (1, .getfield 15, 4, 0, 0), (4, .iload_n 1, 5, 0, 0), (5, .iload_n 2, 6, 0, 0), (6, .sipush (255), 9, 255, 0), (9, .iand, 10, 0, 0), (10, .iastore, 11, 0, 0), (11, .aload_n 0, 12, 0, 0), (12, .aload_n 0, 13, 0, 0), (13, .getfield 15, 16, 0, 0), (16, .iload_n 1, 17, 0, 0), (17, .iaload, 18, 0, 0), (18, .invokevirtual 108, 21, 0, 0), (21, .return_, 22, 0, 0)]
abbrev g_M_load : lm_G := (k_M_load, fl_M, sl_M, 0, 0, none)
set_option maxRecDepth 20000 in
theorem ck_M_load : ∀ pc r, k_M_load.lookup pc = some r → lm_ck b_M_load 3 pc r = true := kk_ck (by decide +kernel)
set_option maxRecDepth 20000 in
theorem yw_M_load : kk_yw y_M_load b_M_load 3 (none) 2 (some 1) := ⟨kk_tm 210 (by rfl) rfl, (kk_tm 2 (by decide +kernel) (by decide +kernel)), ⟨by decide, by decide, by decide +kernel⟩, Or.inr ⟨1, F_M, 9, rfl, rfl, (kk_tm 209 (by decide +kernel) (by decide +kernel)), (kk_sm 9 (by decide +kernel) (by decide +kernel))⟩⟩
def k_M_noteResult : List (Nat × lm_R) := [(0, .aload_n 0, 1, 0, 0), (1, .getfield 15, 4, 0, 0), (4, .iconst 4, 5, 4, 0), (5, .iaload, 6, 0, 0), (6, .sipush (-131), 9, (-131), 0), (9, .iand, 10, 0, 0), (10, .istore_n 2, 11, 0, 0), (11, .aload_n 0, 12, 0, 0), (12, .getfield 15, 15, 0, 0), (15, .iconst 4, 16, 4, 0), (16, .iload_n 2, 17, 0, 0), (17, .iload_n 1, 18, 0, 0), (18, .sipush (128), 21, 128, 0), (21, .iand, 22, 0, 0), (22, .ior, 23, 0, 0), (23, .iload_n 1, 24, 0, 0), (24, .ifCond .ne (7), 27, 0, 31), (27, .iconst 2, 28, 2, 0), (28, .goto (4), 31, 0, 32), (31, .iconst 0, 32, 0, 0), (32, .ior, 33, 0, 0), (33, .iastore, 34, 0, 0), (34, .return_, 35, 0, 0)]
abbrev g_M_noteResult : lm_G := (k_M_noteResult, fl_M, sl_M, 0, 0, none)
set_option maxRecDepth 20000 in
theorem ck_M_noteResult : ∀ pc r, k_M_noteResult.lookup pc = some r → lm_ck b_M_noteResult 3 pc r = true := kk_ck (by decide +kernel)
set_option maxRecDepth 20000 in
theorem yw_M_noteResult : kk_yw y_M_noteResult b_M_noteResult 3 (none) 1 (some 1) := ⟨kk_tm 214 (by rfl) rfl, (kk_tm 2 (by decide +kernel) (by decide +kernel)), ⟨by decide, by decide, by decide +kernel⟩, Or.inr ⟨1, F_M, 9, rfl, rfl, (kk_tm 213 (by decide +kernel) (by decide +kernel)), (kk_sm 10 (by decide +kernel) (by decide +kernel))⟩⟩
def k_M_putFlag : List (Nat × lm_R) := [(0, .aload_n 0, 1, 0, 0), (1, .getfield 15, 4, 0, 0), (4, .iconst 4, 5, 4, 0), (5, .iload_n 2, 6, 0, 0), (6, .ifCond .eq (14), 9, 0, 20), (9, .aload_n 0, 10, 0, 0), (10, .getfield 15, 13, 0, 0), (13, .iconst 4, 14, 4, 0), (14, .iaload, 15, 0, 0), (15, .iload_n 1, 16, 0, 0), (16, .ior, 17, 0, 0), (17, .goto (13), 20, 0, 30), (20, .aload_n 0, 21, 0, 0), (21, .getfield 15, 24, 0, 0), (24, .iconst 4, 25, 4, 0), (25, .iaload, 26, 0, 0), (26, .iload_n 1, 27, 0, 0), (27, .iconst (-1), 28, (-1), 0), (28, .ixor, 29, 0, 0), (29, .iand, 30, 0, 0), (30, .iastore, 31, 0, 0), (31, .return_, 32, 0, 0)]
abbrev g_M_putFlag : lm_G := (k_M_putFlag, fl_M, sl_M, 0, 0, none)
set_option maxRecDepth 20000 in
theorem ck_M_putFlag : ∀ pc r, k_M_putFlag.lookup pc = some r → lm_ck b_M_putFlag 3 pc r = true := kk_ck (by decide +kernel)
set_option maxRecDepth 20000 in
theorem yw_M_putFlag : kk_yw y_M_putFlag b_M_putFlag 3 (none) 2 (some 1) := ⟨kk_tm 230 (by rfl) rfl, (kk_tm 2 (by decide +kernel) (by decide +kernel)), ⟨by decide, by decide, by decide +kernel⟩, Or.inr ⟨1, F_M, 9, rfl, rfl, (kk_tm 229 (by decide +kernel) (by decide +kernel)), (kk_sm 14 (by decide +kernel) (by decide +kernel))⟩⟩
def k_M_push : List (Nat × lm_R) := [(0, .aload_n 0, 1, 0, 0), (1, .sipush (256), 4, 256, 0), (4, .aload_n 0, 5, 0, 0), (5, .getfield 15, 8, 0, 0), (8, .iconst 3, 9, 3, 0), (9, .iaload, 10, 0, 0), (10, .iadd, 11, 0, 0), (11, .iload_n 1, 12, 0, 0), (12, .invokevirtual 129, 15, 0, 0), (15, .aload_n 0, 16, 0, 0), (16, .getfield 15, 19, 0, 0), (19, .iconst 3, 20, 3, 0), (20, .aload_n 0, 21, 0, 0), (21, .getfield 15, 24, 0, 0), (24, .iconst 3, 25, 3, 0), (25, .iaload, 26, 0, 0), (26, .iconst 1, 27, 1, 0), (27, .isub, 28, 0, 0), (28, .sipush (255), 31, 255, 0), (31, .iand, 32, 0, 0), (32, .iastore, 33, 0, 0), (33, .return_, 34, 0, 0)]
abbrev g_M_push : lm_G := (k_M_push, fl_M, sl_M, 0, 0, none)
set_option maxRecDepth 20000 in
theorem ck_M_push : ∀ pc r, k_M_push.lookup pc = some r → lm_ck b_M_push 2 pc r = true := kk_ck (by decide +kernel)
set_option maxRecDepth 20000 in
theorem yw_M_push : kk_yw y_M_push b_M_push 2 (none) 1 (some 1) := ⟨kk_tm 258 (by rfl) rfl, (kk_tm 2 (by decide +kernel) (by decide +kernel)), ⟨by decide, by decide, by decide +kernel⟩, Or.inr ⟨1, F_M, 9, rfl, rfl, (kk_tm 257 (by decide +kernel) (by decide +kernel)), (kk_sm 21 (by decide +kernel) (by decide +kernel))⟩⟩
theorem li_M_129 : kk_li R_M 129 y_M_writeCell := Or.inl (kk_tm 219 (by decide +kernel) (by decide +kernel))
def k_M_takeByte : List (Nat × lm_R) := [(0, .aload_n 0, 1, 0, 0), (1, .getfield 15, 4, 0, 0), (4, .iconst 3, 5, 3, 0), (5, .aload_n 0, 6, 0, 0), (6, .getfield 15, 9, 0, 0), (9, .iconst 3, 10, 3, 0), (10, .iaload, 11, 0, 0), (11, .iconst 1, 12, 1, 0), (12, .iadd, 13, 0, 0), (13, .sipush (255), 16, 255, 0), (16, .iand, 17, 0, 0), (17, .iastore, 18, 0, 0), (18, .aload_n 0, 19, 0, 0), (19, .sipush (256), 22, 256, 0), (22, .aload_n 0, 23, 0, 0), (23, .getfield 15, 26, 0, 0), (26, .iconst 3, 27, 3, 0), (27, .iaload, 28, 0, 0), (28, .iadd, 29, 0, 0), (29, .invokevirtual 44, 32, 0, 0), (32, .ireturn, 33, 0, 0)]
abbrev g_M_takeByte : lm_G := (k_M_takeByte, fl_M, sl_M, 0, 1, none)
set_option maxRecDepth 20000 in
theorem ck_M_takeByte : ∀ pc r, k_M_takeByte.lookup pc = some r → lm_ck b_M_takeByte 1 pc r = true := kk_ck (by decide +kernel)
set_option maxRecDepth 20000 in
theorem yw_M_takeByte : kk_yw y_M_takeByte b_M_takeByte 1 (some .int) 0 (some 1) := ⟨kk_tm 266 (by rfl) rfl, (kk_tm 2 (by decide +kernel) (by decide +kernel)), ⟨by decide, by decide, by decide +kernel⟩, Or.inr ⟨1, F_M, 9, rfl, rfl, (kk_tm 265 (by decide +kernel) (by decide +kernel)), (kk_sm 23 (by decide +kernel) (by decide +kernel))⟩⟩
def k_M_cellAt : List (Nat × lm_R) := [(0, .aload_n 0, 1, 0, 0), (1, .getfield 9, 4, 0, 0), (4, .iload_n 1, 5, 0, 0), (5, .sipush (511), 8, 511, 0), (8, .iand, 9, 0, 0), (9, .iaload, 10, 0, 0), (10, .ireturn, 11, 0, 0)]
abbrev g_M_cellAt : lm_G := (k_M_cellAt, fl_M, sl_M, 0, 1, none)
set_option maxRecDepth 20000 in
theorem ck_M_cellAt : ∀ pc r, k_M_cellAt.lookup pc = some r → lm_ck b_M_cellAt 2 pc r = true := kk_ck (by decide +kernel)
set_option maxRecDepth 20000 in
theorem yw_M_cellAt : kk_yw y_M_cellAt b_M_cellAt 2 (some .int) 1 (some 1) := ⟨kk_tm 189 (by rfl) rfl, (kk_tm 2 (by decide +kernel) (by decide +kernel)), ⟨by decide, by decide, by decide +kernel⟩, Or.inr ⟨1, F_M, 9, rfl, rfl, (kk_tm 188 (by decide +kernel) (by decide +kernel)), (kk_sm 5 (by decide +kernel) (by decide +kernel))⟩⟩
def k_M_writePlace : List (Nat × lm_R) := [(0, .iload_n 1, 1, 0, 0), (1, .iconst (-1), 2, (-1), 0), (2, .if_icmp .ne (13), 5, 0, 15), (5, .aload_n 0, 6, 0, 0), (6, .getfield 15, 9, 0, 0), (9, .iconst 0, 10, 0, 0), (10, .iload_n 2, 11, 0, 0), (11, .iastore, 12, 0, 0), (12, .goto (9), 15, 0, 21), (15, .aload_n 0, 16, 0, 0), (16, .iload_n 1, 17, 0, 0), (17, .iload_n 2, 18, 0, 0), (18, .invokevirtual 129, 21, 0, 0), (21, .return_, 22, 0, 0)]
abbrev g_M_writePlace : lm_G := (k_M_writePlace, fl_M, sl_M, 0, 0, none)
set_option maxRecDepth 20000 in
theorem ck_M_writePlace : ∀ pc r, k_M_writePlace.lookup pc = some r → lm_ck b_M_writePlace 3 pc r = true := kk_ck (by decide +kernel)
set_option maxRecDepth 20000 in
theorem yw_M_writePlace : kk_yw y_M_writePlace b_M_writePlace 3 (none) 2 (some 1) := ⟨kk_tm 218 (by rfl) rfl, (kk_tm 2 (by decide +kernel) (by decide +kernel)), ⟨by decide, by decide, by decide +kernel⟩, Or.inr ⟨1, F_M, 9, rfl, rfl, (kk_tm 217 (by decide +kernel) (by decide +kernel)), (kk_sm 11 (by decide +kernel) (by decide +kernel))⟩⟩
def k_M_writeCell : List (Nat × lm_R) := [(0, .iload_n 1, 1, 0, 0), (1, .sipush (511), 4, 511, 0), (4, .iand, 5, 0, 0), (5, .istore_n 3, 6, 0, 0), (6, .aload_n 0, 7, 0, 0), (7, .getfield 132, 10, 0, 0), (10, .iconst 2, 11, 2, 0), (11, .if_icmp .ge (38), 14, 0, 49), (14, .aload_n 0, 15, 0, 0), (15, .getfield 24, 18, 0, 0), (18, .aload_n 0, 19, 0, 0), (19, .getfield 132, 22, 0, 0), (22, .iload_n 3, 23, 0, 0), (23, .iastore, 24, 0, 0), (24, .aload_n 0, 25, 0, 0), (25, .getfield 27, 28, 0, 0), (28, .aload_n 0, 29, 0, 0), (29, .getfield 132, 32, 0, 0), (32, .aload_n 0, 33, 0, 0), (33, .getfield 9, 36, 0, 0), (36, .iload_n 3, 37, 0, 0), (37, .iaload, 38, 0, 0), (38, .iastore, 39, 0, 0), (39, .aload_n 0, 40, 0, 0), (40, .dup, 41, 0, 0), (41, .getfield 132, 44, 0, 0), (44, .iconst 1, 45, 1, 0), (45, .iadd, 46, 0, 0), (46, .putfield 132, 49, 0, 0), (49, .aload_n 0, 50, 0, 0), (50, .getfield 9, 53, 0, 0), (53, .iload_n 3, 54, 0, 0), (54, .iload_n 2, 55, 0, 0), (55, .iastore, 56, 0, 0), (56, .return_, 57, 0, 0)]
abbrev g_M_writeCell : lm_G := (k_M_writeCell, fl_M, sl_M, 0, 0, none)
set_option maxRecDepth 20000 in
theorem ck_M_writeCell : ∀ pc r, k_M_writeCell.lookup pc = some r → lm_ck b_M_writeCell 4 pc r = true := kk_ck (by decide +kernel)
set_option maxRecDepth 20000 in
theorem yw_M_writeCell : kk_yw y_M_writeCell b_M_writeCell 4 (none) 2 (some 1) := ⟨kk_tm 222 (by rfl) rfl, (kk_tm 2 (by decide +kernel) (by decide +kernel)), ⟨by decide, by decide, by decide +kernel⟩, Or.inr ⟨1, F_M, 9, rfl, rfl, (kk_tm 221 (by decide +kernel) (by decide +kernel)), (kk_sm 12 (by decide +kernel) (by decide +kernel))⟩⟩
def k_M_forgetWrites : List (Nat × lm_R) := [(0, .aload_n 0, 1, 0, 0), (1, .iconst 0, 2, 0, 0), (2, .putfield 132, 5, 0, 0), (5, .iconst 0, 6, 0, 0), (6, .istore_n 1, 7, 0, 0), (7, .iload_n 1, 8, 0, 0), (8, .iconst 2, 9, 2, 0), (9, .if_icmp .ge (16), 12, 0, 25), (12, .aload_n 0, 13, 0, 0), (13, .getfield 24, 16, 0, 0), (16, .iload_n 1, 17, 0, 0), (17, .iconst (-1), 18, (-1), 0), (18, .iastore, 19, 0, 0), (19, .iinc 1 (1), 22, 1, 0), (22, .goto (-15), 25, 0, 7), (25, .return_, 26, 0, 0)]
abbrev g_M_forgetWrites : lm_G := (k_M_forgetWrites, fl_M, sl_M, 0, 0, none)
set_option maxRecDepth 20000 in
theorem ck_M_forgetWrites : ∀ pc r, k_M_forgetWrites.lookup pc = some r → lm_ck b_M_forgetWrites 2 pc r = true := kk_ck (by decide +kernel)
set_option maxRecDepth 20000 in
theorem yw_M_forgetWrites : kk_yw y_M_forgetWrites b_M_forgetWrites 2 (none) 0 (some 1) := ⟨kk_tm 185 (by rfl) rfl, (kk_tm 2 (by decide +kernel) (by decide +kernel)), ⟨by decide, by decide, by decide +kernel⟩, Or.inr ⟨1, F_M, 9, rfl, rfl, (kk_tm 184 (by decide +kernel) (by decide +kernel)), (kk_sm 4 (by decide +kernel) (by decide +kernel))⟩⟩
def k_K_has : List (Nat × lm_R) := [(0, .iload_n 1, 1, 0, 0), (1, .invokestatic 15, 4, 0, 0), (4, .ifCond .eq (16), 7, 0, 20), (7, .aload_n 0, 8, 0, 0), (8, .getfield 9, 11, 0, 0), (11, .iload_n 1, 12, 0, 0), (12, .baload, 13, 0, 0), (13, .ifCond .eq (7), 16, 0, 20), (16, .iconst 1, 17, 1, 0), (17, .goto (4), 20, 0, 21), (20, .iconst 0, 21, 0, 0), (21, .ireturn, 22, 0, 0)]
abbrev g_K_has : lm_G := (k_K_has, fl_K, sl_K, 0, 2, none)
set_option maxRecDepth 20000 in
theorem ck_K_has : ∀ pc r, k_K_has.lookup pc = some r → lm_ck b_K_has 2 pc r = true := kk_ck (by decide +kernel)
set_option maxRecDepth 20000 in
theorem yw_K_has : kk_yw y_K_has b_K_has 2 (some .boolean) 1 (some 3) := ⟨kk_tm 163 (by rfl) rfl, (kk_tm 4 (by decide +kernel) (by decide +kernel)), ⟨by decide, by decide, by decide +kernel⟩, Or.inr ⟨3, F_K, 2, rfl, rfl, (kk_tm 161 (by decide +kernel) (by decide +kernel)), (kk_tm 162 (by decide +kernel) (by decide +kernel))⟩⟩
theorem li_K_15 : kk_li R_K 15 y_D_isAddress := Or.inr ⟨"ReplayDesk", kk_nm 11 (by decide +kernel)⟩
def k_K_change : List (Nat × lm_R) := [(0, .iload_n 1, 1, 0, 0), (1, .invokestatic 15, 4, 0, 0), (4, .ifCond .eq (25), 7, 0, 29), (7, .aload_n 0, 8, 0, 0), (8, .getfield 9, 11, 0, 0), (11, .iload_n 1, 12, 0, 0), (12, .baload, 13, 0, 0), (13, .iload_n 2, 14, 0, 0), (14, .if_icmp .eq (15), 17, 0, 29), (17, .iload_n 2, 18, 0, 0), (18, .ifCond .eq (13), 21, 0, 31), (21, .aload_n 0, 22, 0, 0), (22, .getfield 19, 25, 0, 0), (25, .iconst 4, 26, 4, 0), (26, .if_icmp .lt (5), 29, 0, 31), (29, .iconst 0, 30, 0, 0), (30, .ireturn, 31, 0, 0), (31, .aload_n 0, 32, 0, 0), (32, .getfield 9, 35, 0, 0), (35, .iload_n 1, 36, 0, 0), (36, .iload_n 2, 37, 0, 0), (37, .bastore, 38, 0, 0), (38, .aload_n 0, 39, 0, 0), (39, .dup, 40, 0, 0), (40, .getfield 19, 43, 0, 0), (43, .iload_n 2, 44, 0, 0), (44, .ifCond .eq (7), 47, 0, 51), (47, .iconst 1, 48, 1, 0), (48, .goto (4), 51, 0, 52), (51, .iconst (-1), 52, (-1), 0), (52, .iadd, 53, 0, 0), (53, .putfield 19, 56, 0, 0), (56, .iconst 1, 57, 1, 0), (57, .ireturn, 58, 0, 0)]
abbrev g_K_change : lm_G := (k_K_change, fl_K, sl_K, 0, 2, none)
set_option maxRecDepth 20000 in
theorem ck_K_change : ∀ pc r, k_K_change.lookup pc = some r → lm_ck b_K_change 3 pc r = true := kk_ck (by decide +kernel)
set_option maxRecDepth 20000 in
theorem yw_K_change : kk_yw y_K_change b_K_change 3 (some .boolean) 2 (some 3) := ⟨kk_tm 328 (by rfl) rfl, (kk_tm 4 (by decide +kernel) (by decide +kernel)), ⟨by decide, by decide, by decide +kernel⟩, Or.inr ⟨3, F_K, 2, rfl, rfl, (kk_tm 326 (by decide +kernel) (by decide +kernel)), (kk_tm 327 (by decide +kernel) (by decide +kernel))⟩⟩
theorem po_H (sh : List lm_Sh) {fr lo : Nat} (h1 : 1 ≤ fr) (h2 : 26 ≤ lo) : lm_pok (kk_Y sh) R_H fr lo 48 := Or.inr ⟨h1, h2, (kk_tm 103 (by decide +kernel) (by decide +kernel)), (kk_tm 105 (by decide +kernel) (by decide +kernel)), (kk_tm 104 (by decide +kernel) (by decide +kernel)), (kk_tm 5 (by decide +kernel) (by decide +kernel))⟩
end
section
/-! the system: its shape (desk alone, reference alone, both) -/
abbrev kk_shD : List lm_Sh := [.inr (0, [some 1, some 2, some 3, some 4]), .inr (1, [some 5, some 6, some 7, none, some 8, none, some 9, some 10, none]), .inr (2, [some 11, some 12, some 13, none, none]), .inr (3, [some 14, none]), .inr (3, [some 15, none]), .inl (.int, 512), .inl (.int, 9), .inl (.int, 40), .inl (.int, 308), .inl (.int, 2), .inl (.int, 2), .inl (.int, 2709), .inl (.int, 600), .inl (.int, 600), .inl (.boolean, 512), .inl (.boolean, 512)]
abbrev kk_shR : List lm_Sh := [.inr (4, [some 1, some 2, none, none, some 3, some 4, none, none, none, none]), .inl (.int, 569), .inl (.int, 569), .inl (.int, 4), .inl (.int, 4)]
abbrev kk_shF : List lm_Sh := [.inr (0, [some 1, some 2, some 3, some 4]), .inr (1, [some 5, some 6, some 7, none, some 8, none, some 9, some 10, none]), .inr (2, [some 11, some 12, some 13, none, none]), .inr (3, [some 14, none]), .inr (3, [some 15, none]), .inl (.int, 512), .inl (.int, 9), .inl (.int, 40), .inl (.int, 308), .inl (.int, 2), .inl (.int, 2), .inl (.int, 2709), .inl (.int, 600), .inl (.int, 600), .inl (.boolean, 512), .inl (.boolean, 512), .inr (4, [some 17, some 18, none, none, some 19, some 20, none, none, none, none]), .inl (.int, 569), .inl (.int, 569), .inl (.int, 4), .inl (.int, 4)]
def kk_sf (c : lm_Sh) : Bool := match c with
  | .inl _ => true
  | .inr o => match kk_cl[o.1]? with
    | some q => (List.range o.2.length).all (fun k => match o.2[k]? with
      | some none => !(q.2.1 k).2.2.2 && decide (parseFieldDescriptor (q.2.1 k).2.2.1 = some .int)
      | _ => true)
    | none => true
theorem kk_sf_of {sh : List lm_Sh} (h : sh.all kk_sf = true) {ci : Nat} {C : String} {T : u_T} {N : Nat} (hc : kk_cl[ci]? = some (C, T, N)) (i k : Nat) (gl : List (Option Nat)) (h1 : sh[i]? = some (.inr (ci, gl))) (h2 : gl[k]? = some none) : (T k).2.2.2 = false ∧ parseFieldDescriptor (T k).2.2.1 = some .int := by
  have h3 := List.all_eq_true.mp h _ (List.mem_of_getElem? h1)
  simp only [kk_sf, hc] at h3
  have hk : k < gl.length := (List.getElem?_eq_some_iff.mp h2).1
  have h4 := List.all_eq_true.mp h3 k (List.mem_range.mpr hk)
  simp only [h2, Bool.and_eq_true, Bool.not_eq_true', decide_eq_true_eq] at h4
  exact h4
theorem kk_uw {C : String} {T : u_T} {N : Nat} (h : (u_ws C T N).all (fun w => decide (w ∈ kk_ws)) = true) : ∀ w ∈ u_ws C T N, w ∈ kk_ws := fun w hw => of_decide_eq_true (List.all_eq_true.mp h w hw)
set_option maxRecDepth 20000 in
theorem kk_uD : ∀ w ∈ u_ws R_D F_D 4, w ∈ kk_ws := kk_uw (by decide +kernel)
set_option maxRecDepth 20000 in
theorem kk_uM : ∀ w ∈ u_ws R_M F_M 9, w ∈ kk_ws := kk_uw (by decide +kernel)
set_option maxRecDepth 20000 in
theorem kk_uH : ∀ w ∈ u_ws R_H F_H 5, w ∈ kk_ws := kk_uw (by decide +kernel)
set_option maxRecDepth 20000 in
theorem kk_uK : ∀ w ∈ u_ws R_K F_K 2, w ∈ kk_ws := kk_uw (by decide +kernel)
set_option maxRecDepth 20000 in
theorem kk_uR : ∀ w ∈ u_ws R_R F_R 10, w ∈ kk_ws := kk_uw (by decide +kernel)
theorem kk_nk : ∀ w ∈ kk_nw, (∃ a i b n d h, w = Cond.fieldLinkNest a i b n d h) ∨ ∃ a i x h, w = Cond.methodLinkNest a i x h := by
  intro w hw
  simp only [kk_nw, List.mem_cons, List.not_mem_nil, or_false] at hw
  rcases hw with rfl | rfl | rfl | rfl | rfl | rfl | rfl | rfl | rfl | rfl | rfl | rfl | rfl | rfl | rfl <;> first | exact Or.inl ⟨_, _, _, _, _, _, rfl⟩ | exact Or.inr ⟨_, _, _, _, rfl⟩
theorem kk_Yok {sh : List lm_Sh} (h : sh.all kk_sf = true) : lm_Yok (kk_Y sh) := by
  refine ⟨fun w hw => (List.mem_filter.mp hw).2, kk_nk, fun ci C T N hc => ?_⟩
  have hs := fun i k gl h1 h2 => kk_sf_of h hc i k gl h1 h2
  have hc2 : kk_cl[ci]? = some (C, T, N) := hc
  rcases ci with _ | _ | _ | _ | _ | ci
  · cases hc2; exact ⟨t_D, t_D_ok, n_D, kk_uD, hs⟩
  · cases hc2; exact ⟨t_M, t_M_ok, n_M, kk_uM, hs⟩
  · cases hc2; exact ⟨t_H, t_H_ok, n_H, kk_uH, hs⟩
  · cases hc2; exact ⟨t_K, t_K_ok, n_K, kk_uK, hs⟩
  · cases hc2; exact ⟨t_R, t_R_ok, n_R, kk_uR, hs⟩
  · cases hc2
theorem kk_okD : lm_Yok (kk_Y kk_shD) := kk_Yok (by decide +kernel)
theorem kk_okR : lm_Yok (kk_Y kk_shR) := kk_Yok (by decide +kernel)
theorem kk_okF : lm_Yok (kk_Y kk_shF) := kk_Yok (by decide +kernel)
abbrev YF : lm_Y := kk_Y kk_shF
end
section
/-! the desk's machine: its functions, and that its methods are these -/
theorem lm_vc {i : Int32} {n : Nat} (h : (!(decide (i < 0)) && Nat.blt i.toNatClampNeg n) = true) : vp_in i n := by
  rw [Bool.and_eq_true, Bool.not_eq_true', decide_eq_false_iff_not] at h
  intro q
  rcases q with q | q
  · exact h.1 q
  · have := Nat.le_of_ble_eq_true h.2
    omega
theorem lm_v511 (a : Int32) : vp_in (a &&& 511) 512 := pk_andIn a 9 (by decide) (by decide)
theorem lm_v255 (a : Int32) : vp_in (a &&& 255) 256 := pk_andIn a 8 (by decide) (by decide)
theorem lm_v7 (a : Int32) : vp_in (a &&& 7) 8 := pk_andIn a 3 (by decide) (by decide)
theorem lm_vb {i c : Int32} {n : Nat} (h0 : ¬ i < 0) (h1 : ¬ c ≤ i) (hc : c.toInt = (n : Int)) : vp_in i n := by
  rw [vp_in_iff]
  rw [Int32.lt_iff_toInt_lt, Int32.toInt_zero] at h0
  rw [Int32.le_iff_toInt_le, hc] at h1
  omega
def kd_note (r : Int32) (S : lm_S) : lm_S := lm_set S 6 4 (S 6 4 &&& (-131) ||| (r &&& 128) ||| (if r = 0 then 2 else 0))
def s_M_noteResult : lm_Sp := fun av S post => ∃ r, av = [.ref 1, .int r] ∧ post none (kd_note r S)
abbrev ca_M_noteResult : lm_Ca := []
theorem cok_M_noteResult (l : Launch) : lm_cok l (kk_Y kk_shF) R_M 0 0 ca_M_noteResult := kk_cok (kk_nil)
set_option maxHeartbeats 1000000 in
set_option maxRecDepth 20000 in
theorem I_M_noteResult (l : Launch) : lm_I l (kk_Y kk_shF) y_M_noteResult b_M_noteResult 3 (none) 0 0 s_M_noteResult := by
  refine lm_impl g_M_noteResult ca_M_noteResult (by decide +kernel) kk_okF ck_M_noteResult (kk_fok fl_M_ok) (kk_sok sl_M_ok) (Or.inl rfl) (cok_M_noteResult l) rfl (by decide) ?_
  rintro av S post ⟨r, rfl, h⟩
  refine ⟨Nat.le_of_ble_eq_true rfl, lm_run 40 ?_⟩
  unfold kd_note at h
  (try (conv => whnf))
  repeat' first
    | (refine ⟨_, rfl, ?_⟩; conv => whnf)
    | (refine ⟨_, _, rfl, ?_⟩; conv => whnf)
    | (refine ⟨_, _, _, rfl, ?_⟩; conv => whnf)
    | (refine And.intro rfl ?_; conv => whnf)
    | (refine And.intro (lm_vc (by decide)) ?_; conv => whnf)
    | (refine And.intro (by decide) ?_; conv => whnf)
    | (refine ⟨fun hx => absurd hx (by decide), fun _ => ?_⟩; conv => whnf)
    | (refine ⟨fun _ => ?_, fun hx => absurd hx (by decide)⟩; conv => whnf)
    | (refine And.intro (hw hx) ?_; conv => whnf)
    | (refine And.intro hw ?_; conv => whnf)
    | (refine And.intro hw2 ?_; conv => whnf)
    | (refine And.intro hw3 ?_; conv => whnf)
    | (refine And.intro hw4 ?_; conv => whnf)
    | (refine And.intro hw5 ?_; conv => whnf)
    | (refine And.intro hw6 ?_; conv => whnf)
    | (refine And.intro hw7 ?_; conv => whnf)
    | (refine And.intro (hv1 (by assumption)) ?_; conv => whnf)
    | (refine And.intro (hv2 (by assumption) (by assumption)) ?_; conv => whnf)
    | (refine And.intro (hv3 (by assumption) (by assumption)) ?_; conv => whnf)
    | (refine And.intro (lm_v511 _) ?_; conv => whnf)
    | (refine And.intro (lm_v7 _) ?_; conv => whnf)
    | (refine ⟨fun hx => ?_, fun hx => ?_⟩ <;> conv => whnf)
    | (split at h)
    | contradiction
    | exact h
def kd_flag (f on : Int32) (S : lm_S) : lm_S := lm_set S 6 4 (if on = 0 then S 6 4 &&& (f ^^^ (-1)) else S 6 4 ||| f)
def s_M_putFlag : lm_Sp := fun av S post => ∃ f on, av = [.ref 1, .int f, .int on] ∧ post none (kd_flag f on S)
abbrev ca_M_putFlag : lm_Ca := []
theorem cok_M_putFlag (l : Launch) : lm_cok l (kk_Y kk_shF) R_M 0 0 ca_M_putFlag := kk_cok (kk_nil)
set_option maxHeartbeats 1000000 in
set_option maxRecDepth 20000 in
theorem I_M_putFlag (l : Launch) : lm_I l (kk_Y kk_shF) y_M_putFlag b_M_putFlag 3 (none) 0 0 s_M_putFlag := by
  refine lm_impl g_M_putFlag ca_M_putFlag (by decide +kernel) kk_okF ck_M_putFlag (kk_fok fl_M_ok) (kk_sok sl_M_ok) (Or.inl rfl) (cok_M_putFlag l) rfl (by decide) ?_
  rintro av S post ⟨f, on, rfl, h⟩
  refine ⟨Nat.le_of_ble_eq_true rfl, lm_run 40 ?_⟩
  unfold kd_flag at h
  (try (conv => whnf))
  repeat' first
    | (refine ⟨_, rfl, ?_⟩; conv => whnf)
    | (refine ⟨_, _, rfl, ?_⟩; conv => whnf)
    | (refine ⟨_, _, _, rfl, ?_⟩; conv => whnf)
    | (refine And.intro rfl ?_; conv => whnf)
    | (refine And.intro (lm_vc (by decide)) ?_; conv => whnf)
    | (refine And.intro (by decide) ?_; conv => whnf)
    | (refine ⟨fun hx => absurd hx (by decide), fun _ => ?_⟩; conv => whnf)
    | (refine ⟨fun _ => ?_, fun hx => absurd hx (by decide)⟩; conv => whnf)
    | (refine And.intro (hw hx) ?_; conv => whnf)
    | (refine And.intro hw ?_; conv => whnf)
    | (refine And.intro hw2 ?_; conv => whnf)
    | (refine And.intro hw3 ?_; conv => whnf)
    | (refine And.intro hw4 ?_; conv => whnf)
    | (refine And.intro hw5 ?_; conv => whnf)
    | (refine And.intro hw6 ?_; conv => whnf)
    | (refine And.intro hw7 ?_; conv => whnf)
    | (refine And.intro (hv1 (by assumption)) ?_; conv => whnf)
    | (refine And.intro (hv2 (by assumption) (by assumption)) ?_; conv => whnf)
    | (refine And.intro (hv3 (by assumption) (by assumption)) ?_; conv => whnf)
    | (refine And.intro (lm_v511 _) ?_; conv => whnf)
    | (refine And.intro (lm_v7 _) ?_; conv => whnf)
    | (refine ⟨fun hx => ?_, fun hx => ?_⟩ <;> conv => whnf)
    | (split at h)
    | contradiction
    | exact h
def kd_load (g v : Int32) (S : lm_S) : lm_S := kd_note ((lm_set S 6 g.toNatClampNeg (v &&& 255)) 6 g.toNatClampNeg) (lm_set S 6 g.toNatClampNeg (v &&& 255))
def s_M_load : lm_Sp := fun av S post => ∃ g v, av = [.ref 1, .int g, .int v] ∧ vp_in g 9 ∧ post none (kd_load g v S)
abbrev ca_M_load : lm_Ca := [(108, 1, (some 1), s_M_noteResult)]
theorem cok_M_load (l : Launch) : lm_cok l (kk_Y kk_shF) R_M 1 22 ca_M_load := kk_cok (kk_cons ⟨y_M_noteResult, b_M_noteResult, 3, none, 0, 0, I_M_noteResult l, ⟨by decide, by decide⟩, yw_M_noteResult, li_M_108⟩ <| kk_nil)
set_option maxHeartbeats 1000000 in
set_option maxRecDepth 20000 in
theorem I_M_load (l : Launch) : lm_I l (kk_Y kk_shF) y_M_load b_M_load 3 (none) 1 22 s_M_load := by
  refine lm_impl g_M_load ca_M_load (by decide +kernel) kk_okF ck_M_load (kk_fok fl_M_ok) (kk_sok sl_M_ok) (Or.inl rfl) (cok_M_load l) rfl (by decide) ?_
  rintro av S post ⟨g, v, rfl, hw, h⟩
  refine ⟨Nat.le_of_ble_eq_true rfl, lm_run 40 ?_⟩
  unfold kd_load at h
  (try (conv => whnf))
  repeat' first
    | (refine ⟨_, rfl, ?_⟩; conv => whnf)
    | (refine ⟨_, _, rfl, ?_⟩; conv => whnf)
    | (refine ⟨_, _, _, rfl, ?_⟩; conv => whnf)
    | (refine And.intro rfl ?_; conv => whnf)
    | (refine And.intro (lm_vc (by decide)) ?_; conv => whnf)
    | (refine And.intro (by decide) ?_; conv => whnf)
    | (refine ⟨fun hx => absurd hx (by decide), fun _ => ?_⟩; conv => whnf)
    | (refine ⟨fun _ => ?_, fun hx => absurd hx (by decide)⟩; conv => whnf)
    | (refine And.intro (hw hx) ?_; conv => whnf)
    | (refine And.intro hw ?_; conv => whnf)
    | (refine And.intro hw2 ?_; conv => whnf)
    | (refine And.intro hw3 ?_; conv => whnf)
    | (refine And.intro hw4 ?_; conv => whnf)
    | (refine And.intro hw5 ?_; conv => whnf)
    | (refine And.intro hw6 ?_; conv => whnf)
    | (refine And.intro hw7 ?_; conv => whnf)
    | (refine And.intro (hv1 (by assumption)) ?_; conv => whnf)
    | (refine And.intro (hv2 (by assumption) (by assumption)) ?_; conv => whnf)
    | (refine And.intro (hv3 (by assumption) (by assumption)) ?_; conv => whnf)
    | (refine And.intro (lm_v511 _) ?_; conv => whnf)
    | (refine And.intro (lm_v7 _) ?_; conv => whnf)
    | (refine ⟨fun hx => ?_, fun hx => ?_⟩ <;> conv => whnf)
    | (split at h)
    | contradiction
    | exact h
def kd_cell (a : Int32) (S : lm_S) : Int32 := S 5 (a &&& 511).toNatClampNeg
def s_M_cellAt : lm_Sp := fun av S post => ∃ a, av = [.ref 1, .int a] ∧ post (some (.int (kd_cell a S))) S
abbrev ca_M_cellAt : lm_Ca := []
theorem cok_M_cellAt (l : Launch) : lm_cok l (kk_Y kk_shF) R_M 0 0 ca_M_cellAt := kk_cok (kk_nil)
set_option maxHeartbeats 1000000 in
set_option maxRecDepth 20000 in
theorem I_M_cellAt (l : Launch) : lm_I l (kk_Y kk_shF) y_M_cellAt b_M_cellAt 2 (some .int) 0 0 s_M_cellAt := by
  refine lm_impl g_M_cellAt ca_M_cellAt (by decide +kernel) kk_okF ck_M_cellAt (kk_fok fl_M_ok) (kk_sok sl_M_ok) (Or.inl rfl) (cok_M_cellAt l) rfl (by decide) ?_
  rintro av S post ⟨a, rfl, h⟩
  refine ⟨Nat.le_of_ble_eq_true rfl, lm_run 40 ?_⟩
  unfold kd_cell at h
  (try (conv => whnf))
  repeat' first
    | (refine ⟨_, rfl, ?_⟩; conv => whnf)
    | (refine ⟨_, _, rfl, ?_⟩; conv => whnf)
    | (refine ⟨_, _, _, rfl, ?_⟩; conv => whnf)
    | (refine And.intro rfl ?_; conv => whnf)
    | (refine And.intro (lm_vc (by decide)) ?_; conv => whnf)
    | (refine And.intro (by decide) ?_; conv => whnf)
    | (refine ⟨fun hx => absurd hx (by decide), fun _ => ?_⟩; conv => whnf)
    | (refine ⟨fun _ => ?_, fun hx => absurd hx (by decide)⟩; conv => whnf)
    | (refine And.intro (hw hx) ?_; conv => whnf)
    | (refine And.intro hw ?_; conv => whnf)
    | (refine And.intro hw2 ?_; conv => whnf)
    | (refine And.intro hw3 ?_; conv => whnf)
    | (refine And.intro hw4 ?_; conv => whnf)
    | (refine And.intro hw5 ?_; conv => whnf)
    | (refine And.intro hw6 ?_; conv => whnf)
    | (refine And.intro hw7 ?_; conv => whnf)
    | (refine And.intro (hv1 (by assumption)) ?_; conv => whnf)
    | (refine And.intro (hv2 (by assumption) (by assumption)) ?_; conv => whnf)
    | (refine And.intro (hv3 (by assumption) (by assumption)) ?_; conv => whnf)
    | (refine And.intro (lm_v511 _) ?_; conv => whnf)
    | (refine And.intro (lm_v7 _) ?_; conv => whnf)
    | (refine ⟨fun hx => ?_, fun hx => ?_⟩ <;> conv => whnf)
    | (split at h)
    | contradiction
    | exact h
def kd_note2 (a : Int32) (S : lm_S) : lm_S := lm_set (lm_set (lm_set S 9 (S 1 8).toNatClampNeg (a &&& 511)) 10 (S 1 8).toNatClampNeg (S 5 (a &&& 511).toNatClampNeg)) 1 8 (S 1 8 + 1)
def kd_wcell (a v : Int32) (S : lm_S) : lm_S := lm_set (if 2 ≤ S 1 8 then S else kd_note2 a S) 5 (a &&& 511).toNatClampNeg v
def s_M_writeCell : lm_Sp := fun av S post => ∃ a v, av = [.ref 1, .int a, .int v] ∧ ¬ S 1 8 < 0 ∧ post none (kd_wcell a v S)
abbrev ca_M_writeCell : lm_Ca := []
theorem cok_M_writeCell (l : Launch) : lm_cok l (kk_Y kk_shF) R_M 0 0 ca_M_writeCell := kk_cok (kk_nil)
set_option maxHeartbeats 1000000 in
set_option maxRecDepth 20000 in
theorem I_M_writeCell (l : Launch) : lm_I l (kk_Y kk_shF) y_M_writeCell b_M_writeCell 4 (none) 0 0 s_M_writeCell := by
  refine lm_impl g_M_writeCell ca_M_writeCell (by decide +kernel) kk_okF ck_M_writeCell (kk_fok fl_M_ok) (kk_sok sl_M_ok) (Or.inl rfl) (cok_M_writeCell l) rfl (by decide) ?_
  rintro av S post ⟨a, v, rfl, hw0, h⟩
  have hw : ¬ 2 ≤ S 1 8 → vp_in (S 1 8) 2 := fun hx => lm_vb hw0 hx (by decide)
  refine ⟨Nat.le_of_ble_eq_true rfl, lm_run 60 ?_⟩
  unfold kd_wcell kd_note2 at h
  (try (conv => whnf))
  repeat' first
    | (refine ⟨_, rfl, ?_⟩; conv => whnf)
    | (refine ⟨_, _, rfl, ?_⟩; conv => whnf)
    | (refine ⟨_, _, _, rfl, ?_⟩; conv => whnf)
    | (refine And.intro rfl ?_; conv => whnf)
    | (refine And.intro (lm_vc (by decide)) ?_; conv => whnf)
    | (refine And.intro (by decide) ?_; conv => whnf)
    | (refine ⟨fun hx => absurd hx (by decide), fun _ => ?_⟩; conv => whnf)
    | (refine ⟨fun _ => ?_, fun hx => absurd hx (by decide)⟩; conv => whnf)
    | (refine And.intro (hw hx) ?_; conv => whnf)
    | (refine And.intro hw ?_; conv => whnf)
    | (refine And.intro hw2 ?_; conv => whnf)
    | (refine And.intro hw3 ?_; conv => whnf)
    | (refine And.intro hw4 ?_; conv => whnf)
    | (refine And.intro hw5 ?_; conv => whnf)
    | (refine And.intro hw6 ?_; conv => whnf)
    | (refine And.intro hw7 ?_; conv => whnf)
    | (refine And.intro (hv1 (by assumption)) ?_; conv => whnf)
    | (refine And.intro (hv2 (by assumption) (by assumption)) ?_; conv => whnf)
    | (refine And.intro (hv3 (by assumption) (by assumption)) ?_; conv => whnf)
    | (refine And.intro (lm_v511 _) ?_; conv => whnf)
    | (refine And.intro (lm_v7 _) ?_; conv => whnf)
    | (refine ⟨fun hx => ?_, fun hx => ?_⟩ <;> conv => whnf)
    | (split at h)
    | contradiction
    | exact h
def kd_take (S : lm_S) : lm_S := lm_set S 6 3 ((S 6 3 + 1) &&& 255)
def s_M_takeByte : lm_Sp := fun av S post => av = [.ref 1] ∧ post (some (.int (kd_cell (256 + (S 6 3 + 1 &&& 255)) S))) (kd_take S)
abbrev ca_M_takeByte : lm_Ca := [(44, 1, (some 1), s_M_cellAt)]
theorem cok_M_takeByte (l : Launch) : lm_cok l (kk_Y kk_shF) R_M 1 21 ca_M_takeByte := kk_cok (kk_cons ⟨y_M_cellAt, b_M_cellAt, 2, some .int, 0, 0, I_M_cellAt l, ⟨by decide, by decide⟩, yw_M_cellAt, li_M_44⟩ <| kk_nil)
set_option maxHeartbeats 1000000 in
set_option maxRecDepth 20000 in
theorem I_M_takeByte (l : Launch) : lm_I l (kk_Y kk_shF) y_M_takeByte b_M_takeByte 1 (some .int) 1 21 s_M_takeByte := by
  refine lm_impl g_M_takeByte ca_M_takeByte (by decide +kernel) kk_okF ck_M_takeByte (kk_fok fl_M_ok) (kk_sok sl_M_ok) (Or.inl rfl) (cok_M_takeByte l) rfl (by decide) ?_
  rintro av S post ⟨rfl, h⟩
  refine ⟨Nat.le_of_ble_eq_true rfl, lm_run 60 ?_⟩
  unfold kd_take at h
  (try (conv => whnf))
  repeat' first
    | (refine ⟨_, rfl, ?_⟩; conv => whnf)
    | (refine ⟨_, _, rfl, ?_⟩; conv => whnf)
    | (refine ⟨_, _, _, rfl, ?_⟩; conv => whnf)
    | (refine And.intro rfl ?_; conv => whnf)
    | (refine And.intro (lm_vc (by decide)) ?_; conv => whnf)
    | (refine And.intro (by decide) ?_; conv => whnf)
    | (refine ⟨fun hx => absurd hx (by decide), fun _ => ?_⟩; conv => whnf)
    | (refine ⟨fun _ => ?_, fun hx => absurd hx (by decide)⟩; conv => whnf)
    | (refine And.intro (hw hx) ?_; conv => whnf)
    | (refine And.intro hw ?_; conv => whnf)
    | (refine And.intro hw2 ?_; conv => whnf)
    | (refine And.intro hw3 ?_; conv => whnf)
    | (refine And.intro hw4 ?_; conv => whnf)
    | (refine And.intro hw5 ?_; conv => whnf)
    | (refine And.intro hw6 ?_; conv => whnf)
    | (refine And.intro hw7 ?_; conv => whnf)
    | (refine And.intro (hv1 (by assumption)) ?_; conv => whnf)
    | (refine And.intro (hv2 (by assumption) (by assumption)) ?_; conv => whnf)
    | (refine And.intro (hv3 (by assumption) (by assumption)) ?_; conv => whnf)
    | (refine And.intro (lm_v511 _) ?_; conv => whnf)
    | (refine And.intro (lm_v7 _) ?_; conv => whnf)
    | (refine ⟨fun hx => ?_, fun hx => ?_⟩ <;> conv => whnf)
    | (split at h)
    | contradiction
    | exact h
def kd_push (v : Int32) (S : lm_S) : lm_S := lm_set (kd_wcell (256 + S 6 3) v S) 6 3 (((kd_wcell (256 + S 6 3) v S) 6 3 - 1) &&& 255)
def s_M_push : lm_Sp := fun av S post => ∃ v, av = [.ref 1, .int v] ∧ ¬ S 1 8 < 0 ∧ post none (kd_push v S)
abbrev ca_M_push : lm_Ca := [(129, 2, (some 1), s_M_writeCell)]
theorem cok_M_push (l : Launch) : lm_cok l (kk_Y kk_shF) R_M 1 23 ca_M_push := kk_cok (kk_cons ⟨y_M_writeCell, b_M_writeCell, 4, none, 0, 0, I_M_writeCell l, ⟨by decide, by decide⟩, yw_M_writeCell, li_M_129⟩ <| kk_nil)
set_option maxHeartbeats 1000000 in
set_option maxRecDepth 20000 in
theorem I_M_push (l : Launch) : lm_I l (kk_Y kk_shF) y_M_push b_M_push 2 (none) 1 23 s_M_push := by
  refine lm_impl g_M_push ca_M_push (by decide +kernel) kk_okF ck_M_push (kk_fok fl_M_ok) (kk_sok sl_M_ok) (Or.inl rfl) (cok_M_push l) rfl (by decide) ?_
  rintro av S post ⟨v, rfl, hw, h⟩
  refine ⟨Nat.le_of_ble_eq_true rfl, lm_run 60 ?_⟩
  unfold kd_push at h
  (try (conv => whnf))
  repeat' first
    | (refine ⟨_, rfl, ?_⟩; conv => whnf)
    | (refine ⟨_, _, rfl, ?_⟩; conv => whnf)
    | (refine ⟨_, _, _, rfl, ?_⟩; conv => whnf)
    | (refine And.intro rfl ?_; conv => whnf)
    | (refine And.intro (lm_vc (by decide)) ?_; conv => whnf)
    | (refine And.intro (by decide) ?_; conv => whnf)
    | (refine ⟨fun hx => absurd hx (by decide), fun _ => ?_⟩; conv => whnf)
    | (refine ⟨fun _ => ?_, fun hx => absurd hx (by decide)⟩; conv => whnf)
    | (refine And.intro (hw hx) ?_; conv => whnf)
    | (refine And.intro hw ?_; conv => whnf)
    | (refine And.intro hw2 ?_; conv => whnf)
    | (refine And.intro hw3 ?_; conv => whnf)
    | (refine And.intro hw4 ?_; conv => whnf)
    | (refine And.intro hw5 ?_; conv => whnf)
    | (refine And.intro hw6 ?_; conv => whnf)
    | (refine And.intro hw7 ?_; conv => whnf)
    | (refine And.intro (hv1 (by assumption)) ?_; conv => whnf)
    | (refine And.intro (hv2 (by assumption) (by assumption)) ?_; conv => whnf)
    | (refine And.intro (hv3 (by assumption) (by assumption)) ?_; conv => whnf)
    | (refine And.intro (lm_v511 _) ?_; conv => whnf)
    | (refine And.intro (lm_v7 _) ?_; conv => whnf)
    | (refine ⟨fun hx => ?_, fun hx => ?_⟩ <;> conv => whnf)
    | (split at h)
    | contradiction
    | exact h
def kd_wplace (p v : Int32) (S : lm_S) : lm_S := if p = -1 then lm_set S 6 0 v else kd_wcell p v S
def s_M_writePlace : lm_Sp := fun av S post => ∃ p v, av = [.ref 1, .int p, .int v] ∧ ¬ S 1 8 < 0 ∧ post none (kd_wplace p v S)
abbrev ca_M_writePlace : lm_Ca := [(129, 2, (some 1), s_M_writeCell)]
theorem cok_M_writePlace (l : Launch) : lm_cok l (kk_Y kk_shF) R_M 1 23 ca_M_writePlace := kk_cok (kk_cons ⟨y_M_writeCell, b_M_writeCell, 4, none, 0, 0, I_M_writeCell l, ⟨by decide, by decide⟩, yw_M_writeCell, li_M_129⟩ <| kk_nil)
set_option maxHeartbeats 1000000 in
set_option maxRecDepth 20000 in
theorem I_M_writePlace (l : Launch) : lm_I l (kk_Y kk_shF) y_M_writePlace b_M_writePlace 3 (none) 1 23 s_M_writePlace := by
  refine lm_impl g_M_writePlace ca_M_writePlace (by decide +kernel) kk_okF ck_M_writePlace (kk_fok fl_M_ok) (kk_sok sl_M_ok) (Or.inl rfl) (cok_M_writePlace l) rfl (by decide) ?_
  rintro av S post ⟨p, v, rfl, hw, h⟩
  refine ⟨Nat.le_of_ble_eq_true rfl, lm_run 60 ?_⟩
  unfold kd_wplace at h
  (try (conv => whnf))
  repeat' first
    | (refine ⟨_, rfl, ?_⟩; conv => whnf)
    | (refine ⟨_, _, rfl, ?_⟩; conv => whnf)
    | (refine ⟨_, _, _, rfl, ?_⟩; conv => whnf)
    | (refine And.intro rfl ?_; conv => whnf)
    | (refine And.intro (lm_vc (by decide)) ?_; conv => whnf)
    | (refine And.intro (by decide) ?_; conv => whnf)
    | (refine ⟨fun hx => absurd hx (by decide), fun _ => ?_⟩; conv => whnf)
    | (refine ⟨fun _ => ?_, fun hx => absurd hx (by decide)⟩; conv => whnf)
    | (refine And.intro (hw hx) ?_; conv => whnf)
    | (refine And.intro hw ?_; conv => whnf)
    | (refine And.intro hw2 ?_; conv => whnf)
    | (refine And.intro hw3 ?_; conv => whnf)
    | (refine And.intro hw4 ?_; conv => whnf)
    | (refine And.intro hw5 ?_; conv => whnf)
    | (refine And.intro hw6 ?_; conv => whnf)
    | (refine And.intro hw7 ?_; conv => whnf)
    | (refine And.intro (hv1 (by assumption)) ?_; conv => whnf)
    | (refine And.intro (hv2 (by assumption) (by assumption)) ?_; conv => whnf)
    | (refine And.intro (hv3 (by assumption) (by assumption)) ?_; conv => whnf)
    | (refine And.intro (lm_v511 _) ?_; conv => whnf)
    | (refine And.intro (lm_v7 _) ?_; conv => whnf)
    | (refine ⟨fun hx => ?_, fun hx => ?_⟩ <;> conv => whnf)
    | (split at h)
    | contradiction
    | exact h
def s_M_inputsWaiting : lm_Sp := fun av S post => av = [.ref 1] ∧ post (some (.int (S 1 3 - S 6 7))) S
abbrev ca_M_inputsWaiting : lm_Ca := []
theorem cok_M_inputsWaiting (l : Launch) : lm_cok l (kk_Y kk_shF) R_M 0 0 ca_M_inputsWaiting := kk_cok (kk_nil)
set_option maxHeartbeats 1000000 in
set_option maxRecDepth 20000 in
theorem I_M_inputsWaiting (l : Launch) : lm_I l (kk_Y kk_shF) y_M_inputsWaiting b_M_inputsWaiting 1 (some .int) 0 0 s_M_inputsWaiting := by
  refine lm_impl g_M_inputsWaiting ca_M_inputsWaiting (by decide +kernel) kk_okF ck_M_inputsWaiting (kk_fok fl_M_ok) (kk_sok sl_M_ok) (Or.inl rfl) (cok_M_inputsWaiting l) rfl (by decide) ?_
  rintro av S post ⟨rfl, h⟩
  refine ⟨Nat.le_of_ble_eq_true rfl, lm_run 60 ?_⟩
  (try (conv => whnf))
  repeat' first
    | (refine ⟨_, rfl, ?_⟩; conv => whnf)
    | (refine ⟨_, _, rfl, ?_⟩; conv => whnf)
    | (refine ⟨_, _, _, rfl, ?_⟩; conv => whnf)
    | (refine And.intro rfl ?_; conv => whnf)
    | (refine And.intro (lm_vc (by decide)) ?_; conv => whnf)
    | (refine And.intro (by decide) ?_; conv => whnf)
    | (refine ⟨fun hx => absurd hx (by decide), fun _ => ?_⟩; conv => whnf)
    | (refine ⟨fun _ => ?_, fun hx => absurd hx (by decide)⟩; conv => whnf)
    | (refine And.intro (hw hx) ?_; conv => whnf)
    | (refine And.intro hw ?_; conv => whnf)
    | (refine And.intro hw2 ?_; conv => whnf)
    | (refine And.intro hw3 ?_; conv => whnf)
    | (refine And.intro hw4 ?_; conv => whnf)
    | (refine And.intro hw5 ?_; conv => whnf)
    | (refine And.intro hw6 ?_; conv => whnf)
    | (refine And.intro hw7 ?_; conv => whnf)
    | (refine And.intro (hv1 (by assumption)) ?_; conv => whnf)
    | (refine And.intro (hv2 (by assumption) (by assumption)) ?_; conv => whnf)
    | (refine And.intro (hv3 (by assumption) (by assumption)) ?_; conv => whnf)
    | (refine And.intro (lm_v511 _) ?_; conv => whnf)
    | (refine And.intro (lm_v7 _) ?_; conv => whnf)
    | (refine ⟨fun hx => ?_, fun hx => ?_⟩ <;> conv => whnf)
    | (split at h)
    | contradiction
    | exact h
def kd_outb (k : Int32) (S : lm_S) : Int32 := if k < S 6 8 then S 8 (S 6 8 - 1 - k).toNatClampNeg else -1
def s_M_outputBehind : lm_Sp := fun av S post => ∃ k, av = [.ref 1, .int k] ∧ (k < S 6 8 → vp_in (S 6 8 - 1 - k) 308) ∧ post (some (.int (kd_outb k S))) S
abbrev ca_M_outputBehind : lm_Ca := []
theorem cok_M_outputBehind (l : Launch) : lm_cok l (kk_Y kk_shF) R_M 0 0 ca_M_outputBehind := kk_cok (kk_nil)
set_option maxHeartbeats 1000000 in
set_option maxRecDepth 20000 in
theorem I_M_outputBehind (l : Launch) : lm_I l (kk_Y kk_shF) y_M_outputBehind b_M_outputBehind 2 (some .int) 0 0 s_M_outputBehind := by
  refine lm_impl g_M_outputBehind ca_M_outputBehind (by decide +kernel) kk_okF ck_M_outputBehind (kk_fok fl_M_ok) (kk_sok sl_M_ok) (Or.inl rfl) (cok_M_outputBehind l) rfl (by decide) ?_
  rintro av S post ⟨k, rfl, hw, h⟩
  refine ⟨Nat.le_of_ble_eq_true rfl, lm_run 60 ?_⟩
  unfold kd_outb at h
  (try (conv => whnf))
  repeat' first
    | (refine ⟨_, rfl, ?_⟩; conv => whnf)
    | (refine ⟨_, _, rfl, ?_⟩; conv => whnf)
    | (refine ⟨_, _, _, rfl, ?_⟩; conv => whnf)
    | (refine And.intro rfl ?_; conv => whnf)
    | (refine And.intro (lm_vc (by decide)) ?_; conv => whnf)
    | (refine And.intro (by decide) ?_; conv => whnf)
    | (refine ⟨fun hx => absurd hx (by decide), fun _ => ?_⟩; conv => whnf)
    | (refine ⟨fun _ => ?_, fun hx => absurd hx (by decide)⟩; conv => whnf)
    | (refine And.intro (hw hx) ?_; conv => whnf)
    | (refine And.intro hw ?_; conv => whnf)
    | (refine And.intro hw2 ?_; conv => whnf)
    | (refine And.intro hw3 ?_; conv => whnf)
    | (refine And.intro hw4 ?_; conv => whnf)
    | (refine And.intro hw5 ?_; conv => whnf)
    | (refine And.intro hw6 ?_; conv => whnf)
    | (refine And.intro hw7 ?_; conv => whnf)
    | (refine And.intro (hv1 (by assumption)) ?_; conv => whnf)
    | (refine And.intro (hv2 (by assumption) (by assumption)) ?_; conv => whnf)
    | (refine And.intro (hv3 (by assumption) (by assumption)) ?_; conv => whnf)
    | (refine And.intro (lm_v511 _) ?_; conv => whnf)
    | (refine And.intro (lm_v7 _) ?_; conv => whnf)
    | (refine ⟨fun hx => ?_, fun hx => ?_⟩ <;> conv => whnf)
    | (split at h)
    | contradiction
    | exact h
def kd_forget (S : lm_S) : lm_S := lm_set (lm_set (lm_set S 1 8 0) 9 0 (-1)) 9 1 (-1)
def s_M_forgetWrites : lm_Sp := fun av S post => av = [.ref 1] ∧ post none (kd_forget S)
abbrev ca_M_forgetWrites : lm_Ca := []
theorem cok_M_forgetWrites (l : Launch) : lm_cok l (kk_Y kk_shF) R_M 0 0 ca_M_forgetWrites := kk_cok (kk_nil)
set_option maxHeartbeats 1000000 in
set_option maxRecDepth 20000 in
theorem I_M_forgetWrites (l : Launch) : lm_I l (kk_Y kk_shF) y_M_forgetWrites b_M_forgetWrites 2 (none) 0 0 s_M_forgetWrites := by
  refine lm_impl g_M_forgetWrites ca_M_forgetWrites (by decide +kernel) kk_okF ck_M_forgetWrites (kk_fok fl_M_ok) (kk_sok sl_M_ok) (Or.inl rfl) (cok_M_forgetWrites l) rfl (by decide) ?_
  rintro av S post ⟨rfl, h⟩
  refine ⟨Nat.le_of_ble_eq_true rfl, lm_run 60 ?_⟩
  unfold kd_forget at h
  (try (conv => whnf))
  repeat' first
    | (refine ⟨_, rfl, ?_⟩; conv => whnf)
    | (refine ⟨_, _, rfl, ?_⟩; conv => whnf)
    | (refine ⟨_, _, _, rfl, ?_⟩; conv => whnf)
    | (refine And.intro rfl ?_; conv => whnf)
    | (refine And.intro (lm_vc (by decide)) ?_; conv => whnf)
    | (refine And.intro (by decide) ?_; conv => whnf)
    | (refine ⟨fun hx => absurd hx (by decide), fun _ => ?_⟩; conv => whnf)
    | (refine ⟨fun _ => ?_, fun hx => absurd hx (by decide)⟩; conv => whnf)
    | (refine And.intro (hw hx) ?_; conv => whnf)
    | (refine And.intro hw ?_; conv => whnf)
    | (refine And.intro hw2 ?_; conv => whnf)
    | (refine And.intro hw3 ?_; conv => whnf)
    | (refine And.intro hw4 ?_; conv => whnf)
    | (refine And.intro hw5 ?_; conv => whnf)
    | (refine And.intro hw6 ?_; conv => whnf)
    | (refine And.intro hw7 ?_; conv => whnf)
    | (refine And.intro (hv1 (by assumption)) ?_; conv => whnf)
    | (refine And.intro (hv2 (by assumption) (by assumption)) ?_; conv => whnf)
    | (refine And.intro (hv3 (by assumption) (by assumption)) ?_; conv => whnf)
    | (refine And.intro (lm_v511 _) ?_; conv => whnf)
    | (refine And.intro (lm_v7 _) ?_; conv => whnf)
    | (refine ⟨fun hx => ?_, fun hx => ?_⟩ <;> conv => whnf)
    | (split at h)
    | contradiction
    | exact h
def kd_len (op md : Int32) : Int32 := if 22 < op then (if op = 26 then 2 else 1) else ([2, 2, 2, 3, 3, 3, 2, 1] : List Int32).getD md.toNatClampNeg 0
def s_M_lengthOf : lm_Sp := fun av S post => ∃ op md, av = [.int op, .int md] ∧ vp_in md 8 ∧ post (some (.int (kd_len op md))) S
abbrev ca_M_lengthOf : lm_Ca := []
theorem cok_M_lengthOf (l : Launch) : lm_cok l (kk_Y kk_shF) R_M 0 0 ca_M_lengthOf := kk_cok (kk_nil)
set_option maxHeartbeats 1000000 in
set_option maxRecDepth 20000 in
theorem I_M_lengthOf (l : Launch) : lm_I l (kk_Y kk_shF) y_M_lengthOf b_M_lengthOf 2 (some .int) 0 0 s_M_lengthOf := by
  refine lm_impl g_M_lengthOf ca_M_lengthOf (by decide +kernel) kk_okF ck_M_lengthOf (kk_fok fl_M_ok) (kk_sok sl_M_ok) (Or.inl rfl) (cok_M_lengthOf l) rfl (by decide) ?_
  rintro av S post ⟨op, md, rfl, hw, h⟩
  refine ⟨Nat.le_of_ble_eq_true rfl, lm_run 60 ?_⟩
  unfold kd_len at h
  (try (conv => whnf))
  repeat' first
    | (refine ⟨_, rfl, ?_⟩; conv => whnf)
    | (refine ⟨_, _, rfl, ?_⟩; conv => whnf)
    | (refine ⟨_, _, _, rfl, ?_⟩; conv => whnf)
    | (refine And.intro rfl ?_; conv => whnf)
    | (refine And.intro (lm_vc (by decide)) ?_; conv => whnf)
    | (refine And.intro (by decide) ?_; conv => whnf)
    | (refine ⟨fun hx => absurd hx (by decide), fun _ => ?_⟩; conv => whnf)
    | (refine ⟨fun _ => ?_, fun hx => absurd hx (by decide)⟩; conv => whnf)
    | (refine And.intro (hw hx) ?_; conv => whnf)
    | (refine And.intro hw ?_; conv => whnf)
    | (refine And.intro hw2 ?_; conv => whnf)
    | (refine And.intro hw3 ?_; conv => whnf)
    | (refine And.intro hw4 ?_; conv => whnf)
    | (refine And.intro hw5 ?_; conv => whnf)
    | (refine And.intro hw6 ?_; conv => whnf)
    | (refine And.intro hw7 ?_; conv => whnf)
    | (refine And.intro (hv1 (by assumption)) ?_; conv => whnf)
    | (refine And.intro (hv2 (by assumption) (by assumption)) ?_; conv => whnf)
    | (refine And.intro (hv3 (by assumption) (by assumption)) ?_; conv => whnf)
    | (refine And.intro (lm_v511 _) ?_; conv => whnf)
    | (refine And.intro (lm_v7 _) ?_; conv => whnf)
    | (refine ⟨fun hx => ?_, fun hx => ?_⟩ <;> conv => whnf)
    | (split at h)
    | contradiction
    | exact h
def kd_point (a : Int32) (S : lm_S) : Int32 := kd_cell a S + 256 * kd_cell ((a + 1) &&& 255) S
def s_M_pointerAt : lm_Sp := fun av S post => ∃ a, av = [.ref 1, .int a] ∧ post (some (.int (kd_point a S))) S
abbrev ca_M_pointerAt : lm_Ca := [(44, 1, (some 1), s_M_cellAt)]
theorem cok_M_pointerAt (l : Launch) : lm_cok l (kk_Y kk_shF) R_M 1 21 ca_M_pointerAt := kk_cok (kk_cons ⟨y_M_cellAt, b_M_cellAt, 2, some .int, 0, 0, I_M_cellAt l, ⟨by decide, by decide⟩, yw_M_cellAt, li_M_44⟩ <| kk_nil)
set_option maxHeartbeats 1000000 in
set_option maxRecDepth 20000 in
theorem I_M_pointerAt (l : Launch) : lm_I l (kk_Y kk_shF) y_M_pointerAt b_M_pointerAt 2 (some .int) 1 21 s_M_pointerAt := by
  refine lm_impl g_M_pointerAt ca_M_pointerAt (by decide +kernel) kk_okF ck_M_pointerAt (kk_fok fl_M_ok) (kk_sok sl_M_ok) (Or.inl rfl) (cok_M_pointerAt l) rfl (by decide) ?_
  rintro av S post ⟨a, rfl, h⟩
  refine ⟨Nat.le_of_ble_eq_true rfl, lm_run 60 ?_⟩
  unfold kd_point at h
  (try (conv => whnf))
  repeat' first
    | (refine ⟨_, rfl, ?_⟩; conv => whnf)
    | (refine ⟨_, _, rfl, ?_⟩; conv => whnf)
    | (refine ⟨_, _, _, rfl, ?_⟩; conv => whnf)
    | (refine And.intro rfl ?_; conv => whnf)
    | (refine And.intro (lm_vc (by decide)) ?_; conv => whnf)
    | (refine And.intro (by decide) ?_; conv => whnf)
    | (refine ⟨fun hx => absurd hx (by decide), fun _ => ?_⟩; conv => whnf)
    | (refine ⟨fun _ => ?_, fun hx => absurd hx (by decide)⟩; conv => whnf)
    | (refine And.intro (hw hx) ?_; conv => whnf)
    | (refine And.intro hw ?_; conv => whnf)
    | (refine And.intro hw2 ?_; conv => whnf)
    | (refine And.intro hw3 ?_; conv => whnf)
    | (refine And.intro hw4 ?_; conv => whnf)
    | (refine And.intro hw5 ?_; conv => whnf)
    | (refine And.intro hw6 ?_; conv => whnf)
    | (refine And.intro hw7 ?_; conv => whnf)
    | (refine And.intro (hv1 (by assumption)) ?_; conv => whnf)
    | (refine And.intro (hv2 (by assumption) (by assumption)) ?_; conv => whnf)
    | (refine And.intro (hv3 (by assumption) (by assumption)) ?_; conv => whnf)
    | (refine And.intro (lm_v511 _) ?_; conv => whnf)
    | (refine And.intro (lm_v7 _) ?_; conv => whnf)
    | (refine ⟨fun hx => ?_, fun hx => ?_⟩ <;> conv => whnf)
    | (split at h)
    | contradiction
    | exact h
def kd_wide (a : Int32) (S : lm_S) : Int32 := kd_cell (a + 1) S + 256 * kd_cell (a + 2) S
def kd_place (md a : Int32) (S : lm_S) : Int32 := if md.toInt = 0 then (a + 1) &&& 511 else if md.toInt = 0 + 1 then kd_cell (a + 1) S else if md.toInt = 0 + 1 + 1 then (kd_cell (a + 1) S + S 6 1) &&& 255 else if md.toInt = 0 + 1 + 1 + 1 then kd_wide a S &&& 511 else if md.toInt = 0 + 1 + 1 + 1 + 1 then (kd_wide a S + S 6 1) &&& 511 else if md.toInt = 0 + 1 + 1 + 1 + 1 + 1 then (kd_wide a S + S 6 2) &&& 511 else if md.toInt = 0 + 1 + 1 + 1 + 1 + 1 + 1 then (kd_point (kd_cell (a + 1) S) S + S 6 2) &&& 511 else -1
def s_M_placeOf : lm_Sp := fun av S post => ∃ md a, av = [.ref 1, .int md, .int a] ∧ post (some (.int (kd_place md a S))) S
abbrev ca_M_placeOf : lm_Ca := [(44, 1, (some 1), s_M_cellAt), (79, 1, (some 1), s_M_pointerAt)]
theorem cok_M_placeOf (l : Launch) : lm_cok l (kk_Y kk_shF) R_M 2 42 ca_M_placeOf := kk_cok (kk_cons ⟨y_M_cellAt, b_M_cellAt, 2, some .int, 0, 0, I_M_cellAt l, ⟨by decide, by decide⟩, yw_M_cellAt, li_M_44⟩ <| kk_cons ⟨y_M_pointerAt, b_M_pointerAt, 2, some .int, 1, 21, I_M_pointerAt l, ⟨by decide, by decide⟩, yw_M_pointerAt, li_M_79⟩ <| kk_nil)
set_option maxHeartbeats 1000000 in
set_option maxRecDepth 20000 in
theorem I_M_placeOf (l : Launch) : lm_I l (kk_Y kk_shF) y_M_placeOf b_M_placeOf 5 (some .int) 2 42 s_M_placeOf := by
  refine lm_impl g_M_placeOf ca_M_placeOf (by decide +kernel) kk_okF ck_M_placeOf (kk_fok fl_M_ok) (kk_sok sl_M_ok) (Or.inl rfl) (cok_M_placeOf l) rfl (by decide) ?_
  rintro av S post ⟨md, a, rfl, h⟩
  refine ⟨Nat.le_of_ble_eq_true rfl, lm_run 60 ?_⟩
  unfold kd_place kd_wide at h
  (try (conv => whnf))
  repeat' first
    | (refine ⟨_, rfl, ?_⟩; conv => whnf)
    | (refine ⟨_, _, rfl, ?_⟩; conv => whnf)
    | (refine ⟨_, _, _, rfl, ?_⟩; conv => whnf)
    | (refine And.intro rfl ?_; conv => whnf)
    | (refine And.intro (lm_vc (by decide)) ?_; conv => whnf)
    | (refine And.intro (by decide) ?_; conv => whnf)
    | (refine ⟨fun hx => absurd hx (by decide), fun _ => ?_⟩; conv => whnf)
    | (refine ⟨fun _ => ?_, fun hx => absurd hx (by decide)⟩; conv => whnf)
    | (refine And.intro (hw hx) ?_; conv => whnf)
    | (refine And.intro hw ?_; conv => whnf)
    | (refine And.intro hw2 ?_; conv => whnf)
    | (refine And.intro hw3 ?_; conv => whnf)
    | (refine And.intro hw4 ?_; conv => whnf)
    | (refine And.intro hw5 ?_; conv => whnf)
    | (refine And.intro hw6 ?_; conv => whnf)
    | (refine And.intro hw7 ?_; conv => whnf)
    | (refine And.intro (hv1 (by assumption)) ?_; conv => whnf)
    | (refine And.intro (hv2 (by assumption) (by assumption)) ?_; conv => whnf)
    | (refine And.intro (hv3 (by assumption) (by assumption)) ?_; conv => whnf)
    | (refine And.intro (lm_v511 _) ?_; conv => whnf)
    | (refine And.intro (lm_v7 _) ?_; conv => whnf)
    | (refine ⟨fun hx => ?_, fun hx => ?_⟩ <;> conv => whnf)
    | (split at h)
    | contradiction
    | exact h
end
section
/-! the desk's machine: the instructions -/
def kd_bits (op t : Int32) (S : lm_S) : Int32 := if op.toInt = 8 then S 6 0 &&& t else if op.toInt = 9 then S 6 0 ||| t else S 6 0 ^^^ t
def s_M_bitsWithA : lm_Sp := fun av S post => ∃ op t, av = [.ref 1, .int op, .int t] ∧ post (some (.int (kd_bits op t S))) S
abbrev ca_M_bitsWithA : lm_Ca := []
theorem cok_M_bitsWithA (l : Launch) : lm_cok l (kk_Y kk_shF) R_M 0 0 ca_M_bitsWithA := kk_cok (kk_nil)
set_option maxHeartbeats 1000000 in
set_option maxRecDepth 20000 in
theorem I_M_bitsWithA (l : Launch) : lm_I l (kk_Y kk_shF) y_M_bitsWithA b_M_bitsWithA 3 (some .int) 0 0 s_M_bitsWithA := by
  refine lm_impl g_M_bitsWithA ca_M_bitsWithA (by decide +kernel) kk_okF ck_M_bitsWithA (kk_fok fl_M_ok) (kk_sok sl_M_ok) (Or.inl rfl) (cok_M_bitsWithA l) rfl (by decide) ?_
  rintro av S post ⟨op, t, rfl, h⟩
  refine ⟨Nat.le_of_ble_eq_true rfl, lm_run 60 ?_⟩
  unfold kd_bits at h
  (try (conv => whnf))
  repeat' first
    | (refine ⟨_, rfl, ?_⟩; conv => whnf)
    | (refine ⟨_, _, rfl, ?_⟩; conv => whnf)
    | (refine ⟨_, _, _, rfl, ?_⟩; conv => whnf)
    | (refine And.intro rfl ?_; conv => whnf)
    | (refine And.intro (lm_vc (by decide)) ?_; conv => whnf)
    | (refine And.intro (by decide) ?_; conv => whnf)
    | (refine ⟨fun hx => absurd hx (by decide), fun _ => ?_⟩; conv => whnf)
    | (refine ⟨fun _ => ?_, fun hx => absurd hx (by decide)⟩; conv => whnf)
    | (refine And.intro (hw hx) ?_; conv => whnf)
    | (refine And.intro hw ?_; conv => whnf)
    | (refine And.intro hw2 ?_; conv => whnf)
    | (refine And.intro hw3 ?_; conv => whnf)
    | (refine And.intro hw4 ?_; conv => whnf)
    | (refine And.intro hw5 ?_; conv => whnf)
    | (refine And.intro hw6 ?_; conv => whnf)
    | (refine And.intro hw7 ?_; conv => whnf)
    | (refine And.intro (hv1 (by assumption)) ?_; conv => whnf)
    | (refine And.intro (hv2 (by assumption) (by assumption)) ?_; conv => whnf)
    | (refine And.intro (hv3 (by assumption) (by assumption)) ?_; conv => whnf)
    | (refine And.intro (lm_v511 _) ?_; conv => whnf)
    | (refine And.intro (lm_v7 _) ?_; conv => whnf)
    | (refine ⟨fun hx => ?_, fun hx => ?_⟩ <;> conv => whnf)
    | (split at h)
    | contradiction
    | exact h
def kd_add2 (a t c : Int32) (S : lm_S) : lm_S := kd_flag 1 (if a + t + c ≤ 255 then 0 else 1) (kd_load 0 (a + t + c) S)
def kd_add (t : Int32) (S : lm_S) : lm_S := kd_flag 64 (if (S 6 0 ^^^ t) &&& 128 = 0 then (if (S 6 0 ^^^ (kd_add2 (S 6 0) t (S 6 4 &&& 1) S) 6 0) &&& 128 = 0 then 0 else 1) else 0) (kd_add2 (S 6 0) t (S 6 4 &&& 1) S)
def s_M_addToA : lm_Sp := fun av S post => ∃ t, av = [.ref 1, .int t] ∧ post none (kd_add t S)
abbrev ca_M_addToA : lm_Ca := [(82, 2, (some 1), s_M_load), (104, 2, (some 1), s_M_putFlag)]
theorem cok_M_addToA (l : Launch) : lm_cok l (kk_Y kk_shF) R_M 2 44 ca_M_addToA := kk_cok (kk_cons ⟨y_M_load, b_M_load, 3, none, 1, 22, I_M_load l, ⟨by decide, by decide⟩, yw_M_load, li_M_82⟩ <| kk_cons ⟨y_M_putFlag, b_M_putFlag, 3, none, 0, 0, I_M_putFlag l, ⟨by decide, by decide⟩, yw_M_putFlag, li_M_104⟩ <| kk_nil)
set_option maxHeartbeats 1000000 in
set_option maxRecDepth 20000 in
theorem I_M_addToA (l : Launch) : lm_I l (kk_Y kk_shF) y_M_addToA b_M_addToA 5 (none) 2 44 s_M_addToA := by
  refine lm_impl g_M_addToA ca_M_addToA (by decide +kernel) kk_okF ck_M_addToA (kk_fok fl_M_ok) (kk_sok sl_M_ok) (Or.inl rfl) (cok_M_addToA l) rfl (by decide) ?_
  rintro av S post ⟨t, rfl, h⟩
  refine ⟨Nat.le_of_ble_eq_true rfl, lm_run 90 ?_⟩
  unfold kd_add kd_add2 at h
  (try (conv => whnf))
  repeat' first
    | (refine ⟨_, rfl, ?_⟩; conv => whnf)
    | (refine ⟨_, _, rfl, ?_⟩; conv => whnf)
    | (refine ⟨_, _, _, rfl, ?_⟩; conv => whnf)
    | (refine And.intro rfl ?_; conv => whnf)
    | (refine And.intro (lm_vc (by decide)) ?_; conv => whnf)
    | (refine And.intro (by decide) ?_; conv => whnf)
    | (refine ⟨fun hx => absurd hx (by decide), fun _ => ?_⟩; conv => whnf)
    | (refine ⟨fun _ => ?_, fun hx => absurd hx (by decide)⟩; conv => whnf)
    | (refine And.intro (hw hx) ?_; conv => whnf)
    | (refine And.intro hw ?_; conv => whnf)
    | (refine And.intro hw2 ?_; conv => whnf)
    | (refine And.intro hw3 ?_; conv => whnf)
    | (refine And.intro hw4 ?_; conv => whnf)
    | (refine And.intro hw5 ?_; conv => whnf)
    | (refine And.intro hw6 ?_; conv => whnf)
    | (refine And.intro hw7 ?_; conv => whnf)
    | (refine And.intro (hv1 (by assumption)) ?_; conv => whnf)
    | (refine And.intro (hv2 (by assumption) (by assumption)) ?_; conv => whnf)
    | (refine And.intro (hv3 (by assumption) (by assumption)) ?_; conv => whnf)
    | (refine And.intro (lm_v511 _) ?_; conv => whnf)
    | (refine And.intro (lm_v7 _) ?_; conv => whnf)
    | (refine ⟨fun hx => ?_, fun hx => ?_⟩ <;> conv => whnf)
    | (split at h)
    | contradiction
    | exact h
def kd_cmp (v t : Int32) (S : lm_S) : lm_S := kd_flag 1 (if v < t then 0 else 1) (kd_note ((v - t) &&& 255) S)
def s_M_compare : lm_Sp := fun av S post => ∃ v t, av = [.ref 1, .int v, .int t] ∧ post none (kd_cmp v t S)
abbrev ca_M_compare : lm_Ca := [(104, 2, (some 1), s_M_putFlag), (108, 1, (some 1), s_M_noteResult)]
theorem cok_M_compare (l : Launch) : lm_cok l (kk_Y kk_shF) R_M 1 22 ca_M_compare := kk_cok (kk_cons ⟨y_M_putFlag, b_M_putFlag, 3, none, 0, 0, I_M_putFlag l, ⟨by decide, by decide⟩, yw_M_putFlag, li_M_104⟩ <| kk_cons ⟨y_M_noteResult, b_M_noteResult, 3, none, 0, 0, I_M_noteResult l, ⟨by decide, by decide⟩, yw_M_noteResult, li_M_108⟩ <| kk_nil)
set_option maxHeartbeats 1000000 in
set_option maxRecDepth 20000 in
theorem I_M_compare (l : Launch) : lm_I l (kk_Y kk_shF) y_M_compare b_M_compare 3 (none) 1 22 s_M_compare := by
  refine lm_impl g_M_compare ca_M_compare (by decide +kernel) kk_okF ck_M_compare (kk_fok fl_M_ok) (kk_sok sl_M_ok) (Or.inl rfl) (cok_M_compare l) rfl (by decide) ?_
  rintro av S post ⟨v, t, rfl, h⟩
  refine ⟨Nat.le_of_ble_eq_true rfl, lm_run 90 ?_⟩
  unfold kd_cmp at h
  (try (conv => whnf))
  repeat' first
    | (refine ⟨_, rfl, ?_⟩; conv => whnf)
    | (refine ⟨_, _, rfl, ?_⟩; conv => whnf)
    | (refine ⟨_, _, _, rfl, ?_⟩; conv => whnf)
    | (refine And.intro rfl ?_; conv => whnf)
    | (refine And.intro (lm_vc (by decide)) ?_; conv => whnf)
    | (refine And.intro (by decide) ?_; conv => whnf)
    | (refine ⟨fun hx => absurd hx (by decide), fun _ => ?_⟩; conv => whnf)
    | (refine ⟨fun _ => ?_, fun hx => absurd hx (by decide)⟩; conv => whnf)
    | (refine And.intro (hw hx) ?_; conv => whnf)
    | (refine And.intro hw ?_; conv => whnf)
    | (refine And.intro hw2 ?_; conv => whnf)
    | (refine And.intro hw3 ?_; conv => whnf)
    | (refine And.intro hw4 ?_; conv => whnf)
    | (refine And.intro hw5 ?_; conv => whnf)
    | (refine And.intro hw6 ?_; conv => whnf)
    | (refine And.intro hw7 ?_; conv => whnf)
    | (refine And.intro (hv1 (by assumption)) ?_; conv => whnf)
    | (refine And.intro (hv2 (by assumption) (by assumption)) ?_; conv => whnf)
    | (refine And.intro (hv3 (by assumption) (by assumption)) ?_; conv => whnf)
    | (refine And.intro (lm_v511 _) ?_; conv => whnf)
    | (refine And.intro (lm_v7 _) ?_; conv => whnf)
    | (refine ⟨fun hx => ?_, fun hx => ?_⟩ <;> conv => whnf)
    | (split at h)
    | contradiction
    | exact h
def kd_test2 (t : Int32) (S : lm_S) : lm_S := kd_flag 64 (if t &&& 64 = 0 then 0 else 1) (kd_flag 128 (if t &&& 128 = 0 then 0 else 1) S)
def kd_test (t : Int32) (S : lm_S) : lm_S := kd_flag 2 (if (kd_test2 t S) 6 0 &&& t = 0 then 1 else 0) (kd_test2 t S)
def s_M_testBits : lm_Sp := fun av S post => ∃ t, av = [.ref 1, .int t] ∧ post none (kd_test t S)
abbrev ca_M_testBits : lm_Ca := [(104, 2, (some 1), s_M_putFlag)]
theorem cok_M_testBits (l : Launch) : lm_cok l (kk_Y kk_shF) R_M 1 22 ca_M_testBits := kk_cok (kk_cons ⟨y_M_putFlag, b_M_putFlag, 3, none, 0, 0, I_M_putFlag l, ⟨by decide, by decide⟩, yw_M_putFlag, li_M_104⟩ <| kk_nil)
set_option maxHeartbeats 1000000 in
set_option maxRecDepth 20000 in
theorem I_M_testBits (l : Launch) : lm_I l (kk_Y kk_shF) y_M_testBits b_M_testBits 2 (none) 1 22 s_M_testBits := by
  refine lm_impl g_M_testBits ca_M_testBits (by decide +kernel) kk_okF ck_M_testBits (kk_fok fl_M_ok) (kk_sok sl_M_ok) (Or.inl rfl) (cok_M_testBits l) rfl (by decide) ?_
  rintro av S post ⟨t, rfl, h⟩
  refine ⟨Nat.le_of_ble_eq_true rfl, lm_run 90 ?_⟩
  unfold kd_test kd_test2 at h
  (try (conv => whnf))
  repeat' first
    | (refine ⟨_, rfl, ?_⟩; conv => whnf)
    | (refine ⟨_, _, rfl, ?_⟩; conv => whnf)
    | (refine ⟨_, _, _, rfl, ?_⟩; conv => whnf)
    | (refine And.intro rfl ?_; conv => whnf)
    | (refine And.intro (lm_vc (by decide)) ?_; conv => whnf)
    | (refine And.intro (by decide) ?_; conv => whnf)
    | (refine ⟨fun hx => absurd hx (by decide), fun _ => ?_⟩; conv => whnf)
    | (refine ⟨fun _ => ?_, fun hx => absurd hx (by decide)⟩; conv => whnf)
    | (refine And.intro (hw hx) ?_; conv => whnf)
    | (refine And.intro hw ?_; conv => whnf)
    | (refine And.intro hw2 ?_; conv => whnf)
    | (refine And.intro hw3 ?_; conv => whnf)
    | (refine And.intro hw4 ?_; conv => whnf)
    | (refine And.intro hw5 ?_; conv => whnf)
    | (refine And.intro hw6 ?_; conv => whnf)
    | (refine And.intro hw7 ?_; conv => whnf)
    | (refine And.intro (hv1 (by assumption)) ?_; conv => whnf)
    | (refine And.intro (hv2 (by assumption) (by assumption)) ?_; conv => whnf)
    | (refine And.intro (hv3 (by assumption) (by assumption)) ?_; conv => whnf)
    | (refine And.intro (lm_v511 _) ?_; conv => whnf)
    | (refine And.intro (lm_v7 _) ?_; conv => whnf)
    | (refine ⟨fun hx => ?_, fun hx => ?_⟩ <;> conv => whnf)
    | (split at h)
    | contradiction
    | exact h
def kd_alt (op t : Int32) (S : lm_S) : Int32 := if op.toInt = 15 then t + 1 else if op.toInt = 15 + 1 then t - 1 else if op.toInt = 15 + 1 + 1 then t <<< (1 &&& 31) else if op.toInt = 15 + 1 + 1 + 1 then t >>> (1 &&& 31) else if op.toInt = 15 + 1 + 1 + 1 + 1 then t <<< (1 &&& 31) + (S 6 4 &&& 1) else t >>> (1 &&& 31) + 128 * (S 6 4 &&& 1)
def s_M_alteredByte : lm_Sp := fun av S post => ∃ op t, av = [.ref 1, .int op, .int t] ∧ post (some (.int (kd_alt op t S))) S
abbrev ca_M_alteredByte : lm_Ca := []
theorem cok_M_alteredByte (l : Launch) : lm_cok l (kk_Y kk_shF) R_M 0 0 ca_M_alteredByte := kk_cok (kk_nil)
set_option maxHeartbeats 1000000 in
set_option maxRecDepth 20000 in
theorem I_M_alteredByte (l : Launch) : lm_I l (kk_Y kk_shF) y_M_alteredByte b_M_alteredByte 4 (some .int) 0 0 s_M_alteredByte := by
  refine lm_impl g_M_alteredByte ca_M_alteredByte (by decide +kernel) kk_okF ck_M_alteredByte (kk_fok fl_M_ok) (kk_sok sl_M_ok) (Or.inl rfl) (cok_M_alteredByte l) rfl (by decide) ?_
  rintro av S post ⟨op, t, rfl, h⟩
  refine ⟨Nat.le_of_ble_eq_true rfl, lm_run 90 ?_⟩
  unfold kd_alt at h
  (try (conv => whnf))
  repeat' first
    | (refine ⟨_, rfl, ?_⟩; conv => whnf)
    | (refine ⟨_, _, rfl, ?_⟩; conv => whnf)
    | (refine ⟨_, _, _, rfl, ?_⟩; conv => whnf)
    | (refine And.intro rfl ?_; conv => whnf)
    | (refine And.intro (lm_vc (by decide)) ?_; conv => whnf)
    | (refine And.intro (by decide) ?_; conv => whnf)
    | (refine ⟨fun hx => absurd hx (by decide), fun _ => ?_⟩; conv => whnf)
    | (refine ⟨fun _ => ?_, fun hx => absurd hx (by decide)⟩; conv => whnf)
    | (refine And.intro (hw hx) ?_; conv => whnf)
    | (refine And.intro hw ?_; conv => whnf)
    | (refine And.intro hw2 ?_; conv => whnf)
    | (refine And.intro hw3 ?_; conv => whnf)
    | (refine And.intro hw4 ?_; conv => whnf)
    | (refine And.intro hw5 ?_; conv => whnf)
    | (refine And.intro hw6 ?_; conv => whnf)
    | (refine And.intro hw7 ?_; conv => whnf)
    | (refine And.intro (hv1 (by assumption)) ?_; conv => whnf)
    | (refine And.intro (hv2 (by assumption) (by assumption)) ?_; conv => whnf)
    | (refine And.intro (hv3 (by assumption) (by assumption)) ?_; conv => whnf)
    | (refine And.intro (lm_v511 _) ?_; conv => whnf)
    | (refine And.intro (lm_v7 _) ?_; conv => whnf)
    | (refine ⟨fun hx => ?_, fun hx => ?_⟩ <;> conv => whnf)
    | (split at h)
    | contradiction
    | exact h
def kd_altc (op t : Int32) (S : lm_S) : lm_S := if op = 17 then kd_flag 1 (if t &&& 128 = 0 then 0 else 1) S else if op = 19 then kd_flag 1 (if t &&& 128 = 0 then 0 else 1) S else if op = 18 then kd_flag 1 (if t &&& 1 = 0 then 0 else 1) S else if op = 20 then kd_flag 1 (if t &&& 1 = 0 then 0 else 1) S else S
def kd_alter (op p t : Int32) (S : lm_S) : lm_S := kd_wplace p (kd_alt op t S &&& 255) (kd_note (kd_alt op t S &&& 255) (kd_altc op t S))
def s_M_alterPlace : lm_Sp := fun av S post => ∃ op p t, av = [.ref 1, .int op, .int p, .int t] ∧ ¬ S 1 8 < 0 ∧ post none (kd_alter op p t S)
abbrev ca_M_alterPlace : lm_Ca := [(85, 2, (some 1), s_M_writePlace), (104, 2, (some 1), s_M_putFlag), (108, 1, (some 1), s_M_noteResult), (111, 2, (some 1), s_M_alteredByte)]
theorem cok_M_alterPlace (l : Launch) : lm_cok l (kk_Y kk_shF) R_M 2 45 ca_M_alterPlace := kk_cok (kk_cons ⟨y_M_writePlace, b_M_writePlace, 3, none, 1, 23, I_M_writePlace l, ⟨by decide, by decide⟩, yw_M_writePlace, li_M_85⟩ <| kk_cons ⟨y_M_putFlag, b_M_putFlag, 3, none, 0, 0, I_M_putFlag l, ⟨by decide, by decide⟩, yw_M_putFlag, li_M_104⟩ <| kk_cons ⟨y_M_noteResult, b_M_noteResult, 3, none, 0, 0, I_M_noteResult l, ⟨by decide, by decide⟩, yw_M_noteResult, li_M_108⟩ <| kk_cons ⟨y_M_alteredByte, b_M_alteredByte, 4, some .int, 0, 0, I_M_alteredByte l, ⟨by decide, by decide⟩, yw_M_alteredByte, li_M_111⟩ <| kk_nil)
set_option maxHeartbeats 1000000 in
set_option maxRecDepth 20000 in
theorem I_M_alterPlace (l : Launch) : lm_I l (kk_Y kk_shF) y_M_alterPlace b_M_alterPlace 5 (none) 2 45 s_M_alterPlace := by
  refine lm_impl g_M_alterPlace ca_M_alterPlace (by decide +kernel) kk_okF ck_M_alterPlace (kk_fok fl_M_ok) (kk_sok sl_M_ok) (Or.inl rfl) (cok_M_alterPlace l) rfl (by decide) ?_
  rintro av S post ⟨op, p, t, rfl, hw, h⟩
  refine ⟨Nat.le_of_ble_eq_true rfl, lm_run 90 ?_⟩
  unfold kd_alter kd_altc at h
  (try (conv => whnf))
  repeat' first
    | (refine ⟨_, rfl, ?_⟩; conv => whnf)
    | (refine ⟨_, _, rfl, ?_⟩; conv => whnf)
    | (refine ⟨_, _, _, rfl, ?_⟩; conv => whnf)
    | (refine And.intro rfl ?_; conv => whnf)
    | (refine And.intro (lm_vc (by decide)) ?_; conv => whnf)
    | (refine And.intro (by decide) ?_; conv => whnf)
    | (refine ⟨fun hx => absurd hx (by decide), fun _ => ?_⟩; conv => whnf)
    | (refine ⟨fun _ => ?_, fun hx => absurd hx (by decide)⟩; conv => whnf)
    | (refine And.intro (hw hx) ?_; conv => whnf)
    | (refine And.intro hw ?_; conv => whnf)
    | (refine And.intro hw2 ?_; conv => whnf)
    | (refine And.intro hw3 ?_; conv => whnf)
    | (refine And.intro hw4 ?_; conv => whnf)
    | (refine And.intro hw5 ?_; conv => whnf)
    | (refine And.intro hw6 ?_; conv => whnf)
    | (refine And.intro hw7 ?_; conv => whnf)
    | (refine And.intro (hv1 (by assumption)) ?_; conv => whnf)
    | (refine And.intro (hv2 (by assumption) (by assumption)) ?_; conv => whnf)
    | (refine And.intro (hv3 (by assumption) (by assumption)) ?_; conv => whnf)
    | (refine And.intro (lm_v511 _) ?_; conv => whnf)
    | (refine And.intro (lm_v7 _) ?_; conv => whnf)
    | (refine ⟨fun hx => ?_, fun hx => ?_⟩ <;> conv => whnf)
    | (split at h)
    | contradiction
    | exact h
theorem kd_w1 {x : Int32} (h : ¬ x < 0) (h2 : ¬ 2 ≤ x) : ¬ x + 1 < 0 := by
  have h3 : vp_in x 2 := lm_vb h h2 (by decide)
  obtain ⟨j, hj, rfl⟩ := vp_in_of h3 (by decide)
  rw [nI_1]
  exact nI_pos (by omega)
theorem kd_ww {a v : Int32} {S : lm_S} (h : ¬ S 1 8 < 0) : ¬ (kd_wcell a v S) 1 8 < 0 := by
  show ¬ (if 2 ≤ S 1 8 then S else kd_note2 a S) 1 8 < 0
  split
  · exact h
  · exact kd_w1 h (by assumption)
theorem kd_pw {v : Int32} {S : lm_S} (h : ¬ S 1 8 < 0) : ¬ (kd_push v S) 1 8 < 0 := kd_ww (a := 256 + S 6 3) (v := v) h
def kd_jump (ar md p : Int32) (S : lm_S) : lm_S := if md = 0 then S else if p = -1 then S else if ar = 0 then lm_set S 6 5 p else lm_set (kd_push ((kd_push (S 6 5 / 256) S) 6 5 &&& 255) (kd_push (S 6 5 / 256) S)) 6 5 p
def s_M_jump : lm_Sp := fun av S post => ∃ ar md p, av = [.ref 1, .int ar, .int md, .int p] ∧ ¬ S 1 8 < 0 ∧ post none (kd_jump ar md p S)
abbrev ca_M_jump : lm_Ca := [(114, 1, (some 1), s_M_push)]
theorem cok_M_jump (l : Launch) : lm_cok l (kk_Y kk_shF) R_M 2 44 ca_M_jump := kk_cok (kk_cons ⟨y_M_push, b_M_push, 2, none, 1, 23, I_M_push l, ⟨by decide, by decide⟩, yw_M_push, li_M_114⟩ <| kk_nil)
set_option maxHeartbeats 1000000 in
set_option maxRecDepth 20000 in
theorem I_M_jump (l : Launch) : lm_I l (kk_Y kk_shF) y_M_jump b_M_jump 4 (none) 2 44 s_M_jump := by
  refine lm_impl g_M_jump ca_M_jump (by decide +kernel) kk_okF ck_M_jump (kk_fok fl_M_ok) (kk_sok sl_M_ok) (Or.inl rfl) (cok_M_jump l) rfl (by decide) ?_
  rintro av S post ⟨ar, md, p, rfl, hw, h⟩
  have hw2 : ¬ (kd_push (S 6 5 / 256) S) 1 8 < 0 := kd_pw hw
  refine ⟨Nat.le_of_ble_eq_true rfl, lm_run 90 ?_⟩
  unfold kd_jump at h
  (try (conv => whnf))
  repeat' first
    | (refine ⟨_, rfl, ?_⟩; conv => whnf)
    | (refine ⟨_, _, rfl, ?_⟩; conv => whnf)
    | (refine ⟨_, _, _, rfl, ?_⟩; conv => whnf)
    | (refine And.intro rfl ?_; conv => whnf)
    | (refine And.intro (lm_vc (by decide)) ?_; conv => whnf)
    | (refine And.intro (by decide) ?_; conv => whnf)
    | (refine ⟨fun hx => absurd hx (by decide), fun _ => ?_⟩; conv => whnf)
    | (refine ⟨fun _ => ?_, fun hx => absurd hx (by decide)⟩; conv => whnf)
    | (refine And.intro (hw hx) ?_; conv => whnf)
    | (refine And.intro hw ?_; conv => whnf)
    | (refine And.intro hw2 ?_; conv => whnf)
    | (refine And.intro hw3 ?_; conv => whnf)
    | (refine And.intro hw4 ?_; conv => whnf)
    | (refine And.intro hw5 ?_; conv => whnf)
    | (refine And.intro hw6 ?_; conv => whnf)
    | (refine And.intro hw7 ?_; conv => whnf)
    | (refine And.intro (hv1 (by assumption)) ?_; conv => whnf)
    | (refine And.intro (hv2 (by assumption) (by assumption)) ?_; conv => whnf)
    | (refine And.intro (hv3 (by assumption) (by assumption)) ?_; conv => whnf)
    | (refine And.intro (lm_v511 _) ?_; conv => whnf)
    | (refine And.intro (lm_v7 _) ?_; conv => whnf)
    | (refine ⟨fun hx => ?_, fun hx => ?_⟩ <;> conv => whnf)
    | (split at h)
    | contradiction
    | exact h
def kd_in (S : lm_S) : lm_S := if S 1 3 - S 6 7 ≤ 0 then lm_set (kd_flag 1 1 (kd_load 0 0 S)) 6 7 (S 6 7) else lm_set (kd_flag 1 0 (kd_load 0 (S 7 (S 6 7).toNatClampNeg) S)) 6 7 (S 6 7 + 1)
def s_M_takeInput : lm_Sp := fun av S post => av = [.ref 1] ∧ (¬ S 1 3 - S 6 7 ≤ 0 → vp_in (S 6 7) 40) ∧ post none (kd_in S)
abbrev ca_M_takeInput : lm_Ca := [(34, 0, (some 1), s_M_inputsWaiting), (82, 2, (some 1), s_M_load), (104, 2, (some 1), s_M_putFlag)]
theorem cok_M_takeInput (l : Launch) : lm_cok l (kk_Y kk_shF) R_M 2 44 ca_M_takeInput := kk_cok (kk_cons ⟨y_M_inputsWaiting, b_M_inputsWaiting, 1, some .int, 0, 0, I_M_inputsWaiting l, ⟨by decide, by decide⟩, yw_M_inputsWaiting, li_M_34⟩ <| kk_cons ⟨y_M_load, b_M_load, 3, none, 1, 22, I_M_load l, ⟨by decide, by decide⟩, yw_M_load, li_M_82⟩ <| kk_cons ⟨y_M_putFlag, b_M_putFlag, 3, none, 0, 0, I_M_putFlag l, ⟨by decide, by decide⟩, yw_M_putFlag, li_M_104⟩ <| kk_nil)
set_option maxHeartbeats 1000000 in
set_option maxRecDepth 20000 in
theorem I_M_takeInput (l : Launch) : lm_I l (kk_Y kk_shF) y_M_takeInput b_M_takeInput 3 (none) 2 44 s_M_takeInput := by
  refine lm_impl g_M_takeInput ca_M_takeInput (by decide +kernel) kk_okF ck_M_takeInput (kk_fok fl_M_ok) (kk_sok sl_M_ok) (Or.inl rfl) (cok_M_takeInput l) rfl (by decide) ?_
  rintro av S post ⟨rfl, hw, h⟩
  refine ⟨Nat.le_of_ble_eq_true rfl, lm_run 90 ?_⟩
  unfold kd_in at h
  (try (conv => whnf))
  repeat' first
    | (refine ⟨_, rfl, ?_⟩; conv => whnf)
    | (refine ⟨_, _, rfl, ?_⟩; conv => whnf)
    | (refine ⟨_, _, _, rfl, ?_⟩; conv => whnf)
    | (refine And.intro rfl ?_; conv => whnf)
    | (refine And.intro (lm_vc (by decide)) ?_; conv => whnf)
    | (refine And.intro (by decide) ?_; conv => whnf)
    | (refine ⟨fun hx => absurd hx (by decide), fun _ => ?_⟩; conv => whnf)
    | (refine ⟨fun _ => ?_, fun hx => absurd hx (by decide)⟩; conv => whnf)
    | (refine And.intro (hw hx) ?_; conv => whnf)
    | (refine And.intro hw ?_; conv => whnf)
    | (refine And.intro hw2 ?_; conv => whnf)
    | (refine And.intro hw3 ?_; conv => whnf)
    | (refine And.intro hw4 ?_; conv => whnf)
    | (refine And.intro hw5 ?_; conv => whnf)
    | (refine And.intro hw6 ?_; conv => whnf)
    | (refine And.intro hw7 ?_; conv => whnf)
    | (refine And.intro (hv1 (by assumption)) ?_; conv => whnf)
    | (refine And.intro (hv2 (by assumption) (by assumption)) ?_; conv => whnf)
    | (refine And.intro (hv3 (by assumption) (by assumption)) ?_; conv => whnf)
    | (refine And.intro (lm_v511 _) ?_; conv => whnf)
    | (refine And.intro (lm_v7 _) ?_; conv => whnf)
    | (refine ⟨fun hx => ?_, fun hx => ?_⟩ <;> conv => whnf)
    | (split at h)
    | contradiction
    | exact h
def kd_out (S : lm_S) : lm_S := if 308 ≤ S 6 8 then S else lm_set (lm_set S 8 (S 6 8).toNatClampNeg (S 6 0)) 6 8 (S 6 8 + 1)
def s_M_putOut : lm_Sp := fun av S post => av = [.ref 1] ∧ ¬ S 6 8 < 0 ∧ post none (kd_out S)
abbrev ca_M_putOut : lm_Ca := []
theorem cok_M_putOut (l : Launch) : lm_cok l (kk_Y kk_shF) R_M 0 0 ca_M_putOut := kk_cok (kk_nil)
set_option maxHeartbeats 1000000 in
set_option maxRecDepth 20000 in
theorem I_M_putOut (l : Launch) : lm_I l (kk_Y kk_shF) y_M_putOut b_M_putOut 1 (none) 0 0 s_M_putOut := by
  refine lm_impl g_M_putOut ca_M_putOut (by decide +kernel) kk_okF ck_M_putOut (kk_fok fl_M_ok) (kk_sok sl_M_ok) (Or.inl rfl) (cok_M_putOut l) rfl (by decide) ?_
  rintro av S post ⟨rfl, hw0, h⟩
  have hw : ¬ 308 ≤ S 6 8 → vp_in (S 6 8) 308 := fun hx => lm_vb hw0 hx (by decide)
  refine ⟨Nat.le_of_ble_eq_true rfl, lm_run 90 ?_⟩
  unfold kd_out at h
  (try (conv => whnf))
  repeat' first
    | (refine ⟨_, rfl, ?_⟩; conv => whnf)
    | (refine ⟨_, _, rfl, ?_⟩; conv => whnf)
    | (refine ⟨_, _, _, rfl, ?_⟩; conv => whnf)
    | (refine And.intro rfl ?_; conv => whnf)
    | (refine And.intro (lm_vc (by decide)) ?_; conv => whnf)
    | (refine And.intro (by decide) ?_; conv => whnf)
    | (refine ⟨fun hx => absurd hx (by decide), fun _ => ?_⟩; conv => whnf)
    | (refine ⟨fun _ => ?_, fun hx => absurd hx (by decide)⟩; conv => whnf)
    | (refine And.intro (hw hx) ?_; conv => whnf)
    | (refine And.intro hw ?_; conv => whnf)
    | (refine And.intro hw2 ?_; conv => whnf)
    | (refine And.intro hw3 ?_; conv => whnf)
    | (refine And.intro hw4 ?_; conv => whnf)
    | (refine And.intro hw5 ?_; conv => whnf)
    | (refine And.intro hw6 ?_; conv => whnf)
    | (refine And.intro hw7 ?_; conv => whnf)
    | (refine And.intro (hv1 (by assumption)) ?_; conv => whnf)
    | (refine And.intro (hv2 (by assumption) (by assumption)) ?_; conv => whnf)
    | (refine And.intro (hv3 (by assumption) (by assumption)) ?_; conv => whnf)
    | (refine And.intro (lm_v511 _) ?_; conv => whnf)
    | (refine And.intro (lm_v7 _) ?_; conv => whnf)
    | (refine ⟨fun hx => ?_, fun hx => ?_⟩ <;> conv => whnf)
    | (split at h)
    | contradiction
    | exact h
def kd_move (md : Int32) (S : lm_S) : lm_S := if md.toInt = 0 then kd_load 1 (S 6 0) S else if md.toInt = 0 + 1 then kd_load 0 (S 6 1) S else if md.toInt = 0 + 1 + 1 then kd_load 2 (S 6 0) S else if md.toInt = 0 + 1 + 1 + 1 then kd_load 0 (S 6 2) S else if md.toInt = 0 + 1 + 1 + 1 + 1 then kd_load 1 (S 6 3) S else if md.toInt = 0 + 1 + 1 + 1 + 1 + 1 then lm_set S 6 3 (S 6 1) else if md.toInt = 0 + 1 + 1 + 1 + 1 + 1 + 1 then kd_load 1 (S 6 1 + 1) S else kd_load 1 (S 6 1 - 1) S
def s_M_moveRegister : lm_Sp := fun av S post => ∃ md, av = [.ref 1, .int md] ∧ post none (kd_move md S)
abbrev ca_M_moveRegister : lm_Ca := [(82, 2, (some 1), s_M_load)]
theorem cok_M_moveRegister (l : Launch) : lm_cok l (kk_Y kk_shF) R_M 2 44 ca_M_moveRegister := kk_cok (kk_cons ⟨y_M_load, b_M_load, 3, none, 1, 22, I_M_load l, ⟨by decide, by decide⟩, yw_M_load, li_M_82⟩ <| kk_nil)
set_option maxHeartbeats 1000000 in
set_option maxRecDepth 20000 in
theorem I_M_moveRegister (l : Launch) : lm_I l (kk_Y kk_shF) y_M_moveRegister b_M_moveRegister 2 (none) 2 44 s_M_moveRegister := by
  refine lm_impl g_M_moveRegister ca_M_moveRegister (by decide +kernel) kk_okF ck_M_moveRegister (kk_fok fl_M_ok) (kk_sok sl_M_ok) (Or.inl rfl) (cok_M_moveRegister l) rfl (by decide) ?_
  rintro av S post ⟨md, rfl, h⟩
  refine ⟨Nat.le_of_ble_eq_true rfl, lm_run 90 ?_⟩
  unfold kd_move at h
  (try (conv => whnf))
  repeat' first
    | (refine ⟨_, rfl, ?_⟩; conv => whnf)
    | (refine ⟨_, _, rfl, ?_⟩; conv => whnf)
    | (refine ⟨_, _, _, rfl, ?_⟩; conv => whnf)
    | (refine And.intro rfl ?_; conv => whnf)
    | (refine And.intro (lm_vc (by decide)) ?_; conv => whnf)
    | (refine And.intro (by decide) ?_; conv => whnf)
    | (refine ⟨fun hx => absurd hx (by decide), fun _ => ?_⟩; conv => whnf)
    | (refine ⟨fun _ => ?_, fun hx => absurd hx (by decide)⟩; conv => whnf)
    | (refine And.intro (hw hx) ?_; conv => whnf)
    | (refine And.intro hw ?_; conv => whnf)
    | (refine And.intro hw2 ?_; conv => whnf)
    | (refine And.intro hw3 ?_; conv => whnf)
    | (refine And.intro hw4 ?_; conv => whnf)
    | (refine And.intro hw5 ?_; conv => whnf)
    | (refine And.intro hw6 ?_; conv => whnf)
    | (refine And.intro hw7 ?_; conv => whnf)
    | (refine And.intro (hv1 (by assumption)) ?_; conv => whnf)
    | (refine And.intro (hv2 (by assumption) (by assumption)) ?_; conv => whnf)
    | (refine And.intro (hv3 (by assumption) (by assumption)) ?_; conv => whnf)
    | (refine And.intro (lm_v511 _) ?_; conv => whnf)
    | (refine And.intro (lm_v7 _) ?_; conv => whnf)
    | (refine ⟨fun hx => ?_, fun hx => ?_⟩ <;> conv => whnf)
    | (split at h)
    | contradiction
    | exact h
def kd_small (md : Int32) (S : lm_S) : lm_S := if md.toInt = 0 then kd_load 2 (S 6 2 + 1) S else if md.toInt = 0 + 1 then kd_load 2 (S 6 2 - 1) S else if md.toInt = 0 + 1 + 1 then kd_flag 1 0 S else if md.toInt = 0 + 1 + 1 + 1 then kd_flag 1 1 S else if md.toInt = 0 + 1 + 1 + 1 + 1 then kd_flag 64 0 S else S
def s_M_changeYOrFlag : lm_Sp := fun av S post => ∃ md, av = [.ref 1, .int md] ∧ post none (kd_small md S)
abbrev ca_M_changeYOrFlag : lm_Ca := [(82, 2, (some 1), s_M_load), (104, 2, (some 1), s_M_putFlag)]
theorem cok_M_changeYOrFlag (l : Launch) : lm_cok l (kk_Y kk_shF) R_M 2 44 ca_M_changeYOrFlag := kk_cok (kk_cons ⟨y_M_load, b_M_load, 3, none, 1, 22, I_M_load l, ⟨by decide, by decide⟩, yw_M_load, li_M_82⟩ <| kk_cons ⟨y_M_putFlag, b_M_putFlag, 3, none, 0, 0, I_M_putFlag l, ⟨by decide, by decide⟩, yw_M_putFlag, li_M_104⟩ <| kk_nil)
set_option maxHeartbeats 1000000 in
set_option maxRecDepth 20000 in
theorem I_M_changeYOrFlag (l : Launch) : lm_I l (kk_Y kk_shF) y_M_changeYOrFlag b_M_changeYOrFlag 2 (none) 2 44 s_M_changeYOrFlag := by
  refine lm_impl g_M_changeYOrFlag ca_M_changeYOrFlag (by decide +kernel) kk_okF ck_M_changeYOrFlag (kk_fok fl_M_ok) (kk_sok sl_M_ok) (Or.inl rfl) (cok_M_changeYOrFlag l) rfl (by decide) ?_
  rintro av S post ⟨md, rfl, h⟩
  refine ⟨Nat.le_of_ble_eq_true rfl, lm_run 90 ?_⟩
  unfold kd_small at h
  (try (conv => whnf))
  repeat' first
    | (refine ⟨_, rfl, ?_⟩; conv => whnf)
    | (refine ⟨_, _, rfl, ?_⟩; conv => whnf)
    | (refine ⟨_, _, _, rfl, ?_⟩; conv => whnf)
    | (refine And.intro rfl ?_; conv => whnf)
    | (refine And.intro (lm_vc (by decide)) ?_; conv => whnf)
    | (refine And.intro (by decide) ?_; conv => whnf)
    | (refine ⟨fun hx => absurd hx (by decide), fun _ => ?_⟩; conv => whnf)
    | (refine ⟨fun _ => ?_, fun hx => absurd hx (by decide)⟩; conv => whnf)
    | (refine And.intro (hw hx) ?_; conv => whnf)
    | (refine And.intro hw ?_; conv => whnf)
    | (refine And.intro hw2 ?_; conv => whnf)
    | (refine And.intro hw3 ?_; conv => whnf)
    | (refine And.intro hw4 ?_; conv => whnf)
    | (refine And.intro hw5 ?_; conv => whnf)
    | (refine And.intro hw6 ?_; conv => whnf)
    | (refine And.intro hw7 ?_; conv => whnf)
    | (refine And.intro (hv1 (by assumption)) ?_; conv => whnf)
    | (refine And.intro (hv2 (by assumption) (by assumption)) ?_; conv => whnf)
    | (refine And.intro (hv3 (by assumption) (by assumption)) ?_; conv => whnf)
    | (refine And.intro (lm_v511 _) ?_; conv => whnf)
    | (refine And.intro (lm_v7 _) ?_; conv => whnf)
    | (refine ⟨fun hx => ?_, fun hx => ?_⟩ <;> conv => whnf)
    | (split at h)
    | contradiction
    | exact h
def kd_hop (o : Int32) (S : lm_S) : lm_S := lm_set S 6 5 ((S 6 5 + (if 128 ≤ o then o - 256 else o)) &&& 511)
def kd_branch (md o : Int32) (S : lm_S) : lm_S := if md &&& 1 = 0 then (if S 6 4 &&& ([128, 64, 1, 2] : List Int32).getD (md >>> (1 &&& 31)).toNatClampNeg 0 = 0 then kd_hop o S else S) else (if S 6 4 &&& ([128, 64, 1, 2] : List Int32).getD (md >>> (1 &&& 31)).toNatClampNeg 0 = 0 then S else kd_hop o S)
def s_M_branch : lm_Sp := fun av S post => ∃ md o, av = [.ref 1, .int md, .int o] ∧ vp_in (md >>> (1 &&& 31)) 4 ∧ post none (kd_branch md o S)
abbrev ca_M_branch : lm_Ca := []
theorem cok_M_branch (l : Launch) : lm_cok l (kk_Y kk_shF) R_M 0 0 ca_M_branch := kk_cok (kk_nil)
set_option maxHeartbeats 1000000 in
set_option maxRecDepth 20000 in
theorem I_M_branch (l : Launch) : lm_I l (kk_Y kk_shF) y_M_branch b_M_branch 6 (none) 0 0 s_M_branch := by
  refine lm_impl g_M_branch ca_M_branch (by decide +kernel) kk_okF ck_M_branch (kk_fok fl_M_ok) (kk_sok sl_M_ok) (Or.inl rfl) (cok_M_branch l) rfl (by decide) ?_
  rintro av S post ⟨md, o, rfl, hw, h⟩
  refine ⟨Nat.le_of_ble_eq_true rfl, lm_run 90 ?_⟩
  unfold kd_branch kd_hop at h
  (try (conv => whnf))
  repeat' first
    | (refine ⟨_, rfl, ?_⟩; conv => whnf)
    | (refine ⟨_, _, rfl, ?_⟩; conv => whnf)
    | (refine ⟨_, _, _, rfl, ?_⟩; conv => whnf)
    | (refine And.intro rfl ?_; conv => whnf)
    | (refine And.intro (lm_vc (by decide)) ?_; conv => whnf)
    | (refine And.intro (by decide) ?_; conv => whnf)
    | (refine ⟨fun hx => absurd hx (by decide), fun _ => ?_⟩; conv => whnf)
    | (refine ⟨fun _ => ?_, fun hx => absurd hx (by decide)⟩; conv => whnf)
    | (refine And.intro (hw hx) ?_; conv => whnf)
    | (refine And.intro hw ?_; conv => whnf)
    | (refine And.intro hw2 ?_; conv => whnf)
    | (refine And.intro hw3 ?_; conv => whnf)
    | (refine And.intro hw4 ?_; conv => whnf)
    | (refine And.intro hw5 ?_; conv => whnf)
    | (refine And.intro hw6 ?_; conv => whnf)
    | (refine And.intro hw7 ?_; conv => whnf)
    | (refine And.intro (hv1 (by assumption)) ?_; conv => whnf)
    | (refine And.intro (hv2 (by assumption) (by assumption)) ?_; conv => whnf)
    | (refine And.intro (hv3 (by assumption) (by assumption)) ?_; conv => whnf)
    | (refine And.intro (lm_v511 _) ?_; conv => whnf)
    | (refine And.intro (lm_v7 _) ?_; conv => whnf)
    | (refine ⟨fun hx => ?_, fun hx => ?_⟩ <;> conv => whnf)
    | (split at h)
    | contradiction
    | exact h
end
section
/-! the desk's machine: a whole step -/
def kd_pv (S : lm_S) : Int32 := kd_cell (256 + (S 6 3 + 1 &&& 255)) S
def kd_stack (md : Int32) (S : lm_S) : lm_S := if md.toInt = 0 then lm_set (kd_take (kd_take S)) 6 5 ((kd_pv S + 256 * kd_pv (kd_take S)) &&& 511) else if md.toInt = 0 + 1 then kd_push (S 6 0) S else if md.toInt = 0 + 1 + 1 then kd_load 0 (kd_pv S) (kd_take S) else if md.toInt = 0 + 1 + 1 + 1 then kd_push (S 6 4) S else if md.toInt = 0 + 1 + 1 + 1 + 1 then lm_set (kd_take S) 6 4 (kd_pv S &&& 195) else if md.toInt = 0 + 1 + 1 + 1 + 1 + 1 then lm_set S 6 6 1 else if md.toInt = 0 + 1 + 1 + 1 + 1 + 1 + 1 then kd_in S else kd_out S
def s_M_useStackOrPort : lm_Sp := fun av S post => ∃ md, av = [.ref 1, .int md] ∧ ¬ S 1 8 < 0 ∧ (¬ S 1 3 - S 6 7 ≤ 0 → vp_in (S 6 7) 40) ∧ ¬ S 6 8 < 0 ∧ post none (kd_stack md S)
abbrev ca_M_useStackOrPort : lm_Ca := [(82, 2, (some 1), s_M_load), (114, 1, (some 1), s_M_push), (117, 0, (some 1), s_M_takeByte), (120, 0, (some 1), s_M_takeInput), (123, 0, (some 1), s_M_putOut)]
theorem cok_M_useStackOrPort (l : Launch) : lm_cok l (kk_Y kk_shF) R_M 3 66 ca_M_useStackOrPort := kk_cok (kk_cons ⟨y_M_load, b_M_load, 3, none, 1, 22, I_M_load l, ⟨by decide, by decide⟩, yw_M_load, li_M_82⟩ <| kk_cons ⟨y_M_push, b_M_push, 2, none, 1, 23, I_M_push l, ⟨by decide, by decide⟩, yw_M_push, li_M_114⟩ <| kk_cons ⟨y_M_takeByte, b_M_takeByte, 1, some .int, 1, 21, I_M_takeByte l, ⟨by decide, by decide⟩, yw_M_takeByte, li_M_117⟩ <| kk_cons ⟨y_M_takeInput, b_M_takeInput, 3, none, 2, 44, I_M_takeInput l, ⟨by decide, by decide⟩, yw_M_takeInput, li_M_120⟩ <| kk_cons ⟨y_M_putOut, b_M_putOut, 1, none, 0, 0, I_M_putOut l, ⟨by decide, by decide⟩, yw_M_putOut, li_M_123⟩ <| kk_nil)
set_option maxHeartbeats 1000000 in
set_option maxRecDepth 20000 in
theorem I_M_useStackOrPort (l : Launch) : lm_I l (kk_Y kk_shF) y_M_useStackOrPort b_M_useStackOrPort 3 (none) 3 66 s_M_useStackOrPort := by
  refine lm_impl g_M_useStackOrPort ca_M_useStackOrPort (by decide +kernel) kk_okF ck_M_useStackOrPort (kk_fok fl_M_ok) (kk_sok sl_M_ok) (Or.inl rfl) (cok_M_useStackOrPort l) rfl (by decide) ?_
  rintro av S post ⟨md, rfl, hw, hw2, hw3, h⟩
  refine ⟨Nat.le_of_ble_eq_true rfl, lm_run 90 ?_⟩
  unfold kd_stack kd_pv at h
  (try (conv => whnf))
  repeat' first
    | (refine ⟨_, rfl, ?_⟩; conv => whnf)
    | (refine ⟨_, _, rfl, ?_⟩; conv => whnf)
    | (refine ⟨_, _, _, rfl, ?_⟩; conv => whnf)
    | (refine And.intro rfl ?_; conv => whnf)
    | (refine And.intro (lm_vc (by decide)) ?_; conv => whnf)
    | (refine And.intro (by decide) ?_; conv => whnf)
    | (refine ⟨fun hx => absurd hx (by decide), fun _ => ?_⟩; conv => whnf)
    | (refine ⟨fun _ => ?_, fun hx => absurd hx (by decide)⟩; conv => whnf)
    | (refine And.intro (hw hx) ?_; conv => whnf)
    | (refine And.intro hw ?_; conv => whnf)
    | (refine And.intro hw2 ?_; conv => whnf)
    | (refine And.intro hw3 ?_; conv => whnf)
    | (refine And.intro hw4 ?_; conv => whnf)
    | (refine And.intro hw5 ?_; conv => whnf)
    | (refine And.intro hw6 ?_; conv => whnf)
    | (refine And.intro hw7 ?_; conv => whnf)
    | (refine And.intro (hv1 (by assumption)) ?_; conv => whnf)
    | (refine And.intro (hv2 (by assumption) (by assumption)) ?_; conv => whnf)
    | (refine And.intro (hv3 (by assumption) (by assumption)) ?_; conv => whnf)
    | (refine And.intro (lm_v511 _) ?_; conv => whnf)
    | (refine And.intro (lm_v7 _) ?_; conv => whnf)
    | (refine ⟨fun hx => ?_, fun hx => ?_⟩ <;> conv => whnf)
    | (split at h)
    | contradiction
    | exact h
theorem kd_op1 {op : Int32} (h0 : ¬ op < 0) (h : ¬ 2 < op) : vp_in op 9 := by
  rw [vp_in_iff]
  rw [Int32.lt_iff_toInt_lt, Int32.toInt_zero] at h0
  rw [Int32.lt_iff_toInt_lt, show (2 : Int32).toInt = 2 from by decide] at h
  omega
theorem kd_op2 {op c d : Int32} (lo hi : Nat) (hc : c.toInt = (lo : Int)) (hd : d.toInt = (lo : Int) + 1) (e : Int32) (he : e.toInt = (hi : Int)) (hh : hi ≤ lo + 8) (hl : lo < 100) (h : c < op) (h2 : ¬ e < op) : vp_in (op - d) 9 := by
  rw [Int32.lt_iff_toInt_lt, hc] at h
  rw [Int32.lt_iff_toInt_lt, he] at h2
  obtain ⟨j, hj, rfl⟩ := nI_of (x := op) (by rw [Int32.lt_iff_toInt_lt, Int32.toInt_zero]; omega)
  rw [nI_toInt hj] at h h2
  have e1 : d = nI (lo + 1) := Int32.toInt_inj.mp (by rw [hd, nI_toInt (by omega)]; omega)
  rw [e1, pk_sub (by omega)]
  exact vp_in_nI (by omega) (by decide)
def kd_workt (op p t : Int32) (S : lm_S) : lm_S := if 2 < op then (if 5 < op then (if op = 6 then kd_add t S else if op = 7 then kd_add (255 - t) S else if 10 < op then (if 13 < op then (if op = 14 then kd_test t S else kd_alter op p t S) else kd_cmp (S 6 (op - 11).toNatClampNeg) t S) else kd_load 0 (kd_bits op t S) S) else kd_wplace p (S 6 (op - 3).toNatClampNeg) S) else kd_load op t S
def kd_work (op p : Int32) (S : lm_S) : lm_S := if p = -1 then kd_workt op p (S 6 0) S else kd_workt op p (kd_cell p S) S
def s_M_workOnPlace : lm_Sp := fun av S post => ∃ op p, av = [.ref 1, .int op, .int p] ∧ ¬ op < 0 ∧ ¬ S 1 8 < 0 ∧ post none (kd_work op p S)
abbrev ca_M_workOnPlace : lm_Ca := [(44, 1, (some 1), s_M_cellAt), (82, 2, (some 1), s_M_load), (85, 2, (some 1), s_M_writePlace), (88, 1, (some 1), s_M_addToA), (91, 2, (some 1), s_M_bitsWithA), (94, 2, (some 1), s_M_compare), (97, 1, (some 1), s_M_testBits), (100, 3, (some 1), s_M_alterPlace)]
theorem cok_M_workOnPlace (l : Launch) : lm_cok l (kk_Y kk_shF) R_M 3 69 ca_M_workOnPlace := kk_cok (kk_cons ⟨y_M_cellAt, b_M_cellAt, 2, some .int, 0, 0, I_M_cellAt l, ⟨by decide, by decide⟩, yw_M_cellAt, li_M_44⟩ <| kk_cons ⟨y_M_load, b_M_load, 3, none, 1, 22, I_M_load l, ⟨by decide, by decide⟩, yw_M_load, li_M_82⟩ <| kk_cons ⟨y_M_writePlace, b_M_writePlace, 3, none, 1, 23, I_M_writePlace l, ⟨by decide, by decide⟩, yw_M_writePlace, li_M_85⟩ <| kk_cons ⟨y_M_addToA, b_M_addToA, 5, none, 2, 44, I_M_addToA l, ⟨by decide, by decide⟩, yw_M_addToA, li_M_88⟩ <| kk_cons ⟨y_M_bitsWithA, b_M_bitsWithA, 3, some .int, 0, 0, I_M_bitsWithA l, ⟨by decide, by decide⟩, yw_M_bitsWithA, li_M_91⟩ <| kk_cons ⟨y_M_compare, b_M_compare, 3, none, 1, 22, I_M_compare l, ⟨by decide, by decide⟩, yw_M_compare, li_M_94⟩ <| kk_cons ⟨y_M_testBits, b_M_testBits, 2, none, 1, 22, I_M_testBits l, ⟨by decide, by decide⟩, yw_M_testBits, li_M_97⟩ <| kk_cons ⟨y_M_alterPlace, b_M_alterPlace, 5, none, 2, 45, I_M_alterPlace l, ⟨by decide, by decide⟩, yw_M_alterPlace, li_M_100⟩ <| kk_nil)
set_option maxHeartbeats 1000000 in
set_option maxRecDepth 20000 in
theorem I_M_workOnPlace (l : Launch) : lm_I l (kk_Y kk_shF) y_M_workOnPlace b_M_workOnPlace 4 (none) 3 69 s_M_workOnPlace := by
  refine lm_impl g_M_workOnPlace ca_M_workOnPlace (by decide +kernel) kk_okF ck_M_workOnPlace (kk_fok fl_M_ok) (kk_sok sl_M_ok) (Or.inl rfl) (cok_M_workOnPlace l) rfl (by decide) ?_
  rintro av S post ⟨op, p, rfl, h0, hw, h⟩
  have hv1 : ¬ 2 < op → vp_in op 9 := kd_op1 h0
  have hv2 : 2 < op → ¬ 5 < op → vp_in (op - 3) 9 := kd_op2 2 5 (by decide) (by decide) 5 (by decide) (by omega) (by omega)
  have hv3 : 10 < op → ¬ 13 < op → vp_in (op - 11) 9 := kd_op2 10 13 (by decide) (by decide) 13 (by decide) (by omega) (by omega)
  refine ⟨Nat.le_of_ble_eq_true rfl, lm_run 90 ?_⟩
  unfold kd_work kd_workt at h
  (try (conv => whnf))
  repeat' first
    | (refine ⟨_, rfl, ?_⟩; conv => whnf)
    | (refine ⟨_, _, rfl, ?_⟩; conv => whnf)
    | (refine ⟨_, _, _, rfl, ?_⟩; conv => whnf)
    | (refine And.intro rfl ?_; conv => whnf)
    | (refine And.intro (lm_vc (by decide)) ?_; conv => whnf)
    | (refine And.intro (by decide) ?_; conv => whnf)
    | (refine ⟨fun hx => absurd hx (by decide), fun _ => ?_⟩; conv => whnf)
    | (refine ⟨fun _ => ?_, fun hx => absurd hx (by decide)⟩; conv => whnf)
    | (refine And.intro (hw hx) ?_; conv => whnf)
    | (refine And.intro hw ?_; conv => whnf)
    | (refine And.intro hw2 ?_; conv => whnf)
    | (refine And.intro hw3 ?_; conv => whnf)
    | (refine And.intro hw4 ?_; conv => whnf)
    | (refine And.intro hw5 ?_; conv => whnf)
    | (refine And.intro hw6 ?_; conv => whnf)
    | (refine And.intro hw7 ?_; conv => whnf)
    | (refine And.intro (hv1 (by assumption)) ?_; conv => whnf)
    | (refine And.intro (hv2 (by assumption) (by assumption)) ?_; conv => whnf)
    | (refine And.intro (hv3 (by assumption) (by assumption)) ?_; conv => whnf)
    | (refine And.intro (lm_v511 _) ?_; conv => whnf)
    | (refine And.intro (lm_v7 _) ?_; conv => whnf)
    | (refine ⟨fun hx => ?_, fun hx => ?_⟩ <;> conv => whnf)
    | (split at h)
    | contradiction
    | exact h
def kd_disp (op md o p : Int32) (S : lm_S) : lm_S := if 20 < op then (if 22 < op then (if op = 23 then kd_stack md S else if op = 24 then kd_move md S else if op = 25 then kd_small md S else if op = 26 then kd_branch md o S else S) else if op = 22 then kd_jump 1 md p S else kd_jump 0 md p S) else kd_work op p S
def kd_b (S : lm_S) : Int32 := S 5 (S 6 5).toNatClampNeg
def kd_step0 (S : lm_S) : lm_S := kd_disp (kd_b S >>> (3 &&& 31)) (kd_b S &&& 7) (kd_cell (S 6 5 + 1) S) (kd_place (kd_b S &&& 7) (S 6 5) S) (lm_set S 6 5 ((S 6 5 + kd_len (kd_b S >>> (3 &&& 31)) (kd_b S &&& 7)) &&& 511))
def kd_step (S : lm_S) : lm_S := kd_step0 (kd_forget S)
theorem kd_md4 (b : Int32) : vp_in ((b &&& 7) >>> (1 &&& 31)) 4 := by
  rw [pk_and b 3 (by decide), pk_shrN (by omega) _ 1 (by decide)]
  exact vp_in_nI (by omega) (by decide)
theorem kd_opn {b : Int32} (h : ¬ b < 0) : ¬ b >>> (3 &&& 31) < 0 := by
  obtain ⟨j, hj, rfl⟩ := nI_of h
  rw [pk_shrN hj _ 3 (by decide)]
  exact nI_pos (by omega)
/-- what a step needs -/
def kd_ok (S : lm_S) : Prop := vp_in (S 6 5) 512 ∧ ¬ kd_b S < 0 ∧ (¬ S 1 3 - S 6 7 ≤ 0 → vp_in (S 6 7) 40) ∧ ¬ S 6 8 < 0
def s_M_makeStep : lm_Sp := fun av S post => av = [.ref 1] ∧ kd_ok S ∧ post none (kd_step S)
abbrev ca_ds : lm_Ca := [(41, 0, (some 1), s_M_forgetWrites), (44, 1, (some 1), s_M_cellAt), (48, 2, (some 1), s_M_placeOf), (52, 2, none, s_M_lengthOf), (55, 2, (some 1), s_M_workOnPlace), (59, 3, (some 1), s_M_jump), (63, 1, (some 1), s_M_useStackOrPort), (67, 1, (some 1), s_M_moveRegister), (70, 1, (some 1), s_M_changeYOrFlag), (73, 2, (some 1), s_M_branch)]
set_option maxHeartbeats 1000000 in
set_option maxRecDepth 20000 in
theorem kd_disp_ok {post : Option Value → lm_S → Prop} (a op md o p : Int32) (S : lm_S) (hw5 : ¬ op < 0) (hw4 : ¬ S 1 8 < 0) (hw2 : ¬ S 1 3 - S 6 7 ≤ 0 → vp_in (S 6 7) 40) (hw3 : ¬ S 6 8 < 0) (hw6 : vp_in (md >>> (1 &&& 31)) 4) (h : post none (kd_disp op md o p S)) : lm_Go YF g_M_makeStep ca_ds post 64 [(0, .ref 1), (1, .int a), (2, .int op), (3, .int md), (4, .int o), (5, .int p)] [] S := by
  refine lm_run 60 ?_
  unfold kd_disp at h
  (try (conv => whnf))
  repeat' first
    | (refine ⟨_, rfl, ?_⟩; conv => whnf)
    | (refine ⟨_, _, rfl, ?_⟩; conv => whnf)
    | (refine ⟨_, _, _, rfl, ?_⟩; conv => whnf)
    | (refine And.intro rfl ?_; conv => whnf)
    | (refine And.intro (lm_vc (by decide)) ?_; conv => whnf)
    | (refine And.intro (by decide) ?_; conv => whnf)
    | (refine ⟨fun hx => absurd hx (by decide), fun _ => ?_⟩; conv => whnf)
    | (refine ⟨fun _ => ?_, fun hx => absurd hx (by decide)⟩; conv => whnf)
    | (refine And.intro (hw hx) ?_; conv => whnf)
    | (refine And.intro hw ?_; conv => whnf)
    | (refine And.intro hw2 ?_; conv => whnf)
    | (refine And.intro hw3 ?_; conv => whnf)
    | (refine And.intro hw4 ?_; conv => whnf)
    | (refine And.intro hw5 ?_; conv => whnf)
    | (refine And.intro hw6 ?_; conv => whnf)
    | (refine And.intro hw7 ?_; conv => whnf)
    | (refine And.intro (hv1 (by assumption)) ?_; conv => whnf)
    | (refine And.intro (hv2 (by assumption) (by assumption)) ?_; conv => whnf)
    | (refine And.intro (hv3 (by assumption) (by assumption)) ?_; conv => whnf)
    | (refine And.intro (lm_v511 _) ?_; conv => whnf)
    | (refine And.intro (lm_v7 _) ?_; conv => whnf)
    | (refine ⟨fun hx => ?_, fun hx => ?_⟩ <;> conv => whnf)
    | (split at h)
    | contradiction
    | exact h
abbrev ca_M_makeStep : lm_Ca := [(41, 0, (some 1), s_M_forgetWrites), (44, 1, (some 1), s_M_cellAt), (48, 2, (some 1), s_M_placeOf), (52, 2, none, s_M_lengthOf), (55, 2, (some 1), s_M_workOnPlace), (59, 3, (some 1), s_M_jump), (63, 1, (some 1), s_M_useStackOrPort), (67, 1, (some 1), s_M_moveRegister), (70, 1, (some 1), s_M_changeYOrFlag), (73, 2, (some 1), s_M_branch)]
theorem cok_M_makeStep (l : Launch) : lm_cok l (kk_Y kk_shF) R_M 4 92 ca_M_makeStep := kk_cok (kk_cons ⟨y_M_forgetWrites, b_M_forgetWrites, 2, none, 0, 0, I_M_forgetWrites l, ⟨by decide, by decide⟩, yw_M_forgetWrites, li_M_41⟩ <| kk_cons ⟨y_M_cellAt, b_M_cellAt, 2, some .int, 0, 0, I_M_cellAt l, ⟨by decide, by decide⟩, yw_M_cellAt, li_M_44⟩ <| kk_cons ⟨y_M_placeOf, b_M_placeOf, 5, some .int, 2, 42, I_M_placeOf l, ⟨by decide, by decide⟩, yw_M_placeOf, li_M_48⟩ <| kk_cons ⟨y_M_lengthOf, b_M_lengthOf, 2, some .int, 0, 0, I_M_lengthOf l, ⟨by decide, by decide⟩, yw_M_lengthOf, li_M_52⟩ <| kk_cons ⟨y_M_workOnPlace, b_M_workOnPlace, 4, none, 3, 69, I_M_workOnPlace l, ⟨by decide, by decide⟩, yw_M_workOnPlace, li_M_55⟩ <| kk_cons ⟨y_M_jump, b_M_jump, 4, none, 2, 44, I_M_jump l, ⟨by decide, by decide⟩, yw_M_jump, li_M_59⟩ <| kk_cons ⟨y_M_useStackOrPort, b_M_useStackOrPort, 3, none, 3, 66, I_M_useStackOrPort l, ⟨by decide, by decide⟩, yw_M_useStackOrPort, li_M_63⟩ <| kk_cons ⟨y_M_moveRegister, b_M_moveRegister, 2, none, 2, 44, I_M_moveRegister l, ⟨by decide, by decide⟩, yw_M_moveRegister, li_M_67⟩ <| kk_cons ⟨y_M_changeYOrFlag, b_M_changeYOrFlag, 2, none, 2, 44, I_M_changeYOrFlag l, ⟨by decide, by decide⟩, yw_M_changeYOrFlag, li_M_70⟩ <| kk_cons ⟨y_M_branch, b_M_branch, 6, none, 0, 0, I_M_branch l, ⟨by decide, by decide⟩, yw_M_branch, li_M_73⟩ <| kk_nil)
set_option maxHeartbeats 1000000 in
set_option maxRecDepth 20000 in
theorem I_M_makeStep (l : Launch) : lm_I l (kk_Y kk_shF) y_M_makeStep b_M_makeStep 6 (none) 4 92 s_M_makeStep := by
  refine lm_impl g_M_makeStep ca_M_makeStep (by decide +kernel) kk_okF ck_M_makeStep (kk_fok fl_M_ok) (kk_sok sl_M_ok) (Or.inl rfl) (cok_M_makeStep l) rfl (by decide) ?_
  rintro av S post ⟨rfl, ⟨h1, h2, h3, h4⟩, h⟩
  have hw : vp_in ((kd_forget S) 6 5) 512 := h1
  have hb : ¬ kd_b (kd_forget S) < 0 := h2
  have hw2 : ¬ (kd_forget S) 1 3 - (kd_forget S) 6 7 ≤ 0 → vp_in ((kd_forget S) 6 7) 40 := h3
  have hw3 : ¬ (kd_forget S) 6 8 < 0 := h4
  have hw4 : ¬ (kd_forget S) 1 8 < 0 := by show ¬ (0 : Int32) < 0; decide
  have hw5 := kd_opn hb
  have hw6 := kd_md4 (kd_b (kd_forget S))
  refine ⟨Nat.le_of_ble_eq_true rfl, lm_to 64 60 ?_⟩
  unfold kd_step at h
  (try (conv => whnf))
  refine And.intro rfl ?_
  generalize kd_forget S = S0 at *
  unfold kd_step0 at h
  (conv => whnf)
  refine And.intro (lm_vc (by decide)) ?_; conv => whnf
  refine And.intro hw ?_; conv => whnf
  refine And.intro hw ?_; conv => whnf
  refine ⟨_, rfl, ?_⟩; conv => whnf
  refine ⟨_, _, rfl, ?_⟩; conv => whnf
  refine ⟨_, _, rfl, lm_v7 _, ?_⟩; conv => whnf
  refine And.intro (lm_vc (by decide)) ?_
  exact lm_Go.sub (kd_disp_ok (S0 6 5) _ _ _ _ _ hw5 hw4 hw2 hw3 hw6 h) (kk_cons rfl (kk_cons rfl (kk_cons rfl (kk_cons rfl (kk_cons rfl (kk_cons rfl kk_nil))))))
end
section
/-! marks and history -/
def kd_isA (a : Int32) : Int32 := if a < 0 then 0 else if 512 ≤ a then 0 else 1
def s_D_isAddress : lm_Sp := fun av S post => ∃ a, av = [.int a] ∧ post (some (.int (kd_isA a))) S
abbrev ca_D_isAddress : lm_Ca := []
theorem cok_D_isAddress (l : Launch) : lm_cok l (kk_Y kk_shF) R_D 0 0 ca_D_isAddress := kk_cok (kk_nil)
set_option maxHeartbeats 1000000 in
set_option maxRecDepth 20000 in
theorem I_D_isAddress (l : Launch) : lm_I l (kk_Y kk_shF) y_D_isAddress b_D_isAddress 1 (some .boolean) 0 0 s_D_isAddress := by
  refine lm_impl g_D_isAddress ca_D_isAddress (by decide +kernel) kk_okF ck_D_isAddress (kk_fok fl_D_ok) (kk_sok sl_D_ok) (Or.inl rfl) (cok_D_isAddress l) rfl (by decide) ?_
  rintro av S post ⟨a, rfl, h⟩
  refine ⟨Nat.le_of_ble_eq_true rfl, lm_run 60 ?_⟩
  unfold kd_isA at h
  (try (conv => whnf))
  repeat' first
    | (refine ⟨_, rfl, ?_⟩; conv => whnf)
    | (refine ⟨_, _, rfl, ?_⟩; conv => whnf)
    | (refine ⟨_, _, _, rfl, ?_⟩; conv => whnf)
    | (refine And.intro rfl ?_; conv => whnf)
    | (refine And.intro (lm_vc (by decide)) ?_; conv => whnf)
    | (refine And.intro (by decide) ?_; conv => whnf)
    | (refine ⟨fun hx => absurd hx (by decide), fun _ => ?_⟩; conv => whnf)
    | (refine ⟨fun _ => ?_, fun hx => absurd hx (by decide)⟩; conv => whnf)
    | (refine And.intro (hw hx) ?_; conv => whnf)
    | (refine And.intro hw ?_; conv => whnf)
    | (refine And.intro hw2 ?_; conv => whnf)
    | (refine And.intro hw3 ?_; conv => whnf)
    | (refine And.intro hw4 ?_; conv => whnf)
    | (refine And.intro hw5 ?_; conv => whnf)
    | (refine And.intro hw6 ?_; conv => whnf)
    | (refine And.intro hw7 ?_; conv => whnf)
    | (refine And.intro (hv1 (by assumption)) ?_; conv => whnf)
    | (refine And.intro (hv2 (by assumption) (by assumption)) ?_; conv => whnf)
    | (refine And.intro (hv3 (by assumption) (by assumption)) ?_; conv => whnf)
    | (refine And.intro (lm_v511 _) ?_; conv => whnf)
    | (refine And.intro (lm_v7 _) ?_; conv => whnf)
    | (refine ⟨fun hx => ?_, fun hx => ?_⟩ <;> conv => whnf)
    | (split at h)
    | contradiction
    | exact h
def kd_isR (a : Int32) : Int32 := if a < 0 then 0 else if 6 < a then 0 else 1
def s_D_isRegister : lm_Sp := fun av S post => ∃ a, av = [.int a] ∧ post (some (.int (kd_isR a))) S
abbrev ca_D_isRegister : lm_Ca := []
theorem cok_D_isRegister (l : Launch) : lm_cok l (kk_Y kk_shF) R_D 0 0 ca_D_isRegister := kk_cok (kk_nil)
set_option maxHeartbeats 1000000 in
set_option maxRecDepth 20000 in
theorem I_D_isRegister (l : Launch) : lm_I l (kk_Y kk_shF) y_D_isRegister b_D_isRegister 1 (some .boolean) 0 0 s_D_isRegister := by
  refine lm_impl g_D_isRegister ca_D_isRegister (by decide +kernel) kk_okF ck_D_isRegister (kk_fok fl_D_ok) (kk_sok sl_D_ok) (Or.inl rfl) (cok_D_isRegister l) rfl (by decide) ?_
  rintro av S post ⟨a, rfl, h⟩
  refine ⟨Nat.le_of_ble_eq_true rfl, lm_run 60 ?_⟩
  unfold kd_isR at h
  (try (conv => whnf))
  repeat' first
    | (refine ⟨_, rfl, ?_⟩; conv => whnf)
    | (refine ⟨_, _, rfl, ?_⟩; conv => whnf)
    | (refine ⟨_, _, _, rfl, ?_⟩; conv => whnf)
    | (refine And.intro rfl ?_; conv => whnf)
    | (refine And.intro (lm_vc (by decide)) ?_; conv => whnf)
    | (refine And.intro (by decide) ?_; conv => whnf)
    | (refine ⟨fun hx => absurd hx (by decide), fun _ => ?_⟩; conv => whnf)
    | (refine ⟨fun _ => ?_, fun hx => absurd hx (by decide)⟩; conv => whnf)
    | (refine And.intro (hw hx) ?_; conv => whnf)
    | (refine And.intro hw ?_; conv => whnf)
    | (refine And.intro hw2 ?_; conv => whnf)
    | (refine And.intro hw3 ?_; conv => whnf)
    | (refine And.intro hw4 ?_; conv => whnf)
    | (refine And.intro hw5 ?_; conv => whnf)
    | (refine And.intro hw6 ?_; conv => whnf)
    | (refine And.intro hw7 ?_; conv => whnf)
    | (refine And.intro (hv1 (by assumption)) ?_; conv => whnf)
    | (refine And.intro (hv2 (by assumption) (by assumption)) ?_; conv => whnf)
    | (refine And.intro (hv3 (by assumption) (by assumption)) ?_; conv => whnf)
    | (refine And.intro (lm_v511 _) ?_; conv => whnf)
    | (refine And.intro (lm_v7 _) ?_; conv => whnf)
    | (refine ⟨fun hx => ?_, fun hx => ?_⟩ <;> conv => whnf)
    | (split at h)
    | contradiction
    | exact h
theorem kd_isA_in {a : Int32} (h : ¬ kd_isA a = 0) : vp_in a 512 := by
  unfold kd_isA at h
  split at h
  · exact absurd rfl h
  · split at h
    · exact absurd rfl h
    · exact lm_vb (by assumption) (by assumption) (by decide)
def kd_has (m : Nat) (a : Int32) (S : lm_S) : Int32 := if kd_isA a = 0 then 0 else if S m a.toNatClampNeg = 0 then 0 else 1
def s_K_has : lm_Sp := fun av S post => ∃ i a, av = [.ref i, .int a] ∧ (i = 3 ∨ i = 4) ∧ post (some (.int (kd_has (i + 11) a S))) S
abbrev ca_K_has : lm_Ca := [(15, 1, none, s_D_isAddress)]
theorem cok_K_has (l : Launch) : lm_cok l (kk_Y kk_shF) R_K 1 20 ca_K_has := kk_cok (kk_cons ⟨y_D_isAddress, b_D_isAddress, 1, some .boolean, 0, 0, I_D_isAddress l, ⟨by decide, by decide⟩, yw_D_isAddress, li_K_15⟩ <| kk_nil)
set_option maxHeartbeats 1000000 in
set_option maxRecDepth 20000 in
theorem I_K_has (l : Launch) : lm_I l (kk_Y kk_shF) y_K_has b_K_has 2 (some .boolean) 1 20 s_K_has := by
  refine lm_impl g_K_has ca_K_has (by decide +kernel) kk_okF ck_K_has (kk_fok fl_K_ok) (kk_sok sl_K_ok) (Or.inl rfl) (cok_K_has l) rfl (by decide) ?_
  rintro av S post ⟨i, a, rfl, hi, h⟩
  have hw : ¬ kd_isA a = 0 → vp_in a 512 := kd_isA_in
  refine ⟨Nat.le_of_ble_eq_true rfl, lm_run 60 ?_⟩
  unfold kd_has at h
  rcases hi with rfl | rfl
  · (try (conv => whnf))
    repeat' first
      | (refine ⟨_, rfl, ?_⟩; conv => whnf)
      | (refine ⟨_, _, rfl, ?_⟩; conv => whnf)
      | (refine ⟨_, _, _, rfl, ?_⟩; conv => whnf)
      | (refine And.intro rfl ?_; conv => whnf)
      | (refine And.intro (lm_vc (by decide)) ?_; conv => whnf)
      | (refine And.intro (by decide) ?_; conv => whnf)
      | (refine ⟨fun hx => absurd hx (by decide), fun _ => ?_⟩; conv => whnf)
      | (refine ⟨fun _ => ?_, fun hx => absurd hx (by decide)⟩; conv => whnf)
      | (refine And.intro (hw hx) ?_; conv => whnf)
      | (refine And.intro hw ?_; conv => whnf)
      | (refine And.intro hw2 ?_; conv => whnf)
      | (refine And.intro hw3 ?_; conv => whnf)
      | (refine And.intro hw4 ?_; conv => whnf)
      | (refine And.intro hw5 ?_; conv => whnf)
      | (refine And.intro hw6 ?_; conv => whnf)
      | (refine And.intro hw7 ?_; conv => whnf)
      | (refine And.intro (hv1 (by assumption)) ?_; conv => whnf)
      | (refine And.intro (hv2 (by assumption) (by assumption)) ?_; conv => whnf)
      | (refine And.intro (hv3 (by assumption) (by assumption)) ?_; conv => whnf)
      | (refine And.intro (lm_v511 _) ?_; conv => whnf)
      | (refine And.intro (lm_v7 _) ?_; conv => whnf)
      | (refine ⟨fun hx => ?_, fun hx => ?_⟩ <;> conv => whnf)
      | (split at h)
      | contradiction
      | exact h
  · (try (conv => whnf))
    repeat' first
      | (refine ⟨_, rfl, ?_⟩; conv => whnf)
      | (refine ⟨_, _, rfl, ?_⟩; conv => whnf)
      | (refine ⟨_, _, _, rfl, ?_⟩; conv => whnf)
      | (refine And.intro rfl ?_; conv => whnf)
      | (refine And.intro (lm_vc (by decide)) ?_; conv => whnf)
      | (refine And.intro (by decide) ?_; conv => whnf)
      | (refine ⟨fun hx => absurd hx (by decide), fun _ => ?_⟩; conv => whnf)
      | (refine ⟨fun _ => ?_, fun hx => absurd hx (by decide)⟩; conv => whnf)
      | (refine And.intro (hw hx) ?_; conv => whnf)
      | (refine And.intro hw ?_; conv => whnf)
      | (refine And.intro hw2 ?_; conv => whnf)
      | (refine And.intro hw3 ?_; conv => whnf)
      | (refine And.intro hw4 ?_; conv => whnf)
      | (refine And.intro hw5 ?_; conv => whnf)
      | (refine And.intro hw6 ?_; conv => whnf)
      | (refine And.intro hw7 ?_; conv => whnf)
      | (refine And.intro (hv1 (by assumption)) ?_; conv => whnf)
      | (refine And.intro (hv2 (by assumption) (by assumption)) ?_; conv => whnf)
      | (refine And.intro (hv3 (by assumption) (by assumption)) ?_; conv => whnf)
      | (refine And.intro (lm_v511 _) ?_; conv => whnf)
      | (refine And.intro (lm_v7 _) ?_; conv => whnf)
      | (refine ⟨fun hx => ?_, fun hx => ?_⟩ <;> conv => whnf)
      | (split at h)
      | contradiction
      | exact h
def kd_chr (i m : Nat) (a on : Int32) (S : lm_S) : Int32 := if kd_isA a = 0 then 0 else if S m a.toNatClampNeg = on then 0 else if on = 0 then 1 else if S i 1 < 4 then 1 else 0
def kd_chs (i m : Nat) (a on : Int32) (S : lm_S) : lm_S := if kd_isA a = 0 then S else if S m a.toNatClampNeg = on then S else if on = 0 then lm_set (lm_set S m a.toNatClampNeg (on &&& 1)) i 1 (S i 1 + -1) else if S i 1 < 4 then lm_set (lm_set S m a.toNatClampNeg (on &&& 1)) i 1 (S i 1 + 1) else S
def s_K_change : lm_Sp := fun av S post => ∃ i a on, av = [.ref i, .int a, .int on] ∧ (i = 3 ∨ i = 4) ∧ post (some (.int (kd_chr i (i + 11) a on S))) (kd_chs i (i + 11) a on S)
abbrev ca_K_change : lm_Ca := [(15, 1, none, s_D_isAddress)]
theorem cok_K_change (l : Launch) : lm_cok l (kk_Y kk_shF) R_K 1 20 ca_K_change := kk_cok (kk_cons ⟨y_D_isAddress, b_D_isAddress, 1, some .boolean, 0, 0, I_D_isAddress l, ⟨by decide, by decide⟩, yw_D_isAddress, li_K_15⟩ <| kk_nil)
set_option maxHeartbeats 1000000 in
set_option maxRecDepth 20000 in
theorem I_K_change (l : Launch) : lm_I l (kk_Y kk_shF) y_K_change b_K_change 3 (some .boolean) 1 20 s_K_change := by
  refine lm_impl g_K_change ca_K_change (by decide +kernel) kk_okF ck_K_change (kk_fok fl_K_ok) (kk_sok sl_K_ok) (Or.inl rfl) (cok_K_change l) rfl (by decide) ?_
  rintro av S post ⟨i, a, on, rfl, hi, h⟩
  have hv1 : ¬ kd_isA a = 0 → vp_in a 512 := kd_isA_in
  refine ⟨Nat.le_of_ble_eq_true rfl, lm_run 60 ?_⟩
  unfold kd_chr kd_chs at h
  rcases hi with rfl | rfl
  · (try (conv => whnf))
    repeat' first
      | (refine ⟨_, rfl, ?_⟩; conv => whnf)
      | (refine ⟨_, _, rfl, ?_⟩; conv => whnf)
      | (refine ⟨_, _, _, rfl, ?_⟩; conv => whnf)
      | (refine And.intro rfl ?_; conv => whnf)
      | (refine And.intro (lm_vc (by decide)) ?_; conv => whnf)
      | (refine And.intro (by decide) ?_; conv => whnf)
      | (refine ⟨fun hx => absurd hx (by decide), fun _ => ?_⟩; conv => whnf)
      | (refine ⟨fun _ => ?_, fun hx => absurd hx (by decide)⟩; conv => whnf)
      | (refine And.intro (hw hx) ?_; conv => whnf)
      | (refine And.intro hw ?_; conv => whnf)
      | (refine And.intro hw2 ?_; conv => whnf)
      | (refine And.intro hw3 ?_; conv => whnf)
      | (refine And.intro hw4 ?_; conv => whnf)
      | (refine And.intro hw5 ?_; conv => whnf)
      | (refine And.intro hw6 ?_; conv => whnf)
      | (refine And.intro hw7 ?_; conv => whnf)
      | (refine And.intro (hv1 (by assumption)) ?_; conv => whnf)
      | (refine And.intro (hv2 (by assumption) (by assumption)) ?_; conv => whnf)
      | (refine And.intro (hv3 (by assumption) (by assumption)) ?_; conv => whnf)
      | (refine And.intro (lm_v511 _) ?_; conv => whnf)
      | (refine And.intro (lm_v7 _) ?_; conv => whnf)
      | (refine ⟨fun hx => ?_, fun hx => ?_⟩ <;> conv => whnf)
      | (split at h)
      | contradiction
      | exact h
  · (try (conv => whnf))
    repeat' first
      | (refine ⟨_, rfl, ?_⟩; conv => whnf)
      | (refine ⟨_, _, rfl, ?_⟩; conv => whnf)
      | (refine ⟨_, _, _, rfl, ?_⟩; conv => whnf)
      | (refine And.intro rfl ?_; conv => whnf)
      | (refine And.intro (lm_vc (by decide)) ?_; conv => whnf)
      | (refine And.intro (by decide) ?_; conv => whnf)
      | (refine ⟨fun hx => absurd hx (by decide), fun _ => ?_⟩; conv => whnf)
      | (refine ⟨fun _ => ?_, fun hx => absurd hx (by decide)⟩; conv => whnf)
      | (refine And.intro (hw hx) ?_; conv => whnf)
      | (refine And.intro hw ?_; conv => whnf)
      | (refine And.intro hw2 ?_; conv => whnf)
      | (refine And.intro hw3 ?_; conv => whnf)
      | (refine And.intro hw4 ?_; conv => whnf)
      | (refine And.intro hw5 ?_; conv => whnf)
      | (refine And.intro hw6 ?_; conv => whnf)
      | (refine And.intro hw7 ?_; conv => whnf)
      | (refine And.intro (hv1 (by assumption)) ?_; conv => whnf)
      | (refine And.intro (hv2 (by assumption) (by assumption)) ?_; conv => whnf)
      | (refine And.intro (hv3 (by assumption) (by assumption)) ?_; conv => whnf)
      | (refine And.intro (lm_v511 _) ?_; conv => whnf)
      | (refine And.intro (lm_v7 _) ?_; conv => whnf)
      | (refine ⟨fun hx => ?_, fun hx => ?_⟩ <;> conv => whnf)
      | (split at h)
      | contradiction
      | exact h
def kd_300 (x : Int32) : Prop := ∃ t : Nat, t ≤ 300 ∧ x = nI t
theorem kd_m9 {x : Int32} (h : kd_300 x) : ∃ t : Nat, t ≤ 300 ∧ x = nI t ∧ x * 9 = nI (t * 9) := by
  obtain ⟨t, h1, rfl⟩ := h
  exact ⟨t, h1, rfl, pk_mul t 9⟩
def kd_keep (S : lm_S) : lm_S := va_up S 11 (va_cpy (S 6) (S 11) (0 : Int32).toNatClampNeg (S 2 3 * 9).toNatClampNeg (9 : Int32).toNatClampNeg)
def s_H_keepPresent : lm_Sp := fun av S post => av = [.ref 2, .ref 1] ∧ kd_300 (S 2 3) ∧ post none (kd_keep S)
abbrev ca_H_keepPresent : lm_Ca := []
theorem cok_H_keepPresent (l : Launch) : lm_cok l (kk_Y kk_shF) R_H 1 26 ca_H_keepPresent := kk_cok (kk_nil)
set_option maxHeartbeats 1000000 in
set_option maxRecDepth 20000 in
theorem I_H_keepPresent (l : Launch) : lm_I l (kk_Y kk_shF) y_H_keepPresent b_H_keepPresent 2 (none) 1 26 s_H_keepPresent := by
  refine lm_impl g_H_keepPresent ca_H_keepPresent (by decide +kernel) kk_okF ck_H_keepPresent (kk_fok fl_H_ok) (kk_sok sl_H_ok) (po_H _ (by decide) (by decide)) (cok_H_keepPresent l) rfl (by decide) ?_
  rintro av S post ⟨rfl, hk, h⟩
  have hw : ¬ (0 : Int32) < 0 ∧ ¬ S 2 3 * 9 < 0 ∧ ¬ (9 : Int32) < 0 ∧ (0 : Int32).toNatClampNeg + (9 : Int32).toNatClampNeg ≤ 9 ∧ (S 2 3 * 9).toNatClampNeg + (9 : Int32).toNatClampNeg ≤ 2709 := by
    obtain ⟨t, h1, h2, h3⟩ := kd_m9 hk
    rw [h3, nI_clamp (by omega)]
    exact ⟨by decide, nI_pos (by omega), by decide, by decide, by rw [show (9 : Int32).toNatClampNeg = 9 from by decide]; omega⟩
  refine ⟨Nat.le_of_ble_eq_true rfl, lm_run 60 ?_⟩
  unfold kd_keep at h
  (try (conv => whnf))
  repeat' first
    | (refine ⟨_, rfl, ?_⟩; conv => whnf)
    | (refine ⟨_, _, rfl, ?_⟩; conv => whnf)
    | (refine ⟨_, _, _, rfl, ?_⟩; conv => whnf)
    | (refine And.intro rfl ?_; conv => whnf)
    | (refine And.intro (lm_vc (by decide)) ?_; conv => whnf)
    | (refine And.intro (by decide) ?_; conv => whnf)
    | (refine ⟨fun hx => absurd hx (by decide), fun _ => ?_⟩; conv => whnf)
    | (refine ⟨fun _ => ?_, fun hx => absurd hx (by decide)⟩; conv => whnf)
    | (refine And.intro (hw hx) ?_; conv => whnf)
    | (refine And.intro hw ?_; conv => whnf)
    | (refine And.intro hw2 ?_; conv => whnf)
    | (refine And.intro hw3 ?_; conv => whnf)
    | (refine And.intro hw4 ?_; conv => whnf)
    | (refine And.intro hw5 ?_; conv => whnf)
    | (refine And.intro hw6 ?_; conv => whnf)
    | (refine And.intro hw7 ?_; conv => whnf)
    | (refine And.intro (hv1 (by assumption)) ?_; conv => whnf)
    | (refine And.intro (hv2 (by assumption) (by assumption)) ?_; conv => whnf)
    | (refine And.intro (hv3 (by assumption) (by assumption)) ?_; conv => whnf)
    | (refine And.intro (lm_v511 _) ?_; conv => whnf)
    | (refine And.intro (lm_v7 _) ?_; conv => whnf)
    | (refine ⟨fun hx => ?_, fun hx => ?_⟩ <;> conv => whnf)
    | (split at h)
    | contradiction
    | exact h
def kd_begin (S : lm_S) : lm_S := kd_keep (lm_set (lm_set S 2 3 0) 2 4 0)
def s_H_begin : lm_Sp := fun av S post => av = [.ref 2, .ref 1] ∧ post none (kd_begin S)
abbrev ca_H_begin : lm_Ca := [(28, 1, (some 2), s_H_keepPresent)]
theorem cok_H_begin (l : Launch) : lm_cok l (kk_Y kk_shF) R_H 2 47 ca_H_begin := kk_cok (kk_cons ⟨y_H_keepPresent, b_H_keepPresent, 2, none, 1, 26, I_H_keepPresent l, ⟨by decide, by decide⟩, yw_H_keepPresent, li_H_28⟩ <| kk_nil)
set_option maxHeartbeats 1000000 in
set_option maxRecDepth 20000 in
theorem I_H_begin (l : Launch) : lm_I l (kk_Y kk_shF) y_H_begin b_H_begin 2 (none) 2 47 s_H_begin := by
  refine lm_impl g_H_begin ca_H_begin (by decide +kernel) kk_okF ck_H_begin (kk_fok fl_H_ok) (kk_sok sl_H_ok) (Or.inl rfl) (cok_H_begin l) rfl (by decide) ?_
  rintro av S post ⟨rfl, h⟩
  have hw : kd_300 0 := ⟨0, by omega, rfl⟩
  refine ⟨Nat.le_of_ble_eq_true rfl, lm_run 60 ?_⟩
  unfold kd_begin at h
  (try (conv => whnf))
  repeat' first
    | (refine ⟨_, rfl, ?_⟩; conv => whnf)
    | (refine ⟨_, _, rfl, ?_⟩; conv => whnf)
    | (refine ⟨_, _, _, rfl, ?_⟩; conv => whnf)
    | (refine And.intro rfl ?_; conv => whnf)
    | (refine And.intro (lm_vc (by decide)) ?_; conv => whnf)
    | (refine And.intro (by decide) ?_; conv => whnf)
    | (refine ⟨fun hx => absurd hx (by decide), fun _ => ?_⟩; conv => whnf)
    | (refine ⟨fun _ => ?_, fun hx => absurd hx (by decide)⟩; conv => whnf)
    | (refine And.intro (hw hx) ?_; conv => whnf)
    | (refine And.intro hw ?_; conv => whnf)
    | (refine And.intro hw2 ?_; conv => whnf)
    | (refine And.intro hw3 ?_; conv => whnf)
    | (refine And.intro hw4 ?_; conv => whnf)
    | (refine And.intro hw5 ?_; conv => whnf)
    | (refine And.intro hw6 ?_; conv => whnf)
    | (refine And.intro hw7 ?_; conv => whnf)
    | (refine And.intro (hv1 (by assumption)) ?_; conv => whnf)
    | (refine And.intro (hv2 (by assumption) (by assumption)) ?_; conv => whnf)
    | (refine And.intro (hv3 (by assumption) (by assumption)) ?_; conv => whnf)
    | (refine And.intro (lm_v511 _) ?_; conv => whnf)
    | (refine And.intro (lm_v7 _) ?_; conv => whnf)
    | (refine ⟨fun hx => ?_, fun hx => ?_⟩ <;> conv => whnf)
    | (split at h)
    | contradiction
    | exact h
def kd_app4 (n : Int32) (S : lm_S) : lm_S := lm_set (lm_set (lm_set (lm_set S 12 (n * 2 + 0).toNatClampNeg (S 9 0)) 13 (n * 2 + 0).toNatClampNeg (S 10 0)) 12 (n * 2 + (0 + 1)).toNatClampNeg (S 9 1)) 13 (n * 2 + (0 + 1)).toNatClampNeg (S 10 1)
def kd_app (S : lm_S) : lm_S := kd_keep (lm_set (lm_set (kd_app4 (S 2 4) S) 2 4 (S 2 4 + 1)) 2 3 (S 2 4 + 1))
def s_H_append : lm_Sp := fun av S post => av = [.ref 2, .ref 1] ∧ (∃ t : Nat, t < 300 ∧ S 2 4 = nI t) ∧ post none (kd_app S)
abbrev ca_H_append : lm_Ca := [(28, 1, (some 2), s_H_keepPresent)]
theorem cok_H_append (l : Launch) : lm_cok l (kk_Y kk_shF) R_H 2 47 ca_H_append := kk_cok (kk_cons ⟨y_H_keepPresent, b_H_keepPresent, 2, none, 1, 26, I_H_keepPresent l, ⟨by decide, by decide⟩, yw_H_keepPresent, li_H_28⟩ <| kk_nil)
set_option maxHeartbeats 1000000 in
set_option maxRecDepth 20000 in
theorem I_H_append (l : Launch) : lm_I l (kk_Y kk_shF) y_H_append b_H_append 3 (none) 2 47 s_H_append := by
  refine lm_impl g_H_append ca_H_append (by decide +kernel) kk_okF ck_H_append (kk_fok fl_H_ok) (kk_sok sl_H_ok) (Or.inl rfl) (cok_H_append l) rfl (by decide) ?_
  rintro av S post ⟨rfl, ⟨t, ht, he⟩, h⟩
  have hx : S 2 4 < 300 := by rw [he]; exact nI_lt ht (by decide)
  have hw : vp_in (S 2 4 * 2 + 0) 600 := by
    rw [he, show nI t * 2 + 0 = nI (t * 2 + 0) from by rw [← nI_add]; rw [← pk_mul]; rfl]
    exact vp_in_nI (by omega) (by decide)
  have hw2 : vp_in (S 2 4 * 2 + (0 + 1)) 600 := by
    rw [he, show nI t * 2 + (0 + 1) = nI (t * 2 + 1) from by rw [← nI_add]; rw [← pk_mul]; rfl]
    exact vp_in_nI (by omega) (by decide)
  have hw3 : kd_300 (S 2 4 + 1) := ⟨t + 1, by omega, by rw [he, nI_1]⟩
  refine ⟨Nat.le_of_ble_eq_true rfl, lm_run 90 ?_⟩
  unfold kd_app kd_app4 at h
  (try (conv => whnf))
  refine ⟨fun _ => ?_, fun hy => absurd hx hy⟩
  (try (conv => whnf))
  repeat' first
    | (refine ⟨_, rfl, ?_⟩; conv => whnf)
    | (refine ⟨_, _, rfl, ?_⟩; conv => whnf)
    | (refine ⟨_, _, _, rfl, ?_⟩; conv => whnf)
    | (refine And.intro rfl ?_; conv => whnf)
    | (refine And.intro (lm_vc (by decide)) ?_; conv => whnf)
    | (refine And.intro (by decide) ?_; conv => whnf)
    | (refine ⟨fun hx => absurd hx (by decide), fun _ => ?_⟩; conv => whnf)
    | (refine ⟨fun _ => ?_, fun hx => absurd hx (by decide)⟩; conv => whnf)
    | (refine And.intro (hw hx) ?_; conv => whnf)
    | (refine And.intro hw ?_; conv => whnf)
    | (refine And.intro hw2 ?_; conv => whnf)
    | (refine And.intro hw3 ?_; conv => whnf)
    | (refine And.intro hw4 ?_; conv => whnf)
    | (refine And.intro hw5 ?_; conv => whnf)
    | (refine And.intro hw6 ?_; conv => whnf)
    | (refine And.intro hw7 ?_; conv => whnf)
    | (refine And.intro (hv1 (by assumption)) ?_; conv => whnf)
    | (refine And.intro (hv2 (by assumption) (by assumption)) ?_; conv => whnf)
    | (refine And.intro (hv3 (by assumption) (by assumption)) ?_; conv => whnf)
    | (refine And.intro (lm_v511 _) ?_; conv => whnf)
    | (refine And.intro (lm_v7 _) ?_; conv => whnf)
    | (refine ⟨fun hx => ?_, fun hx => ?_⟩ <;> conv => whnf)
    | (split at h)
    | contradiction
    | exact h
def kd_ctr (t : Int32) (S : lm_S) : Int32 := if t < 0 then -1 else if t ≤ S 2 4 then S 11 (t * 9 + 5).toNatClampNeg else -1
def s_H_counterAt : lm_Sp := fun av S post => ∃ t, av = [.ref 2, .int t] ∧ (¬ t < 0 → t ≤ S 2 4 → vp_in (t * 9 + 5) 2709) ∧ post (some (.int (kd_ctr t S))) S
abbrev ca_H_counterAt : lm_Ca := []
theorem cok_H_counterAt (l : Launch) : lm_cok l (kk_Y kk_shF) R_H 0 0 ca_H_counterAt := kk_cok (kk_nil)
set_option maxHeartbeats 1000000 in
set_option maxRecDepth 20000 in
theorem I_H_counterAt (l : Launch) : lm_I l (kk_Y kk_shF) y_H_counterAt b_H_counterAt 2 (some .int) 0 0 s_H_counterAt := by
  refine lm_impl g_H_counterAt ca_H_counterAt (by decide +kernel) kk_okF ck_H_counterAt (kk_fok fl_H_ok) (kk_sok sl_H_ok) (Or.inl rfl) (cok_H_counterAt l) rfl (by decide) ?_
  rintro av S post ⟨t, rfl, hv2, h⟩
  refine ⟨Nat.le_of_ble_eq_true rfl, lm_run 60 ?_⟩
  unfold kd_ctr at h
  (try (conv => whnf))
  repeat' first
    | (refine ⟨_, rfl, ?_⟩; conv => whnf)
    | (refine ⟨_, _, rfl, ?_⟩; conv => whnf)
    | (refine ⟨_, _, _, rfl, ?_⟩; conv => whnf)
    | (refine And.intro rfl ?_; conv => whnf)
    | (refine And.intro (lm_vc (by decide)) ?_; conv => whnf)
    | (refine And.intro (by decide) ?_; conv => whnf)
    | (refine ⟨fun hx => absurd hx (by decide), fun _ => ?_⟩; conv => whnf)
    | (refine ⟨fun _ => ?_, fun hx => absurd hx (by decide)⟩; conv => whnf)
    | (refine And.intro (hw hx) ?_; conv => whnf)
    | (refine And.intro hw ?_; conv => whnf)
    | (refine And.intro hw2 ?_; conv => whnf)
    | (refine And.intro hw3 ?_; conv => whnf)
    | (refine And.intro hw4 ?_; conv => whnf)
    | (refine And.intro hw5 ?_; conv => whnf)
    | (refine And.intro hw6 ?_; conv => whnf)
    | (refine And.intro hw7 ?_; conv => whnf)
    | (refine And.intro (hv1 (by assumption)) ?_; conv => whnf)
    | (refine And.intro (hv2 (by assumption) (by assumption)) ?_; conv => whnf)
    | (refine And.intro (hv3 (by assumption) (by assumption)) ?_; conv => whnf)
    | (refine And.intro (lm_v511 _) ?_; conv => whnf)
    | (refine And.intro (lm_v7 _) ?_; conv => whnf)
    | (refine ⟨fun hx => ?_, fun hx => ?_⟩ <;> conv => whnf)
    | (split at h)
    | contradiction
    | exact h
def kd_pw2 (t k : Int32) (S : lm_S) : Int32 := if t < 0 then -1 else if t < S 2 4 then S 12 (t * 2 + k).toNatClampNeg else -1
def s_H_placeWritten : lm_Sp := fun av S post => ∃ t k, av = [.ref 2, .int t, .int k] ∧ (¬ t < 0 → t < S 2 4 → vp_in (t * 2 + k) 600) ∧ post (some (.int (kd_pw2 t k S))) S
abbrev ca_H_placeWritten : lm_Ca := []
theorem cok_H_placeWritten (l : Launch) : lm_cok l (kk_Y kk_shF) R_H 0 0 ca_H_placeWritten := kk_cok (kk_nil)
set_option maxHeartbeats 1000000 in
set_option maxRecDepth 20000 in
theorem I_H_placeWritten (l : Launch) : lm_I l (kk_Y kk_shF) y_H_placeWritten b_H_placeWritten 3 (some .int) 0 0 s_H_placeWritten := by
  refine lm_impl g_H_placeWritten ca_H_placeWritten (by decide +kernel) kk_okF ck_H_placeWritten (kk_fok fl_H_ok) (kk_sok sl_H_ok) (Or.inl rfl) (cok_H_placeWritten l) rfl (by decide) ?_
  rintro av S post ⟨t, k, rfl, hv2, h⟩
  refine ⟨Nat.le_of_ble_eq_true rfl, lm_run 60 ?_⟩
  unfold kd_pw2 at h
  (try (conv => whnf))
  repeat' first
    | (refine ⟨_, rfl, ?_⟩; conv => whnf)
    | (refine ⟨_, _, rfl, ?_⟩; conv => whnf)
    | (refine ⟨_, _, _, rfl, ?_⟩; conv => whnf)
    | (refine And.intro rfl ?_; conv => whnf)
    | (refine And.intro (lm_vc (by decide)) ?_; conv => whnf)
    | (refine And.intro (by decide) ?_; conv => whnf)
    | (refine ⟨fun hx => absurd hx (by decide), fun _ => ?_⟩; conv => whnf)
    | (refine ⟨fun _ => ?_, fun hx => absurd hx (by decide)⟩; conv => whnf)
    | (refine And.intro (hw hx) ?_; conv => whnf)
    | (refine And.intro hw ?_; conv => whnf)
    | (refine And.intro hw2 ?_; conv => whnf)
    | (refine And.intro hw3 ?_; conv => whnf)
    | (refine And.intro hw4 ?_; conv => whnf)
    | (refine And.intro hw5 ?_; conv => whnf)
    | (refine And.intro hw6 ?_; conv => whnf)
    | (refine And.intro hw7 ?_; conv => whnf)
    | (refine And.intro (hv1 (by assumption)) ?_; conv => whnf)
    | (refine And.intro (hv2 (by assumption) (by assumption)) ?_; conv => whnf)
    | (refine And.intro (hv3 (by assumption) (by assumption)) ?_; conv => whnf)
    | (refine And.intro (lm_v511 _) ?_; conv => whnf)
    | (refine And.intro (lm_v7 _) ?_; conv => whnf)
    | (refine ⟨fun hx => ?_, fun hx => ?_⟩ <;> conv => whnf)
    | (split at h)
    | contradiction
    | exact h
def kd_lpw (t : Int32) (S : lm_S) : Int32 := if kd_pw2 t 1 S = -1 then kd_pw2 t 0 S else kd_pw2 t 1 S
def s_H_lastPlaceWritten : lm_Sp := fun av S post => ∃ t, av = [.ref 2, .int t] ∧ (¬ t < 0 → t < S 2 4 → vp_in (t * 2 + 1) 600) ∧ (¬ t < 0 → t < S 2 4 → vp_in (t * 2 + 0) 600) ∧ post (some (.int (kd_lpw t S))) S
abbrev ca_H_lastPlaceWritten : lm_Ca := [(54, 2, (some 2), s_H_placeWritten)]
theorem cok_H_lastPlaceWritten (l : Launch) : lm_cok l (kk_Y kk_shF) R_H 1 22 ca_H_lastPlaceWritten := kk_cok (kk_cons ⟨y_H_placeWritten, b_H_placeWritten, 3, some .int, 0, 0, I_H_placeWritten l, ⟨by decide, by decide⟩, yw_H_placeWritten, li_H_54⟩ <| kk_nil)
set_option maxHeartbeats 1000000 in
set_option maxRecDepth 20000 in
theorem I_H_lastPlaceWritten (l : Launch) : lm_I l (kk_Y kk_shF) y_H_lastPlaceWritten b_H_lastPlaceWritten 3 (some .int) 1 22 s_H_lastPlaceWritten := by
  refine lm_impl g_H_lastPlaceWritten ca_H_lastPlaceWritten (by decide +kernel) kk_okF ck_H_lastPlaceWritten (kk_fok fl_H_ok) (kk_sok sl_H_ok) (Or.inl rfl) (cok_H_lastPlaceWritten l) rfl (by decide) ?_
  rintro av S post ⟨t, rfl, hw, hw2, h⟩
  refine ⟨Nat.le_of_ble_eq_true rfl, lm_run 60 ?_⟩
  unfold kd_lpw at h
  (try (conv => whnf))
  repeat' first
    | (refine ⟨_, rfl, ?_⟩; conv => whnf)
    | (refine ⟨_, _, rfl, ?_⟩; conv => whnf)
    | (refine ⟨_, _, _, rfl, ?_⟩; conv => whnf)
    | (refine And.intro rfl ?_; conv => whnf)
    | (refine And.intro (lm_vc (by decide)) ?_; conv => whnf)
    | (refine And.intro (by decide) ?_; conv => whnf)
    | (refine ⟨fun hx => absurd hx (by decide), fun _ => ?_⟩; conv => whnf)
    | (refine ⟨fun _ => ?_, fun hx => absurd hx (by decide)⟩; conv => whnf)
    | (refine And.intro (hw hx) ?_; conv => whnf)
    | (refine And.intro hw ?_; conv => whnf)
    | (refine And.intro hw2 ?_; conv => whnf)
    | (refine And.intro hw3 ?_; conv => whnf)
    | (refine And.intro hw4 ?_; conv => whnf)
    | (refine And.intro hw5 ?_; conv => whnf)
    | (refine And.intro hw6 ?_; conv => whnf)
    | (refine And.intro hw7 ?_; conv => whnf)
    | (refine And.intro (hv1 (by assumption)) ?_; conv => whnf)
    | (refine And.intro (hv2 (by assumption) (by assumption)) ?_; conv => whnf)
    | (refine And.intro (hv3 (by assumption) (by assumption)) ?_; conv => whnf)
    | (refine And.intro (lm_v511 _) ?_; conv => whnf)
    | (refine And.intro (lm_v7 _) ?_; conv => whnf)
    | (refine ⟨fun hx => ?_, fun hx => ?_⟩ <;> conv => whnf)
    | (split at h)
    | contradiction
    | exact h
def kd_swp (k p : Int32) (S : lm_S) : lm_S := if kd_isA p = 0 then S else lm_set (lm_set S 13 k.toNatClampNeg (S 5 p.toNatClampNeg)) 5 p.toNatClampNeg (S 13 k.toNatClampNeg)
def kd_swap (k : Int32) (S : lm_S) : lm_S := kd_swp k (S 12 k.toNatClampNeg) S
def s_H_swapByte : lm_Sp := fun av S post => ∃ k, av = [.ref 2, .int k, .ref 5] ∧ vp_in k 600 ∧ post none (kd_swap k S)
abbrev ca_H_swapByte : lm_Ca := [(58, 1, none, s_D_isAddress)]
theorem cok_H_swapByte (l : Launch) : lm_cok l (kk_Y kk_shF) R_H 1 20 ca_H_swapByte := kk_cok (kk_cons ⟨y_D_isAddress, b_D_isAddress, 1, some .boolean, 0, 0, I_D_isAddress l, ⟨by decide, by decide⟩, yw_D_isAddress, li_H_58⟩ <| kk_nil)
set_option maxHeartbeats 1000000 in
set_option maxRecDepth 20000 in
theorem I_H_swapByte (l : Launch) : lm_I l (kk_Y kk_shF) y_H_swapByte b_H_swapByte 5 (none) 1 20 s_H_swapByte := by
  refine lm_impl g_H_swapByte ca_H_swapByte (by decide +kernel) kk_okF ck_H_swapByte (kk_fok fl_H_ok) (kk_sok sl_H_ok) (Or.inl rfl) (cok_H_swapByte l) rfl (by decide) ?_
  rintro av S post ⟨k, rfl, hw, h⟩
  have hv1 : ¬ kd_isA (S 12 k.toNatClampNeg) = 0 → vp_in (S 12 k.toNatClampNeg) 512 := kd_isA_in
  refine ⟨Nat.le_of_ble_eq_true rfl, lm_run 60 ?_⟩
  unfold kd_swap kd_swp at h
  (try (conv => whnf))
  repeat' first
    | (refine ⟨_, rfl, ?_⟩; conv => whnf)
    | (refine ⟨_, _, rfl, ?_⟩; conv => whnf)
    | (refine ⟨_, _, _, rfl, ?_⟩; conv => whnf)
    | (refine And.intro rfl ?_; conv => whnf)
    | (refine And.intro (lm_vc (by decide)) ?_; conv => whnf)
    | (refine And.intro (by decide) ?_; conv => whnf)
    | (refine ⟨fun hx => absurd hx (by decide), fun _ => ?_⟩; conv => whnf)
    | (refine ⟨fun _ => ?_, fun hx => absurd hx (by decide)⟩; conv => whnf)
    | (refine And.intro (hw hx) ?_; conv => whnf)
    | (refine And.intro hw ?_; conv => whnf)
    | (refine And.intro hw2 ?_; conv => whnf)
    | (refine And.intro hw3 ?_; conv => whnf)
    | (refine And.intro hw4 ?_; conv => whnf)
    | (refine And.intro hw5 ?_; conv => whnf)
    | (refine And.intro hw6 ?_; conv => whnf)
    | (refine And.intro hw7 ?_; conv => whnf)
    | (refine And.intro (hv1 (by assumption)) ?_; conv => whnf)
    | (refine And.intro (hv2 (by assumption) (by assumption)) ?_; conv => whnf)
    | (refine And.intro (hv3 (by assumption) (by assumption)) ?_; conv => whnf)
    | (refine And.intro (lm_v511 _) ?_; conv => whnf)
    | (refine And.intro (lm_v7 _) ?_; conv => whnf)
    | (refine ⟨fun hx => ?_, fun hx => ?_⟩ <;> conv => whnf)
    | (split at h)
    | contradiction
    | exact h
end
section
/-! the desk's loops -/
def kd_fw : Nat → Nat → lm_S → lm_S
  | 0, _, S => S
  | n + 1, k, S => kd_fw n (k + 1) (kd_swap (nI k) S)
/-- back from j: j - 1, j - 2 .. -/
def kd_bw : Nat → Nat → lm_S → lm_S
  | 0, _, S => S
  | n + 1, j, S => kd_bw n (j - 1) (kd_swap (nI (j - 1)) S)
def kd_fin (b : Nat) (S : lm_S) : lm_S := va_up (lm_set S 2 3 (nI b)) 6 (va_cpy (S 11) (S 6) (b * 9) 0 9)
def kd_mv (a b : Nat) (S : lm_S) : lm_S := kd_fin b (kd_bw (2 * a - 2 * b) (2 * a) (kd_fw (2 * b - 2 * a) (2 * a) S))
theorem nI_m2 (b : Nat) : nI b * 2 = nI (2 * b) := by rw [Nat.mul_comm]; exact pk_mul b 2
theorem nI_p1m (j : Nat) (h : 0 < j) : nI j - 1 = nI (j - 1) := pk_sub (a := j) (b := 1) h
abbrev ca_mv : lm_Ca := [(41, 2, (some 2), s_H_swapByte)]
theorem kd_swap_now (k : Int32) (S : lm_S) : (kd_swap k S) 2 3 = S 2 3 := by
  unfold kd_swap kd_swp
  split <;> rfl
theorem kd_fw_now : ∀ (n k : Nat) (S : lm_S), (kd_fw n k S) 2 3 = S 2 3
  | 0, _, _ => rfl
  | n + 1, k, S => by rw [kd_fw, kd_fw_now n, kd_swap_now]
theorem mv_tail {post : Option Value → lm_S → Prop} (b : Nat) (hb : b ≤ 300) (S : lm_S) (h : post none (kd_fin b S)) : lm_Go YF g_H_moveTo ca_mv post 73 [(0, .ref 2), (1, .int (nI b)), (2, .ref 1)] [] S := by
  refine lm_run 30 ?_
  have e1 : nI b * 9 = nI (b * 9) := pk_mul b 9
  have e2 : (nI b * 9).toNatClampNeg = b * 9 := by rw [e1, nI_clamp (by omega)]
  have hw : ¬ nI b * 9 < 0 ∧ ¬ (0 : Int32) < 0 ∧ ¬ (9 : Int32) < 0 ∧ (nI b * 9).toNatClampNeg + (9 : Int32).toNatClampNeg ≤ 2709 ∧ (0 : Int32).toNatClampNeg + (9 : Int32).toNatClampNeg ≤ 9 := by
    rw [e2, e1]
    exact ⟨nI_pos (by omega), by decide, by decide, by rw [show (9 : Int32).toNatClampNeg = 9 from by decide]; omega, by decide⟩
  unfold kd_fin at h
  rw [← e2] at h
  (try (conv => whnf))
  repeat' first
    | (refine ⟨_, rfl, ?_⟩; conv => whnf)
    | (refine ⟨_, _, rfl, ?_⟩; conv => whnf)
    | (refine ⟨_, _, _, rfl, ?_⟩; conv => whnf)
    | (refine And.intro rfl ?_; conv => whnf)
    | (refine And.intro (lm_vc (by decide)) ?_; conv => whnf)
    | (refine And.intro (by decide) ?_; conv => whnf)
    | (refine ⟨fun hx => absurd hx (by decide), fun _ => ?_⟩; conv => whnf)
    | (refine ⟨fun _ => ?_, fun hx => absurd hx (by decide)⟩; conv => whnf)
    | (refine And.intro (hw hx) ?_; conv => whnf)
    | (refine And.intro hw ?_; conv => whnf)
    | (refine And.intro hw2 ?_; conv => whnf)
    | (refine And.intro hw3 ?_; conv => whnf)
    | (refine And.intro hw4 ?_; conv => whnf)
    | (refine And.intro hw5 ?_; conv => whnf)
    | (refine And.intro hw6 ?_; conv => whnf)
    | (refine And.intro hw7 ?_; conv => whnf)
    | (refine And.intro (hv1 (by assumption)) ?_; conv => whnf)
    | (refine And.intro (hv2 (by assumption) (by assumption)) ?_; conv => whnf)
    | (refine And.intro (hv3 (by assumption) (by assumption)) ?_; conv => whnf)
    | (refine And.intro (lm_v511 _) ?_; conv => whnf)
    | (refine And.intro (lm_v7 _) ?_; conv => whnf)
    | (refine ⟨fun hx => ?_, fun hx => ?_⟩ <;> conv => whnf)
    | (split at h)
    | contradiction
    | exact h
theorem mv_back {post : Option Value → lm_S → Prop} (b : Nat) (hb : b ≤ 300) : ∀ (m j : Nat) (S : lm_S), (j = 2 * b + m ∨ (m = 0 ∧ j ≤ 2 * b)) → j ≤ 600 → post none (kd_fin b (kd_bw m j S)) → lm_Go YF g_H_moveTo ca_mv post 51 [(0, .ref 2), (1, .int (nI b)), (2, .ref 1), (3, .int (nI j - 1))] [] S
  | 0, j, S, hj, h6, h => by
    refine lm_to 73 20 ?_
    conv => whnf
    have hx : nI j - 1 < nI b * 2 := by
      rw [nI_m2, Int32.lt_iff_toInt_lt, show (1 : Int32) = nI 1 from rfl, pk_sub_toInt (by omega) (by omega), nI_toInt (by omega)]
      omega
    refine ⟨fun _ => ?_, fun hy => absurd hx hy⟩
    exact lm_Go.sub (mv_tail b hb S h) (kk_cons rfl (kk_cons rfl (kk_cons rfl kk_nil)))
  | m + 1, j, S, hj, h6, h => by
    refine lm_to 51 20 ?_
    conv => whnf
    have h1 : 1 ≤ j := by omega
    have e1 : nI j - 1 = nI (j - 1) := nI_p1m j h1
    have hx : ¬ nI j - 1 < nI b * 2 := by
      rw [nI_m2, e1]
      exact nI_nlt (by omega) (by omega)
    refine ⟨fun hy => absurd hy hx, fun _ => ?_⟩
    conv => whnf
    refine ⟨_, rfl, by rw [e1]; exact vp_in_nI (by omega) (by decide), ?_⟩
    refine lm_Go.sub (mv_back b hb m (j - 1) (kd_swap (nI j - 1) S) (by omega) (by omega) (by rw [e1]; exact h)) (kk_cons rfl (kk_cons rfl (kk_cons rfl (kk_cons ?_ kk_nil))))
    show some (Value.int ((nI j - 1) + -1)) = some (Value.int (nI (j - 1) - 1))
    rw [e1, Int32.sub_eq_add_neg]
theorem mv_mid {post : Option Value → lm_S → Prop} (a b : Nat) (ha : a ≤ 300) (hb : b ≤ 300) (S : lm_S) (hn : S 2 3 = nI a) (h : post none (kd_fin b (kd_bw (2 * a - 2 * b) (2 * a) S))) : lm_Go YF g_H_moveTo ca_mv post 42 [(0, .ref 2), (1, .int (nI b)), (2, .ref 1)] [] S := by
  refine lm_to 51 20 ?_
  refine lm_Go.sub (mv_back b hb (2 * a - 2 * b) (2 * a) S (by omega) (by omega) h) (kk_cons rfl (kk_cons rfl (kk_cons rfl (kk_cons ?_ kk_nil))))
  show some (Value.int (S 2 3 * 2 - 1)) = some (Value.int (nI (2 * a) - 1))
  rw [hn, nI_m2]
theorem mv_fore {post : Option Value → lm_S → Prop} (a b : Nat) (ha : a ≤ 300) (hb : b ≤ 300) : ∀ (m k : Nat) (S : lm_S), (k + m = 2 * b ∨ (m = 0 ∧ 2 * b ≤ k)) → k ≤ 600 → S 2 3 = nI a → post none (kd_fin b (kd_bw (2 * a - 2 * b) (2 * a) (kd_fw m k S))) → lm_Go YF g_H_moveTo ca_mv post 20 [(0, .ref 2), (1, .int (nI b)), (2, .ref 1), (3, .int (nI k))] [] S
  | 0, k, S, hk, h6, hn, h => by
    refine lm_to 42 20 ?_
    conv => whnf
    have hx : nI b * 2 ≤ nI k := by
      rw [nI_m2]
      exact nI_le (by omega) (by omega)
    refine ⟨fun _ => ?_, fun hy => absurd hx hy⟩
    exact lm_Go.sub (mv_mid a b ha hb S hn h) (kk_cons rfl (kk_cons rfl (kk_cons rfl kk_nil)))
  | m + 1, k, S, hk, h6, hn, h => by
    refine lm_to 20 20 ?_
    conv => whnf
    have hx : ¬ nI b * 2 ≤ nI k := by
      rw [nI_m2]
      exact nI_ge (by omega) (by omega)
    refine ⟨fun hy => absurd hy hx, fun _ => ?_⟩
    conv => whnf
    refine ⟨_, rfl, vp_in_nI (by omega) (by decide), ?_⟩
    refine lm_Go.sub (mv_fore a b ha hb m (k + 1) (kd_swap (nI k) S) (by omega) (by omega) (by rw [kd_swap_now]; exact hn) h) (kk_cons rfl (kk_cons rfl (kk_cons rfl (kk_cons ?_ kk_nil))))
    show some (Value.int (nI k + 1)) = some (Value.int (nI (k + 1)))
    rw [nI_1]
def s_H_moveTo : lm_Sp := fun av S post => ∃ a b : Nat, av = [.ref 2, .int (nI b), .ref 1] ∧ a ≤ 300 ∧ b ≤ 300 ∧ S 2 3 = nI a ∧ nI b ≤ S 2 4 ∧ post none (kd_mv a b S)
abbrev ca_H_moveTo : lm_Ca := [(41, 2, (some 2), s_H_swapByte)]
theorem cok_H_moveTo (l : Launch) : lm_cok l (kk_Y kk_shF) R_H 2 44 ca_H_moveTo := kk_cok (kk_cons ⟨y_H_swapByte, b_H_swapByte, 5, none, 1, 20, I_H_swapByte l, ⟨by decide, by decide⟩, yw_H_swapByte, li_H_41⟩ <| kk_nil)
set_option maxHeartbeats 1000000 in
set_option maxRecDepth 20000 in
theorem I_H_moveTo (l : Launch) : lm_I l (kk_Y kk_shF) y_H_moveTo b_H_moveTo 4 (none) 2 44 s_H_moveTo := by
  refine lm_impl g_H_moveTo ca_H_moveTo (by decide +kernel) kk_okF ck_H_moveTo (kk_fok fl_H_ok) (kk_sok sl_H_ok) (po_H _ (by decide) (by decide)) (cok_H_moveTo l) rfl (by decide) ?_
  rintro av S post ⟨a, b, rfl, ha, hb, hn, hle, h⟩
  refine ⟨Nat.le_of_ble_eq_true rfl, lm_to 20 20 ?_⟩
  conv => whnf
  refine ⟨fun hy => absurd hy (nI_pos (by omega)), fun _ => ?_⟩
  conv => whnf
  refine ⟨fun _ => ?_, fun hy => absurd hle hy⟩
  refine lm_Go.sub (mv_fore a b ha hb (2 * b - 2 * a) (2 * a) S (by omega) (by omega) hn h) (kk_cons rfl (kk_cons rfl (kk_cons rfl (kk_cons ?_ kk_nil))))
  show some (Value.int (S 2 3 * 2)) = some (Value.int (nI (2 * a)))
  rw [hn, nI_m2]
/-! outputs -/
def kd_sho (s : Nat) : Nat → Nat → lm_S → lm_S
  | 0, _, S => S
  | n + 1, k, S => kd_sho s n (k + 1) (lm_set S 8 (nI k).toNatClampNeg (S 8 (nI s + nI k).toNatClampNeg))
def kd_dt (s : Nat) (S : lm_S) : lm_S := lm_set (lm_set S 1 5 (S 1 5 + nI s)) 6 8 8
theorem dr_tail {post : Option Value → lm_S → Prop} (s : Nat) (S : lm_S) (h : post none (kd_dt s S)) : lm_Go YF g_M_dropOldOutputs [] post 44 [(0, .ref 1), (1, .int (nI s))] [] S := by
  refine lm_run 30 ?_
  unfold kd_dt at h
  (try (conv => whnf))
  repeat' first
    | (refine ⟨_, rfl, ?_⟩; conv => whnf)
    | (refine ⟨_, _, rfl, ?_⟩; conv => whnf)
    | (refine ⟨_, _, _, rfl, ?_⟩; conv => whnf)
    | (refine And.intro rfl ?_; conv => whnf)
    | (refine And.intro (lm_vc (by decide)) ?_; conv => whnf)
    | (refine And.intro (by decide) ?_; conv => whnf)
    | (refine ⟨fun hx => absurd hx (by decide), fun _ => ?_⟩; conv => whnf)
    | (refine ⟨fun _ => ?_, fun hx => absurd hx (by decide)⟩; conv => whnf)
    | (refine And.intro (hw hx) ?_; conv => whnf)
    | (refine And.intro hw ?_; conv => whnf)
    | (refine And.intro hw2 ?_; conv => whnf)
    | (refine And.intro hw3 ?_; conv => whnf)
    | (refine And.intro hw4 ?_; conv => whnf)
    | (refine And.intro hw5 ?_; conv => whnf)
    | (refine And.intro hw6 ?_; conv => whnf)
    | (refine And.intro hw7 ?_; conv => whnf)
    | (refine And.intro (hv1 (by assumption)) ?_; conv => whnf)
    | (refine And.intro (hv2 (by assumption) (by assumption)) ?_; conv => whnf)
    | (refine And.intro (hv3 (by assumption) (by assumption)) ?_; conv => whnf)
    | (refine And.intro (lm_v511 _) ?_; conv => whnf)
    | (refine And.intro (lm_v7 _) ?_; conv => whnf)
    | (refine ⟨fun hx => ?_, fun hx => ?_⟩ <;> conv => whnf)
    | (split at h)
    | contradiction
    | exact h
theorem dr_loop {post : Option Value → lm_S → Prop} (s : Nat) (hs : s ≤ 300) : ∀ (m k : Nat) (S : lm_S), k + m = 8 → post none (kd_dt s (kd_sho s m k S)) → lm_Go YF g_M_dropOldOutputs [] post 18 [(0, .ref 1), (1, .int (nI s)), (2, .int (nI k))] [] S
  | 0, k, S, hk, h => by
    refine lm_to 44 20 ?_
    conv => whnf
    have hx : (8 : Int32) ≤ nI k := nI_le (a := 8) (by omega) (by omega)
    refine ⟨fun _ => ?_, fun hy => absurd hx hy⟩
    exact lm_Go.sub (dr_tail s S h) (kk_cons rfl (kk_cons rfl kk_nil))
  | m + 1, k, S, hk, h => by
    refine lm_to 18 30 ?_
    conv => whnf
    have hx : ¬ (8 : Int32) ≤ nI k := nI_ge (b := 8) (by omega) (by omega)
    refine ⟨fun hy => absurd hy hx, fun _ => ?_⟩
    conv => whnf
    refine ⟨by rw [nI_add]; exact vp_in_nI (by omega) (by decide), ?_⟩
    conv => whnf
    refine ⟨vp_in_nI (by omega) (by decide), ?_⟩
    refine lm_Go.sub (dr_loop s hs m (k + 1) _ (by omega) h) (kk_cons rfl (kk_cons rfl (kk_cons ?_ kk_nil)))
    show some (Value.int (nI k + 1)) = some (Value.int (nI (k + 1)))
    rw [nI_1]
def kd_drop (hd : Nat) (S : lm_S) : lm_S := if hd ≤ 8 then S else kd_dt (hd - 8) (kd_sho (hd - 8) 8 0 S)
def s_M_dropOldOutputs : lm_Sp := fun av S post => av = [.ref 1] ∧ ∃ hd : Nat, hd ≤ 308 ∧ S 6 8 = nI hd ∧ post none (kd_drop hd S)
abbrev ca_M_dropOldOutputs : lm_Ca := []
theorem cok_M_dropOldOutputs (l : Launch) : lm_cok l (kk_Y kk_shF) R_M 0 0 ca_M_dropOldOutputs := kk_cok (kk_nil)
set_option maxHeartbeats 1000000 in
set_option maxRecDepth 20000 in
theorem I_M_dropOldOutputs (l : Launch) : lm_I l (kk_Y kk_shF) y_M_dropOldOutputs b_M_dropOldOutputs 3 (none) 0 0 s_M_dropOldOutputs := by
  refine lm_impl g_M_dropOldOutputs ca_M_dropOldOutputs (by decide +kernel) kk_okF ck_M_dropOldOutputs (kk_fok fl_M_ok) (kk_sok sl_M_ok) (Or.inl rfl) (cok_M_dropOldOutputs l) rfl (by decide) ?_
  rintro av S post ⟨rfl, hd, h8, he, h⟩
  refine ⟨Nat.le_of_ble_eq_true rfl, lm_to 18 30 ?_⟩
  conv => whnf
  refine And.intro (lm_vc (by decide)) ?_
  conv => whnf
  have hi : (S 6 8 - 8).toInt = (hd : Int) - 8 := by rw [he]; exact pk_sub_toInt (b := 8) (by omega) (by omega)
  unfold kd_drop at h
  refine ⟨fun hx => ?_, fun hx => ?_⟩
  · have hx2 : (0 : Int32) < S 6 8 - 8 := hx
    rw [Int32.lt_iff_toInt_lt, hi, Int32.toInt_zero] at hx2
    rw [if_neg (by omega)] at h
    refine lm_Go.sub (dr_loop (hd - 8) (by omega) 8 0 S (by omega) h) (kk_cons rfl (kk_cons ?_ (kk_cons rfl kk_nil)))
    show some (Value.int (S 6 8 - 8)) = some (Value.int (nI (hd - 8)))
    rw [he, ← pk_sub (b := 8) (by omega)]
    rfl
  · have hx2 : ¬ (0 : Int32) < S 6 8 - 8 := hx
    rw [Int32.lt_iff_toInt_lt, hi, Int32.toInt_zero] at hx2
    rw [if_pos (by omega)] at h
    exact h
/-! inputs -/
def kd_shi : Nat → Nat → lm_S → lm_S
  | 0, _, S => S
  | n + 1, k, S => kd_shi n (k + 1) (lm_set S 7 (nI k).toNatClampNeg (S 7 (S 6 7 + nI k).toNatClampNeg))
def kd_ai (w : Nat) (v : Int32) (S : lm_S) : lm_S := if 40 ≤ nI w then lm_set (lm_set S 6 7 0) 1 3 (nI w) else lm_set (lm_set (lm_set (lm_set S 6 7 0) 1 3 (nI w)) 7 (nI w).toNatClampNeg v) 1 3 (nI w + 1)
abbrev ca_ai : lm_Ca := [(34, 0, (some 1), s_M_inputsWaiting)]
theorem ai_tail {post : Option Value → lm_S → Prop} (w : Nat) (v : Int32) (S : lm_S) (h : post none (kd_ai w v S)) (hw2 : w ≤ 40) : lm_Go YF g_M_addInput ca_ai post 38 [(0, .ref 1), (1, .int v), (2, .int (nI w))] [] S := by
  refine lm_run 40 ?_
  have hw : ¬ 40 ≤ nI w → vp_in (nI w) 40 := fun hx => lm_vb (nI_pos (by omega)) hx (by decide)
  unfold kd_ai at h
  (try (conv => whnf))
  repeat' first
    | (refine ⟨_, rfl, ?_⟩; conv => whnf)
    | (refine ⟨_, _, rfl, ?_⟩; conv => whnf)
    | (refine ⟨_, _, _, rfl, ?_⟩; conv => whnf)
    | (refine And.intro rfl ?_; conv => whnf)
    | (refine And.intro (lm_vc (by decide)) ?_; conv => whnf)
    | (refine And.intro (by decide) ?_; conv => whnf)
    | (refine ⟨fun hx => absurd hx (by decide), fun _ => ?_⟩; conv => whnf)
    | (refine ⟨fun _ => ?_, fun hx => absurd hx (by decide)⟩; conv => whnf)
    | (refine And.intro (hw hx) ?_; conv => whnf)
    | (refine And.intro hw ?_; conv => whnf)
    | (refine And.intro hw2 ?_; conv => whnf)
    | (refine And.intro hw3 ?_; conv => whnf)
    | (refine And.intro hw4 ?_; conv => whnf)
    | (refine And.intro hw5 ?_; conv => whnf)
    | (refine And.intro hw6 ?_; conv => whnf)
    | (refine And.intro hw7 ?_; conv => whnf)
    | (refine And.intro (hv1 (by assumption)) ?_; conv => whnf)
    | (refine And.intro (hv2 (by assumption) (by assumption)) ?_; conv => whnf)
    | (refine And.intro (hv3 (by assumption) (by assumption)) ?_; conv => whnf)
    | (refine And.intro (lm_v511 _) ?_; conv => whnf)
    | (refine And.intro (lm_v7 _) ?_; conv => whnf)
    | (refine ⟨fun hx => ?_, fun hx => ?_⟩ <;> conv => whnf)
    | (split at h)
    | contradiction
    | exact h
theorem ai_loop {post : Option Value → lm_S → Prop} (w tk : Nat) (v : Int32) (hs : tk + w ≤ 40) : ∀ (m k : Nat) (S : lm_S), k + m = w → S 6 7 = nI tk → post none (kd_ai w v (kd_shi m k S)) → lm_Go YF g_M_addInput ca_ai post 7 [(0, .ref 1), (1, .int v), (2, .int (nI w)), (3, .int (nI k))] [] S
  | 0, k, S, hk, ht, h => by
    refine lm_to 38 20 ?_
    conv => whnf
    have hx : nI w ≤ nI k := nI_le (by omega) (by omega)
    refine ⟨fun _ => ?_, fun hy => absurd hx hy⟩
    exact lm_Go.sub (ai_tail w v S h (by omega)) (kk_cons rfl (kk_cons rfl (kk_cons rfl kk_nil)))
  | m + 1, k, S, hk, ht, h => by
    refine lm_to 7 30 ?_
    conv => whnf
    have hx : ¬ nI w ≤ nI k := nI_ge (by omega) (by omega)
    refine ⟨fun hy => absurd hy hx, fun _ => ?_⟩
    conv => whnf
    refine ⟨lm_vc (by decide), ?_⟩
    conv => whnf
    refine ⟨?_, ?_⟩
    · show vp_in (S 6 7 + nI k) 40
      rw [ht, nI_add]; exact vp_in_nI (by omega) (by decide)
    conv => whnf
    refine ⟨vp_in_nI (by omega) (by decide), ?_⟩
    refine lm_Go.sub (ai_loop w tk v hs m (k + 1) (lm_set S 7 (nI k).toNatClampNeg (S 7 (S 6 7 + nI k).toNatClampNeg)) (by omega) ht h) (kk_cons rfl (kk_cons rfl (kk_cons rfl (kk_cons ?_ kk_nil))))
    show some (Value.int (nI k + 1)) = some (Value.int (nI (k + 1)))
    rw [nI_1]
def s_M_addInput : lm_Sp := fun av S post => ∃ (v : Int32) (tk w : Nat), av = [.ref 1, .int v] ∧ tk + w ≤ 40 ∧ S 6 7 = nI tk ∧ S 1 3 = nI (tk + w) ∧ post none (kd_ai w v (kd_shi w 0 S))
abbrev ca_M_addInput : lm_Ca := [(34, 0, (some 1), s_M_inputsWaiting)]
theorem cok_M_addInput (l : Launch) : lm_cok l (kk_Y kk_shF) R_M 1 20 ca_M_addInput := kk_cok (kk_cons ⟨y_M_inputsWaiting, b_M_inputsWaiting, 1, some .int, 0, 0, I_M_inputsWaiting l, ⟨by decide, by decide⟩, yw_M_inputsWaiting, li_M_34⟩ <| kk_nil)
set_option maxHeartbeats 1000000 in
set_option maxRecDepth 20000 in
theorem I_M_addInput (l : Launch) : lm_I l (kk_Y kk_shF) y_M_addInput b_M_addInput 4 (none) 1 20 s_M_addInput := by
  refine lm_impl g_M_addInput ca_M_addInput (by decide +kernel) kk_okF ck_M_addInput (kk_fok fl_M_ok) (kk_sok sl_M_ok) (Or.inl rfl) (cok_M_addInput l) rfl (by decide) ?_
  rintro av S post ⟨v, tk, w, rfl, h4, h7, h3, h⟩
  refine ⟨Nat.le_of_ble_eq_true rfl, lm_to 7 30 ?_⟩
  conv => whnf
  refine And.intro rfl ?_
  refine lm_Go.sub (ai_loop w tk v h4 w 0 S (by omega) h7 h) (kk_cons rfl (kk_cons rfl (kk_cons ?_ (kk_cons rfl kk_nil))))
  show some (Value.int (S 1 3 - S 6 7)) = some (Value.int (nI w))
  rw [h3, h7, pk_sub (by omega), Nat.add_sub_cancel_left]
end
section
/-! what a step leaves as it is -/
def kd_fr (S1 S : lm_S) : Prop := ∀ i, i ≠ 1 → i ≠ 5 → i ≠ 6 → i ≠ 8 → i ≠ 9 → i ≠ 10 → S1 i = S i
theorem kd_fr.rf (S : lm_S) : kd_fr S S := fun _ _ _ _ _ _ _ => rfl
theorem kd_fr.tr {S2 S1 S : lm_S} (h : kd_fr S2 S1) (g : kd_fr S1 S) : kd_fr S2 S := fun i a b c d e f => (h i a b c d e f).trans (g i a b c d e f)
theorem kd_fr.st {S1 S : lm_S} (h : kd_fr S1 S) {i k : Nat} {x : Int32} (hi : i = 1 ∨ i = 5 ∨ i = 6 ∨ i = 8 ∨ i = 9 ∨ i = 10) : kd_fr (lm_set S1 i k x) S := by
  intro j h1 h5 h6 h8 h9 h10
  show va_up S1 i (upd (S1 i) k x) j = S j
  rw [va_up_ne _ _ (by omega)]
  exact h j h1 h5 h6 h8 h9 h10
theorem kd_fr.it {c : Prop} [Decidable c] {A B S : lm_S} (h : kd_fr A S) (g : kd_fr B S) : kd_fr (if c then A else B) S := by
  split
  · exact h
  · exact g
theorem fr_note (r : Int32) (S : lm_S) : kd_fr (kd_note r S) S := (kd_fr.rf S).st (by omega)
theorem fr_flag (f o : Int32) (S : lm_S) : kd_fr (kd_flag f o S) S := (kd_fr.rf S).st (by omega)
theorem fr_load (g v : Int32) (S : lm_S) : kd_fr (kd_load g v S) S := (fr_note _ _).tr ((kd_fr.rf S).st (by omega))
theorem fr_wcell (a v : Int32) (S : lm_S) : kd_fr (kd_wcell a v S) S := ((kd_fr.rf S).it (((((kd_fr.rf S).st (by omega)).st (by omega)).st (by omega)))).st (by omega)
theorem fr_take (S : lm_S) : kd_fr (kd_take S) S := (kd_fr.rf S).st (by omega)
theorem fr_push (v : Int32) (S : lm_S) : kd_fr (kd_push v S) S := (fr_wcell _ _ _).st (by omega)
theorem fr_wplace (p v : Int32) (S : lm_S) : kd_fr (kd_wplace p v S) S := ((kd_fr.rf S).st (by omega)).it (fr_wcell _ _ _)
theorem fr_forget (S : lm_S) : kd_fr (kd_forget S) S := (((kd_fr.rf S).st (by omega)).st (by omega)).st (by omega)
theorem fr_add2 (a t c : Int32) (S : lm_S) : kd_fr (kd_add2 a t c S) S := (fr_flag _ _ _).tr (fr_load _ _ _)
theorem fr_add (t : Int32) (S : lm_S) : kd_fr (kd_add t S) S := (fr_flag _ _ _).tr (fr_add2 _ _ _ _)
theorem fr_cmp (v t : Int32) (S : lm_S) : kd_fr (kd_cmp v t S) S := (fr_flag _ _ _).tr (fr_note _ _)
theorem fr_test (t : Int32) (S : lm_S) : kd_fr (kd_test t S) S := (fr_flag _ _ _).tr ((fr_flag _ _ _).tr (fr_flag _ _ _))
theorem fr_altc (op t : Int32) (S : lm_S) : kd_fr (kd_altc op t S) S := (fr_flag _ _ _).it ((fr_flag _ _ _).it ((fr_flag _ _ _).it ((fr_flag _ _ _).it (kd_fr.rf S))))
theorem fr_alter (op p t : Int32) (S : lm_S) : kd_fr (kd_alter op p t S) S := (fr_wplace _ _ _).tr ((fr_note _ _).tr (fr_altc _ _ _))
theorem fr_jump (ar md p : Int32) (S : lm_S) : kd_fr (kd_jump ar md p S) S := (kd_fr.rf S).it ((kd_fr.rf S).it (((kd_fr.rf S).st (by omega)).it (((fr_push _ _).tr (fr_push _ _)).st (by omega))))
theorem fr_in (S : lm_S) : kd_fr (kd_in S) S := (((fr_flag _ _ _).tr (fr_load _ _ _)).st (by omega)).it (((fr_flag _ _ _).tr (fr_load _ _ _)).st (by omega))
theorem fr_out (S : lm_S) : kd_fr (kd_out S) S := (kd_fr.rf S).it (((kd_fr.rf S).st (by omega)).st (by omega))
theorem fr_move (md : Int32) (S : lm_S) : kd_fr (kd_move md S) S := (fr_load _ _ _).it ((fr_load _ _ _).it ((fr_load _ _ _).it ((fr_load _ _ _).it ((fr_load _ _ _).it (((kd_fr.rf S).st (by omega)).it ((fr_load _ _ _).it (fr_load _ _ _)))))))
theorem fr_small (md : Int32) (S : lm_S) : kd_fr (kd_small md S) S := (fr_load _ _ _).it ((fr_load _ _ _).it ((fr_flag _ _ _).it ((fr_flag _ _ _).it ((fr_flag _ _ _).it (kd_fr.rf S)))))
theorem fr_hop (o : Int32) (S : lm_S) : kd_fr (kd_hop o S) S := (kd_fr.rf S).st (by omega)
theorem fr_branch (md o : Int32) (S : lm_S) : kd_fr (kd_branch md o S) S := ((fr_hop _ _).it (kd_fr.rf S)).it ((kd_fr.rf S).it (fr_hop _ _))
theorem fr_stack (md : Int32) (S : lm_S) : kd_fr (kd_stack md S) S := (((fr_take _).tr (fr_take _)).st (by omega)).it ((fr_push _ _).it (((fr_load _ _ _).tr (fr_take _)).it ((fr_push _ _).it (((fr_take _).st (by omega)).it (((kd_fr.rf S).st (by omega)).it ((fr_in _).it (fr_out _)))))))
theorem fr_workt (op p t : Int32) (S : lm_S) : kd_fr (kd_workt op p t S) S := (((fr_add _ _).it ((fr_add _ _).it (((fr_test _ _).it (fr_alter _ _ _ _)).it (fr_cmp _ _ _) |>.it (fr_load _ _ _)))).it (fr_wplace _ _ _)).it (fr_load _ _ _)
theorem fr_work (op p : Int32) (S : lm_S) : kd_fr (kd_work op p S) S := (fr_workt _ _ _ _).it (fr_workt _ _ _ _)
theorem fr_disp (op md o p : Int32) (S : lm_S) : kd_fr (kd_disp op md o p S) S := (((fr_stack _ _).it ((fr_move _ _).it ((fr_small _ _).it ((fr_branch _ _ _).it (kd_fr.rf S))))).it ((fr_jump _ _ _ _).it (fr_jump _ _ _ _))).it (fr_work _ _ _)
theorem fr_step (S : lm_S) : kd_fr (kd_step S) S := (fr_disp _ _ _ _ _).tr (((kd_fr.rf _).st (by omega)).tr (fr_forget S))
end
section
/-! the desk's own methods -/
def s_D_beginAnew : lm_Sp := fun av S post => av = [.ref 0] ∧ ∃ hd : Nat, hd ≤ 308 ∧ S 6 8 = nI hd ∧ post none (kd_begin (kd_drop hd S))
abbrev ca_D_beginAnew : lm_Ca := [(33, 1, (some 2), s_H_begin), (100, 0, (some 1), s_M_dropOldOutputs)]
theorem cok_D_beginAnew (l : Launch) : lm_cok l (kk_Y kk_shF) R_D 3 68 ca_D_beginAnew := kk_cok (kk_cons ⟨y_H_begin, b_H_begin, 2, none, 2, 47, I_H_begin l, ⟨by decide, by decide⟩, yw_H_begin, li_D_33⟩ <| kk_cons ⟨y_M_dropOldOutputs, b_M_dropOldOutputs, 3, none, 0, 0, I_M_dropOldOutputs l, ⟨by decide, by decide⟩, yw_M_dropOldOutputs, li_D_100⟩ <| kk_nil)
set_option maxHeartbeats 1000000 in
set_option maxRecDepth 20000 in
theorem I_D_beginAnew (l : Launch) : lm_I l (kk_Y kk_shF) y_D_beginAnew b_D_beginAnew 1 (none) 3 68 s_D_beginAnew := by
  refine lm_impl g_D_beginAnew ca_D_beginAnew (by decide +kernel) kk_okF ck_D_beginAnew (kk_fok fl_D_ok) (kk_sok sl_D_ok) (Or.inl rfl) (cok_D_beginAnew l) rfl (by decide) ?_
  rintro av S post ⟨rfl, hd, h8, he, h⟩
  refine ⟨Nat.le_of_ble_eq_true rfl, lm_run 60 ?_⟩
  conv => whnf
  refine ⟨rfl, hd, h8, he, ?_⟩
  conv => whnf
  refine ⟨rfl, ?_⟩
  exact h
theorem kd_isR_in {a : Int32} (h : ¬ kd_isR a = 0) : vp_in a 7 := by
  unfold kd_isR at h
  split at h
  · exact absurd rfl h
  · split at h
    · exact absurd rfl h
    · rename_i h1 h2
      rw [vp_in_iff]
      rw [Int32.lt_iff_toInt_lt, Int32.toInt_zero] at h1
      rw [Int32.lt_iff_toInt_lt, show (6 : Int32).toInt = 6 from by decide] at h2
      omega
theorem vp_in_up {x : Int32} {n m : Nat} (h : vp_in x n) (hm : n ≤ m) : vp_in x m := by
  rw [vp_in_iff] at *
  omega
theorem vp_in_ne {x c : Int32} {n : Nat} (h : vp_in x (n + 1)) (hc : c.toInt = (n : Int)) (hx : ¬ x = c) : vp_in x n := by
  rw [vp_in_iff] at *
  have : ¬ x.toInt = (n : Int) := fun q => hx (Int32.toInt_inj.mp (by rw [hc]; exact q))
  omega
def kd_poke (hd : Nat) (a v : Int32) (S : lm_S) : lm_S := if kd_isA a = 0 then S else kd_begin (kd_drop hd (lm_set S 5 a.toNatClampNeg (v &&& 255)))
def s_D_poke : lm_Sp := fun av S post => ∃ (a v : Int32) (hd : Nat), av = [.ref 0, .int a, .int v] ∧ hd ≤ 308 ∧ S 6 8 = nI hd ∧ post (some (.int (if kd_isA a = 0 then 0 else 1))) (kd_poke hd a v S)
abbrev ca_D_poke : lm_Ca := [(37, 1, none, s_D_isAddress), (45, 0, (some 0), s_D_beginAnew)]
theorem cok_D_poke (l : Launch) : lm_cok l (kk_Y kk_shF) R_D 4 88 ca_D_poke := kk_cok (kk_cons ⟨y_D_isAddress, b_D_isAddress, 1, some .boolean, 0, 0, I_D_isAddress l, ⟨by decide, by decide⟩, yw_D_isAddress, li_D_37⟩ <| kk_cons ⟨y_D_beginAnew, b_D_beginAnew, 1, none, 3, 68, I_D_beginAnew l, ⟨by decide, by decide⟩, yw_D_beginAnew, li_D_45⟩ <| kk_nil)
set_option maxHeartbeats 1000000 in
set_option maxRecDepth 20000 in
theorem I_D_poke (l : Launch) : lm_I l (kk_Y kk_shF) y_D_poke b_D_poke 3 (some .boolean) 4 88 s_D_poke := by
  refine lm_impl g_D_poke ca_D_poke (by decide +kernel) kk_okF ck_D_poke (kk_fok fl_D_ok) (kk_sok sl_D_ok) (Or.inl rfl) (cok_D_poke l) rfl (by decide) ?_
  rintro av S post ⟨a, v, hd, rfl, h8, he, h⟩
  have hw : ¬ kd_isA a = 0 → vp_in a 512 := kd_isA_in
  refine ⟨Nat.le_of_ble_eq_true rfl, lm_run 60 ?_⟩
  unfold kd_poke at h
  conv => whnf
  refine ⟨_, rfl, ?_⟩
  conv => whnf
  refine ⟨fun hx => ?_, fun hx => ?_⟩
  · rw [if_neg hx, if_neg hx] at h
    conv => whnf
    refine ⟨hw hx, ?_⟩
    conv => whnf
    refine ⟨rfl, hd, h8, he, ?_⟩
    conv => whnf
    exact ⟨by decide, h⟩
  · rw [if_pos hx, if_pos hx] at h
    conv => whnf
    exact ⟨by decide, h⟩
def kd_setv (k v : Int32) (S : lm_S) : lm_S := if k = 6 then lm_set S 6 6 (if v = 0 then 0 else 1) else lm_set S 6 k.toNatClampNeg (v &&& ([255, 255, 255, 255, 195, 511] : List Int32).getD k.toNatClampNeg 0)
def kd_sets (hd : Nat) (k v : Int32) (S : lm_S) : lm_S := if kd_isR k = 0 then S else kd_begin (kd_drop hd (kd_setv k v S))
def s_D_set : lm_Sp := fun av S post => ∃ (k v : Int32) (hd : Nat), av = [.ref 0, .int k, .int v] ∧ hd ≤ 308 ∧ S 6 8 = nI hd ∧ post (some (.int (if kd_isR k = 0 then 0 else 1))) (kd_sets hd k v S)
abbrev ca_D_set : lm_Ca := [(45, 0, (some 0), s_D_beginAnew), (48, 1, none, s_D_isRegister)]
theorem cok_D_set (l : Launch) : lm_cok l (kk_Y kk_shF) R_D 4 88 ca_D_set := kk_cok (kk_cons ⟨y_D_beginAnew, b_D_beginAnew, 1, none, 3, 68, I_D_beginAnew l, ⟨by decide, by decide⟩, yw_D_beginAnew, li_D_45⟩ <| kk_cons ⟨y_D_isRegister, b_D_isRegister, 1, some .boolean, 0, 0, I_D_isRegister l, ⟨by decide, by decide⟩, yw_D_isRegister, li_D_48⟩ <| kk_nil)
set_option maxHeartbeats 1000000 in
set_option maxRecDepth 20000 in
theorem I_D_set (l : Launch) : lm_I l (kk_Y kk_shF) y_D_set b_D_set 3 (some .boolean) 4 88 s_D_set := by
  refine lm_impl g_D_set ca_D_set (by decide +kernel) kk_okF ck_D_set (kk_fok fl_D_ok) (kk_sok sl_D_ok) (Or.inl rfl) (cok_D_set l) rfl (by decide) ?_
  rintro av S post ⟨k, v, hd, rfl, h8, he, h⟩
  refine ⟨Nat.le_of_ble_eq_true rfl, lm_run 60 ?_⟩
  unfold kd_sets kd_setv at h
  conv => whnf
  refine ⟨_, rfl, ?_⟩
  conv => whnf
  refine ⟨fun hx => ?_, fun hx => ?_⟩
  · rw [if_neg hx, if_neg hx] at h
    have h7 := kd_isR_in hx
    conv => whnf
    refine ⟨fun h6 => ?_, fun h6 => ?_⟩
    · rw [if_neg h6] at h
      have h66 : vp_in k 6 := vp_in_ne h7 (c := 6) (by decide) h6
      conv => whnf
      refine ⟨h66, ?_⟩
      conv => whnf
      refine ⟨vp_in_up h7 (by omega), ?_⟩
      conv => whnf
      refine ⟨rfl, hd, h8, ?_, ?_⟩
      · rw [← he]
        obtain ⟨j, hj, rfl⟩ := vp_in_of h7 (by decide)
        show (lm_set S 6 _ _) 6 8 = _
        simp only [lm_set, va_up, upd, if_true, nI_clamp (show j < 2 ^ 31 by omega)]
        rw [if_neg (by omega)]
      conv => whnf
      exact ⟨by decide, h⟩
    · rw [if_pos h6] at h
      conv => whnf
      refine ⟨fun hv => ?_, fun hv => ?_⟩
      · rw [if_pos hv] at h
        conv => whnf
        refine ⟨lm_vc (by decide), ?_⟩
        conv => whnf
        refine ⟨rfl, hd, h8, he, ?_⟩
        conv => whnf
        exact ⟨by decide, h⟩
      · rw [if_neg hv] at h
        conv => whnf
        refine ⟨lm_vc (by decide), ?_⟩
        conv => whnf
        refine ⟨rfl, hd, h8, he, ?_⟩
        conv => whnf
        exact ⟨by decide, h⟩
  · rw [if_pos hx, if_pos hx] at h
    conv => whnf
    exact ⟨by decide, h⟩
def kd_feed (hd w : Nat) (v : Int32) (S : lm_S) : lm_S := if w < 40 then kd_begin (kd_drop hd (kd_ai w (v &&& 255) (kd_shi w 0 S))) else S
theorem kd_shi_6 : ∀ (m k : Nat) (S : lm_S) (i : Nat), i ≠ 7 → (kd_shi m k S) i = S i
  | 0, _, _, _, _ => rfl
  | m + 1, k, S, i, hi => by
    rw [kd_shi, kd_shi_6 m (k + 1) _ i hi]
    exact va_up_ne _ _ hi
def s_D_feed : lm_Sp := fun av S post => ∃ (v : Int32) (hd tk w : Nat), av = [.ref 0, .int v] ∧ hd ≤ 308 ∧ S 6 8 = nI hd ∧ tk + w ≤ 40 ∧ S 6 7 = nI tk ∧ S 1 3 = nI (tk + w) ∧ post (some (.int (if w < 40 then 1 else 0))) (kd_feed hd w v S)
abbrev ca_D_feed : lm_Ca := [(45, 0, (some 0), s_D_beginAnew), (57, 0, (some 1), s_M_inputsWaiting), (61, 1, (some 1), s_M_addInput)]
theorem cok_D_feed (l : Launch) : lm_cok l (kk_Y kk_shF) R_D 4 88 ca_D_feed := kk_cok (kk_cons ⟨y_D_beginAnew, b_D_beginAnew, 1, none, 3, 68, I_D_beginAnew l, ⟨by decide, by decide⟩, yw_D_beginAnew, li_D_45⟩ <| kk_cons ⟨y_M_inputsWaiting, b_M_inputsWaiting, 1, some .int, 0, 0, I_M_inputsWaiting l, ⟨by decide, by decide⟩, yw_M_inputsWaiting, li_D_57⟩ <| kk_cons ⟨y_M_addInput, b_M_addInput, 4, none, 1, 20, I_M_addInput l, ⟨by decide, by decide⟩, yw_M_addInput, li_D_61⟩ <| kk_nil)
set_option maxHeartbeats 1000000 in
set_option maxRecDepth 20000 in
theorem I_D_feed (l : Launch) : lm_I l (kk_Y kk_shF) y_D_feed b_D_feed 2 (some .boolean) 4 88 s_D_feed := by
  refine lm_impl g_D_feed ca_D_feed (by decide +kernel) kk_okF ck_D_feed (kk_fok fl_D_ok) (kk_sok sl_D_ok) (Or.inl rfl) (cok_D_feed l) rfl (by decide) ?_
  rintro av S post ⟨v, hd, tk, w, rfl, h8, he, h4, h7, h3, h⟩
  refine ⟨Nat.le_of_ble_eq_true rfl, lm_run 60 ?_⟩
  unfold kd_feed at h
  have ew : S 1 3 - S 6 7 = nI w := by rw [h3, h7, pk_sub (by omega), Nat.add_sub_cancel_left]
  conv => whnf
  refine ⟨rfl, ?_⟩
  conv => whnf
  refine ⟨fun hx => ?_, fun hx => ?_⟩
  · have hx2 : S 1 3 - S 6 7 < 40 := hx
    rw [ew] at hx2
    have hx3 : w < 40 := (nI_ltI (b := 40) (by omega) (by omega)).mp hx2
    rw [if_pos hx3, if_pos hx3] at h
    conv => whnf
    refine ⟨_, tk, w, rfl, h4, h7, h3, ?_⟩
    conv => whnf
    refine ⟨rfl, hd, h8, ?_, ?_⟩
    · rw [← he]
      have e1 : (kd_ai w (v &&& 255) (kd_shi w 0 S)) 6 8 = (kd_shi w 0 S) 6 8 := by
        unfold kd_ai
        split <;> rfl
      rw [show ((kd_ai w (v &&& 255) (kd_shi w 0 S)) 6 8 = S 6 8) ↔ ((kd_shi w 0 S) 6 8 = S 6 8) from by rw [e1]]
      rw [kd_shi_6 w 0 S 6 (by omega)]
    conv => whnf
    exact ⟨by decide, h⟩
  · have hx2 : ¬ S 1 3 - S 6 7 < 40 := hx
    rw [ew] at hx2
    have hx3 : ¬ w < 40 := fun q => hx2 ((nI_ltI (b := 40) (by omega) (by omega)).mpr q)
    rw [if_neg hx3, if_neg hx3] at h
    conv => whnf
    exact ⟨by decide, h⟩
def kd_sor (a n : Nat) (S : lm_S) : Int32 := if a < n then 1 else if S 6 6 = 0 then (if n < 300 then 1 else 0) else 0
def kd_sos (a n : Nat) (S : lm_S) : lm_S := if a < n then kd_mv a (a + 1) S else if S 6 6 = 0 then (if n < 300 then kd_app (kd_step S) else S) else S
def kd_an (a n : Nat) (S : lm_S) : Prop := S 2 3 = nI a ∧ S 2 4 = nI n ∧ a ≤ n ∧ n ≤ 300
def s_D_stepOn : lm_Sp := fun av S post => ∃ a n : Nat, av = [.ref 0] ∧ kd_an a n S ∧ kd_ok S ∧ post (some (.int (kd_sor a n S))) (kd_sos a n S)
abbrev ca_D_stepOn : lm_Ca := [(76, 2, (some 2), s_H_moveTo), (103, 0, (some 1), s_M_makeStep), (106, 1, (some 2), s_H_append)]
theorem cok_D_stepOn (l : Launch) : lm_cok l (kk_Y kk_shF) R_D 5 117 ca_D_stepOn := kk_cok (kk_cons ⟨y_H_moveTo, b_H_moveTo, 4, none, 2, 44, I_H_moveTo l, ⟨by decide, by decide⟩, yw_H_moveTo, li_D_76⟩ <| kk_cons ⟨y_M_makeStep, b_M_makeStep, 6, none, 4, 92, I_M_makeStep l, ⟨by decide, by decide⟩, yw_M_makeStep, li_D_103⟩ <| kk_cons ⟨y_H_append, b_H_append, 3, none, 2, 47, I_H_append l, ⟨by decide, by decide⟩, yw_H_append, li_D_106⟩ <| kk_nil)
set_option maxHeartbeats 1000000 in
set_option maxRecDepth 20000 in
theorem I_D_stepOn (l : Launch) : lm_I l (kk_Y kk_shF) y_D_stepOn b_D_stepOn 1 (some .boolean) 5 117 s_D_stepOn := by
  refine lm_impl g_D_stepOn ca_D_stepOn (by decide +kernel) kk_okF ck_D_stepOn (kk_fok fl_D_ok) (kk_sok sl_D_ok) (Or.inl rfl) (cok_D_stepOn l) rfl (by decide) ?_
  rintro av S post ⟨a, n, rfl, ⟨h3, h4, han, hn⟩, hok, h⟩
  refine ⟨Nat.le_of_ble_eq_true rfl, lm_run 60 ?_⟩
  unfold kd_sor kd_sos at h
  conv => whnf
  refine ⟨fun hx => ?_, fun hx => ?_⟩
  · have hx2 : ¬ a < n := by
      have q : S 2 4 ≤ S 2 3 := hx
      rw [h3, h4, nI_leI (by omega) (by omega)] at q
      omega
    rw [if_neg hx2, if_neg hx2] at h
    conv => whnf
    refine ⟨lm_vc (by decide), ?_⟩
    conv => whnf
    refine ⟨fun (h6 : ¬ S 6 6 = 0) => ?_, fun (h6 : S 6 6 = 0) => ?_⟩
    · rw [if_neg h6, if_neg h6] at h
      conv => whnf
      exact ⟨by decide, h⟩
    · rw [if_pos h6, if_pos h6] at h
      conv => whnf
      refine ⟨fun hq => ?_, fun hq => ?_⟩
      · have hq2 : n < 300 := by
          have q : S 2 4 < 300 := hq
          rw [h4] at q
          exact (nI_ltI (b := 300) (by omega) (by omega)).mp q
        rw [if_pos hq2, if_pos hq2] at h
        conv => whnf
        refine ⟨rfl, hok, ?_⟩
        conv => whnf
        refine ⟨rfl, ⟨n, hq2, ?_⟩, ?_⟩
        · rw [← h4]
          exact congrFun (fr_step S 2 (by omega) (by omega) (by omega) (by omega) (by omega) (by omega)) 4
        conv => whnf
        exact ⟨by decide, h⟩
      · have hq2 : ¬ n < 300 := by
          have q : ¬ S 2 4 < 300 := hq
          rw [h4] at q
          exact fun z => q ((nI_ltI (b := 300) (by omega) (by omega)).mpr z)
        rw [if_neg hq2, if_neg hq2] at h
        conv => whnf
        exact ⟨by decide, h⟩
  · have hx2 : a < n := by
      have q : ¬ S 2 4 ≤ S 2 3 := hx
      rw [h3, h4, nI_leI (by omega) (by omega)] at q
      omega
    rw [if_pos hx2, if_pos hx2] at h
    conv => whnf
    refine ⟨a, a + 1, ?_, by omega, by omega, h3, ?_, ?_⟩
    · show [Value.ref 2, Value.int (S 2 3 + 1), Value.ref 1] = _
      rw [h3, nI_1]
    · rw [h4]
      exact nI_le (by omega) (by omega)
    conv => whnf
    exact ⟨by decide, h⟩
def kd_met (t : Int32) (S : lm_S) : Int32 := if kd_has 14 (kd_ctr t S) S = 0 then (if kd_has 15 (kd_pw2 t 0 S) S = 0 then (if kd_has 15 (kd_pw2 t 1 S) S = 0 then 0 else 1) else 1) else 1
def s_D_isMet : lm_Sp := fun av S post => ∃ t n : Nat, av = [.ref 0, .int (nI t)] ∧ S 2 4 = nI n ∧ n ≤ 300 ∧ t ≤ 300 ∧ post (some (.int (kd_met (nI t) S))) S
theorem kd_t9 (t : Nat) (ht : t ≤ 300) : vp_in (nI t * 9 + 5) 2709 := by
  rw [show nI t * 9 = nI (t * 9) from pk_mul t 9, show (5 : Int32) = nI 5 from rfl, nI_add]
  exact vp_in_nI (by omega) (by decide)
theorem kd_t2 (t n k : Nat) (c : Int32) (hc : c = nI k) (hk : k < 2) (x : Int32) (hx : x = nI n) (hn : n ≤ 300) (ht : t ≤ 300) (h : nI t < x) : vp_in (nI t * 2 + c) 600 := by
  rw [hx, nI_ltI (by omega) (by omega)] at h
  rw [nI_m2, hc, nI_add]
  exact vp_in_nI (by omega) (by decide)
abbrev ca_D_isMet : lm_Ca := [(65, 1, (some 3), s_K_has), (109, 1, (some 2), s_H_counterAt), (112, 2, (some 2), s_H_placeWritten)]
theorem cok_D_isMet (l : Launch) : lm_cok l (kk_Y kk_shF) R_D 2 41 ca_D_isMet := kk_cok (kk_cons ⟨y_K_has, b_K_has, 2, some .boolean, 1, 20, I_K_has l, ⟨by decide, by decide⟩, yw_K_has, li_D_65⟩ <| kk_cons ⟨y_H_counterAt, b_H_counterAt, 2, some .int, 0, 0, I_H_counterAt l, ⟨by decide, by decide⟩, yw_H_counterAt, li_D_109⟩ <| kk_cons ⟨y_H_placeWritten, b_H_placeWritten, 3, some .int, 0, 0, I_H_placeWritten l, ⟨by decide, by decide⟩, yw_H_placeWritten, li_D_112⟩ <| kk_nil)
set_option maxHeartbeats 1000000 in
set_option maxRecDepth 20000 in
theorem I_D_isMet (l : Launch) : lm_I l (kk_Y kk_shF) y_D_isMet b_D_isMet 2 (some .boolean) 2 41 s_D_isMet := by
  refine lm_impl g_D_isMet ca_D_isMet (by decide +kernel) kk_okF ck_D_isMet (kk_fok fl_D_ok) (kk_sok sl_D_ok) (Or.inl rfl) (cok_D_isMet l) rfl (by decide) ?_
  rintro av S post ⟨t, n, rfl, h4, hn, ht, h⟩
  refine ⟨Nat.le_of_ble_eq_true rfl, lm_run 60 ?_⟩
  unfold kd_met at h
  have f0 : ¬ nI t < 0 → nI t < S 2 4 → vp_in (nI t * 2 + 0) 600 := fun _ q => kd_t2 t n 0 0 rfl (by omega) _ h4 hn ht q
  have f1 : ¬ nI t < 0 → nI t < S 2 4 → vp_in (nI t * 2 + 1) 600 := fun _ q => kd_t2 t n 1 1 rfl (by omega) _ h4 hn ht q
  conv => whnf
  refine ⟨_, rfl, fun _ _ => kd_t9 t ht, ?_⟩
  conv => whnf
  refine ⟨_, _, rfl, Or.inl rfl, ?_⟩
  conv => whnf
  refine ⟨fun hx => ?_, fun hx => ?_⟩
  · rw [if_neg hx] at h
    conv => whnf
    exact ⟨by decide, h⟩
  · rw [if_pos hx] at h
    conv => whnf
    refine ⟨_, _, rfl, f0, ?_⟩
    conv => whnf
    refine ⟨_, _, rfl, Or.inr rfl, ?_⟩
    conv => whnf
    refine ⟨fun hx => ?_, fun hx => ?_⟩
    · rw [if_neg hx] at h
      conv => whnf
      exact ⟨by decide, h⟩
    · rw [if_pos hx] at h
      conv => whnf
      refine ⟨_, _, rfl, f1, ?_⟩
      conv => whnf
      refine ⟨_, _, rfl, Or.inr rfl, ?_⟩
      conv => whnf
      refine ⟨fun hx => ?_, fun hx => ?_⟩
      · rw [if_pos hx] at h
        conv => whnf
        exact ⟨by decide, h⟩
      · rw [if_neg hx] at h
        conv => whnf
        exact ⟨by decide, h⟩
def s_D_time : lm_Sp := fun av S post => av = [.ref 0] ∧ post (some (.int (S 2 3))) S
abbrev ca_D_time : lm_Ca := []
theorem cok_D_time (l : Launch) : lm_cok l (kk_Y kk_shF) R_D 0 0 ca_D_time := kk_cok (kk_nil)
set_option maxHeartbeats 1000000 in
set_option maxRecDepth 20000 in
theorem I_D_time (l : Launch) : lm_I l (kk_Y kk_shF) y_D_time b_D_time 1 (some .int) 0 0 s_D_time := by
  refine lm_impl g_D_time ca_D_time (by decide +kernel) kk_okF ck_D_time (kk_fok fl_D_ok) (kk_sok sl_D_ok) (Or.inl rfl) (cok_D_time l) rfl (by decide) ?_
  rintro av S post ⟨rfl, h⟩
  exact ⟨Nat.le_of_ble_eq_true rfl, lm_run 60 h⟩
def s_D_last : lm_Sp := fun av S post => av = [.ref 0] ∧ post (some (.int (S 2 4))) S
abbrev ca_D_last : lm_Ca := []
theorem cok_D_last (l : Launch) : lm_cok l (kk_Y kk_shF) R_D 0 0 ca_D_last := kk_cok (kk_nil)
set_option maxHeartbeats 1000000 in
set_option maxRecDepth 20000 in
theorem I_D_last (l : Launch) : lm_I l (kk_Y kk_shF) y_D_last b_D_last 1 (some .int) 0 0 s_D_last := by
  refine lm_impl g_D_last ca_D_last (by decide +kernel) kk_okF ck_D_last (kk_fok fl_D_ok) (kk_sok sl_D_ok) (Or.inl rfl) (cok_D_last l) rfl (by decide) ?_
  rintro av S post ⟨rfl, h⟩
  exact ⟨Nat.le_of_ble_eq_true rfl, lm_run 60 h⟩
def s_D_waiting : lm_Sp := fun av S post => av = [.ref 0] ∧ post (some (.int (S 1 3 - S 6 7))) S
abbrev ca_D_waiting : lm_Ca := [(57, 0, (some 1), s_M_inputsWaiting)]
theorem cok_D_waiting (l : Launch) : lm_cok l (kk_Y kk_shF) R_D 1 20 ca_D_waiting := kk_cok (kk_cons ⟨y_M_inputsWaiting, b_M_inputsWaiting, 1, some .int, 0, 0, I_M_inputsWaiting l, ⟨by decide, by decide⟩, yw_M_inputsWaiting, li_D_57⟩ <| kk_nil)
set_option maxHeartbeats 1000000 in
set_option maxRecDepth 20000 in
theorem I_D_waiting (l : Launch) : lm_I l (kk_Y kk_shF) y_D_waiting b_D_waiting 1 (some .int) 1 20 s_D_waiting := by
  refine lm_impl g_D_waiting ca_D_waiting (by decide +kernel) kk_okF ck_D_waiting (kk_fok fl_D_ok) (kk_sok sl_D_ok) (Or.inl rfl) (cok_D_waiting l) rfl (by decide) ?_
  rintro av S post ⟨rfl, h⟩
  refine ⟨Nat.le_of_ble_eq_true rfl, lm_run 60 ?_⟩
  (try (conv => whnf))
  repeat' first
    | (refine ⟨_, rfl, ?_⟩; conv => whnf)
    | (refine ⟨_, _, rfl, ?_⟩; conv => whnf)
    | (refine ⟨_, _, _, rfl, ?_⟩; conv => whnf)
    | (refine And.intro rfl ?_; conv => whnf)
    | (refine And.intro (lm_vc (by decide)) ?_; conv => whnf)
    | (refine And.intro (by decide) ?_; conv => whnf)
    | (refine ⟨fun hx => absurd hx (by decide), fun _ => ?_⟩; conv => whnf)
    | (refine ⟨fun _ => ?_, fun hx => absurd hx (by decide)⟩; conv => whnf)
    | (refine And.intro (hw hx) ?_; conv => whnf)
    | (refine And.intro hw ?_; conv => whnf)
    | (refine And.intro hw2 ?_; conv => whnf)
    | (refine And.intro hw3 ?_; conv => whnf)
    | (refine And.intro hw4 ?_; conv => whnf)
    | (refine And.intro hw5 ?_; conv => whnf)
    | (refine And.intro hw6 ?_; conv => whnf)
    | (refine And.intro hw7 ?_; conv => whnf)
    | (refine And.intro (hv1 (by assumption)) ?_; conv => whnf)
    | (refine And.intro (hv2 (by assumption) (by assumption)) ?_; conv => whnf)
    | (refine And.intro (hv3 (by assumption) (by assumption)) ?_; conv => whnf)
    | (refine And.intro (lm_v511 _) ?_; conv => whnf)
    | (refine And.intro (lm_v7 _) ?_; conv => whnf)
    | (refine ⟨fun hx => ?_, fun hx => ?_⟩ <;> conv => whnf)
    | (split at h)
    | contradiction
    | exact h
def s_D_puts : lm_Sp := fun av S post => av = [.ref 0] ∧ post (some (.int (S 1 5 + S 6 8))) S
abbrev ca_D_puts : lm_Ca := []
theorem cok_D_puts (l : Launch) : lm_cok l (kk_Y kk_shF) R_D 0 0 ca_D_puts := kk_cok (kk_nil)
set_option maxHeartbeats 1000000 in
set_option maxRecDepth 20000 in
theorem I_D_puts (l : Launch) : lm_I l (kk_Y kk_shF) y_D_puts b_D_puts 1 (some .int) 0 0 s_D_puts := by
  refine lm_impl g_D_puts ca_D_puts (by decide +kernel) kk_okF ck_D_puts (kk_fok fl_D_ok) (kk_sok sl_D_ok) (Or.inl rfl) (cok_D_puts l) rfl (by decide) ?_
  rintro av S post ⟨rfl, h⟩
  refine ⟨Nat.le_of_ble_eq_true rfl, lm_run 60 ?_⟩
  (try (conv => whnf))
  repeat' first
    | (refine ⟨_, rfl, ?_⟩; conv => whnf)
    | (refine ⟨_, _, rfl, ?_⟩; conv => whnf)
    | (refine ⟨_, _, _, rfl, ?_⟩; conv => whnf)
    | (refine And.intro rfl ?_; conv => whnf)
    | (refine And.intro (lm_vc (by decide)) ?_; conv => whnf)
    | (refine And.intro (by decide) ?_; conv => whnf)
    | (refine ⟨fun hx => absurd hx (by decide), fun _ => ?_⟩; conv => whnf)
    | (refine ⟨fun _ => ?_, fun hx => absurd hx (by decide)⟩; conv => whnf)
    | (refine And.intro (hw hx) ?_; conv => whnf)
    | (refine And.intro hw ?_; conv => whnf)
    | (refine And.intro hw2 ?_; conv => whnf)
    | (refine And.intro hw3 ?_; conv => whnf)
    | (refine And.intro hw4 ?_; conv => whnf)
    | (refine And.intro hw5 ?_; conv => whnf)
    | (refine And.intro hw6 ?_; conv => whnf)
    | (refine And.intro hw7 ?_; conv => whnf)
    | (refine And.intro (hv1 (by assumption)) ?_; conv => whnf)
    | (refine And.intro (hv2 (by assumption) (by assumption)) ?_; conv => whnf)
    | (refine And.intro (hv3 (by assumption) (by assumption)) ?_; conv => whnf)
    | (refine And.intro (lm_v511 _) ?_; conv => whnf)
    | (refine And.intro (lm_v7 _) ?_; conv => whnf)
    | (refine ⟨fun hx => ?_, fun hx => ?_⟩ <;> conv => whnf)
    | (split at h)
    | contradiction
    | exact h
def s_D_stop : lm_Sp := fun av S post => ∃ a on, av = [.ref 0, .int a, .int on] ∧ post (some (.int (kd_chr 3 14 a on S))) (kd_chs 3 14 a on S)
theorem kd_chr01 (i m : Nat) (a on : Int32) (S : lm_S) : kd_chr i m a on S &&& 1 = kd_chr i m a on S := by
  unfold kd_chr
  repeat' split
  all_goals rfl
abbrev ca_D_stop : lm_Ca := [(86, 2, (some 3), s_K_change)]
theorem cok_D_stop (l : Launch) : lm_cok l (kk_Y kk_shF) R_D 2 42 ca_D_stop := kk_cok (kk_cons ⟨y_K_change, b_K_change, 3, some .boolean, 1, 20, I_K_change l, ⟨by decide, by decide⟩, yw_K_change, li_D_86⟩ <| kk_nil)
set_option maxHeartbeats 1000000 in
set_option maxRecDepth 20000 in
theorem I_D_stop (l : Launch) : lm_I l (kk_Y kk_shF) y_D_stop b_D_stop 3 (some .boolean) 2 42 s_D_stop := by
  refine lm_impl g_D_stop ca_D_stop (by decide +kernel) kk_okF ck_D_stop (kk_fok fl_D_ok) (kk_sok sl_D_ok) (Or.inl rfl) (cok_D_stop l) rfl (by decide) ?_
  rintro av S post ⟨a, on, rfl, h⟩
  refine ⟨Nat.le_of_ble_eq_true rfl, lm_run 60 ?_⟩
  conv => whnf
  refine ⟨_, _, _, rfl, Or.inl rfl, ?_⟩
  conv => whnf
  exact ⟨kd_chr01 _ _ _ _ _, h⟩
def s_D_watch : lm_Sp := fun av S post => ∃ a on, av = [.ref 0, .int a, .int on] ∧ post (some (.int (kd_chr 4 15 a on S))) (kd_chs 4 15 a on S)
abbrev ca_D_watch : lm_Ca := [(86, 2, (some 3), s_K_change)]
theorem cok_D_watch (l : Launch) : lm_cok l (kk_Y kk_shF) R_D 2 42 ca_D_watch := kk_cok (kk_cons ⟨y_K_change, b_K_change, 3, some .boolean, 1, 20, I_K_change l, ⟨by decide, by decide⟩, yw_K_change, li_D_86⟩ <| kk_nil)
set_option maxHeartbeats 1000000 in
set_option maxRecDepth 20000 in
theorem I_D_watch (l : Launch) : lm_I l (kk_Y kk_shF) y_D_watch b_D_watch 3 (some .boolean) 2 42 s_D_watch := by
  refine lm_impl g_D_watch ca_D_watch (by decide +kernel) kk_okF ck_D_watch (kk_fok fl_D_ok) (kk_sok sl_D_ok) (Or.inl rfl) (cok_D_watch l) rfl (by decide) ?_
  rintro av S post ⟨a, on, rfl, h⟩
  refine ⟨Nat.le_of_ble_eq_true rfl, lm_run 60 ?_⟩
  conv => whnf
  refine ⟨_, _, _, rfl, Or.inr rfl, ?_⟩
  conv => whnf
  exact ⟨kd_chr01 _ _ _ _ _, h⟩
def kd_cellr (a : Int32) (S : lm_S) : Int32 := if kd_isA a = 0 then -1 else S 5 a.toNatClampNeg
def s_D_cell : lm_Sp := fun av S post => ∃ a, av = [.ref 0, .int a] ∧ post (some (.int (kd_cellr a S))) S
abbrev ca_D_cell : lm_Ca := [(37, 1, none, s_D_isAddress)]
theorem cok_D_cell (l : Launch) : lm_cok l (kk_Y kk_shF) R_D 1 20 ca_D_cell := kk_cok (kk_cons ⟨y_D_isAddress, b_D_isAddress, 1, some .boolean, 0, 0, I_D_isAddress l, ⟨by decide, by decide⟩, yw_D_isAddress, li_D_37⟩ <| kk_nil)
set_option maxHeartbeats 1000000 in
set_option maxRecDepth 20000 in
theorem I_D_cell (l : Launch) : lm_I l (kk_Y kk_shF) y_D_cell b_D_cell 2 (some .int) 1 20 s_D_cell := by
  refine lm_impl g_D_cell ca_D_cell (by decide +kernel) kk_okF ck_D_cell (kk_fok fl_D_ok) (kk_sok sl_D_ok) (Or.inl rfl) (cok_D_cell l) rfl (by decide) ?_
  rintro av S post ⟨a, rfl, h⟩
  have hw : ¬ kd_isA a = 0 → vp_in a 512 := kd_isA_in
  refine ⟨Nat.le_of_ble_eq_true rfl, lm_run 60 ?_⟩
  unfold kd_cellr at h
  (try (conv => whnf))
  repeat' first
    | (refine ⟨_, rfl, ?_⟩; conv => whnf)
    | (refine ⟨_, _, rfl, ?_⟩; conv => whnf)
    | (refine ⟨_, _, _, rfl, ?_⟩; conv => whnf)
    | (refine And.intro rfl ?_; conv => whnf)
    | (refine And.intro (lm_vc (by decide)) ?_; conv => whnf)
    | (refine And.intro (by decide) ?_; conv => whnf)
    | (refine ⟨fun hx => absurd hx (by decide), fun _ => ?_⟩; conv => whnf)
    | (refine ⟨fun _ => ?_, fun hx => absurd hx (by decide)⟩; conv => whnf)
    | (refine And.intro (hw hx) ?_; conv => whnf)
    | (refine And.intro hw ?_; conv => whnf)
    | (refine And.intro hw2 ?_; conv => whnf)
    | (refine And.intro hw3 ?_; conv => whnf)
    | (refine And.intro hw4 ?_; conv => whnf)
    | (refine And.intro hw5 ?_; conv => whnf)
    | (refine And.intro hw6 ?_; conv => whnf)
    | (refine And.intro hw7 ?_; conv => whnf)
    | (refine And.intro (hv1 (by assumption)) ?_; conv => whnf)
    | (refine And.intro (hv2 (by assumption) (by assumption)) ?_; conv => whnf)
    | (refine And.intro (hv3 (by assumption) (by assumption)) ?_; conv => whnf)
    | (refine And.intro (lm_v511 _) ?_; conv => whnf)
    | (refine And.intro (lm_v7 _) ?_; conv => whnf)
    | (refine ⟨fun hx => ?_, fun hx => ?_⟩ <;> conv => whnf)
    | (split at h)
    | contradiction
    | exact h
def kd_regr (a : Int32) (S : lm_S) : Int32 := if kd_isR a = 0 then -1 else S 6 a.toNatClampNeg
def s_D_register : lm_Sp := fun av S post => ∃ a, av = [.ref 0, .int a] ∧ post (some (.int (kd_regr a S))) S
abbrev ca_D_register : lm_Ca := [(48, 1, none, s_D_isRegister)]
theorem cok_D_register (l : Launch) : lm_cok l (kk_Y kk_shF) R_D 1 20 ca_D_register := kk_cok (kk_cons ⟨y_D_isRegister, b_D_isRegister, 1, some .boolean, 0, 0, I_D_isRegister l, ⟨by decide, by decide⟩, yw_D_isRegister, li_D_48⟩ <| kk_nil)
set_option maxHeartbeats 1000000 in
set_option maxRecDepth 20000 in
theorem I_D_register (l : Launch) : lm_I l (kk_Y kk_shF) y_D_register b_D_register 2 (some .int) 1 20 s_D_register := by
  refine lm_impl g_D_register ca_D_register (by decide +kernel) kk_okF ck_D_register (kk_fok fl_D_ok) (kk_sok sl_D_ok) (Or.inl rfl) (cok_D_register l) rfl (by decide) ?_
  rintro av S post ⟨a, rfl, h⟩
  have hw : ¬ kd_isR a = 0 → vp_in a 9 := fun h => vp_in_up (kd_isR_in h) (by omega)
  refine ⟨Nat.le_of_ble_eq_true rfl, lm_run 60 ?_⟩
  unfold kd_regr at h
  (try (conv => whnf))
  repeat' first
    | (refine ⟨_, rfl, ?_⟩; conv => whnf)
    | (refine ⟨_, _, rfl, ?_⟩; conv => whnf)
    | (refine ⟨_, _, _, rfl, ?_⟩; conv => whnf)
    | (refine And.intro rfl ?_; conv => whnf)
    | (refine And.intro (lm_vc (by decide)) ?_; conv => whnf)
    | (refine And.intro (by decide) ?_; conv => whnf)
    | (refine ⟨fun hx => absurd hx (by decide), fun _ => ?_⟩; conv => whnf)
    | (refine ⟨fun _ => ?_, fun hx => absurd hx (by decide)⟩; conv => whnf)
    | (refine And.intro (hw hx) ?_; conv => whnf)
    | (refine And.intro hw ?_; conv => whnf)
    | (refine And.intro hw2 ?_; conv => whnf)
    | (refine And.intro hw3 ?_; conv => whnf)
    | (refine And.intro hw4 ?_; conv => whnf)
    | (refine And.intro hw5 ?_; conv => whnf)
    | (refine And.intro hw6 ?_; conv => whnf)
    | (refine And.intro hw7 ?_; conv => whnf)
    | (refine And.intro (hv1 (by assumption)) ?_; conv => whnf)
    | (refine And.intro (hv2 (by assumption) (by assumption)) ?_; conv => whnf)
    | (refine And.intro (hv3 (by assumption) (by assumption)) ?_; conv => whnf)
    | (refine And.intro (lm_v511 _) ?_; conv => whnf)
    | (refine And.intro (lm_v7 _) ?_; conv => whnf)
    | (refine ⟨fun hx => ?_, fun hx => ?_⟩ <;> conv => whnf)
    | (split at h)
    | contradiction
    | exact h
def kd_outr (k : Int32) (S : lm_S) : Int32 := if k < 0 then -1 else if k < 8 then kd_outb k S else -1
def s_D_output : lm_Sp := fun av S post => ∃ k, av = [.ref 0, .int k] ∧ (¬ k < 0 → k < 8 → k < S 6 8 → vp_in (S 6 8 - 1 - k) 308) ∧ post (some (.int (kd_outr k S))) S
abbrev ca_D_output : lm_Ca := [(93, 1, (some 1), s_M_outputBehind)]
theorem cok_D_output (l : Launch) : lm_cok l (kk_Y kk_shF) R_D 1 21 ca_D_output := kk_cok (kk_cons ⟨y_M_outputBehind, b_M_outputBehind, 2, some .int, 0, 0, I_M_outputBehind l, ⟨by decide, by decide⟩, yw_M_outputBehind, li_D_93⟩ <| kk_nil)
set_option maxHeartbeats 1000000 in
set_option maxRecDepth 20000 in
theorem I_D_output (l : Launch) : lm_I l (kk_Y kk_shF) y_D_output b_D_output 2 (some .int) 1 21 s_D_output := by
  refine lm_impl g_D_output ca_D_output (by decide +kernel) kk_okF ck_D_output (kk_fok fl_D_ok) (kk_sok sl_D_ok) (Or.inl rfl) (cok_D_output l) rfl (by decide) ?_
  rintro av S post ⟨k, rfl, hq, h⟩
  refine ⟨Nat.le_of_ble_eq_true rfl, lm_run 60 ?_⟩
  unfold kd_outr at h
  conv => whnf
  refine ⟨fun hx => ?_, fun hx => ?_⟩
  · rw [if_pos hx] at h
    exact h
  · rw [if_neg hx] at h
    conv => whnf
    refine ⟨fun hy => ?_, fun hy => ?_⟩
    · rw [if_pos hy] at h
      conv => whnf
      refine ⟨_, rfl, hq hx hy, ?_⟩
      exact h
    · rw [if_neg hy] at h
      exact h
def s_D_wrote : lm_Sp := fun av S post => ∃ t, av = [.ref 0, .int t] ∧ (¬ t < 0 → t < S 2 4 → vp_in (t * 2 + 1) 600) ∧ (¬ t < 0 → t < S 2 4 → vp_in (t * 2 + 0) 600) ∧ post (some (.int (kd_lpw t S))) S
abbrev ca_D_wrote : lm_Ca := [(97, 1, (some 2), s_H_lastPlaceWritten)]
theorem cok_D_wrote (l : Launch) : lm_cok l (kk_Y kk_shF) R_D 2 44 ca_D_wrote := kk_cok (kk_cons ⟨y_H_lastPlaceWritten, b_H_lastPlaceWritten, 3, some .int, 1, 22, I_H_lastPlaceWritten l, ⟨by decide, by decide⟩, yw_H_lastPlaceWritten, li_D_97⟩ <| kk_nil)
set_option maxHeartbeats 1000000 in
set_option maxRecDepth 20000 in
theorem I_D_wrote (l : Launch) : lm_I l (kk_Y kk_shF) y_D_wrote b_D_wrote 2 (some .int) 2 44 s_D_wrote := by
  refine lm_impl g_D_wrote ca_D_wrote (by decide +kernel) kk_okF ck_D_wrote (kk_fok fl_D_ok) (kk_sok sl_D_ok) (Or.inl rfl) (cok_D_wrote l) rfl (by decide) ?_
  rintro av S post ⟨t, rfl, hw, hw2, h⟩
  refine ⟨Nat.le_of_ble_eq_true rfl, lm_run 60 ?_⟩
  (try (conv => whnf))
  repeat' first
    | (refine ⟨_, rfl, ?_⟩; conv => whnf)
    | (refine ⟨_, _, rfl, ?_⟩; conv => whnf)
    | (refine ⟨_, _, _, rfl, ?_⟩; conv => whnf)
    | (refine And.intro rfl ?_; conv => whnf)
    | (refine And.intro (lm_vc (by decide)) ?_; conv => whnf)
    | (refine And.intro (by decide) ?_; conv => whnf)
    | (refine ⟨fun hx => absurd hx (by decide), fun _ => ?_⟩; conv => whnf)
    | (refine ⟨fun _ => ?_, fun hx => absurd hx (by decide)⟩; conv => whnf)
    | (refine And.intro (hw hx) ?_; conv => whnf)
    | (refine And.intro hw ?_; conv => whnf)
    | (refine And.intro hw2 ?_; conv => whnf)
    | (refine And.intro hw3 ?_; conv => whnf)
    | (refine And.intro hw4 ?_; conv => whnf)
    | (refine And.intro hw5 ?_; conv => whnf)
    | (refine And.intro hw6 ?_; conv => whnf)
    | (refine And.intro hw7 ?_; conv => whnf)
    | (refine And.intro (hv1 (by assumption)) ?_; conv => whnf)
    | (refine And.intro (hv2 (by assumption) (by assumption)) ?_; conv => whnf)
    | (refine And.intro (hv3 (by assumption) (by assumption)) ?_; conv => whnf)
    | (refine And.intro (lm_v511 _) ?_; conv => whnf)
    | (refine And.intro (lm_v7 _) ?_; conv => whnf)
    | (refine ⟨fun hx => ?_, fun hx => ?_⟩ <;> conv => whnf)
    | (split at h)
    | contradiction
    | exact h
def s_D_go : lm_Sp := fun av S post => ∃ (t : Int32) (a n : Nat), av = [.ref 0, .int t] ∧ kd_an a n S ∧ post (some (.int (if t < 0 then 0 else if t ≤ S 2 4 then 1 else 0))) (if t < 0 then S else if t ≤ S 2 4 then kd_mv a t.toNatClampNeg S else S)
abbrev ca_D_go : lm_Ca := [(76, 2, (some 2), s_H_moveTo)]
theorem cok_D_go (l : Launch) : lm_cok l (kk_Y kk_shF) R_D 3 67 ca_D_go := kk_cok (kk_cons ⟨y_H_moveTo, b_H_moveTo, 4, none, 2, 44, I_H_moveTo l, ⟨by decide, by decide⟩, yw_H_moveTo, li_D_76⟩ <| kk_nil)
set_option maxHeartbeats 1000000 in
set_option maxRecDepth 20000 in
theorem I_D_go (l : Launch) : lm_I l (kk_Y kk_shF) y_D_go b_D_go 2 (some .boolean) 3 67 s_D_go := by
  refine lm_impl g_D_go ca_D_go (by decide +kernel) kk_okF ck_D_go (kk_fok fl_D_ok) (kk_sok sl_D_ok) (Or.inl rfl) (cok_D_go l) rfl (by decide) ?_
  rintro av S post ⟨t, a, n, rfl, ⟨h3, h4, han, hn⟩, h⟩
  refine ⟨Nat.le_of_ble_eq_true rfl, lm_run 60 ?_⟩
  conv => whnf
  refine ⟨fun hx => ?_, fun hx => ?_⟩
  · rw [if_pos hx, if_pos hx] at h
    conv => whnf
    exact ⟨by decide, h⟩
  · rw [if_neg hx, if_neg hx] at h
    conv => whnf
    refine ⟨fun hy => ?_, fun hy => ?_⟩
    · rw [if_pos hy, if_pos hy] at h
      obtain ⟨b, hb, rfl⟩ := nI_of hx
      have hy2 : nI b ≤ S 2 4 := hy
      have hbn : b ≤ n := by rw [h4, nI_leI (by omega) (by omega)] at hy2; exact hy2
      rw [nI_clamp hb] at h
      conv => whnf
      refine ⟨a, b, rfl, by omega, by omega, h3, hy2, ?_⟩
      conv => whnf
      exact ⟨by decide, h⟩
    · rw [if_neg hy, if_neg hy] at h
      conv => whnf
      exact ⟨by decide, h⟩
end
section
/-! the desk's run and seek -/
/-- from j back: the latest moment before j that is met -/
def kd_sk (S : lm_S) : Nat → Option Nat
  | 0 => none
  | j + 1 => if kd_met (nI j) S = 0 then kd_sk S j else some j
def kd_skr (o : Option Nat) : Int32 := match o with
  | none => -1
  | some t => nI t
def kd_sks (a : Nat) (S : lm_S) (o : Option Nat) : lm_S := match o with
  | none => S
  | some t => kd_mv a t S
abbrev ca_sk : lm_Ca := [(76, 2, (some 2), s_H_moveTo), (83, 1, (some 0), s_D_isMet)]
theorem sk_end {post : Option Value → lm_S → Prop} (S : lm_S) (x : Int32) (hx : x < 0) (h : post (some (.int (-1))) S) : lm_Go YF g_D_seek ca_sk post 10 [(0, .ref 0), (1, .int x)] [] S := by
  refine lm_run 20 ?_
  conv => whnf
  refine ⟨fun _ => ?_, fun hy => absurd hx hy⟩
  exact h
theorem sk_step {post : Option Value → lm_S → Prop} (a n j : Nat) (S : lm_S) (h3 : S 2 3 = nI a) (h4 : S 2 4 = nI n) (han : a ≤ n) (hn : n ≤ 300) (hj : j + 1 ≤ a) (h0 : kd_met (nI j) S = 0 → lm_Go YF g_D_seek ca_sk post 10 [(0, .ref 0), (1, .int (nI j - 1))] [] S) (h1 : ¬ kd_met (nI j) S = 0 → post (some (.int (nI j))) (kd_mv a j S)) : lm_Go YF g_D_seek ca_sk post 10 [(0, .ref 0), (1, .int (nI j))] [] S := by
  refine lm_to 10 30 ?_
  conv => whnf
  refine ⟨fun hx => absurd hx (nI_pos (by omega)), fun _ => ?_⟩
  conv => whnf
  refine ⟨j, n, rfl, h4, hn, by omega, ?_⟩
  conv => whnf
  refine ⟨fun (hx : kd_met (nI j) S = 0) => ?_, fun (hx : ¬ kd_met (nI j) S = 0) => ?_⟩
  · refine lm_Go.sub (h0 hx) (kk_cons rfl (kk_cons ?_ kk_nil))
    show some (Value.int (nI j + -1)) = some (Value.int (nI j - 1))
    rw [Int32.sub_eq_add_neg]
  · conv => whnf
    refine ⟨a, j, rfl, by omega, by omega, h3, by rw [h4]; exact nI_le (by omega) (by omega), ?_⟩
    exact h1 hx
theorem sk_loop {post : Option Value → lm_S → Prop} (a n : Nat) (S : lm_S) (h3 : S 2 3 = nI a) (h4 : S 2 4 = nI n) (han : a ≤ n) (hn : n ≤ 300) (j : Nat) (hj : j ≤ a) (h : post (some (.int (kd_skr (kd_sk S j)))) (kd_sks a S (kd_sk S j))) : lm_Go YF g_D_seek ca_sk post 10 [(0, .ref 0), (1, .int (nI j - 1))] [] S := by
  induction j with
  | zero => exact sk_end S _ (by decide) h
  | succ j ih =>
    rw [nI_pred]
    rw [kd_sk] at h
    refine sk_step a n j S h3 h4 han hn hj (fun hx => ?_) (fun hx => ?_)
    · rw [if_pos hx] at h
      exact ih (by omega) h
    · rw [if_neg hx] at h
      exact h
def s_D_seek : lm_Sp := fun av S post => ∃ a n : Nat, av = [.ref 0] ∧ kd_an a n S ∧ post (some (.int (kd_skr (kd_sk S a)))) (kd_sks a S (kd_sk S a))
abbrev ca_D_seek : lm_Ca := [(76, 2, (some 2), s_H_moveTo), (83, 1, (some 0), s_D_isMet)]
theorem cok_D_seek (l : Launch) : lm_cok l (kk_Y kk_shF) R_D 3 67 ca_D_seek := kk_cok (kk_cons ⟨y_H_moveTo, b_H_moveTo, 4, none, 2, 44, I_H_moveTo l, ⟨by decide, by decide⟩, yw_H_moveTo, li_D_76⟩ <| kk_cons ⟨y_D_isMet, b_D_isMet, 2, some .boolean, 2, 41, I_D_isMet l, ⟨by decide, by decide⟩, yw_D_isMet, li_D_83⟩ <| kk_nil)
set_option maxHeartbeats 1000000 in
set_option maxRecDepth 20000 in
theorem I_D_seek (l : Launch) : lm_I l (kk_Y kk_shF) y_D_seek b_D_seek 2 (some .int) 3 67 s_D_seek := by
  refine lm_impl g_D_seek ca_D_seek (by decide +kernel) kk_okF ck_D_seek (kk_fok fl_D_ok) (kk_sok sl_D_ok) (Or.inl rfl) (cok_D_seek l) rfl (by decide) ?_
  rintro av S post ⟨a, n, rfl, ⟨h3, h4, han, hn⟩, h⟩
  refine ⟨Nat.le_of_ble_eq_true rfl, lm_to 10 20 ?_⟩
  refine lm_Go.sub (sk_loop a n S h3 h4 han hn a (by omega) h) (kk_cons rfl (kk_cons ?_ kk_nil))
  show some (Value.int (S 2 3 - 1)) = some (Value.int (nI a - 1))
  rw [h3]
/-- now and newest as numbers -/
def kd_a (S : lm_S) : Nat := (S 2 3).toNatClampNeg
def kd_n (S : lm_S) : Nat := (S 2 4).toNatClampNeg
def kd_so (S : lm_S) : lm_S := kd_sos (kd_a S) (kd_n S) S
def kd_sr (S : lm_S) : Int32 := kd_sor (kd_a S) (kd_n S) S
/-- m steps are left, k are made -/
def kd_rn : Nat → Nat → lm_S → Nat × lm_S
  | 0, k, S => (k, S)
  | m + 1, k, S => if 0 < k ∧ ¬ kd_has 14 (S 6 5) S = 0 then (k, S) else if kd_sr S = 0 then (k, kd_so S) else kd_rn m (k + 1) (kd_so S)
/-- what run needs of its states -/
def kd_J (J : lm_S → Prop) : Prop := ∀ S, J S → kd_an (kd_a S) (kd_n S) S ∧ kd_ok S ∧ J (kd_so S)
abbrev ca_rn : lm_Ca := [(65, 1, (some 3), s_K_has), (68, 0, (some 0), s_D_stepOn)]
set_option maxRecDepth 20000 in
theorem rn_loop {post : Option Value → lm_S → Prop} {J : lm_S → Prop} (hJ : kd_J J) (x : Nat) (hx3 : x ≤ 300) : ∀ (m k : Nat) (S : lm_S), k + m = x → J S → post (some (.int (nI (kd_rn m k S).1))) (kd_rn m k S).2 → lm_Go YF g_D_run ca_rn post 15 [(0, .ref 0), (1, .int (nI x)), (2, .int (nI k))] [] S
  | 0, k, S, hk, _, h => by
    refine lm_run 20 ?_
    conv => whnf
    refine ⟨fun _ => ?_, fun hy => absurd (nI_le (show x ≤ k by omega) (by omega)) hy⟩
    show post (some (.int (nI x))) S
    have e : k = x := by omega
    rw [kd_rn, e] at h
    exact h
  | m + 1, k, S, hk, hS, h => by
    obtain ⟨han, hok, hJ2⟩ := hJ S hS
    have hst : ∀ (L : lm_L), lm_sub [(0, .ref 0), (1, .int (nI x)), (2, .int (nI k)), (3, .int 0)] L → ¬ (0 < k ∧ ¬ kd_has 14 (S 6 5) S = 0) → lm_Go YF g_D_run ca_rn post 49 L [] S := by
      intro L hL hs
      refine lm_Go.sub ?_ hL
      rw [kd_rn, if_neg hs] at h
      refine lm_to 15 20 ?_
      conv => whnf
      refine ⟨fun hy => absurd rfl hy, fun _ => ?_⟩
      conv => whnf
      refine ⟨kd_a S, kd_n S, rfl, han, hok, ?_⟩
      conv => whnf
      refine ⟨fun (hy : ¬ kd_sr S = 0) => ?_, fun (hy : kd_sr S = 0) => ?_⟩
      · rw [if_neg hy] at h
        refine lm_Go.sub (rn_loop hJ x hx3 m (k + 1) (kd_so S) (by omega) hJ2 h) (kk_cons rfl (kk_cons rfl (kk_cons ?_ kk_nil)))
        show some (Value.int (nI k + 1)) = some (Value.int (nI (k + 1)))
        rw [nI_1]
      · rw [if_pos hy] at h
        exact h
    have hsp : 0 < k ∧ ¬ kd_has 14 (S 6 5) S = 0 → post (some (.int (nI k))) S := by
      intro hs
      rw [kd_rn, if_pos hs] at h
      exact h
    clear h
    refine lm_to 49 30 ?_
    conv => whnf
    refine ⟨fun hy => absurd hy (nI_ge (show k < x by omega) (by omega)), fun _ => ?_⟩
    conv => whnf
    refine ⟨fun hy => ?_, fun hy => ?_⟩
    · have hk0 : ¬ 0 < k := fun q => (nI_nle q (by omega)) hy
      exact hst _ (kk_cons rfl (kk_cons rfl (kk_cons rfl (kk_cons rfl kk_nil)))) (fun q => hk0 q.1)
    · have hk0 : 0 < k := by
        have q : ¬ nI k ≤ nI 0 := hy
        rw [nI_leI (by omega) (by omega)] at q
        omega
      conv => whnf
      refine ⟨lm_vc (by decide), ?_⟩
      conv => whnf
      refine ⟨_, _, rfl, Or.inl rfl, ?_⟩
      conv => whnf
      refine ⟨fun (hz : kd_has 14 (S 6 5) S = 0) => ?_, fun (hz : ¬ kd_has 14 (S 6 5) S = 0) => ?_⟩
      · exact hst _ (kk_cons rfl (kk_cons rfl (kk_cons rfl (kk_cons rfl kk_nil)))) (fun q => q.2 hz)
      · refine lm_Go.sub (L1 := [(2, .int (nI k)), (3, .int 1)]) ?_ (kk_cons rfl (kk_cons rfl kk_nil))
        refine lm_run 20 ?_
        conv => whnf
        refine ⟨fun _ => ?_, fun hy => absurd hy (by decide)⟩
        exact hsp ⟨hk0, hz⟩
def kd_runr (x : Int32) (S : lm_S) : Int32 := if x < 0 then 0 else if x ≤ 300 then nI (kd_rn x.toNatClampNeg 0 S).1 else 0
def kd_runs (x : Int32) (S : lm_S) : lm_S := if x < 0 then S else if x ≤ 300 then (kd_rn x.toNatClampNeg 0 S).2 else S
def s_D_run : lm_Sp := fun av S post => ∃ (x : Int32) (J : lm_S → Prop), av = [.ref 0, .int x] ∧ kd_J J ∧ J S ∧ post (some (.int (kd_runr x S))) (kd_runs x S)
abbrev ca_D_run : lm_Ca := [(65, 1, (some 3), s_K_has), (68, 0, (some 0), s_D_stepOn)]
theorem cok_D_run (l : Launch) : lm_cok l (kk_Y kk_shF) R_D 6 137 ca_D_run := kk_cok (kk_cons ⟨y_K_has, b_K_has, 2, some .boolean, 1, 20, I_K_has l, ⟨by decide, by decide⟩, yw_K_has, li_D_65⟩ <| kk_cons ⟨y_D_stepOn, b_D_stepOn, 1, some .boolean, 5, 117, I_D_stepOn l, ⟨by decide, by decide⟩, yw_D_stepOn, li_D_68⟩ <| kk_nil)
set_option maxHeartbeats 1000000 in
set_option maxRecDepth 20000 in
theorem I_D_run (l : Launch) : lm_I l (kk_Y kk_shF) y_D_run b_D_run 4 (some .int) 6 137 s_D_run := by
  refine lm_impl g_D_run ca_D_run (by decide +kernel) kk_okF ck_D_run (kk_fok fl_D_ok) (kk_sok sl_D_ok) (Or.inl rfl) (cok_D_run l) rfl (by decide) ?_
  rintro av S post ⟨x, J, rfl, hJ, hS, h⟩
  refine ⟨Nat.le_of_ble_eq_true rfl, lm_to 15 20 ?_⟩
  unfold kd_runr kd_runs at h
  conv => whnf
  refine ⟨fun hx => ?_, fun hx => ?_⟩
  · rw [if_pos hx, if_pos hx] at h
    exact h
  · rw [if_neg hx, if_neg hx] at h
    conv => whnf
    refine ⟨fun (hy : x ≤ 300) => ?_, fun (hy : ¬ x ≤ 300) => ?_⟩
    · rw [if_pos hy, if_pos hy] at h
      obtain ⟨b, hb, rfl⟩ := nI_of hx
      have hb3 : b ≤ 300 := by
        have q : nI b ≤ nI 300 := hy
        rw [nI_leI hb (by omega)] at q
        exact q
      rw [nI_clamp hb] at h
      exact lm_Go.sub (rn_loop hJ b hb3 b 0 S (by omega) hS h) (kk_cons rfl (kk_cons rfl (kk_cons rfl kk_nil)))
    · rw [if_neg hy, if_neg hy] at h
      exact h
end
section
/-! the reference: its functions over the state, and that its methods are these -/
theorem km_sp (x : Int32) : vp_in (256 + (x &&& 255)) 569 := by
  rw [pk_and x 8 (by decide), show (256 : Int32) = nI 256 from rfl, nI_add]
  exact vp_in_nI (by omega) (by decide)
theorem km_v511 (a : Int32) : vp_in (a &&& 511) 569 := vp_in_up (lm_v511 a) (by omega)
theorem km_v255 (a : Int32) : vp_in (a &&& 255) 569 := vp_in_up (lm_v255 a) (by omega)
def km_within (x m : Int32) : Int32 := if x < 0 then 0 else if m < x then 0 else 1
def s_R_within : lm_Sp := fun av S post => ∃ x m, av = [.int x, .int m] ∧ post (some (.int (km_within x m))) S
abbrev ca_R_within : lm_Ca := []
theorem cok_R_within (l : Launch) : lm_cok l (kk_Y kk_shF) R_R 0 0 ca_R_within := kk_cok (kk_nil)
set_option maxHeartbeats 1000000 in
set_option maxRecDepth 20000 in
theorem I_R_within (l : Launch) : lm_I l (kk_Y kk_shF) y_R_within b_R_within 2 (some .boolean) 0 0 s_R_within := by
  refine lm_impl g_R_within ca_R_within (by decide +kernel) kk_okF ck_R_within (kk_fok fl_R_ok) (kk_sok sl_R_ok) (Or.inl rfl) (cok_R_within l) rfl (by decide) ?_
  rintro av S post ⟨x, m, rfl, h⟩
  refine ⟨Nat.le_of_ble_eq_true rfl, lm_run 60 ?_⟩
  unfold km_within at h
  (try (conv => whnf))
  repeat' first
    | (refine ⟨_, rfl, ?_⟩; conv => whnf)
    | (refine ⟨_, _, rfl, ?_⟩; conv => whnf)
    | (refine ⟨_, _, _, rfl, ?_⟩; conv => whnf)
    | (refine ⟨_, _, _, _, rfl, ?_⟩; conv => whnf)
    | (refine And.intro rfl ?_; conv => whnf)
    | (refine And.intro (lm_vc (by decide)) ?_; conv => whnf)
    | (refine And.intro (by decide) ?_; conv => whnf)
    | (refine ⟨fun hx => absurd hx (by decide), fun _ => ?_⟩; conv => whnf)
    | (refine ⟨fun _ => ?_, fun hx => absurd hx (by decide)⟩; conv => whnf)
    | (refine And.intro (hw hx) ?_; conv => whnf)
    | (refine And.intro hw ?_; conv => whnf)
    | (refine And.intro hw2 ?_; conv => whnf)
    | (refine And.intro hw3 ?_; conv => whnf)
    | (refine And.intro hw4 ?_; conv => whnf)
    | (refine And.intro hw5 ?_; conv => whnf)
    | (refine And.intro hw6 ?_; conv => whnf)
    | (refine And.intro hw7 ?_; conv => whnf)
    | (refine And.intro (hv1 (by assumption)) ?_; conv => whnf)
    | (refine And.intro (hv2 (by assumption) (by assumption)) ?_; conv => whnf)
    | (refine And.intro (hv3 (by assumption) (by assumption)) ?_; conv => whnf)
    | (refine And.intro (lm_v511 _) ?_; conv => whnf)
    | (refine And.intro (lm_v7 _) ?_; conv => whnf)
    | (refine ⟨fun hx => ?_, fun hx => ?_⟩ <;> conv => whnf)
    | (split at h)
    | contradiction
    | exact h
def km_flag (f on : Int32) (S : lm_S) : lm_S := lm_set S 18 516 (if on = 0 then S 18 516 &&& (f ^^^ (-1)) else S 18 516 ||| f)
def s_R_flag : lm_Sp := fun av S post => ∃ f on, av = [.ref 16, .int f, .int on] ∧ post none (km_flag f on S)
abbrev ca_R_flag : lm_Ca := []
theorem cok_R_flag (l : Launch) : lm_cok l (kk_Y kk_shF) R_R 0 0 ca_R_flag := kk_cok (kk_nil)
set_option maxHeartbeats 1000000 in
set_option maxRecDepth 20000 in
theorem I_R_flag (l : Launch) : lm_I l (kk_Y kk_shF) y_R_flag b_R_flag 3 (none) 0 0 s_R_flag := by
  refine lm_impl g_R_flag ca_R_flag (by decide +kernel) kk_okF ck_R_flag (kk_fok fl_R_ok) (kk_sok sl_R_ok) (Or.inl rfl) (cok_R_flag l) rfl (by decide) ?_
  rintro av S post ⟨f, on, rfl, h⟩
  refine ⟨Nat.le_of_ble_eq_true rfl, lm_run 60 ?_⟩
  unfold km_flag at h
  (try (conv => whnf))
  repeat' first
    | (refine ⟨_, rfl, ?_⟩; conv => whnf)
    | (refine ⟨_, _, rfl, ?_⟩; conv => whnf)
    | (refine ⟨_, _, _, rfl, ?_⟩; conv => whnf)
    | (refine ⟨_, _, _, _, rfl, ?_⟩; conv => whnf)
    | (refine And.intro rfl ?_; conv => whnf)
    | (refine And.intro (lm_vc (by decide)) ?_; conv => whnf)
    | (refine And.intro (by decide) ?_; conv => whnf)
    | (refine ⟨fun hx => absurd hx (by decide), fun _ => ?_⟩; conv => whnf)
    | (refine ⟨fun _ => ?_, fun hx => absurd hx (by decide)⟩; conv => whnf)
    | (refine And.intro (hw hx) ?_; conv => whnf)
    | (refine And.intro hw ?_; conv => whnf)
    | (refine And.intro hw2 ?_; conv => whnf)
    | (refine And.intro hw3 ?_; conv => whnf)
    | (refine And.intro hw4 ?_; conv => whnf)
    | (refine And.intro hw5 ?_; conv => whnf)
    | (refine And.intro hw6 ?_; conv => whnf)
    | (refine And.intro hw7 ?_; conv => whnf)
    | (refine And.intro (hv1 (by assumption)) ?_; conv => whnf)
    | (refine And.intro (hv2 (by assumption) (by assumption)) ?_; conv => whnf)
    | (refine And.intro (hv3 (by assumption) (by assumption)) ?_; conv => whnf)
    | (refine And.intro (lm_v511 _) ?_; conv => whnf)
    | (refine And.intro (lm_v7 _) ?_; conv => whnf)
    | (refine ⟨fun hx => ?_, fun hx => ?_⟩ <;> conv => whnf)
    | (split at h)
    | contradiction
    | exact h
def km_mark (v : Int32) (S : lm_S) : lm_S := km_flag 2 (if v &&& 255 = 0 then 1 else 0) (km_flag 128 (if v &&& 128 = 0 then 0 else 1) S)
def s_R_marked : lm_Sp := fun av S post => ∃ v, av = [.ref 16, .int v] ∧ post (some (.int (v &&& 255))) (km_mark v S)
abbrev ca_R_marked : lm_Ca := [(36, 2, (some 4), s_R_flag)]
theorem cok_R_marked (l : Launch) : lm_cok l (kk_Y kk_shF) R_R 1 22 ca_R_marked := kk_cok (kk_cons ⟨y_R_flag, b_R_flag, 3, none, 0, 0, I_R_flag l, ⟨by decide, by decide⟩, yw_R_flag, li_R_36⟩ <| kk_nil)
set_option maxHeartbeats 1000000 in
set_option maxRecDepth 20000 in
theorem I_R_marked (l : Launch) : lm_I l (kk_Y kk_shF) y_R_marked b_R_marked 2 (some .int) 1 22 s_R_marked := by
  refine lm_impl g_R_marked ca_R_marked (by decide +kernel) kk_okF ck_R_marked (kk_fok fl_R_ok) (kk_sok sl_R_ok) (Or.inl rfl) (cok_R_marked l) rfl (by decide) ?_
  rintro av S post ⟨v, rfl, h⟩
  refine ⟨Nat.le_of_ble_eq_true rfl, lm_run 60 ?_⟩
  unfold km_mark at h
  (try (conv => whnf))
  repeat' first
    | (refine ⟨_, rfl, ?_⟩; conv => whnf)
    | (refine ⟨_, _, rfl, ?_⟩; conv => whnf)
    | (refine ⟨_, _, _, rfl, ?_⟩; conv => whnf)
    | (refine ⟨_, _, _, _, rfl, ?_⟩; conv => whnf)
    | (refine And.intro rfl ?_; conv => whnf)
    | (refine And.intro (lm_vc (by decide)) ?_; conv => whnf)
    | (refine And.intro (by decide) ?_; conv => whnf)
    | (refine ⟨fun hx => absurd hx (by decide), fun _ => ?_⟩; conv => whnf)
    | (refine ⟨fun _ => ?_, fun hx => absurd hx (by decide)⟩; conv => whnf)
    | (refine And.intro (hw hx) ?_; conv => whnf)
    | (refine And.intro hw ?_; conv => whnf)
    | (refine And.intro hw2 ?_; conv => whnf)
    | (refine And.intro hw3 ?_; conv => whnf)
    | (refine And.intro hw4 ?_; conv => whnf)
    | (refine And.intro hw5 ?_; conv => whnf)
    | (refine And.intro hw6 ?_; conv => whnf)
    | (refine And.intro hw7 ?_; conv => whnf)
    | (refine And.intro (hv1 (by assumption)) ?_; conv => whnf)
    | (refine And.intro (hv2 (by assumption) (by assumption)) ?_; conv => whnf)
    | (refine And.intro (hv3 (by assumption) (by assumption)) ?_; conv => whnf)
    | (refine And.intro (lm_v511 _) ?_; conv => whnf)
    | (refine And.intro (lm_v7 _) ?_; conv => whnf)
    | (refine ⟨fun hx => ?_, fun hx => ?_⟩ <;> conv => whnf)
    | (split at h)
    | contradiction
    | exact h
def km_write (a v : Int32) (S : lm_S) : lm_S := lm_set (lm_set (lm_set S 18 a.toNatClampNeg (v &&& 255)) 16 9 (S 16 8)) 16 8 a
def s_R_write : lm_Sp := fun av S post => ∃ a v, av = [.ref 16, .int a, .int v] ∧ vp_in a 569 ∧ post none (km_write a v S)
abbrev ca_R_write : lm_Ca := []
theorem cok_R_write (l : Launch) : lm_cok l (kk_Y kk_shF) R_R 0 0 ca_R_write := kk_cok (kk_nil)
set_option maxHeartbeats 1000000 in
set_option maxRecDepth 20000 in
theorem I_R_write (l : Launch) : lm_I l (kk_Y kk_shF) y_R_write b_R_write 3 (none) 0 0 s_R_write := by
  refine lm_impl g_R_write ca_R_write (by decide +kernel) kk_okF ck_R_write (kk_fok fl_R_ok) (kk_sok sl_R_ok) (Or.inl rfl) (cok_R_write l) rfl (by decide) ?_
  rintro av S post ⟨a, v, rfl, hw, h⟩
  refine ⟨Nat.le_of_ble_eq_true rfl, lm_run 60 ?_⟩
  unfold km_write at h
  (try (conv => whnf))
  repeat' first
    | (refine ⟨_, rfl, ?_⟩; conv => whnf)
    | (refine ⟨_, _, rfl, ?_⟩; conv => whnf)
    | (refine ⟨_, _, _, rfl, ?_⟩; conv => whnf)
    | (refine ⟨_, _, _, _, rfl, ?_⟩; conv => whnf)
    | (refine And.intro rfl ?_; conv => whnf)
    | (refine And.intro (lm_vc (by decide)) ?_; conv => whnf)
    | (refine And.intro (by decide) ?_; conv => whnf)
    | (refine ⟨fun hx => absurd hx (by decide), fun _ => ?_⟩; conv => whnf)
    | (refine ⟨fun _ => ?_, fun hx => absurd hx (by decide)⟩; conv => whnf)
    | (refine And.intro (hw hx) ?_; conv => whnf)
    | (refine And.intro hw ?_; conv => whnf)
    | (refine And.intro hw2 ?_; conv => whnf)
    | (refine And.intro hw3 ?_; conv => whnf)
    | (refine And.intro hw4 ?_; conv => whnf)
    | (refine And.intro hw5 ?_; conv => whnf)
    | (refine And.intro hw6 ?_; conv => whnf)
    | (refine And.intro hw7 ?_; conv => whnf)
    | (refine And.intro (hv1 (by assumption)) ?_; conv => whnf)
    | (refine And.intro (hv2 (by assumption) (by assumption)) ?_; conv => whnf)
    | (refine And.intro (hv3 (by assumption) (by assumption)) ?_; conv => whnf)
    | (refine And.intro (lm_v511 _) ?_; conv => whnf)
    | (refine And.intro (lm_v7 _) ?_; conv => whnf)
    | (refine ⟨fun hx => ?_, fun hx => ?_⟩ <;> conv => whnf)
    | (split at h)
    | contradiction
    | exact h
def km_push (v : Int32) (S : lm_S) : lm_S := lm_set (km_write (256 + S 18 515) v S) 18 515 (((km_write (256 + S 18 515) v S) 18 515 - 1) &&& 255)
def s_R_push : lm_Sp := fun av S post => ∃ v, av = [.ref 16, .int v] ∧ vp_in (256 + S 18 515) 569 ∧ post none (km_push v S)
abbrev ca_R_push : lm_Ca := [(46, 2, (some 4), s_R_write)]
theorem cok_R_push (l : Launch) : lm_cok l (kk_Y kk_shF) R_R 1 22 ca_R_push := kk_cok (kk_cons ⟨y_R_write, b_R_write, 3, none, 0, 0, I_R_write l, ⟨by decide, by decide⟩, yw_R_write, li_R_46⟩ <| kk_nil)
set_option maxHeartbeats 1000000 in
set_option maxRecDepth 20000 in
theorem I_R_push (l : Launch) : lm_I l (kk_Y kk_shF) y_R_push b_R_push 2 (none) 1 22 s_R_push := by
  refine lm_impl g_R_push ca_R_push (by decide +kernel) kk_okF ck_R_push (kk_fok fl_R_ok) (kk_sok sl_R_ok) (Or.inl rfl) (cok_R_push l) rfl (by decide) ?_
  rintro av S post ⟨v, rfl, hw, h⟩
  refine ⟨Nat.le_of_ble_eq_true rfl, lm_run 60 ?_⟩
  unfold km_push at h
  (try (conv => whnf))
  repeat' first
    | (refine ⟨_, rfl, ?_⟩; conv => whnf)
    | (refine ⟨_, _, rfl, ?_⟩; conv => whnf)
    | (refine ⟨_, _, _, rfl, ?_⟩; conv => whnf)
    | (refine ⟨_, _, _, _, rfl, ?_⟩; conv => whnf)
    | (refine And.intro rfl ?_; conv => whnf)
    | (refine And.intro (lm_vc (by decide)) ?_; conv => whnf)
    | (refine And.intro (by decide) ?_; conv => whnf)
    | (refine ⟨fun hx => absurd hx (by decide), fun _ => ?_⟩; conv => whnf)
    | (refine ⟨fun _ => ?_, fun hx => absurd hx (by decide)⟩; conv => whnf)
    | (refine And.intro (hw hx) ?_; conv => whnf)
    | (refine And.intro hw ?_; conv => whnf)
    | (refine And.intro hw2 ?_; conv => whnf)
    | (refine And.intro hw3 ?_; conv => whnf)
    | (refine And.intro hw4 ?_; conv => whnf)
    | (refine And.intro hw5 ?_; conv => whnf)
    | (refine And.intro hw6 ?_; conv => whnf)
    | (refine And.intro hw7 ?_; conv => whnf)
    | (refine And.intro (hv1 (by assumption)) ?_; conv => whnf)
    | (refine And.intro (hv2 (by assumption) (by assumption)) ?_; conv => whnf)
    | (refine And.intro (hv3 (by assumption) (by assumption)) ?_; conv => whnf)
    | (refine And.intro (lm_v511 _) ?_; conv => whnf)
    | (refine And.intro (lm_v7 _) ?_; conv => whnf)
    | (refine ⟨fun hx => ?_, fun hx => ?_⟩ <;> conv => whnf)
    | (split at h)
    | contradiction
    | exact h
def km_pull (S : lm_S) : lm_S := lm_set S 18 515 ((S 18 515 + 1) &&& 255)
def km_pv (S : lm_S) : Int32 := (km_pull S) 18 (256 + (S 18 515 + 1 &&& 255)).toNatClampNeg
def s_R_pull : lm_Sp := fun av S post => av = [.ref 16] ∧ post (some (.int (km_pv S))) (km_pull S)
abbrev ca_R_pull : lm_Ca := []
theorem cok_R_pull (l : Launch) : lm_cok l (kk_Y kk_shF) R_R 0 0 ca_R_pull := kk_cok (kk_nil)
set_option maxHeartbeats 1000000 in
set_option maxRecDepth 20000 in
theorem I_R_pull (l : Launch) : lm_I l (kk_Y kk_shF) y_R_pull b_R_pull 1 (some .int) 0 0 s_R_pull := by
  refine lm_impl g_R_pull ca_R_pull (by decide +kernel) kk_okF ck_R_pull (kk_fok fl_R_ok) (kk_sok sl_R_ok) (Or.inl rfl) (cok_R_pull l) rfl (by decide) ?_
  rintro av S post ⟨rfl, h⟩
  have hw : vp_in (256 + (S 18 515 + 1 &&& 255)) 569 := km_sp _
  refine ⟨Nat.le_of_ble_eq_true rfl, lm_run 60 ?_⟩
  unfold km_pv km_pull at h
  (try (conv => whnf))
  repeat' first
    | (refine ⟨_, rfl, ?_⟩; conv => whnf)
    | (refine ⟨_, _, rfl, ?_⟩; conv => whnf)
    | (refine ⟨_, _, _, rfl, ?_⟩; conv => whnf)
    | (refine ⟨_, _, _, _, rfl, ?_⟩; conv => whnf)
    | (refine And.intro rfl ?_; conv => whnf)
    | (refine And.intro (lm_vc (by decide)) ?_; conv => whnf)
    | (refine And.intro (by decide) ?_; conv => whnf)
    | (refine ⟨fun hx => absurd hx (by decide), fun _ => ?_⟩; conv => whnf)
    | (refine ⟨fun _ => ?_, fun hx => absurd hx (by decide)⟩; conv => whnf)
    | (refine And.intro (hw hx) ?_; conv => whnf)
    | (refine And.intro hw ?_; conv => whnf)
    | (refine And.intro hw2 ?_; conv => whnf)
    | (refine And.intro hw3 ?_; conv => whnf)
    | (refine And.intro hw4 ?_; conv => whnf)
    | (refine And.intro hw5 ?_; conv => whnf)
    | (refine And.intro hw6 ?_; conv => whnf)
    | (refine And.intro hw7 ?_; conv => whnf)
    | (refine And.intro (hv1 (by assumption)) ?_; conv => whnf)
    | (refine And.intro (hv2 (by assumption) (by assumption)) ?_; conv => whnf)
    | (refine And.intro (hv3 (by assumption) (by assumption)) ?_; conv => whnf)
    | (refine And.intro (lm_v511 _) ?_; conv => whnf)
    | (refine And.intro (lm_v7 _) ?_; conv => whnf)
    | (refine ⟨fun hx => ?_, fun hx => ?_⟩ <;> conv => whnf)
    | (split at h)
    | contradiction
    | exact h
def km_len (op md : Int32) : Int32 := if 22 < op then (if op = 26 then 2 else 1) else if md = 7 then 1 else if md < 3 then 2 else if 5 < md then 2 else 3
def s_R_length : lm_Sp := fun av S post => ∃ op md, av = [.int op, .int md] ∧ post (some (.int (km_len op md))) S
abbrev ca_R_length : lm_Ca := []
theorem cok_R_length (l : Launch) : lm_cok l (kk_Y kk_shF) R_R 0 0 ca_R_length := kk_cok (kk_nil)
set_option maxHeartbeats 1000000 in
set_option maxRecDepth 20000 in
theorem I_R_length (l : Launch) : lm_I l (kk_Y kk_shF) y_R_length b_R_length 2 (some .int) 0 0 s_R_length := by
  refine lm_impl g_R_length ca_R_length (by decide +kernel) kk_okF ck_R_length (kk_fok fl_R_ok) (kk_sok sl_R_ok) (Or.inl rfl) (cok_R_length l) rfl (by decide) ?_
  rintro av S post ⟨op, md, rfl, h⟩
  refine ⟨Nat.le_of_ble_eq_true rfl, lm_run 60 ?_⟩
  unfold km_len at h
  (try (conv => whnf))
  repeat' first
    | (refine ⟨_, rfl, ?_⟩; conv => whnf)
    | (refine ⟨_, _, rfl, ?_⟩; conv => whnf)
    | (refine ⟨_, _, _, rfl, ?_⟩; conv => whnf)
    | (refine ⟨_, _, _, _, rfl, ?_⟩; conv => whnf)
    | (refine And.intro rfl ?_; conv => whnf)
    | (refine And.intro (lm_vc (by decide)) ?_; conv => whnf)
    | (refine And.intro (by decide) ?_; conv => whnf)
    | (refine ⟨fun hx => absurd hx (by decide), fun _ => ?_⟩; conv => whnf)
    | (refine ⟨fun _ => ?_, fun hx => absurd hx (by decide)⟩; conv => whnf)
    | (refine And.intro (hw hx) ?_; conv => whnf)
    | (refine And.intro hw ?_; conv => whnf)
    | (refine And.intro hw2 ?_; conv => whnf)
    | (refine And.intro hw3 ?_; conv => whnf)
    | (refine And.intro hw4 ?_; conv => whnf)
    | (refine And.intro hw5 ?_; conv => whnf)
    | (refine And.intro hw6 ?_; conv => whnf)
    | (refine And.intro hw7 ?_; conv => whnf)
    | (refine And.intro (hv1 (by assumption)) ?_; conv => whnf)
    | (refine And.intro (hv2 (by assumption) (by assumption)) ?_; conv => whnf)
    | (refine And.intro (hv3 (by assumption) (by assumption)) ?_; conv => whnf)
    | (refine And.intro (lm_v511 _) ?_; conv => whnf)
    | (refine And.intro (lm_v7 _) ?_; conv => whnf)
    | (refine ⟨fun hx => ?_, fun hx => ?_⟩ <;> conv => whnf)
    | (split at h)
    | contradiction
    | exact h
def km_place (md be i w : Int32) (S : lm_S) : Int32 := if md.toInt = 0 then be else if md.toInt = 0 + 1 then i else if md.toInt = 0 + 1 + 1 then (i + S 18 513) &&& 255 else if md.toInt = 0 + 1 + 1 + 1 then w &&& 511 else if md.toInt = 0 + 1 + 1 + 1 + 1 then (w + S 18 513) &&& 511 else if md.toInt = 0 + 1 + 1 + 1 + 1 + 1 then (w + S 18 514) &&& 511 else (S 18 i.toNatClampNeg + 256 * S 18 ((i + 1) &&& 255).toNatClampNeg + S 18 514) &&& 511
def s_R_place : lm_Sp := fun av S post => ∃ md be i w, av = [.ref 16, .int md, .int be, .int i, .int w] ∧ vp_in i 569 ∧ post (some (.int (km_place md be i w S))) S
abbrev ca_R_place : lm_Ca := []
theorem cok_R_place (l : Launch) : lm_cok l (kk_Y kk_shF) R_R 0 0 ca_R_place := kk_cok (kk_nil)
set_option maxHeartbeats 1000000 in
set_option maxRecDepth 20000 in
theorem I_R_place (l : Launch) : lm_I l (kk_Y kk_shF) y_R_place b_R_place 5 (some .int) 0 0 s_R_place := by
  refine lm_impl g_R_place ca_R_place (by decide +kernel) kk_okF ck_R_place (kk_fok fl_R_ok) (kk_sok sl_R_ok) (Or.inl rfl) (cok_R_place l) rfl (by decide) ?_
  rintro av S post ⟨md, be, i, w, rfl, hw, h⟩
  have hw2 : vp_in ((i + 1) &&& 255) 569 := km_v255 _
  refine ⟨Nat.le_of_ble_eq_true rfl, lm_run 60 ?_⟩
  unfold km_place at h
  (try (conv => whnf))
  repeat' first
    | (refine ⟨_, rfl, ?_⟩; conv => whnf)
    | (refine ⟨_, _, rfl, ?_⟩; conv => whnf)
    | (refine ⟨_, _, _, rfl, ?_⟩; conv => whnf)
    | (refine ⟨_, _, _, _, rfl, ?_⟩; conv => whnf)
    | (refine And.intro rfl ?_; conv => whnf)
    | (refine And.intro (lm_vc (by decide)) ?_; conv => whnf)
    | (refine And.intro (by decide) ?_; conv => whnf)
    | (refine ⟨fun hx => absurd hx (by decide), fun _ => ?_⟩; conv => whnf)
    | (refine ⟨fun _ => ?_, fun hx => absurd hx (by decide)⟩; conv => whnf)
    | (refine And.intro (hw hx) ?_; conv => whnf)
    | (refine And.intro hw ?_; conv => whnf)
    | (refine And.intro hw2 ?_; conv => whnf)
    | (refine And.intro hw3 ?_; conv => whnf)
    | (refine And.intro hw4 ?_; conv => whnf)
    | (refine And.intro hw5 ?_; conv => whnf)
    | (refine And.intro hw6 ?_; conv => whnf)
    | (refine And.intro hw7 ?_; conv => whnf)
    | (refine And.intro (hv1 (by assumption)) ?_; conv => whnf)
    | (refine And.intro (hv2 (by assumption) (by assumption)) ?_; conv => whnf)
    | (refine And.intro (hv3 (by assumption) (by assumption)) ?_; conv => whnf)
    | (refine And.intro (lm_v511 _) ?_; conv => whnf)
    | (refine And.intro (lm_v7 _) ?_; conv => whnf)
    | (refine ⟨fun hx => ?_, fun hx => ?_⟩ <;> conv => whnf)
    | (split at h)
    | contradiction
    | exact h
def km_change (p v : Int32) (S : lm_S) : lm_S := if p = 512 then lm_set S 18 512 (v &&& 255) else km_write p v S
def s_R_change : lm_Sp := fun av S post => ∃ p v, av = [.ref 16, .int p, .int v] ∧ vp_in p 569 ∧ post none (km_change p v S)
abbrev ca_R_change : lm_Ca := [(46, 2, (some 4), s_R_write)]
theorem cok_R_change (l : Launch) : lm_cok l (kk_Y kk_shF) R_R 1 22 ca_R_change := kk_cok (kk_cons ⟨y_R_write, b_R_write, 3, none, 0, 0, I_R_write l, ⟨by decide, by decide⟩, yw_R_write, li_R_46⟩ <| kk_nil)
set_option maxHeartbeats 1000000 in
set_option maxRecDepth 20000 in
theorem I_R_change (l : Launch) : lm_I l (kk_Y kk_shF) y_R_change b_R_change 3 (none) 1 22 s_R_change := by
  refine lm_impl g_R_change ca_R_change (by decide +kernel) kk_okF ck_R_change (kk_fok fl_R_ok) (kk_sok sl_R_ok) (Or.inl rfl) (cok_R_change l) rfl (by decide) ?_
  rintro av S post ⟨p, v, rfl, hw, h⟩
  refine ⟨Nat.le_of_ble_eq_true rfl, lm_run 60 ?_⟩
  unfold km_change at h
  (try (conv => whnf))
  repeat' first
    | (refine ⟨_, rfl, ?_⟩; conv => whnf)
    | (refine ⟨_, _, rfl, ?_⟩; conv => whnf)
    | (refine ⟨_, _, _, rfl, ?_⟩; conv => whnf)
    | (refine ⟨_, _, _, _, rfl, ?_⟩; conv => whnf)
    | (refine And.intro rfl ?_; conv => whnf)
    | (refine And.intro (lm_vc (by decide)) ?_; conv => whnf)
    | (refine And.intro (by decide) ?_; conv => whnf)
    | (refine ⟨fun hx => absurd hx (by decide), fun _ => ?_⟩; conv => whnf)
    | (refine ⟨fun _ => ?_, fun hx => absurd hx (by decide)⟩; conv => whnf)
    | (refine And.intro (hw hx) ?_; conv => whnf)
    | (refine And.intro hw ?_; conv => whnf)
    | (refine And.intro hw2 ?_; conv => whnf)
    | (refine And.intro hw3 ?_; conv => whnf)
    | (refine And.intro hw4 ?_; conv => whnf)
    | (refine And.intro hw5 ?_; conv => whnf)
    | (refine And.intro hw6 ?_; conv => whnf)
    | (refine And.intro hw7 ?_; conv => whnf)
    | (refine And.intro (hv1 (by assumption)) ?_; conv => whnf)
    | (refine And.intro (hv2 (by assumption) (by assumption)) ?_; conv => whnf)
    | (refine And.intro (hv3 (by assumption) (by assumption)) ?_; conv => whnf)
    | (refine And.intro (lm_v511 _) ?_; conv => whnf)
    | (refine And.intro (lm_v7 _) ?_; conv => whnf)
    | (refine ⟨fun hx => ?_, fun hx => ?_⟩ <;> conv => whnf)
    | (split at h)
    | contradiction
    | exact h
def km_add1 (s : Int32) (S : lm_S) : lm_S := km_flag 1 (if s ≤ 255 then 0 else 1) S
def km_add2 (s t : Int32) (S : lm_S) : lm_S := km_flag 64 (if (km_add1 s S) 18 512 &&& 128 = t &&& 128 then (if s &&& 128 = t &&& 128 then 0 else 1) else 0) (km_add1 s S)
def km_add3 (s t : Int32) (S : lm_S) : lm_S := lm_set (km_mark s (km_add2 s t S)) 18 512 (s &&& 255)
def km_add (t : Int32) (S : lm_S) : lm_S := km_add3 (S 18 512 + t + (S 18 516 &&& 1)) t S
def s_R_add : lm_Sp := fun av S post => ∃ t, av = [.ref 16, .int t] ∧ post none (km_add t S)
abbrev ca_R_add : lm_Ca := [(36, 2, (some 4), s_R_flag), (77, 1, (some 4), s_R_marked)]
theorem cok_R_add (l : Launch) : lm_cok l (kk_Y kk_shF) R_R 2 43 ca_R_add := kk_cok (kk_cons ⟨y_R_flag, b_R_flag, 3, none, 0, 0, I_R_flag l, ⟨by decide, by decide⟩, yw_R_flag, li_R_36⟩ <| kk_cons ⟨y_R_marked, b_R_marked, 2, some .int, 1, 22, I_R_marked l, ⟨by decide, by decide⟩, yw_R_marked, li_R_77⟩ <| kk_nil)
set_option maxHeartbeats 1000000 in
set_option maxRecDepth 20000 in
theorem I_R_add (l : Launch) : lm_I l (kk_Y kk_shF) y_R_add b_R_add 3 (none) 2 43 s_R_add := by
  refine lm_impl g_R_add ca_R_add (by decide +kernel) kk_okF ck_R_add (kk_fok fl_R_ok) (kk_sok sl_R_ok) (Or.inl rfl) (cok_R_add l) rfl (by decide) ?_
  rintro av S post ⟨t, rfl, h⟩
  refine ⟨Nat.le_of_ble_eq_true rfl, lm_run 90 ?_⟩
  unfold km_add km_add3 km_add2 km_add1 at h
  (try (conv => whnf))
  repeat' first
    | (refine ⟨_, rfl, ?_⟩; conv => whnf)
    | (refine ⟨_, _, rfl, ?_⟩; conv => whnf)
    | (refine ⟨_, _, _, rfl, ?_⟩; conv => whnf)
    | (refine ⟨_, _, _, _, rfl, ?_⟩; conv => whnf)
    | (refine And.intro rfl ?_; conv => whnf)
    | (refine And.intro (lm_vc (by decide)) ?_; conv => whnf)
    | (refine And.intro (by decide) ?_; conv => whnf)
    | (refine ⟨fun hx => absurd hx (by decide), fun _ => ?_⟩; conv => whnf)
    | (refine ⟨fun _ => ?_, fun hx => absurd hx (by decide)⟩; conv => whnf)
    | (refine And.intro (hw hx) ?_; conv => whnf)
    | (refine And.intro hw ?_; conv => whnf)
    | (refine And.intro hw2 ?_; conv => whnf)
    | (refine And.intro hw3 ?_; conv => whnf)
    | (refine And.intro hw4 ?_; conv => whnf)
    | (refine And.intro hw5 ?_; conv => whnf)
    | (refine And.intro hw6 ?_; conv => whnf)
    | (refine And.intro hw7 ?_; conv => whnf)
    | (refine And.intro (hv1 (by assumption)) ?_; conv => whnf)
    | (refine And.intro (hv2 (by assumption) (by assumption)) ?_; conv => whnf)
    | (refine And.intro (hv3 (by assumption) (by assumption)) ?_; conv => whnf)
    | (refine And.intro (lm_v511 _) ?_; conv => whnf)
    | (refine And.intro (lm_v7 _) ?_; conv => whnf)
    | (refine ⟨fun hx => ?_, fun hx => ?_⟩ <;> conv => whnf)
    | (split at h)
    | contradiction
    | exact h
def km_cmp (v t : Int32) (S : lm_S) : lm_S := km_flag 1 (if v < t then 0 else 1) (km_mark (v - t) S)
def s_R_compare : lm_Sp := fun av S post => ∃ v t, av = [.ref 16, .int v, .int t] ∧ post none (km_cmp v t S)
abbrev ca_R_compare : lm_Ca := [(36, 2, (some 4), s_R_flag), (77, 1, (some 4), s_R_marked)]
theorem cok_R_compare (l : Launch) : lm_cok l (kk_Y kk_shF) R_R 2 43 ca_R_compare := kk_cok (kk_cons ⟨y_R_flag, b_R_flag, 3, none, 0, 0, I_R_flag l, ⟨by decide, by decide⟩, yw_R_flag, li_R_36⟩ <| kk_cons ⟨y_R_marked, b_R_marked, 2, some .int, 1, 22, I_R_marked l, ⟨by decide, by decide⟩, yw_R_marked, li_R_77⟩ <| kk_nil)
set_option maxHeartbeats 1000000 in
set_option maxRecDepth 20000 in
theorem I_R_compare (l : Launch) : lm_I l (kk_Y kk_shF) y_R_compare b_R_compare 4 (none) 2 43 s_R_compare := by
  refine lm_impl g_R_compare ca_R_compare (by decide +kernel) kk_okF ck_R_compare (kk_fok fl_R_ok) (kk_sok sl_R_ok) (Or.inl rfl) (cok_R_compare l) rfl (by decide) ?_
  rintro av S post ⟨v, t, rfl, h⟩
  refine ⟨Nat.le_of_ble_eq_true rfl, lm_run 90 ?_⟩
  unfold km_cmp at h
  (try (conv => whnf))
  repeat' first
    | (refine ⟨_, rfl, ?_⟩; conv => whnf)
    | (refine ⟨_, _, rfl, ?_⟩; conv => whnf)
    | (refine ⟨_, _, _, rfl, ?_⟩; conv => whnf)
    | (refine ⟨_, _, _, _, rfl, ?_⟩; conv => whnf)
    | (refine And.intro rfl ?_; conv => whnf)
    | (refine And.intro (lm_vc (by decide)) ?_; conv => whnf)
    | (refine And.intro (by decide) ?_; conv => whnf)
    | (refine ⟨fun hx => absurd hx (by decide), fun _ => ?_⟩; conv => whnf)
    | (refine ⟨fun _ => ?_, fun hx => absurd hx (by decide)⟩; conv => whnf)
    | (refine And.intro (hw hx) ?_; conv => whnf)
    | (refine And.intro hw ?_; conv => whnf)
    | (refine And.intro hw2 ?_; conv => whnf)
    | (refine And.intro hw3 ?_; conv => whnf)
    | (refine And.intro hw4 ?_; conv => whnf)
    | (refine And.intro hw5 ?_; conv => whnf)
    | (refine And.intro hw6 ?_; conv => whnf)
    | (refine And.intro hw7 ?_; conv => whnf)
    | (refine And.intro (hv1 (by assumption)) ?_; conv => whnf)
    | (refine And.intro (hv2 (by assumption) (by assumption)) ?_; conv => whnf)
    | (refine And.intro (hv3 (by assumption) (by assumption)) ?_; conv => whnf)
    | (refine And.intro (lm_v511 _) ?_; conv => whnf)
    | (refine And.intro (lm_v7 _) ?_; conv => whnf)
    | (refine ⟨fun hx => ?_, fun hx => ?_⟩ <;> conv => whnf)
    | (split at h)
    | contradiction
    | exact h
def km_sm0 (md : Int32) (S : lm_S) : lm_S := if md = 0 then lm_set (km_mark (S 18 514 + 1) S) 18 514 ((S 18 514 + 1) &&& 255) else S
def km_sm1 (md : Int32) (S : lm_S) : lm_S := if md = 1 then lm_set (km_mark (S 18 514 - 1) S) 18 514 ((S 18 514 - 1) &&& 255) else S
def km_sm2 (md : Int32) (S : lm_S) : lm_S := if md = 2 then (if md = 3 then km_flag 1 1 S else km_flag 1 0 S) else if md = 3 then km_flag 1 1 S else S
def km_sm4 (md : Int32) (S : lm_S) : lm_S := if md = 4 then km_flag 64 0 S else S
def km_small (md : Int32) (S : lm_S) : lm_S := km_sm4 md (km_sm2 md (km_sm1 md (km_sm0 md S)))
def s_R_small : lm_Sp := fun av S post => ∃ md, av = [.ref 16, .int md] ∧ post none (km_small md S)
abbrev ca_R_small : lm_Ca := [(36, 2, (some 4), s_R_flag), (77, 1, (some 4), s_R_marked)]
theorem cok_R_small (l : Launch) : lm_cok l (kk_Y kk_shF) R_R 2 43 ca_R_small := kk_cok (kk_cons ⟨y_R_flag, b_R_flag, 3, none, 0, 0, I_R_flag l, ⟨by decide, by decide⟩, yw_R_flag, li_R_36⟩ <| kk_cons ⟨y_R_marked, b_R_marked, 2, some .int, 1, 22, I_R_marked l, ⟨by decide, by decide⟩, yw_R_marked, li_R_77⟩ <| kk_nil)
set_option maxHeartbeats 1000000 in
set_option maxRecDepth 20000 in
theorem I_R_small (l : Launch) : lm_I l (kk_Y kk_shF) y_R_small b_R_small 2 (none) 2 43 s_R_small := by
  refine lm_impl g_R_small ca_R_small (by decide +kernel) kk_okF ck_R_small (kk_fok fl_R_ok) (kk_sok sl_R_ok) (Or.inl rfl) (cok_R_small l) rfl (by decide) ?_
  rintro av S post ⟨md, rfl, h⟩
  refine ⟨Nat.le_of_ble_eq_true rfl, ?_⟩
  have t4 : ∀ S, post none (km_sm4 md S) → lm_Go YF g_R_small ca_R_small post 78 [(0, .ref 16), (1, .int md)] [] S := by
    intro S h
    refine lm_run 20 ?_
    unfold km_sm4 at h
    (try (conv => whnf))
    repeat' first
      | (refine ⟨_, rfl, ?_⟩; conv => whnf)
      | (refine ⟨_, _, rfl, ?_⟩; conv => whnf)
      | (refine ⟨_, _, _, rfl, ?_⟩; conv => whnf)
      | (refine ⟨_, _, _, _, rfl, ?_⟩; conv => whnf)
      | (refine And.intro rfl ?_; conv => whnf)
      | (refine And.intro (lm_vc (by decide)) ?_; conv => whnf)
      | (refine And.intro (by decide) ?_; conv => whnf)
      | (refine ⟨fun hx => absurd hx (by decide), fun _ => ?_⟩; conv => whnf)
      | (refine ⟨fun _ => ?_, fun hx => absurd hx (by decide)⟩; conv => whnf)
      | (refine And.intro (hw hx) ?_; conv => whnf)
      | (refine And.intro hw ?_; conv => whnf)
      | (refine And.intro hw2 ?_; conv => whnf)
      | (refine And.intro hw3 ?_; conv => whnf)
      | (refine And.intro hw4 ?_; conv => whnf)
      | (refine And.intro hw5 ?_; conv => whnf)
      | (refine And.intro hw6 ?_; conv => whnf)
      | (refine And.intro hw7 ?_; conv => whnf)
      | (refine And.intro (hv1 (by assumption)) ?_; conv => whnf)
      | (refine And.intro (hv2 (by assumption) (by assumption)) ?_; conv => whnf)
      | (refine And.intro (hv3 (by assumption) (by assumption)) ?_; conv => whnf)
      | (refine And.intro (lm_v511 _) ?_; conv => whnf)
      | (refine And.intro (lm_v7 _) ?_; conv => whnf)
      | (refine ⟨fun hx => ?_, fun hx => ?_⟩ <;> conv => whnf)
      | (split at h)
      | contradiction
      | exact h
  have t2 : ∀ S, post none (km_sm4 md (km_sm2 md S)) → lm_Go YF g_R_small ca_R_small post 53 [(0, .ref 16), (1, .int md)] [] S := by
    intro S h
    refine lm_to 78 20 ?_
    unfold km_sm2 at h
    conv => whnf
    refine ⟨fun h2 => ?_, fun h2 => ?_⟩
    · rw [if_pos h2] at h
      conv => whnf
      refine ⟨fun h3 => ?_, fun h3 => ?_⟩
      · rw [if_neg h3] at h
        conv => whnf
        refine ⟨_, _, rfl, ?_⟩
        exact t4 _ h
      · rw [if_pos h3] at h
        conv => whnf
        refine ⟨_, _, rfl, ?_⟩
        exact t4 _ h
    · rw [if_neg h2] at h
      conv => whnf
      refine ⟨fun h3 => ?_, fun h3 => ?_⟩
      · rw [if_neg h3] at h
        exact t4 _ h
      · rw [if_pos h3] at h
        conv => whnf
        refine ⟨fun h9 => absurd h3 h9, fun _ => ?_⟩
        conv => whnf
        refine ⟨_, _, rfl, ?_⟩
        exact t4 _ h
  have t1 : ∀ S, post none (km_sm4 md (km_sm2 md (km_sm1 md S))) → lm_Go YF g_R_small ca_R_small post 26 [(0, .ref 16), (1, .int md)] [] S := by
    intro S h
    refine lm_to 53 30 ?_
    unfold km_sm1 at h
    conv => whnf
    refine ⟨fun h2 => ?_, fun h2 => ?_⟩
    · rw [if_neg h2] at h
      exact t2 _ h
    · rw [if_pos h2] at h
      conv => whnf
      refine ⟨lm_vc (by decide), ?_⟩
      conv => whnf
      refine ⟨_, rfl, ?_⟩
      conv => whnf
      refine ⟨lm_vc (by decide), ?_⟩
      exact t2 _ h
  refine lm_to 26 30 ?_
  unfold km_small km_sm0 at h
  conv => whnf
  refine ⟨fun h2 => ?_, fun h2 => ?_⟩
  · rw [if_neg h2] at h
    exact t1 _ h
  · rw [if_pos h2] at h
    conv => whnf
    refine ⟨lm_vc (by decide), ?_⟩
    conv => whnf
    refine ⟨_, rfl, ?_⟩
    conv => whnf
    refine ⟨lm_vc (by decide), ?_⟩
    exact t1 _ h
def km_wh (md : Int32) : Int32 := if 2 ≤ md then (if 4 ≤ md then (if 6 ≤ md then 2 else 1) else 64) else 128
def km_hop (o : Int32) (S : lm_S) : lm_S := lm_set S 18 517 ((S 18 517 + (if o ≤ 127 then o else o - 256)) &&& 511)
def km_br (w md o : Int32) (S : lm_S) : lm_S := if S 18 516 &&& w = 0 then (if md - md / 2 * 2 = 1 then S else km_hop o S) else (if md - md / 2 * 2 = 1 then km_hop o S else S)
def km_branch (md o : Int32) (S : lm_S) : lm_S := km_br (km_wh md) md o S
def s_R_branch : lm_Sp := fun av S post => ∃ md o, av = [.ref 16, .int md, .int o] ∧ post none (km_branch md o S)
theorem br_tail {post : Option Value → lm_S → Prop} (w md o : Int32) (S : lm_S) (h : post none (km_br w md o S)) : lm_Go YF g_R_branch [] post 32 [(0, .ref 16), (1, .int md), (2, .int o)] [.int w] S := by
  refine lm_run 60 ?_
  unfold km_br km_hop at h
  (try (conv => whnf))
  repeat' first
    | (refine ⟨_, rfl, ?_⟩; conv => whnf)
    | (refine ⟨_, _, rfl, ?_⟩; conv => whnf)
    | (refine ⟨_, _, _, rfl, ?_⟩; conv => whnf)
    | (refine ⟨_, _, _, _, rfl, ?_⟩; conv => whnf)
    | (refine And.intro rfl ?_; conv => whnf)
    | (refine And.intro (lm_vc (by decide)) ?_; conv => whnf)
    | (refine And.intro (by decide) ?_; conv => whnf)
    | (refine ⟨fun hx => absurd hx (by decide), fun _ => ?_⟩; conv => whnf)
    | (refine ⟨fun _ => ?_, fun hx => absurd hx (by decide)⟩; conv => whnf)
    | (refine And.intro (hw hx) ?_; conv => whnf)
    | (refine And.intro hw ?_; conv => whnf)
    | (refine And.intro hw2 ?_; conv => whnf)
    | (refine And.intro hw3 ?_; conv => whnf)
    | (refine And.intro hw4 ?_; conv => whnf)
    | (refine And.intro hw5 ?_; conv => whnf)
    | (refine And.intro hw6 ?_; conv => whnf)
    | (refine And.intro hw7 ?_; conv => whnf)
    | (refine And.intro (hv1 (by assumption)) ?_; conv => whnf)
    | (refine And.intro (hv2 (by assumption) (by assumption)) ?_; conv => whnf)
    | (refine And.intro (hv3 (by assumption) (by assumption)) ?_; conv => whnf)
    | (refine And.intro (lm_v511 _) ?_; conv => whnf)
    | (refine And.intro (lm_v7 _) ?_; conv => whnf)
    | (refine ⟨fun hx => ?_, fun hx => ?_⟩ <;> conv => whnf)
    | (split at h)
    | contradiction
    | exact h
abbrev ca_R_branch : lm_Ca := []
theorem cok_R_branch (l : Launch) : lm_cok l (kk_Y kk_shF) R_R 0 0 ca_R_branch := kk_cok (kk_nil)
set_option maxHeartbeats 1000000 in
set_option maxRecDepth 20000 in
theorem I_R_branch (l : Launch) : lm_I l (kk_Y kk_shF) y_R_branch b_R_branch 5 (none) 0 0 s_R_branch := by
  refine lm_impl g_R_branch ca_R_branch (by decide +kernel) kk_okF ck_R_branch (kk_fok fl_R_ok) (kk_sok sl_R_ok) (Or.inl rfl) (cok_R_branch l) rfl (by decide) ?_
  rintro av S post ⟨md, o, rfl, h⟩
  refine ⟨Nat.le_of_ble_eq_true rfl, lm_to 32 20 ?_⟩
  unfold km_branch km_wh at h
  conv => whnf
  refine ⟨fun h2 => ?_, fun h2 => ?_⟩
  · rw [if_pos h2] at h
    conv => whnf
    refine ⟨fun h2 => ?_, fun h2 => ?_⟩
    · rw [if_pos h2] at h
      conv => whnf
      refine ⟨fun h2 => ?_, fun h2 => ?_⟩
      · rw [if_pos h2] at h
        exact br_tail _ _ _ _ h
      · rw [if_neg h2] at h
        exact br_tail _ _ _ _ h
    · rw [if_neg h2] at h
      exact br_tail _ _ _ _ h
  · rw [if_neg h2] at h
    exact br_tail _ _ _ _ h
end
section
/-! the reference: work, stack, transfer, step -/
theorem lm_tos {Y : lm_Y} {G : lm_G} {cal : lm_Ca} {post : Option Value → lm_S → Prop} (cut : Nat → Bool) (n : Nat) {pc : Nat} {L : lm_L} {st : List Value} {S : lm_S} (h : lm_wp Y G cal post cut (fun q L st S => lm_Go Y G cal post q L st S) n pc L st S) : lm_Go Y G cal post pc L st S := lm_wp_go (fun _ _ _ _ _ h => h) n pc L st S h
theorem km_opj {op : Int32} (j : Nat) (hj : j < 50) (h : op.toInt = (j : Int)) : op = nI j := Int32.toInt_inj.mp (by rw [h, nI_toInt (by omega)])
def km_wld (op t : Int32) (S : lm_S) : lm_S := lm_set (km_mark t S) 18 (512 + op).toNatClampNeg (t &&& 255)
def km_wst (op p : Int32) (S : lm_S) : lm_S := km_change p (S 18 (512 + op - 3).toNatClampNeg) S
def km_wbt (v : Int32) (S : lm_S) : lm_S := lm_set (km_mark v S) 18 512 (v &&& 255)
def km_wcm (op t : Int32) (S : lm_S) : lm_S := km_cmp (S 18 (512 + op - 11).toNatClampNeg) t S
def km_wt2 (t : Int32) (S : lm_S) : lm_S := km_flag 64 (if t &&& 64 = 0 then 0 else 1) (km_flag 128 (if t &&& 128 = 0 then 0 else 1) S)
def km_wte (t : Int32) (S : lm_S) : lm_S := km_flag 2 (if (km_wt2 t S) 18 512 &&& t = 0 then 1 else 0) (km_wt2 t S)
def km_win (p v : Int32) (S : lm_S) : lm_S := km_change p (v &&& 255) (km_mark v S)
def km_wsl (op p t c : Int32) (S : lm_S) : lm_S := km_flag 1 (if t ≤ 127 then 0 else 1) (km_win p (t * 2 + (if op = 19 then c else 0)) S)
def km_wsr (op p t c : Int32) (S : lm_S) : lm_S := km_flag 1 (if t - t / 2 * 2 = 1 then 1 else 0) (km_win p (t / 2 + (if op = 20 then 128 * c else 0)) S)
abbrev ca_wk : lm_Ca := [(36, 2, (some 4), s_R_flag), (77, 1, (some 4), s_R_marked), (81, 2, (some 4), s_R_change), (84, 1, (some 4), s_R_add), (87, 2, (some 4), s_R_compare)]
set_option maxHeartbeats 1000000 in
theorem wk_116 {post : Option Value → lm_S → Prop} (op p t c : Int32) (S : lm_S) (hw : vp_in (512 + op) 569) (h : post none (km_wld op t S)) : lm_Go YF g_R_work ca_wk post 116 [(0, .ref 16), (1, .int op), (2, .int p), (3, .int t), (4, .int c)] [] S := by
  refine lm_run 60 ?_
  unfold km_wld at h
  (try (conv => whnf))
  repeat' first
    | (refine ⟨_, rfl, ?_⟩; conv => whnf)
    | (refine ⟨_, _, rfl, ?_⟩; conv => whnf)
    | (refine ⟨_, _, _, rfl, ?_⟩; conv => whnf)
    | (refine ⟨_, _, _, _, rfl, ?_⟩; conv => whnf)
    | (refine And.intro rfl ?_; conv => whnf)
    | (refine And.intro (lm_vc (by decide)) ?_; conv => whnf)
    | (refine And.intro (by decide) ?_; conv => whnf)
    | (refine ⟨fun hx => absurd hx (by decide), fun _ => ?_⟩; conv => whnf)
    | (refine ⟨fun _ => ?_, fun hx => absurd hx (by decide)⟩; conv => whnf)
    | (refine And.intro (hw hx) ?_; conv => whnf)
    | (refine And.intro hw ?_; conv => whnf)
    | (refine And.intro hw2 ?_; conv => whnf)
    | (refine And.intro hw3 ?_; conv => whnf)
    | (refine And.intro hw4 ?_; conv => whnf)
    | (refine And.intro hw5 ?_; conv => whnf)
    | (refine And.intro hw6 ?_; conv => whnf)
    | (refine And.intro hw7 ?_; conv => whnf)
    | (refine And.intro (hv1 (by assumption)) ?_; conv => whnf)
    | (refine And.intro (hv2 (by assumption) (by assumption)) ?_; conv => whnf)
    | (refine And.intro (hv3 (by assumption) (by assumption)) ?_; conv => whnf)
    | (refine And.intro (lm_v511 _) ?_; conv => whnf)
    | (refine And.intro (lm_v7 _) ?_; conv => whnf)
    | (refine ⟨fun hx => ?_, fun hx => ?_⟩ <;> conv => whnf)
    | (split at h)
    | contradiction
    | exact h
set_option maxHeartbeats 1000000 in
theorem wk_134 {post : Option Value → lm_S → Prop} (op p t c : Int32) (S : lm_S) (hw : vp_in (512 + op - 3) 569) (hw2 : vp_in p 569) (h : post none (km_wst op p S)) : lm_Go YF g_R_work ca_wk post 134 [(0, .ref 16), (1, .int op), (2, .int p), (3, .int t), (4, .int c)] [] S := by
  refine lm_run 60 ?_
  unfold km_wst at h
  (try (conv => whnf))
  repeat' first
    | (refine ⟨_, rfl, ?_⟩; conv => whnf)
    | (refine ⟨_, _, rfl, ?_⟩; conv => whnf)
    | (refine ⟨_, _, _, rfl, ?_⟩; conv => whnf)
    | (refine ⟨_, _, _, _, rfl, ?_⟩; conv => whnf)
    | (refine And.intro rfl ?_; conv => whnf)
    | (refine And.intro (lm_vc (by decide)) ?_; conv => whnf)
    | (refine And.intro (by decide) ?_; conv => whnf)
    | (refine ⟨fun hx => absurd hx (by decide), fun _ => ?_⟩; conv => whnf)
    | (refine ⟨fun _ => ?_, fun hx => absurd hx (by decide)⟩; conv => whnf)
    | (refine And.intro (hw hx) ?_; conv => whnf)
    | (refine And.intro hw ?_; conv => whnf)
    | (refine And.intro hw2 ?_; conv => whnf)
    | (refine And.intro hw3 ?_; conv => whnf)
    | (refine And.intro hw4 ?_; conv => whnf)
    | (refine And.intro hw5 ?_; conv => whnf)
    | (refine And.intro hw6 ?_; conv => whnf)
    | (refine And.intro hw7 ?_; conv => whnf)
    | (refine And.intro (hv1 (by assumption)) ?_; conv => whnf)
    | (refine And.intro (hv2 (by assumption) (by assumption)) ?_; conv => whnf)
    | (refine And.intro (hv3 (by assumption) (by assumption)) ?_; conv => whnf)
    | (refine And.intro (lm_v511 _) ?_; conv => whnf)
    | (refine And.intro (lm_v7 _) ?_; conv => whnf)
    | (refine ⟨fun hx => ?_, fun hx => ?_⟩ <;> conv => whnf)
    | (split at h)
    | contradiction
    | exact h
set_option maxHeartbeats 1000000 in
theorem wk_154 {post : Option Value → lm_S → Prop} (op p t c : Int32) (S : lm_S) (h : post none (km_add t S)) : lm_Go YF g_R_work ca_wk post 154 [(0, .ref 16), (1, .int op), (2, .int p), (3, .int t), (4, .int c)] [] S := by
  refine lm_run 60 ?_
  (try (conv => whnf))
  repeat' first
    | (refine ⟨_, rfl, ?_⟩; conv => whnf)
    | (refine ⟨_, _, rfl, ?_⟩; conv => whnf)
    | (refine ⟨_, _, _, rfl, ?_⟩; conv => whnf)
    | (refine ⟨_, _, _, _, rfl, ?_⟩; conv => whnf)
    | (refine And.intro rfl ?_; conv => whnf)
    | (refine And.intro (lm_vc (by decide)) ?_; conv => whnf)
    | (refine And.intro (by decide) ?_; conv => whnf)
    | (refine ⟨fun hx => absurd hx (by decide), fun _ => ?_⟩; conv => whnf)
    | (refine ⟨fun _ => ?_, fun hx => absurd hx (by decide)⟩; conv => whnf)
    | (refine And.intro (hw hx) ?_; conv => whnf)
    | (refine And.intro hw ?_; conv => whnf)
    | (refine And.intro hw2 ?_; conv => whnf)
    | (refine And.intro hw3 ?_; conv => whnf)
    | (refine And.intro hw4 ?_; conv => whnf)
    | (refine And.intro hw5 ?_; conv => whnf)
    | (refine And.intro hw6 ?_; conv => whnf)
    | (refine And.intro hw7 ?_; conv => whnf)
    | (refine And.intro (hv1 (by assumption)) ?_; conv => whnf)
    | (refine And.intro (hv2 (by assumption) (by assumption)) ?_; conv => whnf)
    | (refine And.intro (hv3 (by assumption) (by assumption)) ?_; conv => whnf)
    | (refine And.intro (lm_v511 _) ?_; conv => whnf)
    | (refine And.intro (lm_v7 _) ?_; conv => whnf)
    | (refine ⟨fun hx => ?_, fun hx => ?_⟩ <;> conv => whnf)
    | (split at h)
    | contradiction
    | exact h
set_option maxHeartbeats 1000000 in
theorem wk_162 {post : Option Value → lm_S → Prop} (op p t c : Int32) (S : lm_S) (h : post none (km_add (255 - t) S)) : lm_Go YF g_R_work ca_wk post 162 [(0, .ref 16), (1, .int op), (2, .int p), (3, .int t), (4, .int c)] [] S := by
  refine lm_run 60 ?_
  (try (conv => whnf))
  repeat' first
    | (refine ⟨_, rfl, ?_⟩; conv => whnf)
    | (refine ⟨_, _, rfl, ?_⟩; conv => whnf)
    | (refine ⟨_, _, _, rfl, ?_⟩; conv => whnf)
    | (refine ⟨_, _, _, _, rfl, ?_⟩; conv => whnf)
    | (refine And.intro rfl ?_; conv => whnf)
    | (refine And.intro (lm_vc (by decide)) ?_; conv => whnf)
    | (refine And.intro (by decide) ?_; conv => whnf)
    | (refine ⟨fun hx => absurd hx (by decide), fun _ => ?_⟩; conv => whnf)
    | (refine ⟨fun _ => ?_, fun hx => absurd hx (by decide)⟩; conv => whnf)
    | (refine And.intro (hw hx) ?_; conv => whnf)
    | (refine And.intro hw ?_; conv => whnf)
    | (refine And.intro hw2 ?_; conv => whnf)
    | (refine And.intro hw3 ?_; conv => whnf)
    | (refine And.intro hw4 ?_; conv => whnf)
    | (refine And.intro hw5 ?_; conv => whnf)
    | (refine And.intro hw6 ?_; conv => whnf)
    | (refine And.intro hw7 ?_; conv => whnf)
    | (refine And.intro (hv1 (by assumption)) ?_; conv => whnf)
    | (refine And.intro (hv2 (by assumption) (by assumption)) ?_; conv => whnf)
    | (refine And.intro (hv3 (by assumption) (by assumption)) ?_; conv => whnf)
    | (refine And.intro (lm_v511 _) ?_; conv => whnf)
    | (refine And.intro (lm_v7 _) ?_; conv => whnf)
    | (refine ⟨fun hx => ?_, fun hx => ?_⟩ <;> conv => whnf)
    | (split at h)
    | contradiction
    | exact h
set_option maxHeartbeats 1000000 in
theorem wk_174 {post : Option Value → lm_S → Prop} (op p t c : Int32) (S : lm_S)  (h : post none (km_wbt (S 18 512 &&& t) S)) : lm_Go YF g_R_work ca_wk post 174 [(0, .ref 16), (1, .int op), (2, .int p), (3, .int t), (4, .int c)] [] S := by
  refine lm_run 60 ?_
  unfold km_wbt at h
  (try (conv => whnf))
  repeat' first
    | (refine ⟨_, rfl, ?_⟩; conv => whnf)
    | (refine ⟨_, _, rfl, ?_⟩; conv => whnf)
    | (refine ⟨_, _, _, rfl, ?_⟩; conv => whnf)
    | (refine ⟨_, _, _, _, rfl, ?_⟩; conv => whnf)
    | (refine And.intro rfl ?_; conv => whnf)
    | (refine And.intro (lm_vc (by decide)) ?_; conv => whnf)
    | (refine And.intro (by decide) ?_; conv => whnf)
    | (refine ⟨fun hx => absurd hx (by decide), fun _ => ?_⟩; conv => whnf)
    | (refine ⟨fun _ => ?_, fun hx => absurd hx (by decide)⟩; conv => whnf)
    | (refine And.intro (hw hx) ?_; conv => whnf)
    | (refine And.intro hw ?_; conv => whnf)
    | (refine And.intro hw2 ?_; conv => whnf)
    | (refine And.intro hw3 ?_; conv => whnf)
    | (refine And.intro hw4 ?_; conv => whnf)
    | (refine And.intro hw5 ?_; conv => whnf)
    | (refine And.intro hw6 ?_; conv => whnf)
    | (refine And.intro hw7 ?_; conv => whnf)
    | (refine And.intro (hv1 (by assumption)) ?_; conv => whnf)
    | (refine And.intro (hv2 (by assumption) (by assumption)) ?_; conv => whnf)
    | (refine And.intro (hv3 (by assumption) (by assumption)) ?_; conv => whnf)
    | (refine And.intro (lm_v511 _) ?_; conv => whnf)
    | (refine And.intro (lm_v7 _) ?_; conv => whnf)
    | (refine ⟨fun hx => ?_, fun hx => ?_⟩ <;> conv => whnf)
    | (split at h)
    | contradiction
    | exact h
set_option maxHeartbeats 1000000 in
theorem wk_199 {post : Option Value → lm_S → Prop} (op p t c : Int32) (S : lm_S)  (h : post none (km_wbt (S 18 512 ||| t) S)) : lm_Go YF g_R_work ca_wk post 199 [(0, .ref 16), (1, .int op), (2, .int p), (3, .int t), (4, .int c)] [] S := by
  refine lm_run 60 ?_
  unfold km_wbt at h
  (try (conv => whnf))
  repeat' first
    | (refine ⟨_, rfl, ?_⟩; conv => whnf)
    | (refine ⟨_, _, rfl, ?_⟩; conv => whnf)
    | (refine ⟨_, _, _, rfl, ?_⟩; conv => whnf)
    | (refine ⟨_, _, _, _, rfl, ?_⟩; conv => whnf)
    | (refine And.intro rfl ?_; conv => whnf)
    | (refine And.intro (lm_vc (by decide)) ?_; conv => whnf)
    | (refine And.intro (by decide) ?_; conv => whnf)
    | (refine ⟨fun hx => absurd hx (by decide), fun _ => ?_⟩; conv => whnf)
    | (refine ⟨fun _ => ?_, fun hx => absurd hx (by decide)⟩; conv => whnf)
    | (refine And.intro (hw hx) ?_; conv => whnf)
    | (refine And.intro hw ?_; conv => whnf)
    | (refine And.intro hw2 ?_; conv => whnf)
    | (refine And.intro hw3 ?_; conv => whnf)
    | (refine And.intro hw4 ?_; conv => whnf)
    | (refine And.intro hw5 ?_; conv => whnf)
    | (refine And.intro hw6 ?_; conv => whnf)
    | (refine And.intro hw7 ?_; conv => whnf)
    | (refine And.intro (hv1 (by assumption)) ?_; conv => whnf)
    | (refine And.intro (hv2 (by assumption) (by assumption)) ?_; conv => whnf)
    | (refine And.intro (hv3 (by assumption) (by assumption)) ?_; conv => whnf)
    | (refine And.intro (lm_v511 _) ?_; conv => whnf)
    | (refine And.intro (lm_v7 _) ?_; conv => whnf)
    | (refine ⟨fun hx => ?_, fun hx => ?_⟩ <;> conv => whnf)
    | (split at h)
    | contradiction
    | exact h
set_option maxHeartbeats 1000000 in
theorem wk_224 {post : Option Value → lm_S → Prop} (op p t c : Int32) (S : lm_S)  (h : post none (km_wbt (S 18 512 ^^^ t) S)) : lm_Go YF g_R_work ca_wk post 224 [(0, .ref 16), (1, .int op), (2, .int p), (3, .int t), (4, .int c)] [] S := by
  refine lm_run 60 ?_
  unfold km_wbt at h
  (try (conv => whnf))
  repeat' first
    | (refine ⟨_, rfl, ?_⟩; conv => whnf)
    | (refine ⟨_, _, rfl, ?_⟩; conv => whnf)
    | (refine ⟨_, _, _, rfl, ?_⟩; conv => whnf)
    | (refine ⟨_, _, _, _, rfl, ?_⟩; conv => whnf)
    | (refine And.intro rfl ?_; conv => whnf)
    | (refine And.intro (lm_vc (by decide)) ?_; conv => whnf)
    | (refine And.intro (by decide) ?_; conv => whnf)
    | (refine ⟨fun hx => absurd hx (by decide), fun _ => ?_⟩; conv => whnf)
    | (refine ⟨fun _ => ?_, fun hx => absurd hx (by decide)⟩; conv => whnf)
    | (refine And.intro (hw hx) ?_; conv => whnf)
    | (refine And.intro hw ?_; conv => whnf)
    | (refine And.intro hw2 ?_; conv => whnf)
    | (refine And.intro hw3 ?_; conv => whnf)
    | (refine And.intro hw4 ?_; conv => whnf)
    | (refine And.intro hw5 ?_; conv => whnf)
    | (refine And.intro hw6 ?_; conv => whnf)
    | (refine And.intro hw7 ?_; conv => whnf)
    | (refine And.intro (hv1 (by assumption)) ?_; conv => whnf)
    | (refine And.intro (hv2 (by assumption) (by assumption)) ?_; conv => whnf)
    | (refine And.intro (hv3 (by assumption) (by assumption)) ?_; conv => whnf)
    | (refine And.intro (lm_v511 _) ?_; conv => whnf)
    | (refine And.intro (lm_v7 _) ?_; conv => whnf)
    | (refine ⟨fun hx => ?_, fun hx => ?_⟩ <;> conv => whnf)
    | (split at h)
    | contradiction
    | exact h
set_option maxHeartbeats 1000000 in
theorem wk_249 {post : Option Value → lm_S → Prop} (op p t c : Int32) (S : lm_S) (hw : vp_in (512 + op - 11) 569) (h : post none (km_wcm op t S)) : lm_Go YF g_R_work ca_wk post 249 [(0, .ref 16), (1, .int op), (2, .int p), (3, .int t), (4, .int c)] [] S := by
  refine lm_run 60 ?_
  unfold km_wcm at h
  (try (conv => whnf))
  repeat' first
    | (refine ⟨_, rfl, ?_⟩; conv => whnf)
    | (refine ⟨_, _, rfl, ?_⟩; conv => whnf)
    | (refine ⟨_, _, _, rfl, ?_⟩; conv => whnf)
    | (refine ⟨_, _, _, _, rfl, ?_⟩; conv => whnf)
    | (refine And.intro rfl ?_; conv => whnf)
    | (refine And.intro (lm_vc (by decide)) ?_; conv => whnf)
    | (refine And.intro (by decide) ?_; conv => whnf)
    | (refine ⟨fun hx => absurd hx (by decide), fun _ => ?_⟩; conv => whnf)
    | (refine ⟨fun _ => ?_, fun hx => absurd hx (by decide)⟩; conv => whnf)
    | (refine And.intro (hw hx) ?_; conv => whnf)
    | (refine And.intro hw ?_; conv => whnf)
    | (refine And.intro hw2 ?_; conv => whnf)
    | (refine And.intro hw3 ?_; conv => whnf)
    | (refine And.intro hw4 ?_; conv => whnf)
    | (refine And.intro hw5 ?_; conv => whnf)
    | (refine And.intro hw6 ?_; conv => whnf)
    | (refine And.intro hw7 ?_; conv => whnf)
    | (refine And.intro (hv1 (by assumption)) ?_; conv => whnf)
    | (refine And.intro (hv2 (by assumption) (by assumption)) ?_; conv => whnf)
    | (refine And.intro (hv3 (by assumption) (by assumption)) ?_; conv => whnf)
    | (refine And.intro (lm_v511 _) ?_; conv => whnf)
    | (refine And.intro (lm_v7 _) ?_; conv => whnf)
    | (refine ⟨fun hx => ?_, fun hx => ?_⟩ <;> conv => whnf)
    | (split at h)
    | contradiction
    | exact h
set_option maxHeartbeats 1000000 in
theorem wk_270 {post : Option Value → lm_S → Prop} (op p t c : Int32) (S : lm_S)  (h : post none (km_wte t S)) : lm_Go YF g_R_work ca_wk post 270 [(0, .ref 16), (1, .int op), (2, .int p), (3, .int t), (4, .int c)] [] S := by
  refine lm_run 60 ?_
  unfold km_wte km_wt2 at h
  (try (conv => whnf))
  repeat' first
    | (refine ⟨_, rfl, ?_⟩; conv => whnf)
    | (refine ⟨_, _, rfl, ?_⟩; conv => whnf)
    | (refine ⟨_, _, _, rfl, ?_⟩; conv => whnf)
    | (refine ⟨_, _, _, _, rfl, ?_⟩; conv => whnf)
    | (refine And.intro rfl ?_; conv => whnf)
    | (refine And.intro (lm_vc (by decide)) ?_; conv => whnf)
    | (refine And.intro (by decide) ?_; conv => whnf)
    | (refine ⟨fun hx => absurd hx (by decide), fun _ => ?_⟩; conv => whnf)
    | (refine ⟨fun _ => ?_, fun hx => absurd hx (by decide)⟩; conv => whnf)
    | (refine And.intro (hw hx) ?_; conv => whnf)
    | (refine And.intro hw ?_; conv => whnf)
    | (refine And.intro hw2 ?_; conv => whnf)
    | (refine And.intro hw3 ?_; conv => whnf)
    | (refine And.intro hw4 ?_; conv => whnf)
    | (refine And.intro hw5 ?_; conv => whnf)
    | (refine And.intro hw6 ?_; conv => whnf)
    | (refine And.intro hw7 ?_; conv => whnf)
    | (refine And.intro (hv1 (by assumption)) ?_; conv => whnf)
    | (refine And.intro (hv2 (by assumption) (by assumption)) ?_; conv => whnf)
    | (refine And.intro (hv3 (by assumption) (by assumption)) ?_; conv => whnf)
    | (refine And.intro (lm_v511 _) ?_; conv => whnf)
    | (refine And.intro (lm_v7 _) ?_; conv => whnf)
    | (refine ⟨fun hx => ?_, fun hx => ?_⟩ <;> conv => whnf)
    | (split at h)
    | contradiction
    | exact h
set_option maxHeartbeats 1000000 in
theorem wk_334 {post : Option Value → lm_S → Prop} (op p t c : Int32) (S : lm_S) (hw : vp_in p 569) (h : post none (km_win p (t + 1) S)) : lm_Go YF g_R_work ca_wk post 334 [(0, .ref 16), (1, .int op), (2, .int p), (3, .int t), (4, .int c)] [] S := by
  refine lm_run 60 ?_
  unfold km_win at h
  (try (conv => whnf))
  repeat' first
    | (refine ⟨_, rfl, ?_⟩; conv => whnf)
    | (refine ⟨_, _, rfl, ?_⟩; conv => whnf)
    | (refine ⟨_, _, _, rfl, ?_⟩; conv => whnf)
    | (refine ⟨_, _, _, _, rfl, ?_⟩; conv => whnf)
    | (refine And.intro rfl ?_; conv => whnf)
    | (refine And.intro (lm_vc (by decide)) ?_; conv => whnf)
    | (refine And.intro (by decide) ?_; conv => whnf)
    | (refine ⟨fun hx => absurd hx (by decide), fun _ => ?_⟩; conv => whnf)
    | (refine ⟨fun _ => ?_, fun hx => absurd hx (by decide)⟩; conv => whnf)
    | (refine And.intro (hw hx) ?_; conv => whnf)
    | (refine And.intro hw ?_; conv => whnf)
    | (refine And.intro hw2 ?_; conv => whnf)
    | (refine And.intro hw3 ?_; conv => whnf)
    | (refine And.intro hw4 ?_; conv => whnf)
    | (refine And.intro hw5 ?_; conv => whnf)
    | (refine And.intro hw6 ?_; conv => whnf)
    | (refine And.intro hw7 ?_; conv => whnf)
    | (refine And.intro (hv1 (by assumption)) ?_; conv => whnf)
    | (refine And.intro (hv2 (by assumption) (by assumption)) ?_; conv => whnf)
    | (refine And.intro (hv3 (by assumption) (by assumption)) ?_; conv => whnf)
    | (refine And.intro (lm_v511 _) ?_; conv => whnf)
    | (refine And.intro (lm_v7 _) ?_; conv => whnf)
    | (refine ⟨fun hx => ?_, fun hx => ?_⟩ <;> conv => whnf)
    | (split at h)
    | contradiction
    | exact h
set_option maxHeartbeats 1000000 in
theorem wk_349 {post : Option Value → lm_S → Prop} (op p t c : Int32) (S : lm_S) (hw : vp_in p 569) (h : post none (km_win p (t - 1) S)) : lm_Go YF g_R_work ca_wk post 349 [(0, .ref 16), (1, .int op), (2, .int p), (3, .int t), (4, .int c)] [] S := by
  refine lm_run 60 ?_
  unfold km_win at h
  (try (conv => whnf))
  repeat' first
    | (refine ⟨_, rfl, ?_⟩; conv => whnf)
    | (refine ⟨_, _, rfl, ?_⟩; conv => whnf)
    | (refine ⟨_, _, _, rfl, ?_⟩; conv => whnf)
    | (refine ⟨_, _, _, _, rfl, ?_⟩; conv => whnf)
    | (refine And.intro rfl ?_; conv => whnf)
    | (refine And.intro (lm_vc (by decide)) ?_; conv => whnf)
    | (refine And.intro (by decide) ?_; conv => whnf)
    | (refine ⟨fun hx => absurd hx (by decide), fun _ => ?_⟩; conv => whnf)
    | (refine ⟨fun _ => ?_, fun hx => absurd hx (by decide)⟩; conv => whnf)
    | (refine And.intro (hw hx) ?_; conv => whnf)
    | (refine And.intro hw ?_; conv => whnf)
    | (refine And.intro hw2 ?_; conv => whnf)
    | (refine And.intro hw3 ?_; conv => whnf)
    | (refine And.intro hw4 ?_; conv => whnf)
    | (refine And.intro hw5 ?_; conv => whnf)
    | (refine And.intro hw6 ?_; conv => whnf)
    | (refine And.intro hw7 ?_; conv => whnf)
    | (refine And.intro (hv1 (by assumption)) ?_; conv => whnf)
    | (refine And.intro (hv2 (by assumption) (by assumption)) ?_; conv => whnf)
    | (refine And.intro (hv3 (by assumption) (by assumption)) ?_; conv => whnf)
    | (refine And.intro (lm_v511 _) ?_; conv => whnf)
    | (refine And.intro (lm_v7 _) ?_; conv => whnf)
    | (refine ⟨fun hx => ?_, fun hx => ?_⟩ <;> conv => whnf)
    | (split at h)
    | contradiction
    | exact h
set_option maxHeartbeats 1000000 in
theorem wk_364 {post : Option Value → lm_S → Prop} (op p t c : Int32) (S : lm_S) (hw : vp_in p 569) (h : post none (km_wsl op p t c S)) : lm_Go YF g_R_work ca_wk post 364 [(0, .ref 16), (1, .int op), (2, .int p), (3, .int t), (4, .int c)] [] S := by
  refine lm_run 60 ?_
  unfold km_wsl km_win at h
  (try (conv => whnf))
  repeat' first
    | (refine ⟨_, rfl, ?_⟩; conv => whnf)
    | (refine ⟨_, _, rfl, ?_⟩; conv => whnf)
    | (refine ⟨_, _, _, rfl, ?_⟩; conv => whnf)
    | (refine ⟨_, _, _, _, rfl, ?_⟩; conv => whnf)
    | (refine And.intro rfl ?_; conv => whnf)
    | (refine And.intro (lm_vc (by decide)) ?_; conv => whnf)
    | (refine And.intro (by decide) ?_; conv => whnf)
    | (refine ⟨fun hx => absurd hx (by decide), fun _ => ?_⟩; conv => whnf)
    | (refine ⟨fun _ => ?_, fun hx => absurd hx (by decide)⟩; conv => whnf)
    | (refine And.intro (hw hx) ?_; conv => whnf)
    | (refine And.intro hw ?_; conv => whnf)
    | (refine And.intro hw2 ?_; conv => whnf)
    | (refine And.intro hw3 ?_; conv => whnf)
    | (refine And.intro hw4 ?_; conv => whnf)
    | (refine And.intro hw5 ?_; conv => whnf)
    | (refine And.intro hw6 ?_; conv => whnf)
    | (refine And.intro hw7 ?_; conv => whnf)
    | (refine And.intro (hv1 (by assumption)) ?_; conv => whnf)
    | (refine And.intro (hv2 (by assumption) (by assumption)) ?_; conv => whnf)
    | (refine And.intro (hv3 (by assumption) (by assumption)) ?_; conv => whnf)
    | (refine And.intro (lm_v511 _) ?_; conv => whnf)
    | (refine And.intro (lm_v7 _) ?_; conv => whnf)
    | (refine ⟨fun hx => ?_, fun hx => ?_⟩ <;> conv => whnf)
    | (split at h)
    | contradiction
    | exact h
set_option maxHeartbeats 1000000 in
theorem wk_408 {post : Option Value → lm_S → Prop} (op p t c : Int32) (S : lm_S) (hw : vp_in p 569) (h : post none (km_wsr op p t c S)) : lm_Go YF g_R_work ca_wk post 408 [(0, .ref 16), (1, .int op), (2, .int p), (3, .int t), (4, .int c)] [] S := by
  refine lm_run 60 ?_
  unfold km_wsr km_win at h
  (try (conv => whnf))
  repeat' first
    | (refine ⟨_, rfl, ?_⟩; conv => whnf)
    | (refine ⟨_, _, rfl, ?_⟩; conv => whnf)
    | (refine ⟨_, _, _, rfl, ?_⟩; conv => whnf)
    | (refine ⟨_, _, _, _, rfl, ?_⟩; conv => whnf)
    | (refine And.intro rfl ?_; conv => whnf)
    | (refine And.intro (lm_vc (by decide)) ?_; conv => whnf)
    | (refine And.intro (by decide) ?_; conv => whnf)
    | (refine ⟨fun hx => absurd hx (by decide), fun _ => ?_⟩; conv => whnf)
    | (refine ⟨fun _ => ?_, fun hx => absurd hx (by decide)⟩; conv => whnf)
    | (refine And.intro (hw hx) ?_; conv => whnf)
    | (refine And.intro hw ?_; conv => whnf)
    | (refine And.intro hw2 ?_; conv => whnf)
    | (refine And.intro hw3 ?_; conv => whnf)
    | (refine And.intro hw4 ?_; conv => whnf)
    | (refine And.intro hw5 ?_; conv => whnf)
    | (refine And.intro hw6 ?_; conv => whnf)
    | (refine And.intro hw7 ?_; conv => whnf)
    | (refine And.intro (hv1 (by assumption)) ?_; conv => whnf)
    | (refine And.intro (hv2 (by assumption) (by assumption)) ?_; conv => whnf)
    | (refine And.intro (hv3 (by assumption) (by assumption)) ?_; conv => whnf)
    | (refine And.intro (lm_v511 _) ?_; conv => whnf)
    | (refine And.intro (lm_v7 _) ?_; conv => whnf)
    | (refine ⟨fun hx => ?_, fun hx => ?_⟩ <;> conv => whnf)
    | (split at h)
    | contradiction
    | exact h
def km_wk (op p t c : Int32) (S : lm_S) : lm_S := if op.toInt = 0 then km_wld op t S else if op.toInt = 0 + 1 then km_wld op t S else if op.toInt = 0 + 1 + 1 then km_wld op t S else if op.toInt = 0 + 1 + 1 + 1 then km_wst op p S else if op.toInt = 0 + 1 + 1 + 1 + 1 then km_wst op p S else if op.toInt = 0 + 1 + 1 + 1 + 1 + 1 then km_wst op p S else if op.toInt = 0 + 1 + 1 + 1 + 1 + 1 + 1 then km_add t S else if op.toInt = 0 + 1 + 1 + 1 + 1 + 1 + 1 + 1 then km_add (255 - t) S else if op.toInt = 0 + 1 + 1 + 1 + 1 + 1 + 1 + 1 + 1 then km_wbt (S 18 512 &&& t) S else if op.toInt = 0 + 1 + 1 + 1 + 1 + 1 + 1 + 1 + 1 + 1 then km_wbt (S 18 512 ||| t) S else if op.toInt = 0 + 1 + 1 + 1 + 1 + 1 + 1 + 1 + 1 + 1 + 1 then km_wbt (S 18 512 ^^^ t) S else if op.toInt = 0 + 1 + 1 + 1 + 1 + 1 + 1 + 1 + 1 + 1 + 1 + 1 then km_wcm op t S else if op.toInt = 0 + 1 + 1 + 1 + 1 + 1 + 1 + 1 + 1 + 1 + 1 + 1 + 1 then km_wcm op t S else if op.toInt = 0 + 1 + 1 + 1 + 1 + 1 + 1 + 1 + 1 + 1 + 1 + 1 + 1 + 1 then km_wcm op t S else if op.toInt = 0 + 1 + 1 + 1 + 1 + 1 + 1 + 1 + 1 + 1 + 1 + 1 + 1 + 1 + 1 then km_wte t S else if op.toInt = 0 + 1 + 1 + 1 + 1 + 1 + 1 + 1 + 1 + 1 + 1 + 1 + 1 + 1 + 1 + 1 then km_win p (t + 1) S else if op.toInt = 0 + 1 + 1 + 1 + 1 + 1 + 1 + 1 + 1 + 1 + 1 + 1 + 1 + 1 + 1 + 1 + 1 then km_win p (t - 1) S else if op.toInt = 0 + 1 + 1 + 1 + 1 + 1 + 1 + 1 + 1 + 1 + 1 + 1 + 1 + 1 + 1 + 1 + 1 + 1 then km_wsl op p t c S else if op.toInt = 0 + 1 + 1 + 1 + 1 + 1 + 1 + 1 + 1 + 1 + 1 + 1 + 1 + 1 + 1 + 1 + 1 + 1 + 1 then km_wsr op p t c S else if op.toInt = 0 + 1 + 1 + 1 + 1 + 1 + 1 + 1 + 1 + 1 + 1 + 1 + 1 + 1 + 1 + 1 + 1 + 1 + 1 + 1 then km_wsl op p t c S else km_wsr op p t c S
def km_work (op p : Int32) (S : lm_S) : lm_S := km_wk op p (S 18 p.toNatClampNeg) (S 18 516 &&& 1) S
def s_R_work : lm_Sp := fun av S post => ∃ op p, av = [.ref 16, .int op, .int p] ∧ vp_in p 569 ∧ post none (km_work op p S)
set_option maxRecDepth 20000 in
theorem wk_sw {post : Option Value → lm_S → Prop} (op p t c : Int32) (S : lm_S) (hp : vp_in p 569) (h : post none (km_wk op p t c S)) : lm_Go YF g_R_work ca_wk post 19 [(0, .ref 16), (1, .int op), (2, .int p), (3, .int t), (4, .int c)] [] S := by
  refine lm_tos (fun q => Nat.beq q 116 || Nat.beq q 134 || Nat.beq q 154 || Nat.beq q 162 || Nat.beq q 174 || Nat.beq q 199 || Nat.beq q 224 || Nat.beq q 249 || Nat.beq q 270 || Nat.beq q 334 || Nat.beq q 349 || Nat.beq q 364 || Nat.beq q 408) 10 ?_
  unfold km_wk at h
  conv => whnf
  refine ⟨fun hx => by
    rw [if_pos hx] at h
    exact wk_116 op p t c S (by rw [km_opj 0 (by omega) hx]; exact lm_vc (by decide)) h, fun hx => ?_⟩
  rw [if_neg hx] at h
  clear hx
  conv => whnf
  refine ⟨fun hx => by
    rw [if_pos hx] at h
    exact wk_116 op p t c S (by rw [km_opj 1 (by omega) hx]; exact lm_vc (by decide)) h, fun hx => ?_⟩
  rw [if_neg hx] at h
  clear hx
  conv => whnf
  refine ⟨fun hx => by
    rw [if_pos hx] at h
    exact wk_116 op p t c S (by rw [km_opj 2 (by omega) hx]; exact lm_vc (by decide)) h, fun hx => ?_⟩
  rw [if_neg hx] at h
  clear hx
  conv => whnf
  refine ⟨fun hx => by
    rw [if_pos hx] at h
    exact wk_134 op p t c S (by rw [km_opj 3 (by omega) hx]; exact lm_vc (by decide)) hp h, fun hx => ?_⟩
  rw [if_neg hx] at h
  clear hx
  conv => whnf
  refine ⟨fun hx => by
    rw [if_pos hx] at h
    exact wk_134 op p t c S (by rw [km_opj 4 (by omega) hx]; exact lm_vc (by decide)) hp h, fun hx => ?_⟩
  rw [if_neg hx] at h
  clear hx
  conv => whnf
  refine ⟨fun hx => by
    rw [if_pos hx] at h
    exact wk_134 op p t c S (by rw [km_opj 5 (by omega) hx]; exact lm_vc (by decide)) hp h, fun hx => ?_⟩
  rw [if_neg hx] at h
  clear hx
  conv => whnf
  refine ⟨fun hx => by
    rw [if_pos hx] at h
    exact wk_154 op p t c S h, fun hx => ?_⟩
  rw [if_neg hx] at h
  clear hx
  conv => whnf
  refine ⟨fun hx => by
    rw [if_pos hx] at h
    exact wk_162 op p t c S h, fun hx => ?_⟩
  rw [if_neg hx] at h
  clear hx
  conv => whnf
  refine ⟨fun hx => by
    rw [if_pos hx] at h
    exact wk_174 op p t c S h, fun hx => ?_⟩
  rw [if_neg hx] at h
  clear hx
  conv => whnf
  refine ⟨fun hx => by
    rw [if_pos hx] at h
    exact wk_199 op p t c S h, fun hx => ?_⟩
  rw [if_neg hx] at h
  clear hx
  conv => whnf
  refine ⟨fun hx => by
    rw [if_pos hx] at h
    exact wk_224 op p t c S h, fun hx => ?_⟩
  rw [if_neg hx] at h
  clear hx
  conv => whnf
  refine ⟨fun hx => by
    rw [if_pos hx] at h
    exact wk_249 op p t c S (by rw [km_opj 11 (by omega) hx]; exact lm_vc (by decide)) h, fun hx => ?_⟩
  rw [if_neg hx] at h
  clear hx
  conv => whnf
  refine ⟨fun hx => by
    rw [if_pos hx] at h
    exact wk_249 op p t c S (by rw [km_opj 12 (by omega) hx]; exact lm_vc (by decide)) h, fun hx => ?_⟩
  rw [if_neg hx] at h
  clear hx
  conv => whnf
  refine ⟨fun hx => by
    rw [if_pos hx] at h
    exact wk_249 op p t c S (by rw [km_opj 13 (by omega) hx]; exact lm_vc (by decide)) h, fun hx => ?_⟩
  rw [if_neg hx] at h
  clear hx
  conv => whnf
  refine ⟨fun hx => by
    rw [if_pos hx] at h
    exact wk_270 op p t c S h, fun hx => ?_⟩
  rw [if_neg hx] at h
  clear hx
  conv => whnf
  refine ⟨fun hx => by
    rw [if_pos hx] at h
    exact wk_334 op p t c S hp h, fun hx => ?_⟩
  rw [if_neg hx] at h
  clear hx
  conv => whnf
  refine ⟨fun hx => by
    rw [if_pos hx] at h
    exact wk_349 op p t c S hp h, fun hx => ?_⟩
  rw [if_neg hx] at h
  clear hx
  conv => whnf
  refine ⟨fun hx => by
    rw [if_pos hx] at h
    exact wk_364 op p t c S hp h, fun hx => ?_⟩
  rw [if_neg hx] at h
  clear hx
  conv => whnf
  refine ⟨fun hx => by
    rw [if_pos hx] at h
    exact wk_408 op p t c S hp h, fun hx => ?_⟩
  rw [if_neg hx] at h
  clear hx
  conv => whnf
  refine ⟨fun hx => by
    rw [if_pos hx] at h
    exact wk_364 op p t c S hp h, fun hx => ?_⟩
  rw [if_neg hx] at h
  exact wk_408 op p t c S hp h
abbrev ca_R_work : lm_Ca := [(36, 2, (some 4), s_R_flag), (77, 1, (some 4), s_R_marked), (81, 2, (some 4), s_R_change), (84, 1, (some 4), s_R_add), (87, 2, (some 4), s_R_compare)]
theorem cok_R_work (l : Launch) : lm_cok l (kk_Y kk_shF) R_R 3 66 ca_R_work := kk_cok (kk_cons ⟨y_R_flag, b_R_flag, 3, none, 0, 0, I_R_flag l, ⟨by decide, by decide⟩, yw_R_flag, li_R_36⟩ <| kk_cons ⟨y_R_marked, b_R_marked, 2, some .int, 1, 22, I_R_marked l, ⟨by decide, by decide⟩, yw_R_marked, li_R_77⟩ <| kk_cons ⟨y_R_change, b_R_change, 3, none, 1, 22, I_R_change l, ⟨by decide, by decide⟩, yw_R_change, li_R_81⟩ <| kk_cons ⟨y_R_add, b_R_add, 3, none, 2, 43, I_R_add l, ⟨by decide, by decide⟩, yw_R_add, li_R_84⟩ <| kk_cons ⟨y_R_compare, b_R_compare, 4, none, 2, 43, I_R_compare l, ⟨by decide, by decide⟩, yw_R_compare, li_R_87⟩ <| kk_nil)
set_option maxHeartbeats 1000000 in
set_option maxRecDepth 20000 in
theorem I_R_work (l : Launch) : lm_I l (kk_Y kk_shF) y_R_work b_R_work 5 (none) 3 66 s_R_work := by
  refine lm_impl g_R_work ca_R_work (by decide +kernel) kk_okF ck_R_work (kk_fok fl_R_ok) (kk_sok sl_R_ok) (Or.inl rfl) (cok_R_work l) rfl (by decide) ?_
  rintro av S post ⟨op, p, rfl, hp, h⟩
  refine ⟨Nat.le_of_ble_eq_true rfl, lm_to 19 20 ?_⟩
  conv => whnf
  refine ⟨hp, ?_⟩
  conv => whnf
  refine ⟨lm_vc (by decide), ?_⟩
  exact lm_Go.sub (wk_sw op p _ _ S hp h) (kk_cons rfl (kk_cons rfl (kk_cons rfl (kk_cons rfl (kk_cons rfl kk_nil)))))
def km_tr (d : Nat) (v : Int32) (S : lm_S) : lm_S := lm_set (km_mark v S) 18 d (v &&& 255)
def km_move (md : Int32) (S : lm_S) : lm_S := if md.toInt = 0 then km_tr 513 (S 18 512) S else if md.toInt = 0 + 1 then km_tr 512 (S 18 513) S else if md.toInt = 0 + 1 + 1 then km_tr 514 (S 18 512) S else if md.toInt = 0 + 1 + 1 + 1 then km_tr 512 (S 18 514) S else if md.toInt = 0 + 1 + 1 + 1 + 1 then km_tr 513 (S 18 515) S else if md.toInt = 0 + 1 + 1 + 1 + 1 + 1 then lm_set S 18 515 (S 18 513) else if md.toInt = 0 + 1 + 1 + 1 + 1 + 1 + 1 then km_tr 513 (S 18 513 + 1) S else km_tr 513 (S 18 513 - 1) S
def s_R_transfer : lm_Sp := fun av S post => ∃ md, av = [.ref 16, .int md] ∧ post none (km_move md S)
abbrev ca_R_transfer : lm_Ca := [(77, 1, (some 4), s_R_marked)]
theorem cok_R_transfer (l : Launch) : lm_cok l (kk_Y kk_shF) R_R 2 43 ca_R_transfer := kk_cok (kk_cons ⟨y_R_marked, b_R_marked, 2, some .int, 1, 22, I_R_marked l, ⟨by decide, by decide⟩, yw_R_marked, li_R_77⟩ <| kk_nil)
set_option maxHeartbeats 1000000 in
set_option maxRecDepth 20000 in
theorem I_R_transfer (l : Launch) : lm_I l (kk_Y kk_shF) y_R_transfer b_R_transfer 2 (none) 2 43 s_R_transfer := by
  refine lm_impl g_R_transfer ca_R_transfer (by decide +kernel) kk_okF ck_R_transfer (kk_fok fl_R_ok) (kk_sok sl_R_ok) (Or.inl rfl) (cok_R_transfer l) rfl (by decide) ?_
  rintro av S post ⟨md, rfl, h⟩
  refine ⟨Nat.le_of_ble_eq_true rfl, lm_run 90 ?_⟩
  unfold km_move km_tr at h
  (try (conv => whnf))
  repeat' first
    | (refine ⟨_, rfl, ?_⟩; conv => whnf)
    | (refine ⟨_, _, rfl, ?_⟩; conv => whnf)
    | (refine ⟨_, _, _, rfl, ?_⟩; conv => whnf)
    | (refine ⟨_, _, _, _, rfl, ?_⟩; conv => whnf)
    | (refine And.intro rfl ?_; conv => whnf)
    | (refine And.intro (lm_vc (by decide)) ?_; conv => whnf)
    | (refine And.intro (by decide) ?_; conv => whnf)
    | (refine ⟨fun hx => absurd hx (by decide), fun _ => ?_⟩; conv => whnf)
    | (refine ⟨fun _ => ?_, fun hx => absurd hx (by decide)⟩; conv => whnf)
    | (refine And.intro (hw hx) ?_; conv => whnf)
    | (refine And.intro hw ?_; conv => whnf)
    | (refine And.intro hw2 ?_; conv => whnf)
    | (refine And.intro hw3 ?_; conv => whnf)
    | (refine And.intro hw4 ?_; conv => whnf)
    | (refine And.intro hw5 ?_; conv => whnf)
    | (refine And.intro hw6 ?_; conv => whnf)
    | (refine And.intro hw7 ?_; conv => whnf)
    | (refine And.intro (hv1 (by assumption)) ?_; conv => whnf)
    | (refine And.intro (hv2 (by assumption) (by assumption)) ?_; conv => whnf)
    | (refine And.intro (hv3 (by assumption) (by assumption)) ?_; conv => whnf)
    | (refine And.intro (lm_v511 _) ?_; conv => whnf)
    | (refine And.intro (lm_v7 _) ?_; conv => whnf)
    | (refine ⟨fun hx => ?_, fun hx => ?_⟩ <;> conv => whnf)
    | (split at h)
    | contradiction
    | exact h
def km_o1 (k : Int32) (S : lm_S) : lm_S := lm_set S 18 (561 + k).toNatClampNeg (S 18 (561 + k - 1).toNatClampNeg)
def km_o7 (S : lm_S) : lm_S := km_o1 (7 + -1 + -1 + -1 + -1 + -1 + -1) (km_o1 (7 + -1 + -1 + -1 + -1 + -1) (km_o1 (7 + -1 + -1 + -1 + -1) (km_o1 (7 + -1 + -1 + -1) (km_o1 (7 + -1 + -1) (km_o1 (7 + -1) (km_o1 7 S))))))
def km_oe (S : lm_S) : lm_S := lm_set (lm_set S 18 561 (S 18 512)) 18 560 (S 18 560 + 1)
def km_out (S : lm_S) : lm_S := km_oe (km_o7 S)
abbrev ca_st : lm_Ca := [(36, 2, (some 4), s_R_flag), (61, 1, (some 4), s_R_push), (77, 1, (some 4), s_R_marked), (90, 0, (some 4), s_R_pull)]
theorem st_oe {post : Option Value → lm_S → Prop} (S : lm_S) (h : post none (km_oe S)) : lm_Go YF g_R_stack ca_st post 333 [(0, .ref 16)] [] S := by
  refine lm_run 40 ?_
  unfold km_oe at h
  (try (conv => whnf))
  repeat' first
    | (refine ⟨_, rfl, ?_⟩; conv => whnf)
    | (refine ⟨_, _, rfl, ?_⟩; conv => whnf)
    | (refine ⟨_, _, _, rfl, ?_⟩; conv => whnf)
    | (refine ⟨_, _, _, _, rfl, ?_⟩; conv => whnf)
    | (refine And.intro rfl ?_; conv => whnf)
    | (refine And.intro (lm_vc (by decide)) ?_; conv => whnf)
    | (refine And.intro (by decide) ?_; conv => whnf)
    | (refine ⟨fun hx => absurd hx (by decide), fun _ => ?_⟩; conv => whnf)
    | (refine ⟨fun _ => ?_, fun hx => absurd hx (by decide)⟩; conv => whnf)
    | (refine And.intro (hw hx) ?_; conv => whnf)
    | (refine And.intro hw ?_; conv => whnf)
    | (refine And.intro hw2 ?_; conv => whnf)
    | (refine And.intro hw3 ?_; conv => whnf)
    | (refine And.intro hw4 ?_; conv => whnf)
    | (refine And.intro hw5 ?_; conv => whnf)
    | (refine And.intro hw6 ?_; conv => whnf)
    | (refine And.intro hw7 ?_; conv => whnf)
    | (refine And.intro (hv1 (by assumption)) ?_; conv => whnf)
    | (refine And.intro (hv2 (by assumption) (by assumption)) ?_; conv => whnf)
    | (refine And.intro (hv3 (by assumption) (by assumption)) ?_; conv => whnf)
    | (refine And.intro (lm_v511 _) ?_; conv => whnf)
    | (refine And.intro (lm_v7 _) ?_; conv => whnf)
    | (refine ⟨fun hx => ?_, fun hx => ?_⟩ <;> conv => whnf)
    | (split at h)
    | contradiction
    | exact h
theorem st_o1 {post : Option Value → lm_S → Prop} (k : Int32) (S : lm_S) (hk : (decide (0 < k) && decide (k ≤ 7)) = true) (h : lm_Go YF g_R_stack ca_st post 298 [(0, .ref 16), (5, .int (k + -1))] [] (km_o1 k S)) : lm_Go YF g_R_stack ca_st post 298 [(0, .ref 16), (5, .int k)] [] S := by
  rw [Bool.and_eq_true, decide_eq_true_eq, decide_eq_true_eq] at hk
  have hk1 : ¬ k ≤ 0 := Int32.not_le.mpr hk.1
  have hk2 : k.toInt ≤ 7 := by
    have := Int32.le_iff_toInt_le.mp hk.2
    rw [show (7 : Int32).toInt = 7 from by decide] at this
    exact this
  have hk3 : 0 < k.toInt := by
    have := Int32.lt_iff_toInt_lt.mp hk.1
    rw [Int32.toInt_zero] at this
    exact this
  obtain ⟨j, hj, rfl⟩ := nI_of (x := k) (by rw [Int32.lt_iff_toInt_lt, Int32.toInt_zero]; omega)
  rw [nI_toInt hj] at hk2 hk3
  have hv1 : vp_in (561 + nI j) 569 := by rw [show (561 : Int32) = nI 561 from rfl, nI_add]; exact vp_in_nI (by omega) (by decide)
  have hv2 : vp_in (561 + nI j - 1) 569 := by rw [show (561 : Int32) = nI 561 from rfl, nI_add, show (1 : Int32) = nI 1 from rfl, pk_sub (by omega)]; exact vp_in_nI (by omega) (by decide)
  refine lm_to 298 30 ?_
  conv => whnf
  refine ⟨fun hy => absurd hy hk1, fun _ => ?_⟩
  conv => whnf
  refine ⟨hv2, ?_⟩
  conv => whnf
  refine ⟨hv1, ?_⟩
  exact lm_Go.sub h (kk_cons rfl (kk_cons rfl kk_nil))
theorem st_out {post : Option Value → lm_S → Prop} (S : lm_S) (h : post none (km_out S)) : lm_Go YF g_R_stack ca_st post 294 [(0, .ref 16)] [] S := by
  refine lm_to 298 10 ?_
  refine lm_Go.sub (L1 := [(0, .ref 16), (5, .int 7)]) ?_ (kk_cons rfl (kk_cons rfl kk_nil))
  refine st_o1 _ _ (by decide) (st_o1 _ _ (by decide) (st_o1 _ _ (by decide) (st_o1 _ _ (by decide) (st_o1 _ _ (by decide) (st_o1 _ _ (by decide) (st_o1 _ _ (by decide) ?_))))))
  refine lm_to 333 10 ?_
  conv => whnf
  refine ⟨fun _ => ?_, fun hy => absurd (by decide) hy⟩
  exact lm_Go.sub (st_oe _ h) (kk_cons rfl kk_nil)
def km_shi : Nat → Nat → lm_S → lm_S
  | 0, _, S => S
  | n + 1, k, S => km_shi n (k + 1) (lm_set S 18 (520 + nI k).toNatClampNeg (S 18 (520 + nI k + 1).toNatClampNeg))
theorem st_shi {post : Option Value → lm_S → Prop} (w : Nat) (hw : w ≤ 39) : ∀ (m k : Nat) (S : lm_S), k + m = w → S 18 519 = nI w → post none (km_shi m k S) → lm_Go YF g_R_stack ca_st post 248 [(0, .ref 16), (5, .int (nI k))] [] S
  | 0, k, S, hk, hS, h => by
    refine lm_run 20 ?_
    conv => whnf
    refine ⟨lm_vc (by decide), ?_⟩
    conv => whnf
    refine ⟨fun _ => ?_, fun hy => absurd (show S 18 519 ≤ nI k by rw [hS]; exact nI_le (by omega) (by omega)) hy⟩
    exact h
  | m + 1, k, S, hk, hS, h => by
    have e1 : (520 : Int32) + nI k = nI (520 + k) := by rw [show (520 : Int32) = nI 520 from rfl, nI_add]
    refine lm_to 248 30 ?_
    conv => whnf
    refine ⟨lm_vc (by decide), ?_⟩
    conv => whnf
    refine ⟨fun hy => absurd (show S 18 519 ≤ nI k from hy) (by rw [hS]; exact nI_ge (by omega) (by omega)), fun _ => ?_⟩
    conv => whnf
    refine ⟨by rw [e1, nI_1]; exact vp_in_nI (by omega) (by decide), ?_⟩
    conv => whnf
    refine ⟨by rw [e1]; exact vp_in_nI (by omega) (by decide), ?_⟩
    refine lm_Go.sub (st_shi w hw m (k + 1) (lm_set S 18 (520 + nI k).toNatClampNeg (S 18 (520 + nI k + 1).toNatClampNeg)) (by omega) ?_ h) (kk_cons rfl (kk_cons ?_ kk_nil))
    · rw [← hS, e1, nI_clamp (by omega)]
      show (upd (S 18) (520 + k) _) 519 = S 18 519
      rw [pk_un (by omega)]
    · show some (Value.int (nI k + 1)) = some (Value.int (nI (k + 1)))
      rw [nI_1]
def km_i1 (S : lm_S) : lm_S := km_flag 1 (if S 18 519 = 0 then 1 else 0) S
def km_i2 (v : Int32) (S : lm_S) : lm_S := lm_set (km_mark v S) 18 512 (v &&& 255)
def km_i3 (w : Nat) (S : lm_S) : lm_S := if w = 0 then S else km_shi (w - 1) 0 (lm_set S 18 519 (S 18 519 - 1))
def km_in (w : Nat) (S : lm_S) : lm_S := km_i3 w (km_i2 (if S 18 519 = 0 then 0 else S 18 520) (km_i1 S))
theorem st_i3 {post : Option Value → lm_S → Prop} (w : Nat) (hw : w ≤ 40) (S : lm_S) (hS : S 18 519 = nI w) (h : post none (km_i3 w S)) : lm_Go YF g_R_stack ca_st post 216 [(0, .ref 16)] [] S := by
  refine lm_to 248 30 ?_
  unfold km_i3 at h
  conv => whnf
  refine ⟨lm_vc (by decide), ?_⟩
  conv => whnf
  refine ⟨fun hy => ?_, fun hy => ?_⟩
  · have h0 : w = 0 := by
      have q : S 18 519 ≤ nI 0 := hy
      rw [hS, nI_leI (by omega) (by omega)] at q
      omega
    rw [if_pos h0] at h
    exact h
  · have h0 : ¬ w = 0 := by
      have q : ¬ S 18 519 ≤ nI 0 := hy
      rw [hS, nI_leI (by omega) (by omega)] at q
      omega
    rw [if_neg h0] at h
    conv => whnf
    refine ⟨lm_vc (by decide), ?_⟩
    conv => whnf
    refine ⟨lm_vc (by decide), ?_⟩
    refine lm_Go.sub (st_shi (w - 1) (by omega) (w - 1) 0 (lm_set S 18 519 (S 18 519 - 1)) (by omega) ?_ h) (kk_cons rfl (kk_cons rfl kk_nil))
    show S 18 519 - 1 = nI (w - 1)
    rw [hS, show (1 : Int32) = nI 1 from rfl, pk_sub (by omega)]
theorem st_in {post : Option Value → lm_S → Prop} (w : Nat) (hw : w ≤ 40) (S : lm_S) (hS : S 18 519 = nI w) (h : post none (km_in w S)) : lm_Go YF g_R_stack ca_st post 160 [(0, .ref 16)] [] S := by
  refine lm_to 216 60 ?_
  unfold km_in km_i2 km_i1 at h
  conv => whnf
  refine ⟨lm_vc (by decide), ?_⟩
  conv => whnf
  refine ⟨fun (hy : ¬ S 18 519 = 0) => ?_, fun (hy : S 18 519 = 0) => ?_⟩
  · rw [if_neg hy, if_neg hy] at h
    conv => whnf
    refine ⟨_, _, rfl, ?_⟩
    conv => whnf
    refine ⟨lm_vc (by decide), ?_⟩
    conv => whnf
    refine ⟨fun _ => ?_, fun hz => absurd (show S 18 519 = 0 from hz) hy⟩
    conv => whnf
    refine ⟨lm_vc (by decide), ?_⟩
    conv => whnf
    refine ⟨_, rfl, ?_⟩
    conv => whnf
    refine ⟨lm_vc (by decide), ?_⟩
    exact lm_Go.sub (st_i3 w hw _ hS h) (kk_cons rfl kk_nil)
  · rw [if_pos hy, if_pos hy] at h
    conv => whnf
    refine ⟨_, _, rfl, ?_⟩
    conv => whnf
    refine ⟨lm_vc (by decide), ?_⟩
    conv => whnf
    refine ⟨fun hz => absurd (show S 18 519 = 0 from hy) hz, fun _ => ?_⟩
    conv => whnf
    refine ⟨_, rfl, ?_⟩
    conv => whnf
    refine ⟨lm_vc (by decide), ?_⟩
    exact lm_Go.sub (st_i3 w hw _ hS h) (kk_cons rfl kk_nil)
def km_stack (w : Nat) (md : Int32) (S : lm_S) : lm_S := if md.toInt = 0 then lm_set (km_pull (km_pull S)) 18 517 ((km_pv S + 256 * km_pv (km_pull S)) &&& 511) else if md.toInt = 0 + 1 then km_push (S 18 512) S else if md.toInt = 0 + 1 + 1 then km_tr 512 (km_pv S) (km_pull S) else if md.toInt = 0 + 1 + 1 + 1 then km_push (S 18 516) S else if md.toInt = 0 + 1 + 1 + 1 + 1 then lm_set (km_pull S) 18 516 (km_pv S &&& 195) else if md.toInt = 0 + 1 + 1 + 1 + 1 + 1 then lm_set S 18 518 1 else if md.toInt = 0 + 1 + 1 + 1 + 1 + 1 + 1 then km_in w S else km_out S
def s_R_stack : lm_Sp := fun av S post => ∃ (md : Int32) (w : Nat), av = [.ref 16, .int md] ∧ w ≤ 40 ∧ S 18 519 = nI w ∧ vp_in (256 + S 18 515) 569 ∧ post none (km_stack w md S)
abbrev ca_R_stack : lm_Ca := [(36, 2, (some 4), s_R_flag), (61, 1, (some 4), s_R_push), (77, 1, (some 4), s_R_marked), (90, 0, (some 4), s_R_pull)]
theorem cok_R_stack (l : Launch) : lm_cok l (kk_Y kk_shF) R_R 2 43 ca_R_stack := kk_cok (kk_cons ⟨y_R_flag, b_R_flag, 3, none, 0, 0, I_R_flag l, ⟨by decide, by decide⟩, yw_R_flag, li_R_36⟩ <| kk_cons ⟨y_R_push, b_R_push, 2, none, 1, 22, I_R_push l, ⟨by decide, by decide⟩, yw_R_push, li_R_61⟩ <| kk_cons ⟨y_R_marked, b_R_marked, 2, some .int, 1, 22, I_R_marked l, ⟨by decide, by decide⟩, yw_R_marked, li_R_77⟩ <| kk_cons ⟨y_R_pull, b_R_pull, 1, some .int, 0, 0, I_R_pull l, ⟨by decide, by decide⟩, yw_R_pull, li_R_90⟩ <| kk_nil)
set_option maxHeartbeats 1000000 in
set_option maxRecDepth 20000 in
theorem I_R_stack (l : Launch) : lm_I l (kk_Y kk_shF) y_R_stack b_R_stack 6 (none) 2 43 s_R_stack := by
  refine lm_impl g_R_stack ca_R_stack (by decide +kernel) kk_okF ck_R_stack (kk_fok fl_R_ok) (kk_sok sl_R_ok) (Or.inl rfl) (cok_R_stack l) rfl (by decide) ?_
  rintro av S post ⟨md, w, rfl, hw40, hS, hw, h⟩
  refine ⟨Nat.le_of_ble_eq_true rfl, lm_tos (fun q => Nat.beq q 160 || Nat.beq q 294) 60 ?_⟩
  unfold km_stack at h
  conv => whnf
  refine ⟨fun hx => by
    rw [if_pos hx] at h
    conv => whnf
    refine ⟨rfl, ?_⟩
    conv => whnf
    refine ⟨rfl, ?_⟩
    conv => whnf
    refine ⟨lm_vc (by decide), ?_⟩
    exact h, fun hx => ?_⟩
  rw [if_neg hx] at h
  clear hx
  conv => whnf
  refine ⟨fun hx => by
    rw [if_pos hx] at h
    conv => whnf
    refine ⟨lm_vc (by decide), ?_⟩
    conv => whnf
    refine ⟨_, rfl, hw, ?_⟩
    exact h, fun hx => ?_⟩
  rw [if_neg hx] at h
  clear hx
  conv => whnf
  refine ⟨fun hx => by
    rw [if_pos hx] at h
    conv => whnf
    refine ⟨rfl, ?_⟩
    conv => whnf
    refine ⟨_, rfl, ?_⟩
    conv => whnf
    refine ⟨lm_vc (by decide), ?_⟩
    exact h, fun hx => ?_⟩
  rw [if_neg hx] at h
  clear hx
  conv => whnf
  refine ⟨fun hx => by
    rw [if_pos hx] at h
    conv => whnf
    refine ⟨lm_vc (by decide), ?_⟩
    conv => whnf
    refine ⟨_, rfl, hw, ?_⟩
    exact h, fun hx => ?_⟩
  rw [if_neg hx] at h
  clear hx
  conv => whnf
  refine ⟨fun hx => by
    rw [if_pos hx] at h
    conv => whnf
    refine ⟨rfl, ?_⟩
    conv => whnf
    refine ⟨lm_vc (by decide), ?_⟩
    exact h, fun hx => ?_⟩
  rw [if_neg hx] at h
  clear hx
  conv => whnf
  refine ⟨fun hx => by
    rw [if_pos hx] at h
    conv => whnf
    refine ⟨lm_vc (by decide), ?_⟩
    exact h, fun hx => ?_⟩
  rw [if_neg hx] at h
  clear hx
  conv => whnf
  refine ⟨fun hx => by
    rw [if_pos hx] at h
    exact lm_Go.sub (st_in w hw40 S hS h) (kk_cons rfl kk_nil), fun hx => ?_⟩
  rw [if_neg hx] at h
  clear hx
  exact lm_Go.sub (st_out S h) (kk_cons rfl kk_nil)
end
section
/-! the reference: step, anew, come, has, turn -/
theorem km_place_in (md x i w : Int32) (S : lm_S) (hi : vp_in i 256) : vp_in (km_place md (x &&& 511) i w S) 569 := by
  unfold km_place
  repeat' split
  · exact km_v511 _
  · exact vp_in_up hi (by omega)
  · exact km_v255 _
  · exact km_v511 _
  · exact km_v511 _
  · exact km_v511 _
  · exact km_v511 _
def km_jmp (op p : Int32) (S : lm_S) : lm_S := if op = 22 then lm_set (km_push ((km_push (S 18 517 / 256) S) 18 517 &&& 255) (km_push (S 18 517 / 256) S)) 18 517 p else lm_set S 18 517 p
def km_disp (w : Nat) (op md be i wd : Int32) (S : lm_S) : lm_S := if 20 < op then (if 22 < op then (if op = 23 then km_stack w md S else if op = 24 then km_move md S else if op = 25 then km_small md S else if op = 26 then km_branch md i S else S) else if md ≤ 0 then S else if 7 ≤ md then S else km_jmp op (km_place md be i wd S) S) else if md = 7 then km_work op 512 S else km_work op (km_place md be i wd S) S
abbrev ca_rs : lm_Ca := [(50, 2, none, s_R_length), (54, 4, (some 4), s_R_place), (58, 2, (some 4), s_R_work), (61, 1, (some 4), s_R_push), (65, 1, (some 4), s_R_stack), (68, 1, (some 4), s_R_transfer), (71, 1, (some 4), s_R_small), (74, 2, (some 4), s_R_branch)]
set_option maxHeartbeats 1000000 in
set_option maxRecDepth 20000 in
theorem rs_disp {post : Option Value → lm_S → Prop} (w : Nat) (at_ op md be i wd : Int32) (S : lm_S) (hw40 : w ≤ 40) (hS : S 18 519 = nI w) (hsp : vp_in (256 + S 18 515) 569) (hi : vp_in i 569) (hp : vp_in (km_place md be i wd S) 569) (h : post none (km_disp w op md be i wd S)) : lm_Go YF g_R_step ca_rs post 96 [(0, .ref 16), (1, .int at_), (2, .int op), (3, .int md), (4, .int be), (5, .int i), (6, .int wd)] [] S := by
  refine lm_run 60 ?_
  unfold km_disp at h
  conv => whnf
  refine ⟨fun (h1 : 20 < op) => ?_, fun (h1 : ¬ 20 < op) => ?_⟩
  · rw [if_pos h1] at h
    conv => whnf
    refine ⟨fun (h2 : 22 < op) => ?_, fun (h2 : ¬ 22 < op) => ?_⟩
    · rw [if_pos h2] at h
      conv => whnf
      refine ⟨fun (h3 : ¬ op = 23) => ?_, fun (h3 : op = 23) => ?_⟩
      · rw [if_neg h3] at h
        conv => whnf
        refine ⟨fun (h4 : ¬ op = 24) => ?_, fun (h4 : op = 24) => ?_⟩
        · rw [if_neg h4] at h
          conv => whnf
          refine ⟨fun (h5 : ¬ op = 25) => ?_, fun (h5 : op = 25) => ?_⟩
          · rw [if_neg h5] at h
            conv => whnf
            refine ⟨fun (h6 : ¬ op = 26) => ?_, fun (h6 : op = 26) => ?_⟩
            · rw [if_neg h6] at h
              exact h
            · rw [if_pos h6] at h
              conv => whnf
              refine ⟨_, _, rfl, ?_⟩
              exact h
          · rw [if_pos h5] at h
            conv => whnf
            refine ⟨_, rfl, ?_⟩
            exact h
        · rw [if_pos h4] at h
          conv => whnf
          refine ⟨_, rfl, ?_⟩
          exact h
      · rw [if_pos h3] at h
        conv => whnf
        refine ⟨_, w, rfl, hw40, hS, hsp, ?_⟩
        exact h
    · rw [if_neg h2] at h
      conv => whnf
      refine ⟨fun (h3 : md ≤ 0) => ?_, fun (h3 : ¬ md ≤ 0) => ?_⟩
      · rw [if_pos h3] at h
        exact h
      · rw [if_neg h3] at h
        conv => whnf
        refine ⟨fun (h4 : 7 ≤ md) => ?_, fun (h4 : ¬ 7 ≤ md) => ?_⟩
        · rw [if_pos h4] at h
          exact h
        · rw [if_neg h4] at h
          unfold km_jmp at h
          conv => whnf
          refine ⟨_, _, _, _, rfl, hi, ?_⟩
          conv => whnf
          refine ⟨fun (h5 : ¬ op = 22) => ?_, fun (h5 : op = 22) => ?_⟩
          · rw [if_neg h5] at h
            conv => whnf
            refine ⟨lm_vc (by decide), ?_⟩
            exact h
          · rw [if_pos h5] at h
            conv => whnf
            refine ⟨lm_vc (by decide), ?_⟩
            conv => whnf
            refine ⟨by decide, ?_⟩
            conv => whnf
            refine ⟨_, rfl, hsp, ?_⟩
            conv => whnf
            refine ⟨lm_vc (by decide), ?_⟩
            conv => whnf
            refine ⟨_, rfl, km_sp _, ?_⟩
            conv => whnf
            refine ⟨lm_vc (by decide), ?_⟩
            exact h
  · rw [if_neg h1] at h
    conv => whnf
    refine ⟨fun (h2 : ¬ md = 7) => ?_, fun (h2 : md = 7) => ?_⟩
    · rw [if_neg h2] at h
      conv => whnf
      refine ⟨_, _, _, _, rfl, hi, ?_⟩
      conv => whnf
      refine ⟨_, _, rfl, hp, ?_⟩
      exact h
    · rw [if_pos h2] at h
      conv => whnf
      refine ⟨_, _, rfl, lm_vc (by decide), ?_⟩
      exact h
def km_w (S : lm_S) : Nat := (S 18 519).toNatClampNeg
def km_b (S : lm_S) : Int32 := S 18 (S 18 517).toNatClampNeg
def km_i (S : lm_S) : Int32 := S 18 (S 18 517 + 1 &&& 511).toNatClampNeg
def km_wd (S : lm_S) : Int32 := km_i S + 256 * S 18 (S 18 517 + 2 &&& 511).toNatClampNeg
def km_st1 (S : lm_S) : lm_S := km_disp (km_w S) (km_b S >>> (3 &&& 31)) (km_b S &&& 7) (S 18 517 + 1 &&& 511) (km_i S) (km_wd S) (lm_set S 18 517 ((S 18 517 + km_len (km_b S >>> (3 &&& 31)) (km_b S &&& 7)) &&& 511))
def km_step (S : lm_S) : lm_S := km_st1 (lm_set (lm_set S 16 8 (-1)) 16 9 (-1))
/-- what a step of the reference needs -/
def km_ok (S : lm_S) : Prop := vp_in (S 18 517) 512 ∧ vp_in (km_i S) 256 ∧ vp_in (S 18 515) 256 ∧ ∃ w : Nat, w ≤ 40 ∧ S 18 519 = nI w
def s_R_step : lm_Sp := fun av S post => av = [.ref 16] ∧ km_ok S ∧ post none (km_step S)
theorem km_sp2 {x : Int32} (h : vp_in x 256) : vp_in (256 + x) 569 := by
  obtain ⟨j, hj, rfl⟩ := vp_in_of h (by decide)
  rw [show (256 : Int32) = nI 256 from rfl, nI_add]
  exact vp_in_nI (by omega) (by decide)
abbrev ca_R_step : lm_Ca := [(50, 2, none, s_R_length), (54, 4, (some 4), s_R_place), (58, 2, (some 4), s_R_work), (61, 1, (some 4), s_R_push), (65, 1, (some 4), s_R_stack), (68, 1, (some 4), s_R_transfer), (71, 1, (some 4), s_R_small), (74, 2, (some 4), s_R_branch)]
theorem cok_R_step (l : Launch) : lm_cok l (kk_Y kk_shF) R_R 4 90 ca_R_step := kk_cok (kk_cons ⟨y_R_length, b_R_length, 2, some .int, 0, 0, I_R_length l, ⟨by decide, by decide⟩, yw_R_length, li_R_50⟩ <| kk_cons ⟨y_R_place, b_R_place, 5, some .int, 0, 0, I_R_place l, ⟨by decide, by decide⟩, yw_R_place, li_R_54⟩ <| kk_cons ⟨y_R_work, b_R_work, 5, none, 3, 66, I_R_work l, ⟨by decide, by decide⟩, yw_R_work, li_R_58⟩ <| kk_cons ⟨y_R_push, b_R_push, 2, none, 1, 22, I_R_push l, ⟨by decide, by decide⟩, yw_R_push, li_R_61⟩ <| kk_cons ⟨y_R_stack, b_R_stack, 6, none, 2, 43, I_R_stack l, ⟨by decide, by decide⟩, yw_R_stack, li_R_65⟩ <| kk_cons ⟨y_R_transfer, b_R_transfer, 2, none, 2, 43, I_R_transfer l, ⟨by decide, by decide⟩, yw_R_transfer, li_R_68⟩ <| kk_cons ⟨y_R_small, b_R_small, 2, none, 2, 43, I_R_small l, ⟨by decide, by decide⟩, yw_R_small, li_R_71⟩ <| kk_cons ⟨y_R_branch, b_R_branch, 5, none, 0, 0, I_R_branch l, ⟨by decide, by decide⟩, yw_R_branch, li_R_74⟩ <| kk_nil)
set_option maxHeartbeats 1000000 in
set_option maxRecDepth 20000 in
theorem I_R_step (l : Launch) : lm_I l (kk_Y kk_shF) y_R_step b_R_step 8 (none) 4 90 s_R_step := by
  refine lm_impl g_R_step ca_R_step (by decide +kernel) kk_okF ck_R_step (kk_fok fl_R_ok) (kk_sok sl_R_ok) (Or.inl rfl) (cok_R_step l) rfl (by decide) ?_
  rintro av S post ⟨rfl, ⟨h1, h2, h3, w, h4, h5⟩, h⟩
  refine ⟨Nat.le_of_ble_eq_true rfl, lm_to 96 60 ?_⟩
  have hw : km_w (lm_set (lm_set S 16 8 (-1)) 16 9 (-1)) = w := by
    show (S 18 519).toNatClampNeg = w
    rw [h5, nI_clamp (by omega)]
  unfold km_step km_st1 at h
  rw [hw] at h
  have f1 : vp_in ((lm_set (lm_set S 16 8 (-1)) 16 9 (-1)) 18 517) 512 := h1
  have f2 : vp_in (km_i (lm_set (lm_set S 16 8 (-1)) 16 9 (-1))) 256 := h2
  have f3 : vp_in ((lm_set (lm_set S 16 8 (-1)) 16 9 (-1)) 18 515) 256 := h3
  have f5 : (lm_set (lm_set S 16 8 (-1)) 16 9 (-1)) 18 519 = nI w := h5
  conv => whnf
  refine ⟨lm_vc (by decide), ?_⟩
  generalize lm_set (lm_set S 16 8 (-1)) 16 9 (-1) = S0 at *
  conv => whnf
  refine ⟨vp_in_up f1 (by omega), ?_⟩
  conv => whnf
  refine ⟨vp_in_up f1 (by omega), ?_⟩
  conv => whnf
  refine ⟨km_v511 _, ?_⟩
  conv => whnf
  refine ⟨km_v511 _, ?_⟩
  conv => whnf
  refine ⟨_, _, rfl, ?_⟩
  conv => whnf
  refine ⟨lm_vc (by decide), ?_⟩
  exact lm_Go.sub (rs_disp w (S0 18 517) _ _ _ _ _ _ h4 f5 (km_sp2 f3) (vp_in_up f2 (by omega)) (km_place_in _ _ _ _ _ f2) h) (kk_cons rfl (kk_cons rfl (kk_cons rfl (kk_cons rfl (kk_cons rfl (kk_cons rfl (kk_cons rfl kk_nil)))))))
/-! copies -/
theorem lm_eq_up {sh : List lm_Sh} (S : lm_S) (j n : Nat) {ty : FieldType} (hj : sh[j]? = some (.inl (ty, n))) {f g : Nat → Int32} (h : ∀ k, k < n → f k = g k) : lm_eq (kk_Y sh) (va_up S j f) (va_up S j g) := by
  refine ⟨fun i ty2 n2 hi k hk => ?_, fun i ci gl hi k hk => ?_⟩
  · by_cases e : i = j
    · subst e
      have e2 : (Sum.inl (ty, n) : lm_Sh) = .inl (ty2, n2) := Option.some.inj (hj.symm.trans hi)
      cases e2
      rw [va_up_self, va_up_self]
      exact h k hk
    · rw [va_up_ne _ _ e, va_up_ne _ _ e]
  · by_cases e : i = j
    · subst e
      have e2 : (Sum.inl (ty, n) : lm_Sh) = .inr (ci, gl) := Option.some.inj (hj.symm.trans hi)
      cases e2
    · rw [va_up_ne _ _ e, va_up_ne _ _ e]
def kk_cp (i : Nat) (f g : Nat → Int32) : Nat → Int32 := fun k => if k < i then f k else g k
theorem kk_cp_s (i : Nat) (f g : Nat → Int32) : upd (kk_cp i f g) i (f i) = kk_cp (i + 1) f g := by
  funext k
  simp only [upd, kk_cp]
  by_cases h : k = i
  · subst h; simp
  · rw [if_neg h]
    by_cases h2 : k < i
    · rw [if_pos h2, if_pos (by omega)]
    · rw [if_neg h2, if_neg (by omega)]
theorem kk_cp_0 (f g : Nat → Int32) : kk_cp 0 f g = g := by funext k; simp [kk_cp]
theorem lm_set_up (S : lm_S) (j k : Nat) (f : Nat → Int32) (x : Int32) : lm_set (va_up S j f) j k x = va_up S j (upd f k x) := by
  funext i
  simp only [lm_set, va_up]
  by_cases h : i = j
  · simp [h]
  · simp [h]
theorem va_up_id (S : lm_S) (j : Nat) : va_up S j (S j) = S := by
  funext i
  simp only [va_up]
  by_cases h : i = j
  · simp [h]
  · simp [h]
def km_an (S : lm_S) : lm_S := lm_set (lm_set (va_up S 17 (S 18)) 16 2 0) 16 3 0
theorem an_loop {post : Option Value → lm_S → Prop} (S : lm_S) (h : post none (km_an S)) : ∀ (m i : Nat), i + m = 569 → lm_Go YF g_R_anew [] post 2 [(0, .ref 16), (1, .int (nI i))] [] (va_up S 17 (kk_cp i (S 18) (S 17)))
  | 0, i, hi => by
    have e : i = 569 := by omega
    subst e
    refine lm_Go.to (L1 := [(0, .ref 16), (1, .int (nI 569))]) ?_ (kk_cons rfl (kk_cons rfl kk_nil)) (lm_eq_up S 17 569 (ty := .int) rfl (f := S 18) (fun k hk => by simp [kk_cp, hk]))
    refine lm_run 30 ?_
    conv => whnf
    refine ⟨fun _ => ?_, fun hy => absurd (show (569 : Int32) ≤ nI 569 by decide) hy⟩
    exact h
  | m + 1, i, hi => by
    refine lm_to 2 30 ?_
    conv => whnf
    refine ⟨fun hy => absurd hy (nI_ge (b := 569) (show i < 569 by omega) (by omega)), fun _ => ?_⟩
    conv => whnf
    refine ⟨vp_in_nI (by omega) (by decide), ?_⟩
    conv => whnf
    refine ⟨vp_in_nI (by omega) (by decide), ?_⟩
    have e1 : lm_set (va_up S 17 (kk_cp i (S 18) (S 17))) 17 (nI i).toNatClampNeg ((va_up S 17 (kk_cp i (S 18) (S 17))) 18 (nI i).toNatClampNeg) = va_up S 17 (kk_cp (i + 1) (S 18) (S 17)) := by
      rw [nI_clamp (by omega), va_up_ne _ _ (by omega), lm_set_up, kk_cp_s]
    show lm_Go YF g_R_anew [] post 2 _ [] (lm_set (va_up S 17 (kk_cp i (S 18) (S 17))) 17 (nI i).toNatClampNeg ((va_up S 17 (kk_cp i (S 18) (S 17))) 18 (nI i).toNatClampNeg))
    rw [e1]
    refine lm_Go.sub (an_loop S h m (i + 1) (by omega)) (kk_cons rfl (kk_cons ?_ kk_nil))
    show some (Value.int (nI i + 1)) = some (Value.int (nI (i + 1)))
    rw [nI_1]
def s_R_anew : lm_Sp := fun av S post => av = [.ref 16] ∧ post none (km_an S)
abbrev ca_R_anew : lm_Ca := []
theorem cok_R_anew (l : Launch) : lm_cok l (kk_Y kk_shF) R_R 0 0 ca_R_anew := kk_cok (kk_nil)
set_option maxHeartbeats 1000000 in
set_option maxRecDepth 20000 in
theorem I_R_anew (l : Launch) : lm_I l (kk_Y kk_shF) y_R_anew b_R_anew 2 (none) 0 0 s_R_anew := by
  refine lm_impl g_R_anew ca_R_anew (by decide +kernel) kk_okF ck_R_anew (kk_fok fl_R_ok) (kk_sok sl_R_ok) (Or.inl rfl) (cok_R_anew l) rfl (by decide) ?_
  rintro av S post ⟨rfl, h⟩
  refine ⟨Nat.le_of_ble_eq_true rfl, lm_to 2 20 ?_⟩
  have h0 := an_loop S h 569 0 (by omega)
  rw [kk_cp_0, va_up_id] at h0
  exact lm_Go.sub h0 (kk_cons rfl (kk_cons rfl kk_nil))
def km_it : Nat → lm_S → lm_S
  | 0, S => S
  | n + 1, S => km_it n (km_step S)
def km_J (J : lm_S → Prop) : Prop := ∀ S, J S → km_ok S ∧ J (km_step S)
abbrev ca_cm : lm_Ca := [(94, 0, (some 4), s_R_step)]
theorem cm_steps {post : Option Value → lm_S → Prop} {J : lm_S → Prop} (hJ : km_J J) (t : Nat) (ht : t ≤ 300) : ∀ (m k : Nat) (S : lm_S), k + m = t → J S → post none (lm_set (km_it m S) 16 2 (nI t)) → lm_Go YF g_R_come ca_cm post 29 [(0, .ref 16), (1, .int (nI t)), (2, .int (nI k))] [] S
  | 0, k, S, hk, hS, h => by
    refine lm_run 20 ?_
    conv => whnf
    refine ⟨fun _ => ?_, fun hy => absurd (nI_le (show t ≤ k by omega) (by omega)) hy⟩
    exact h
  | m + 1, k, S, hk, hS, h => by
    refine lm_to 29 20 ?_
    conv => whnf
    refine ⟨fun hy => absurd hy (nI_ge (show k < t by omega) (by omega)), fun _ => ?_⟩
    conv => whnf
    refine ⟨rfl, (hJ S hS).1, ?_⟩
    refine lm_Go.sub (cm_steps hJ t ht m (k + 1) (km_step S) (by omega) (hJ S hS).2 h) (kk_cons rfl (kk_cons rfl (kk_cons ?_ kk_nil)))
    show some (Value.int (nI k + 1)) = some (Value.int (nI (k + 1)))
    rw [nI_1]
def km_back (S : lm_S) : lm_S := va_up S 18 (S 17)
def km_come (t : Nat) (S : lm_S) : lm_S := lm_set (km_it t (km_back S)) 16 2 (nI t)
theorem cm_copy {post : Option Value → lm_S → Prop} {J : lm_S → Prop} (hJ : km_J J) (t : Nat) (ht : t ≤ 300) (S : lm_S) (hS : J (km_back S)) (h : post none (km_come t S)) : ∀ (m i : Nat), i + m = 569 → lm_Go YF g_R_come ca_cm post 2 [(0, .ref 16), (1, .int (nI t)), (2, .int (nI i))] [] (va_up S 18 (kk_cp i (S 17) (S 18)))
  | 0, i, hi => by
    have e : i = 569 := by omega
    subst e
    refine lm_Go.to (L1 := [(0, .ref 16), (1, .int (nI t)), (2, .int (nI 569))]) ?_ (kk_cons rfl (kk_cons rfl (kk_cons rfl kk_nil))) (lm_eq_up S 18 569 (ty := .int) rfl (f := S 17) (fun k hk => by simp [kk_cp, hk]))
    refine lm_to 29 20 ?_
    conv => whnf
    refine ⟨fun _ => ?_, fun hy => absurd (show (569 : Int32) ≤ nI 569 by decide) hy⟩
    exact lm_Go.sub (cm_steps hJ t ht t 0 (km_back S) (by omega) hS h) (kk_cons rfl (kk_cons rfl (kk_cons rfl kk_nil)))
  | m + 1, i, hi => by
    refine lm_to 2 30 ?_
    conv => whnf
    refine ⟨fun hy => absurd hy (nI_ge (b := 569) (show i < 569 by omega) (by omega)), fun _ => ?_⟩
    conv => whnf
    refine ⟨vp_in_nI (by omega) (by decide), ?_⟩
    conv => whnf
    refine ⟨vp_in_nI (by omega) (by decide), ?_⟩
    have e1 : lm_set (va_up S 18 (kk_cp i (S 17) (S 18))) 18 (nI i).toNatClampNeg ((va_up S 18 (kk_cp i (S 17) (S 18))) 17 (nI i).toNatClampNeg) = va_up S 18 (kk_cp (i + 1) (S 17) (S 18)) := by
      rw [nI_clamp (by omega), va_up_ne _ _ (by omega), lm_set_up, kk_cp_s]
    show lm_Go YF g_R_come ca_cm post 2 _ [] (lm_set (va_up S 18 (kk_cp i (S 17) (S 18))) 18 (nI i).toNatClampNeg ((va_up S 18 (kk_cp i (S 17) (S 18))) 17 (nI i).toNatClampNeg))
    rw [e1]
    refine lm_Go.sub (cm_copy hJ t ht S hS h m (i + 1) (by omega)) (kk_cons rfl (kk_cons rfl (kk_cons ?_ kk_nil)))
    show some (Value.int (nI i + 1)) = some (Value.int (nI (i + 1)))
    rw [nI_1]
def s_R_come : lm_Sp := fun av S post => ∃ (t : Nat) (J : lm_S → Prop), av = [.ref 16, .int (nI t)] ∧ t ≤ 300 ∧ km_J J ∧ J (km_back S) ∧ post none (km_come t S)
abbrev ca_R_come : lm_Ca := [(94, 0, (some 4), s_R_step)]
theorem cok_R_come (l : Launch) : lm_cok l (kk_Y kk_shF) R_R 5 117 ca_R_come := kk_cok (kk_cons ⟨y_R_step, b_R_step, 8, none, 4, 90, I_R_step l, ⟨by decide, by decide⟩, yw_R_step, li_R_94⟩ <| kk_nil)
set_option maxHeartbeats 1000000 in
set_option maxRecDepth 20000 in
theorem I_R_come (l : Launch) : lm_I l (kk_Y kk_shF) y_R_come b_R_come 3 (none) 5 117 s_R_come := by
  refine lm_impl g_R_come ca_R_come (by decide +kernel) kk_okF ck_R_come (kk_fok fl_R_ok) (kk_sok sl_R_ok) (Or.inl rfl) (cok_R_come l) rfl (by decide) ?_
  rintro av S post ⟨t, J, rfl, ht, hJ, hS, h⟩
  refine ⟨Nat.le_of_ble_eq_true rfl, lm_to 2 20 ?_⟩
  have h0 := cm_copy hJ t ht S hS h 569 0 (by omega)
  rw [kk_cp_0, va_up_id] at h0
  exact lm_Go.sub h0 (kk_cons rfl (kk_cons rfl (kk_cons rfl kk_nil)))
/-! lists -/
def km_hs (j : Nat) (a : Int32) (S : lm_S) : Nat → Nat → Int32
  | 0, _ => 0
  | n + 1, k => if S j k = a then 1 else km_hs j a S n (k + 1)
theorem hs_loop {post : Option Value → lm_S → Prop} (j : Nat) (hj : j = 19 ∨ j = 20) (c : Nat) (hc : c ≤ 4) (a : Int32) (S : lm_S) : ∀ (m k : Nat), k + m = c → post (some (.int (km_hs j a S m k))) S → lm_Go YF g_R_has [] post 2 [(0, .ref j), (1, .int (nI c)), (2, .int a), (3, .int (nI k))] [] S
  | 0, k, hk, h => by
    refine lm_run 20 ?_
    conv => whnf
    refine ⟨fun _ => ?_, fun hy => absurd (nI_le (show c ≤ k by omega) (by omega)) hy⟩
    exact ⟨by decide, h⟩
  | m + 1, k, hk, h => by
    rw [km_hs] at h
    rcases hj with rfl | rfl
    · refine lm_to 2 20 ?_
      conv => whnf
      refine ⟨fun hy => absurd hy (nI_ge (show k < c by omega) (by omega)), fun _ => ?_⟩
      conv => whnf
      refine ⟨vp_in_nI (by omega) (by decide), ?_⟩
      conv => whnf
      rw [nI_clamp (by omega)]
      refine ⟨fun (hy : ¬ S 19 k = a) => ?_, fun (hy : S 19 k = a) => ?_⟩
      · rw [if_neg hy] at h
        refine lm_Go.sub (hs_loop 19 (Or.inl rfl) c hc a S m (k + 1) (by omega) h) (kk_cons rfl (kk_cons rfl (kk_cons rfl (kk_cons ?_ kk_nil))))
        show some (Value.int (nI k + 1)) = some (Value.int (nI (k + 1)))
        rw [nI_1]
      · rw [if_pos hy] at h
        exact ⟨by decide, h⟩
    · refine lm_to 2 20 ?_
      conv => whnf
      refine ⟨fun hy => absurd hy (nI_ge (show k < c by omega) (by omega)), fun _ => ?_⟩
      conv => whnf
      refine ⟨vp_in_nI (by omega) (by decide), ?_⟩
      conv => whnf
      rw [nI_clamp (by omega)]
      refine ⟨fun (hy : ¬ S 20 k = a) => ?_, fun (hy : S 20 k = a) => ?_⟩
      · rw [if_neg hy] at h
        refine lm_Go.sub (hs_loop 20 (Or.inr rfl) c hc a S m (k + 1) (by omega) h) (kk_cons rfl (kk_cons rfl (kk_cons rfl (kk_cons ?_ kk_nil))))
        show some (Value.int (nI k + 1)) = some (Value.int (nI (k + 1)))
        rw [nI_1]
      · rw [if_pos hy] at h
        exact ⟨by decide, h⟩
def s_R_has : lm_Sp := fun av S post => ∃ (j c : Nat) (a : Int32), av = [.ref j, .int (nI c), .int a] ∧ (j = 19 ∨ j = 20) ∧ c ≤ 4 ∧ post (some (.int (km_hs j a S c 0))) S
abbrev ca_R_has : lm_Ca := []
theorem cok_R_has (l : Launch) : lm_cok l (kk_Y kk_shF) R_R 0 0 ca_R_has := kk_cok (kk_nil)
set_option maxHeartbeats 1000000 in
set_option maxRecDepth 20000 in
theorem I_R_has (l : Launch) : lm_I l (kk_Y kk_shF) y_R_has b_R_has 4 (some .boolean) 0 0 s_R_has := by
  refine lm_impl g_R_has ca_R_has (by decide +kernel) kk_okF ck_R_has (kk_fok fl_R_ok) (kk_sok sl_R_ok) (Or.inl rfl) (cok_R_has l) rfl (by decide) ?_
  rintro av S post ⟨j, c, a, rfl, hj, hc, h⟩
  refine ⟨Nat.le_of_ble_eq_true rfl, lm_to 2 20 ?_⟩
  exact lm_Go.sub (hs_loop j hj c hc a S c 0 (by omega) h) (kk_cons rfl (kk_cons rfl (kk_cons rfl (kk_cons rfl kk_nil))))
end
section
/-! the reference: frames, turn, what it shows -/
def km_fr (S1 S : lm_S) : Prop := (∀ i, i ≠ 16 → i ≠ 18 → S1 i = S i) ∧ ∀ k, k ≠ 8 → k ≠ 9 → S1 16 k = S 16 k
theorem km_fr.rf (S : lm_S) : km_fr S S := ⟨fun _ _ _ => rfl, fun _ _ _ => rfl⟩
theorem km_fr.tr {S2 S1 S : lm_S} (h : km_fr S2 S1) (g : km_fr S1 S) : km_fr S2 S := ⟨fun i a b => (h.1 i a b).trans (g.1 i a b), fun k a b => (h.2 k a b).trans (g.2 k a b)⟩
theorem km_fr.st {S1 S : lm_S} (h : km_fr S1 S) {k : Nat} {x : Int32} : km_fr (lm_set S1 18 k x) S := ⟨fun i a b => (va_up_ne _ _ b).trans (h.1 i a b), fun k a b => h.2 k a b⟩
theorem km_fr.s8 {S1 S : lm_S} (h : km_fr S1 S) {x : Int32} : km_fr (lm_set S1 16 8 x) S := ⟨fun i a b => (va_up_ne _ _ a).trans (h.1 i a b), fun k a b => by
  show upd (S1 16) 8 x k = S 16 k
  rw [pk_un a]
  exact h.2 k a b⟩
theorem km_fr.s9 {S1 S : lm_S} (h : km_fr S1 S) {x : Int32} : km_fr (lm_set S1 16 9 x) S := ⟨fun i a b => (va_up_ne _ _ a).trans (h.1 i a b), fun k a b => by
  show upd (S1 16) 9 x k = S 16 k
  rw [pk_un b]
  exact h.2 k a b⟩
theorem km_fr.it {c : Prop} [Decidable c] {A B S : lm_S} (h : km_fr A S) (g : km_fr B S) : km_fr (if c then A else B) S := by
  split
  · exact h
  · exact g
theorem gq_flag (f o : Int32) (S : lm_S) : km_fr (km_flag f o S) S := (km_fr.rf S).st
theorem gq_mark (v : Int32) (S : lm_S) : km_fr (km_mark v S) S := (gq_flag _ _ _).tr (gq_flag _ _ _)
theorem gq_write (a v : Int32) (S : lm_S) : km_fr (km_write a v S) S := (km_fr.rf S).st.s9.s8
theorem gq_push (v : Int32) (S : lm_S) : km_fr (km_push v S) S := (gq_write _ _ _).st
theorem gq_pull (S : lm_S) : km_fr (km_pull S) S := (km_fr.rf S).st
theorem gq_change (p v : Int32) (S : lm_S) : km_fr (km_change p v S) S := (km_fr.rf S).st.it (gq_write _ _ _)
theorem gq_add (t : Int32) (S : lm_S) : km_fr (km_add t S) S := ((gq_mark _ _).tr ((gq_flag _ _ _).tr (gq_flag _ _ _))).st
theorem gq_cmp (v t : Int32) (S : lm_S) : km_fr (km_cmp v t S) S := (gq_flag _ _ _).tr (gq_mark _ _)
theorem gq_small (md : Int32) (S : lm_S) : km_fr (km_small md S) S := ((gq_flag _ _ _).it (km_fr.rf _)).tr ((((gq_flag _ _ _).it (gq_flag _ _ _)).it ((gq_flag _ _ _).it (km_fr.rf _))).tr (((gq_mark _ _).st.it (km_fr.rf _)).tr ((gq_mark _ _).st.it (km_fr.rf _))))
theorem gq_hop (o : Int32) (S : lm_S) : km_fr (km_hop o S) S := (km_fr.rf S).st
theorem gq_branch (md o : Int32) (S : lm_S) : km_fr (km_branch md o S) S := ((km_fr.rf S).it (gq_hop _ _)).it ((gq_hop _ _).it (km_fr.rf S))
theorem gq_wte (t : Int32) (S : lm_S) : km_fr (km_wte t S) S := (gq_flag _ _ _).tr ((gq_flag _ _ _).tr (gq_flag _ _ _))
theorem gq_win (p v : Int32) (S : lm_S) : km_fr (km_win p v S) S := (gq_change _ _ _).tr (gq_mark _ _)
theorem gq_wsl (op p t c : Int32) (S : lm_S) : km_fr (km_wsl op p t c S) S := (gq_flag _ _ _).tr (gq_win _ _ _)
theorem gq_wsr (op p t c : Int32) (S : lm_S) : km_fr (km_wsr op p t c S) S := (gq_flag _ _ _).tr (gq_win _ _ _)
theorem gq_tr (d : Nat) (v : Int32) (S : lm_S) : km_fr (km_tr d v S) S := (gq_mark _ _).st
theorem gq_wk (op p t c : Int32) (S : lm_S) : km_fr (km_wk op p t c S) S := (km_fr.it (gq_mark _ _).st (km_fr.it (gq_mark _ _).st (km_fr.it (gq_mark _ _).st (km_fr.it (gq_change _ _ _) (km_fr.it (gq_change _ _ _) (km_fr.it (gq_change _ _ _) (km_fr.it (gq_add _ _) (km_fr.it (gq_add _ _) (km_fr.it (gq_mark _ _).st (km_fr.it (gq_mark _ _).st (km_fr.it (gq_mark _ _).st (km_fr.it (gq_cmp _ _ _) (km_fr.it (gq_cmp _ _ _) (km_fr.it (gq_cmp _ _ _) (km_fr.it (gq_wte _ _) (km_fr.it (gq_win _ _ _) (km_fr.it (gq_win _ _ _) (km_fr.it (gq_wsl _ _ _ _ _) (km_fr.it (gq_wsr _ _ _ _ _) (km_fr.it (gq_wsl _ _ _ _ _) (gq_wsr _ _ _ _ _)))))))))))))))))))))
theorem gq_move (md : Int32) (S : lm_S) : km_fr (km_move md S) S := (km_fr.it (gq_tr _ _ _) (km_fr.it (gq_tr _ _ _) (km_fr.it (gq_tr _ _ _) (km_fr.it (gq_tr _ _ _) (km_fr.it (gq_tr _ _ _) (km_fr.it (km_fr.rf S).st (km_fr.it (gq_tr _ _ _) (gq_tr _ _ _))))))))
theorem gq_o1 (k : Int32) (S : lm_S) : km_fr (km_o1 k S) S := (km_fr.rf S).st
theorem gq_out (S : lm_S) : km_fr (km_out S) S := ((gq_o1 _ _).tr ((gq_o1 _ _).tr ((gq_o1 _ _).tr ((gq_o1 _ _).tr ((gq_o1 _ _).tr ((gq_o1 _ _).tr (gq_o1 _ _))))))).st.st
theorem gq_shi : ∀ (n k : Nat) (S : lm_S), km_fr (km_shi n k S) S
  | 0, _, S => km_fr.rf S
  | n + 1, k, S => (gq_shi n (k + 1) _).tr (km_fr.rf S).st
theorem gq_i1 (S : lm_S) : km_fr (km_i1 S) S := gq_flag _ _ _
theorem gq_i2 (v : Int32) (S : lm_S) : km_fr (km_i2 v S) S := (gq_mark _ _).st
theorem gq_i3 (w : Nat) (S : lm_S) : km_fr (km_i3 w S) S := km_fr.it (km_fr.rf _) ((gq_shi _ _ _).tr (km_fr.rf _).st)
theorem gq_in (w : Nat) (S : lm_S) : km_fr (km_in w S) S := (gq_i3 _ _).tr ((gq_i2 _ _).tr (gq_i1 _))
theorem gq_stack (w : Nat) (md : Int32) (S : lm_S) : km_fr (km_stack w md S) S := km_fr.it ((gq_pull _).tr (gq_pull _)).st (km_fr.it (gq_push _ _) (km_fr.it ((gq_tr _ _ _).tr (gq_pull _)) (km_fr.it (gq_push _ _) (km_fr.it (gq_pull _).st (km_fr.it (km_fr.rf S).st (km_fr.it (gq_in _ _) (gq_out _)))))))
theorem gq_jmp (op p : Int32) (S : lm_S) : km_fr (km_jmp op p S) S := km_fr.it ((gq_push _ _).tr (gq_push _ _)).st (km_fr.rf S).st
theorem gq_work (op p : Int32) (S : lm_S) : km_fr (km_work op p S) S := gq_wk _ _ _ _ _
theorem gq_disp (w : Nat) (op md be i wd : Int32) (S : lm_S) : km_fr (km_disp w op md be i wd S) S := km_fr.it (km_fr.it (km_fr.it (gq_stack _ _ _) (km_fr.it (gq_move _ _) (km_fr.it (gq_small _ _) (km_fr.it (gq_branch _ _ _) (km_fr.rf S))))) (km_fr.it (km_fr.rf S) (km_fr.it (km_fr.rf S) (gq_jmp _ _ _)))) (km_fr.it (gq_work _ _ _) (gq_work _ _ _))
theorem gq_step (S : lm_S) : km_fr (km_step S) S := (gq_disp _ _ _ _ _ _ _).tr ((km_fr.rf _).st.tr (km_fr.rf S).s8.s9)
/-! turn -/
def km_cpt (j : Nat) (a : Int32) : Nat → Nat → Nat → lm_S → Nat × lm_S
  | 0, _, n, S => (n, S)
  | m + 1, k, n, S => if S j k = a then km_cpt j a m (k + 1) n S else km_cpt j a m (k + 1) (n + 1) (lm_set S j n (S j k))
def km_tur (j c : Nat) (a on : Int32) (S : lm_S) : Option (Nat × lm_S) := if km_within a 511 = 0 then none else if km_hs j a S c 0 = on then none else if on = 0 then some (km_cpt j a c 0 0 S) else if c = 4 then none else some (c + 1, lm_set S j c a)
def km_tun (r : Option (Nat × lm_S)) : Int32 := match r with
  | none => -1
  | some q => nI q.1
def km_tus (r : Option (Nat × lm_S)) (S : lm_S) : lm_S := match r with
  | none => S
  | some q => q.2
abbrev ca_tu : lm_Ca := [(32, 2, none, s_R_within), (100, 3, none, s_R_has)]
theorem tu_step {post : Option Value → lm_S → Prop} (j : Nat) (hj : j = 19 ∨ j = 20) (c k n : Nat) (a on : Int32) (S : lm_S) (hc : c ≤ 4) (hk : k < c) (hn : n ≤ k)
    (h1 : S j k = a → lm_Go YF g_R_turn ca_tu post 49 [(0, .ref j), (1, .int (nI c)), (2, .int a), (3, .int on), (4, .int (nI n)), (5, .int (nI (k + 1)))] [] S)
    (h2 : ¬ S j k = a → lm_Go YF g_R_turn ca_tu post 49 [(0, .ref j), (1, .int (nI c)), (2, .int a), (3, .int on), (4, .int (nI (n + 1))), (5, .int (nI (k + 1)))] [] (lm_set S j n (S j k))) :
    lm_Go YF g_R_turn ca_tu post 49 [(0, .ref j), (1, .int (nI c)), (2, .int a), (3, .int on), (4, .int (nI n)), (5, .int (nI k))] [] S := by
  have e1 : nI (k + 1) = nI k + 1 := (nI_1 k).symm
  have e2 : nI (n + 1) = nI n + 1 := (nI_1 n).symm
  rw [e1] at h1 h2
  rw [e2] at h2
  have ek : (nI k).toNatClampNeg = k := nI_clamp (by omega)
  have en : (nI n).toNatClampNeg = n := nI_clamp (by omega)
  rcases hj with rfl | rfl
  · refine lm_to 49 40 ?_
    conv => whnf
    refine ⟨fun hy => absurd hy (nI_ge (show k < c by omega) (by omega)), fun _ => ?_⟩
    conv => whnf
    refine ⟨vp_in_nI (by omega) (by decide), ?_⟩
    conv => whnf
    refine ⟨fun (hy : S 19 (nI k).toNatClampNeg = a) => ?_, fun (hy : ¬ S 19 (nI k).toNatClampNeg = a) => ?_⟩
    · rw [ek] at hy
      exact lm_Go.sub (h1 hy) (kk_cons rfl (kk_cons rfl (kk_cons rfl (kk_cons rfl (kk_cons rfl (kk_cons rfl kk_nil))))))
    · conv => whnf
      refine ⟨vp_in_nI (by omega) (by decide), ?_⟩
      have hy2 := hy
      rw [ek] at hy2
      have g := h2 hy2
      have e3 : lm_set S 19 (nI n).toNatClampNeg (S 19 (nI k).toNatClampNeg) = lm_set S 19 n (S 19 k) := by rw [ek, en]
      rw [← e3] at g
      exact lm_Go.sub g (kk_cons rfl (kk_cons rfl (kk_cons rfl (kk_cons rfl (kk_cons rfl (kk_cons rfl kk_nil))))))
  · refine lm_to 49 40 ?_
    conv => whnf
    refine ⟨fun hy => absurd hy (nI_ge (show k < c by omega) (by omega)), fun _ => ?_⟩
    conv => whnf
    refine ⟨vp_in_nI (by omega) (by decide), ?_⟩
    conv => whnf
    refine ⟨fun (hy : S 20 (nI k).toNatClampNeg = a) => ?_, fun (hy : ¬ S 20 (nI k).toNatClampNeg = a) => ?_⟩
    · rw [ek] at hy
      exact lm_Go.sub (h1 hy) (kk_cons rfl (kk_cons rfl (kk_cons rfl (kk_cons rfl (kk_cons rfl (kk_cons rfl kk_nil))))))
    · conv => whnf
      refine ⟨vp_in_nI (by omega) (by decide), ?_⟩
      have hy2 := hy
      rw [ek] at hy2
      have g := h2 hy2
      have e3 : lm_set S 20 (nI n).toNatClampNeg (S 20 (nI k).toNatClampNeg) = lm_set S 20 n (S 20 k) := by rw [ek, en]
      rw [← e3] at g
      exact lm_Go.sub g (kk_cons rfl (kk_cons rfl (kk_cons rfl (kk_cons rfl (kk_cons rfl (kk_cons rfl kk_nil))))))
theorem tu_loop {post : Option Value → lm_S → Prop} (j : Nat) (hj : j = 19 ∨ j = 20) (c : Nat) (hc : c ≤ 4) (a on : Int32) : ∀ (m k n : Nat) (S : lm_S), k + m = c → n ≤ k → post (some (.int (nI (km_cpt j a m k n S).1))) (km_cpt j a m k n S).2 → lm_Go YF g_R_turn ca_tu post 49 [(0, .ref j), (1, .int (nI c)), (2, .int a), (3, .int on), (4, .int (nI n)), (5, .int (nI k))] [] S
  | 0, k, n, S, hk, hn, h => by
    refine lm_run 20 ?_
    conv => whnf
    refine ⟨fun _ => ?_, fun hy => absurd (nI_le (show c ≤ k by omega) (by omega)) hy⟩
    exact h
  | m + 1, k, n, S, hk, hn, h => by
    rw [km_cpt] at h
    refine tu_step j hj c k n a on S hc (by omega) hn (fun hy => ?_) (fun hy => ?_)
    · rw [if_pos hy] at h
      exact tu_loop j hj c hc a on m (k + 1) n S (by omega) (by omega) h
    · rw [if_neg hy] at h
      exact tu_loop j hj c hc a on m (k + 1) (n + 1) _ (by omega) (by omega) h
def s_R_turn : lm_Sp := fun av S post => ∃ (j c : Nat) (a on : Int32), av = [.ref j, .int (nI c), .int a, .int on] ∧ (j = 19 ∨ j = 20) ∧ c ≤ 4 ∧ post (some (.int (km_tun (km_tur j c a on S)))) (km_tus (km_tur j c a on S) S)
theorem tu_on {post : Option Value → lm_S → Prop} (j : Nat) (hj : j = 19 ∨ j = 20) (c : Nat) (hc : c < 4) (a on : Int32) (S : lm_S) (hon : ¬ on = 0) (h : post (some (.int (nI (c + 1)))) (lm_set S j c a)) : lm_Go YF g_R_turn ca_tu post 31 [(0, .ref j), (1, .int (nI c)), (2, .int a), (3, .int on)] [] S := by
  have ec : (nI c).toNatClampNeg = c := nI_clamp (by omega)
  rw [← nI_1, ← ec] at h
  rw [ec] at h
  refine lm_run 20 ?_
  have h2 : post (some (.int (nI c + 1))) (lm_set S j (nI c).toNatClampNeg a) := by rw [ec]; exact h
  rcases hj with rfl | rfl
  · conv => whnf
    refine ⟨fun hy => absurd hy hon, fun _ => ?_⟩
    conv => whnf
    refine ⟨vp_in_nI (by omega) (by decide), ?_⟩
    exact h2
  · conv => whnf
    refine ⟨fun hy => absurd hy hon, fun _ => ?_⟩
    conv => whnf
    refine ⟨vp_in_nI (by omega) (by decide), ?_⟩
    exact h2
theorem tu_off {post : Option Value → lm_S → Prop} (j : Nat) (hj : j = 19 ∨ j = 20) (c : Nat) (hc : c ≤ 4) (a : Int32) (S : lm_S) (h : post (some (.int (nI (km_cpt j a c 0 0 S).1))) (km_cpt j a c 0 0 S).2) : lm_Go YF g_R_turn ca_tu post 31 [(0, .ref j), (1, .int (nI c)), (2, .int a), (3, .int 0)] [] S := by
  refine lm_to 49 20 ?_
  conv => whnf
  refine ⟨fun _ => ?_, fun hy => absurd rfl hy⟩
  exact lm_Go.sub (tu_loop j hj c hc a 0 c 0 0 S (by omega) (by omega) h) (kk_cons rfl (kk_cons rfl (kk_cons rfl (kk_cons rfl (kk_cons rfl (kk_cons rfl kk_nil))))))
abbrev ca_R_turn : lm_Ca := [(32, 2, none, s_R_within), (100, 3, none, s_R_has)]
theorem cok_R_turn (l : Launch) : lm_cok l (kk_Y kk_shF) R_R 1 23 ca_R_turn := kk_cok (kk_cons ⟨y_R_within, b_R_within, 2, some .boolean, 0, 0, I_R_within l, ⟨by decide, by decide⟩, yw_R_within, li_R_32⟩ <| kk_cons ⟨y_R_has, b_R_has, 4, some .boolean, 0, 0, I_R_has l, ⟨by decide, by decide⟩, yw_R_has, li_R_100⟩ <| kk_nil)
set_option maxHeartbeats 1000000 in
set_option maxRecDepth 20000 in
theorem I_R_turn (l : Launch) : lm_I l (kk_Y kk_shF) y_R_turn b_R_turn 7 (some .int) 1 23 s_R_turn := by
  refine lm_impl g_R_turn ca_R_turn (by decide +kernel) kk_okF ck_R_turn (kk_fok fl_R_ok) (kk_sok sl_R_ok) (Or.inl rfl) (cok_R_turn l) rfl (by decide) ?_
  rintro av S post ⟨j, c, a, on, rfl, hj, hc, h⟩
  refine ⟨Nat.le_of_ble_eq_true rfl, lm_to 31 30 ?_⟩
  unfold km_tur at h
  conv => whnf
  refine ⟨_, _, rfl, ?_⟩
  conv => whnf
  refine ⟨fun (hy : km_within a 511 = 0) => ?_, fun (hy : ¬ km_within a 511 = 0) => ?_⟩
  · rw [if_pos hy] at h
    exact h
  · rw [if_neg hy] at h
    conv => whnf
    refine ⟨j, c, a, rfl, hj, hc, ?_⟩
    conv => whnf
    refine ⟨fun (hz : km_hs j a S c 0 = on) => ?_, fun (hz : ¬ km_hs j a S c 0 = on) => ?_⟩
    · rw [if_pos hz] at h
      exact h
    · rw [if_neg hz] at h
      conv => whnf
      refine ⟨fun (h0 : on = 0) => ?_, fun (h0 : ¬ on = 0) => ?_⟩
      · rw [if_pos h0] at h
        subst h0
        exact lm_Go.sub (tu_off j hj c hc a S h) (kk_cons rfl (kk_cons rfl (kk_cons rfl (kk_cons rfl kk_nil))))
      · rw [if_neg h0] at h
        conv => whnf
        refine ⟨fun (h4 : ¬ nI c = 4) => ?_, fun (h4 : nI c = 4) => ?_⟩
        · have h5 : ¬ c = 4 := fun q => h4 (by rw [q]; rfl)
          rw [if_neg h5] at h
          exact lm_Go.sub (tu_on j hj c (by omega) a on S h0 h) (kk_cons rfl (kk_cons rfl (kk_cons rfl (kk_cons rfl kk_nil))))
        · have h5 : c = 4 := (nI_eq (b := 4) (by omega) (by omega)).mp h4
          rw [if_pos h5] at h
          exact h
/-! what it shows -/
theorem km_within_in {a m : Int32} {n : Nat} (hm : m.toInt = (n : Int)) (h : ¬ km_within a m = 0) : vp_in a (n + 1) := by
  unfold km_within at h
  split at h
  · exact absurd rfl h
  · split at h
    · exact absurd rfl h
    · rename_i h1 h2
      rw [vp_in_iff]
      rw [Int32.lt_iff_toInt_lt, Int32.toInt_zero] at h1
      rw [Int32.lt_iff_toInt_lt, hm] at h2
      omega
def s_R_time : lm_Sp := fun av S post => av = [.ref 16] ∧ post (some (.int (S 16 2))) S
abbrev ca_R_time : lm_Ca := []
theorem cok_R_time (l : Launch) : lm_cok l (kk_Y kk_shF) R_R 0 0 ca_R_time := kk_cok (kk_nil)
set_option maxHeartbeats 1000000 in
set_option maxRecDepth 20000 in
theorem I_R_time (l : Launch) : lm_I l (kk_Y kk_shF) y_R_time b_R_time 1 (some .int) 0 0 s_R_time := by
  refine lm_impl g_R_time ca_R_time (by decide +kernel) kk_okF ck_R_time (kk_fok fl_R_ok) (kk_sok sl_R_ok) (Or.inl rfl) (cok_R_time l) rfl (by decide) ?_
  rintro av S post ⟨rfl, h⟩
  exact ⟨Nat.le_of_ble_eq_true rfl, lm_run 60 h⟩
def s_R_last : lm_Sp := fun av S post => av = [.ref 16] ∧ post (some (.int (S 16 3))) S
abbrev ca_R_last : lm_Ca := []
theorem cok_R_last (l : Launch) : lm_cok l (kk_Y kk_shF) R_R 0 0 ca_R_last := kk_cok (kk_nil)
set_option maxHeartbeats 1000000 in
set_option maxRecDepth 20000 in
theorem I_R_last (l : Launch) : lm_I l (kk_Y kk_shF) y_R_last b_R_last 1 (some .int) 0 0 s_R_last := by
  refine lm_impl g_R_last ca_R_last (by decide +kernel) kk_okF ck_R_last (kk_fok fl_R_ok) (kk_sok sl_R_ok) (Or.inl rfl) (cok_R_last l) rfl (by decide) ?_
  rintro av S post ⟨rfl, h⟩
  exact ⟨Nat.le_of_ble_eq_true rfl, lm_run 60 h⟩
def s_R_waiting : lm_Sp := fun av S post => av = [.ref 16] ∧ post (some (.int (S 18 519))) S
abbrev ca_R_waiting : lm_Ca := []
theorem cok_R_waiting (l : Launch) : lm_cok l (kk_Y kk_shF) R_R 0 0 ca_R_waiting := kk_cok (kk_nil)
set_option maxHeartbeats 1000000 in
set_option maxRecDepth 20000 in
theorem I_R_waiting (l : Launch) : lm_I l (kk_Y kk_shF) y_R_waiting b_R_waiting 1 (some .int) 0 0 s_R_waiting := by
  refine lm_impl g_R_waiting ca_R_waiting (by decide +kernel) kk_okF ck_R_waiting (kk_fok fl_R_ok) (kk_sok sl_R_ok) (Or.inl rfl) (cok_R_waiting l) rfl (by decide) ?_
  rintro av S post ⟨rfl, h⟩
  refine ⟨Nat.le_of_ble_eq_true rfl, lm_run 60 ?_⟩
  (try (conv => whnf))
  repeat' first
    | (refine ⟨_, rfl, ?_⟩; conv => whnf)
    | (refine ⟨_, _, rfl, ?_⟩; conv => whnf)
    | (refine ⟨_, _, _, rfl, ?_⟩; conv => whnf)
    | (refine ⟨_, _, _, _, rfl, ?_⟩; conv => whnf)
    | (refine And.intro rfl ?_; conv => whnf)
    | (refine And.intro (lm_vc (by decide)) ?_; conv => whnf)
    | (refine And.intro (by decide) ?_; conv => whnf)
    | (refine ⟨fun hx => absurd hx (by decide), fun _ => ?_⟩; conv => whnf)
    | (refine ⟨fun _ => ?_, fun hx => absurd hx (by decide)⟩; conv => whnf)
    | (refine And.intro (hw hx) ?_; conv => whnf)
    | (refine And.intro hw ?_; conv => whnf)
    | (refine And.intro hw2 ?_; conv => whnf)
    | (refine And.intro hw3 ?_; conv => whnf)
    | (refine And.intro hw4 ?_; conv => whnf)
    | (refine And.intro hw5 ?_; conv => whnf)
    | (refine And.intro hw6 ?_; conv => whnf)
    | (refine And.intro hw7 ?_; conv => whnf)
    | (refine And.intro (hv1 (by assumption)) ?_; conv => whnf)
    | (refine And.intro (hv2 (by assumption) (by assumption)) ?_; conv => whnf)
    | (refine And.intro (hv3 (by assumption) (by assumption)) ?_; conv => whnf)
    | (refine And.intro (lm_v511 _) ?_; conv => whnf)
    | (refine And.intro (lm_v7 _) ?_; conv => whnf)
    | (refine ⟨fun hx => ?_, fun hx => ?_⟩ <;> conv => whnf)
    | (split at h)
    | contradiction
    | exact h
def s_R_puts : lm_Sp := fun av S post => av = [.ref 16] ∧ post (some (.int (S 18 560))) S
abbrev ca_R_puts : lm_Ca := []
theorem cok_R_puts (l : Launch) : lm_cok l (kk_Y kk_shF) R_R 0 0 ca_R_puts := kk_cok (kk_nil)
set_option maxHeartbeats 1000000 in
set_option maxRecDepth 20000 in
theorem I_R_puts (l : Launch) : lm_I l (kk_Y kk_shF) y_R_puts b_R_puts 1 (some .int) 0 0 s_R_puts := by
  refine lm_impl g_R_puts ca_R_puts (by decide +kernel) kk_okF ck_R_puts (kk_fok fl_R_ok) (kk_sok sl_R_ok) (Or.inl rfl) (cok_R_puts l) rfl (by decide) ?_
  rintro av S post ⟨rfl, h⟩
  refine ⟨Nat.le_of_ble_eq_true rfl, lm_run 60 ?_⟩
  (try (conv => whnf))
  repeat' first
    | (refine ⟨_, rfl, ?_⟩; conv => whnf)
    | (refine ⟨_, _, rfl, ?_⟩; conv => whnf)
    | (refine ⟨_, _, _, rfl, ?_⟩; conv => whnf)
    | (refine ⟨_, _, _, _, rfl, ?_⟩; conv => whnf)
    | (refine And.intro rfl ?_; conv => whnf)
    | (refine And.intro (lm_vc (by decide)) ?_; conv => whnf)
    | (refine And.intro (by decide) ?_; conv => whnf)
    | (refine ⟨fun hx => absurd hx (by decide), fun _ => ?_⟩; conv => whnf)
    | (refine ⟨fun _ => ?_, fun hx => absurd hx (by decide)⟩; conv => whnf)
    | (refine And.intro (hw hx) ?_; conv => whnf)
    | (refine And.intro hw ?_; conv => whnf)
    | (refine And.intro hw2 ?_; conv => whnf)
    | (refine And.intro hw3 ?_; conv => whnf)
    | (refine And.intro hw4 ?_; conv => whnf)
    | (refine And.intro hw5 ?_; conv => whnf)
    | (refine And.intro hw6 ?_; conv => whnf)
    | (refine And.intro hw7 ?_; conv => whnf)
    | (refine And.intro (hv1 (by assumption)) ?_; conv => whnf)
    | (refine And.intro (hv2 (by assumption) (by assumption)) ?_; conv => whnf)
    | (refine And.intro (hv3 (by assumption) (by assumption)) ?_; conv => whnf)
    | (refine And.intro (lm_v511 _) ?_; conv => whnf)
    | (refine And.intro (lm_v7 _) ?_; conv => whnf)
    | (refine ⟨fun hx => ?_, fun hx => ?_⟩ <;> conv => whnf)
    | (split at h)
    | contradiction
    | exact h
def km_cellr (a : Int32) (S : lm_S) : Int32 := if km_within a 511 = 0 then -1 else S 18 a.toNatClampNeg
def s_R_cell : lm_Sp := fun av S post => ∃ a, av = [.ref 16, .int a] ∧ post (some (.int (km_cellr a S))) S
abbrev ca_R_cell : lm_Ca := [(32, 2, none, s_R_within)]
theorem cok_R_cell (l : Launch) : lm_cok l (kk_Y kk_shF) R_R 1 21 ca_R_cell := kk_cok (kk_cons ⟨y_R_within, b_R_within, 2, some .boolean, 0, 0, I_R_within l, ⟨by decide, by decide⟩, yw_R_within, li_R_32⟩ <| kk_nil)
set_option maxHeartbeats 1000000 in
set_option maxRecDepth 20000 in
theorem I_R_cell (l : Launch) : lm_I l (kk_Y kk_shF) y_R_cell b_R_cell 2 (some .int) 1 21 s_R_cell := by
  refine lm_impl g_R_cell ca_R_cell (by decide +kernel) kk_okF ck_R_cell (kk_fok fl_R_ok) (kk_sok sl_R_ok) (Or.inl rfl) (cok_R_cell l) rfl (by decide) ?_
  rintro av S post ⟨a, rfl, h⟩
  have hw : ¬ km_within a 511 = 0 → vp_in a 569 := fun h => vp_in_up (km_within_in (n := 511) (by decide) h) (by omega)
  refine ⟨Nat.le_of_ble_eq_true rfl, lm_run 60 ?_⟩
  unfold km_cellr at h
  (try (conv => whnf))
  repeat' first
    | (refine ⟨_, rfl, ?_⟩; conv => whnf)
    | (refine ⟨_, _, rfl, ?_⟩; conv => whnf)
    | (refine ⟨_, _, _, rfl, ?_⟩; conv => whnf)
    | (refine ⟨_, _, _, _, rfl, ?_⟩; conv => whnf)
    | (refine And.intro rfl ?_; conv => whnf)
    | (refine And.intro (lm_vc (by decide)) ?_; conv => whnf)
    | (refine And.intro (by decide) ?_; conv => whnf)
    | (refine ⟨fun hx => absurd hx (by decide), fun _ => ?_⟩; conv => whnf)
    | (refine ⟨fun _ => ?_, fun hx => absurd hx (by decide)⟩; conv => whnf)
    | (refine And.intro (hw hx) ?_; conv => whnf)
    | (refine And.intro hw ?_; conv => whnf)
    | (refine And.intro hw2 ?_; conv => whnf)
    | (refine And.intro hw3 ?_; conv => whnf)
    | (refine And.intro hw4 ?_; conv => whnf)
    | (refine And.intro hw5 ?_; conv => whnf)
    | (refine And.intro hw6 ?_; conv => whnf)
    | (refine And.intro hw7 ?_; conv => whnf)
    | (refine And.intro (hv1 (by assumption)) ?_; conv => whnf)
    | (refine And.intro (hv2 (by assumption) (by assumption)) ?_; conv => whnf)
    | (refine And.intro (hv3 (by assumption) (by assumption)) ?_; conv => whnf)
    | (refine And.intro (lm_v511 _) ?_; conv => whnf)
    | (refine And.intro (lm_v7 _) ?_; conv => whnf)
    | (refine ⟨fun hx => ?_, fun hx => ?_⟩ <;> conv => whnf)
    | (split at h)
    | contradiction
    | exact h
def km_regr (a : Int32) (S : lm_S) : Int32 := if km_within a 6 = 0 then -1 else S 18 (512 + a).toNatClampNeg
def s_R_register : lm_Sp := fun av S post => ∃ a, av = [.ref 16, .int a] ∧ post (some (.int (km_regr a S))) S
theorem km_reg_in {a : Int32} (h : vp_in a 7) : vp_in (512 + a) 569 := by
  obtain ⟨j, hj, rfl⟩ := vp_in_of h (by decide)
  rw [show (512 : Int32) = nI 512 from rfl, nI_add]
  exact vp_in_nI (by omega) (by decide)
abbrev ca_R_register : lm_Ca := [(32, 2, none, s_R_within)]
theorem cok_R_register (l : Launch) : lm_cok l (kk_Y kk_shF) R_R 1 21 ca_R_register := kk_cok (kk_cons ⟨y_R_within, b_R_within, 2, some .boolean, 0, 0, I_R_within l, ⟨by decide, by decide⟩, yw_R_within, li_R_32⟩ <| kk_nil)
set_option maxHeartbeats 1000000 in
set_option maxRecDepth 20000 in
theorem I_R_register (l : Launch) : lm_I l (kk_Y kk_shF) y_R_register b_R_register 2 (some .int) 1 21 s_R_register := by
  refine lm_impl g_R_register ca_R_register (by decide +kernel) kk_okF ck_R_register (kk_fok fl_R_ok) (kk_sok sl_R_ok) (Or.inl rfl) (cok_R_register l) rfl (by decide) ?_
  rintro av S post ⟨a, rfl, h⟩
  have hw : ¬ km_within a 6 = 0 → vp_in (512 + a) 569 := fun h => km_reg_in (km_within_in (n := 6) (by decide) h)
  refine ⟨Nat.le_of_ble_eq_true rfl, lm_run 60 ?_⟩
  unfold km_regr at h
  (try (conv => whnf))
  repeat' first
    | (refine ⟨_, rfl, ?_⟩; conv => whnf)
    | (refine ⟨_, _, rfl, ?_⟩; conv => whnf)
    | (refine ⟨_, _, _, rfl, ?_⟩; conv => whnf)
    | (refine ⟨_, _, _, _, rfl, ?_⟩; conv => whnf)
    | (refine And.intro rfl ?_; conv => whnf)
    | (refine And.intro (lm_vc (by decide)) ?_; conv => whnf)
    | (refine And.intro (by decide) ?_; conv => whnf)
    | (refine ⟨fun hx => absurd hx (by decide), fun _ => ?_⟩; conv => whnf)
    | (refine ⟨fun _ => ?_, fun hx => absurd hx (by decide)⟩; conv => whnf)
    | (refine And.intro (hw hx) ?_; conv => whnf)
    | (refine And.intro hw ?_; conv => whnf)
    | (refine And.intro hw2 ?_; conv => whnf)
    | (refine And.intro hw3 ?_; conv => whnf)
    | (refine And.intro hw4 ?_; conv => whnf)
    | (refine And.intro hw5 ?_; conv => whnf)
    | (refine And.intro hw6 ?_; conv => whnf)
    | (refine And.intro hw7 ?_; conv => whnf)
    | (refine And.intro (hv1 (by assumption)) ?_; conv => whnf)
    | (refine And.intro (hv2 (by assumption) (by assumption)) ?_; conv => whnf)
    | (refine And.intro (hv3 (by assumption) (by assumption)) ?_; conv => whnf)
    | (refine And.intro (lm_v511 _) ?_; conv => whnf)
    | (refine And.intro (lm_v7 _) ?_; conv => whnf)
    | (refine ⟨fun hx => ?_, fun hx => ?_⟩ <;> conv => whnf)
    | (split at h)
    | contradiction
    | exact h
def km_outr (k : Int32) (S : lm_S) : Int32 := if km_within k 7 = 0 then -1 else if S 18 560 ≤ k then -1 else S 18 (561 + k).toNatClampNeg
def s_R_output : lm_Sp := fun av S post => ∃ k, av = [.ref 16, .int k] ∧ post (some (.int (km_outr k S))) S
abbrev ca_R_output : lm_Ca := [(32, 2, none, s_R_within)]
theorem cok_R_output (l : Launch) : lm_cok l (kk_Y kk_shF) R_R 1 21 ca_R_output := kk_cok (kk_cons ⟨y_R_within, b_R_within, 2, some .boolean, 0, 0, I_R_within l, ⟨by decide, by decide⟩, yw_R_within, li_R_32⟩ <| kk_nil)
set_option maxHeartbeats 1000000 in
set_option maxRecDepth 20000 in
theorem I_R_output (l : Launch) : lm_I l (kk_Y kk_shF) y_R_output b_R_output 2 (some .int) 1 21 s_R_output := by
  refine lm_impl g_R_output ca_R_output (by decide +kernel) kk_okF ck_R_output (kk_fok fl_R_ok) (kk_sok sl_R_ok) (Or.inl rfl) (cok_R_output l) rfl (by decide) ?_
  rintro av S post ⟨k, rfl, h⟩
  have hv1 : ¬ km_within k 7 = 0 → vp_in (561 + k) 569 := fun h => by
    obtain ⟨j, hj, rfl⟩ := vp_in_of (km_within_in (n := 7) (by decide) h) (by decide)
    rw [show (561 : Int32) = nI 561 from rfl, nI_add]
    exact vp_in_nI (by omega) (by decide)
  refine ⟨Nat.le_of_ble_eq_true rfl, lm_run 60 ?_⟩
  unfold km_outr at h
  (try (conv => whnf))
  repeat' first
    | (refine ⟨_, rfl, ?_⟩; conv => whnf)
    | (refine ⟨_, _, rfl, ?_⟩; conv => whnf)
    | (refine ⟨_, _, _, rfl, ?_⟩; conv => whnf)
    | (refine ⟨_, _, _, _, rfl, ?_⟩; conv => whnf)
    | (refine And.intro rfl ?_; conv => whnf)
    | (refine And.intro (lm_vc (by decide)) ?_; conv => whnf)
    | (refine And.intro (by decide) ?_; conv => whnf)
    | (refine ⟨fun hx => absurd hx (by decide), fun _ => ?_⟩; conv => whnf)
    | (refine ⟨fun _ => ?_, fun hx => absurd hx (by decide)⟩; conv => whnf)
    | (refine And.intro (hw hx) ?_; conv => whnf)
    | (refine And.intro hw ?_; conv => whnf)
    | (refine And.intro hw2 ?_; conv => whnf)
    | (refine And.intro hw3 ?_; conv => whnf)
    | (refine And.intro hw4 ?_; conv => whnf)
    | (refine And.intro hw5 ?_; conv => whnf)
    | (refine And.intro hw6 ?_; conv => whnf)
    | (refine And.intro hw7 ?_; conv => whnf)
    | (refine And.intro (hv1 (by assumption)) ?_; conv => whnf)
    | (refine And.intro (hv2 (by assumption) (by assumption)) ?_; conv => whnf)
    | (refine And.intro (hv3 (by assumption) (by assumption)) ?_; conv => whnf)
    | (refine And.intro (lm_v511 _) ?_; conv => whnf)
    | (refine And.intro (lm_v7 _) ?_; conv => whnf)
    | (refine ⟨fun hx => ?_, fun hx => ?_⟩ <;> conv => whnf)
    | (split at h)
    | contradiction
    | exact h
def km_pokes (a v : Int32) (S : lm_S) : lm_S := if km_within a 511 = 0 then S else km_an (lm_set S 18 a.toNatClampNeg (v &&& 255))
def km_w01 (x : Int32) : Int32 := if x = 0 then 0 else 1
def s_R_poke : lm_Sp := fun av S post => ∃ a v, av = [.ref 16, .int a, .int v] ∧ post (some (.int (km_w01 (km_within a 511)))) (km_pokes a v S)
abbrev ca_R_poke : lm_Ca := [(22, 0, (some 4), s_R_anew), (32, 2, none, s_R_within)]
theorem cok_R_poke (l : Launch) : lm_cok l (kk_Y kk_shF) R_R 1 21 ca_R_poke := kk_cok (kk_cons ⟨y_R_anew, b_R_anew, 2, none, 0, 0, I_R_anew l, ⟨by decide, by decide⟩, yw_R_anew, li_R_22⟩ <| kk_cons ⟨y_R_within, b_R_within, 2, some .boolean, 0, 0, I_R_within l, ⟨by decide, by decide⟩, yw_R_within, li_R_32⟩ <| kk_nil)
set_option maxHeartbeats 1000000 in
set_option maxRecDepth 20000 in
theorem I_R_poke (l : Launch) : lm_I l (kk_Y kk_shF) y_R_poke b_R_poke 3 (some .boolean) 1 21 s_R_poke := by
  refine lm_impl g_R_poke ca_R_poke (by decide +kernel) kk_okF ck_R_poke (kk_fok fl_R_ok) (kk_sok sl_R_ok) (Or.inl rfl) (cok_R_poke l) rfl (by decide) ?_
  rintro av S post ⟨a, v, rfl, h⟩
  have hw : ¬ km_within a 511 = 0 → vp_in a 569 := fun h => vp_in_up (km_within_in (n := 511) (by decide) h) (by omega)
  refine ⟨Nat.le_of_ble_eq_true rfl, lm_run 60 ?_⟩
  unfold km_pokes km_w01 at h
  (try (conv => whnf))
  repeat' first
    | (refine ⟨_, rfl, ?_⟩; conv => whnf)
    | (refine ⟨_, _, rfl, ?_⟩; conv => whnf)
    | (refine ⟨_, _, _, rfl, ?_⟩; conv => whnf)
    | (refine ⟨_, _, _, _, rfl, ?_⟩; conv => whnf)
    | (refine And.intro rfl ?_; conv => whnf)
    | (refine And.intro (lm_vc (by decide)) ?_; conv => whnf)
    | (refine And.intro (by decide) ?_; conv => whnf)
    | (refine ⟨fun hx => absurd hx (by decide), fun _ => ?_⟩; conv => whnf)
    | (refine ⟨fun _ => ?_, fun hx => absurd hx (by decide)⟩; conv => whnf)
    | (refine And.intro (hw hx) ?_; conv => whnf)
    | (refine And.intro hw ?_; conv => whnf)
    | (refine And.intro hw2 ?_; conv => whnf)
    | (refine And.intro hw3 ?_; conv => whnf)
    | (refine And.intro hw4 ?_; conv => whnf)
    | (refine And.intro hw5 ?_; conv => whnf)
    | (refine And.intro hw6 ?_; conv => whnf)
    | (refine And.intro hw7 ?_; conv => whnf)
    | (refine And.intro (hv1 (by assumption)) ?_; conv => whnf)
    | (refine And.intro (hv2 (by assumption) (by assumption)) ?_; conv => whnf)
    | (refine And.intro (hv3 (by assumption) (by assumption)) ?_; conv => whnf)
    | (refine And.intro (lm_v511 _) ?_; conv => whnf)
    | (refine And.intro (lm_v7 _) ?_; conv => whnf)
    | (refine ⟨fun hx => ?_, fun hx => ?_⟩ <;> conv => whnf)
    | (split at h)
    | contradiction
    | exact h
def km_setv (k v : Int32) : Int32 := if 4 ≤ k then (if k = 4 then v &&& 195 else if k = 5 then v &&& 511 else if v = 0 then 0 else 1) else v &&& 255
def km_sets (k v : Int32) (S : lm_S) : lm_S := if km_within k 6 = 0 then S else km_an (lm_set S 18 (512 + k).toNatClampNeg (km_setv k v))
def s_R_set : lm_Sp := fun av S post => ∃ k v, av = [.ref 16, .int k, .int v] ∧ post (some (.int (km_w01 (km_within k 6)))) (km_sets k v S)
abbrev ca_R_set : lm_Ca := [(22, 0, (some 4), s_R_anew), (32, 2, none, s_R_within)]
theorem cok_R_set (l : Launch) : lm_cok l (kk_Y kk_shF) R_R 1 21 ca_R_set := kk_cok (kk_cons ⟨y_R_anew, b_R_anew, 2, none, 0, 0, I_R_anew l, ⟨by decide, by decide⟩, yw_R_anew, li_R_22⟩ <| kk_cons ⟨y_R_within, b_R_within, 2, some .boolean, 0, 0, I_R_within l, ⟨by decide, by decide⟩, yw_R_within, li_R_32⟩ <| kk_nil)
set_option maxHeartbeats 1000000 in
set_option maxRecDepth 20000 in
theorem I_R_set (l : Launch) : lm_I l (kk_Y kk_shF) y_R_set b_R_set 3 (some .boolean) 1 21 s_R_set := by
  refine lm_impl g_R_set ca_R_set (by decide +kernel) kk_okF ck_R_set (kk_fok fl_R_ok) (kk_sok sl_R_ok) (Or.inl rfl) (cok_R_set l) rfl (by decide) ?_
  rintro av S post ⟨k, v, rfl, h⟩
  have hv1 : ¬ km_within k 6 = 0 → vp_in (512 + k) 569 := fun h => km_reg_in (km_within_in (n := 6) (by decide) h)
  refine ⟨Nat.le_of_ble_eq_true rfl, lm_run 60 ?_⟩
  unfold km_sets km_w01 km_setv at h
  (try (conv => whnf))
  repeat' first
    | (refine ⟨_, rfl, ?_⟩; conv => whnf)
    | (refine ⟨_, _, rfl, ?_⟩; conv => whnf)
    | (refine ⟨_, _, _, rfl, ?_⟩; conv => whnf)
    | (refine ⟨_, _, _, _, rfl, ?_⟩; conv => whnf)
    | (refine And.intro rfl ?_; conv => whnf)
    | (refine And.intro (lm_vc (by decide)) ?_; conv => whnf)
    | (refine And.intro (by decide) ?_; conv => whnf)
    | (refine ⟨fun hx => absurd hx (by decide), fun _ => ?_⟩; conv => whnf)
    | (refine ⟨fun _ => ?_, fun hx => absurd hx (by decide)⟩; conv => whnf)
    | (refine And.intro (hw hx) ?_; conv => whnf)
    | (refine And.intro hw ?_; conv => whnf)
    | (refine And.intro hw2 ?_; conv => whnf)
    | (refine And.intro hw3 ?_; conv => whnf)
    | (refine And.intro hw4 ?_; conv => whnf)
    | (refine And.intro hw5 ?_; conv => whnf)
    | (refine And.intro hw6 ?_; conv => whnf)
    | (refine And.intro hw7 ?_; conv => whnf)
    | (refine And.intro (hv1 (by assumption)) ?_; conv => whnf)
    | (refine And.intro (hv2 (by assumption) (by assumption)) ?_; conv => whnf)
    | (refine And.intro (hv3 (by assumption) (by assumption)) ?_; conv => whnf)
    | (refine And.intro (lm_v511 _) ?_; conv => whnf)
    | (refine And.intro (lm_v7 _) ?_; conv => whnf)
    | (refine ⟨fun hx => ?_, fun hx => ?_⟩ <;> conv => whnf)
    | (split at h)
    | contradiction
    | exact h
def km_feeds (v : Int32) (S : lm_S) : lm_S := if S 18 519 = 40 then S else km_an (lm_set (lm_set S 18 (520 + S 18 519).toNatClampNeg (v &&& 255)) 18 519 ((lm_set S 18 (520 + S 18 519).toNatClampNeg (v &&& 255)) 18 519 + 1))
def s_R_feed : lm_Sp := fun av S post => ∃ v, av = [.ref 16, .int v] ∧ (∃ w : Nat, w ≤ 40 ∧ S 18 519 = nI w) ∧ post (some (.int (if S 18 519 = 40 then 0 else 1))) (km_feeds v S)
abbrev ca_R_feed : lm_Ca := [(22, 0, (some 4), s_R_anew)]
theorem cok_R_feed (l : Launch) : lm_cok l (kk_Y kk_shF) R_R 1 21 ca_R_feed := kk_cok (kk_cons ⟨y_R_anew, b_R_anew, 2, none, 0, 0, I_R_anew l, ⟨by decide, by decide⟩, yw_R_anew, li_R_22⟩ <| kk_nil)
set_option maxHeartbeats 1000000 in
set_option maxRecDepth 20000 in
theorem I_R_feed (l : Launch) : lm_I l (kk_Y kk_shF) y_R_feed b_R_feed 2 (some .boolean) 1 21 s_R_feed := by
  refine lm_impl g_R_feed ca_R_feed (by decide +kernel) kk_okF ck_R_feed (kk_fok fl_R_ok) (kk_sok sl_R_ok) (Or.inl rfl) (cok_R_feed l) rfl (by decide) ?_
  rintro av S post ⟨v, rfl, ⟨w, hw40, hS⟩, h⟩
  have hv1 : ¬ S 18 519 = 40 → vp_in (520 + S 18 519) 569 := fun _ => by
    rw [hS, show (520 : Int32) = nI 520 from rfl, nI_add]
    exact vp_in_nI (by omega) (by decide)
  refine ⟨Nat.le_of_ble_eq_true rfl, lm_run 60 ?_⟩
  unfold km_feeds at h
  (try (conv => whnf))
  repeat' first
    | (refine ⟨_, rfl, ?_⟩; conv => whnf)
    | (refine ⟨_, _, rfl, ?_⟩; conv => whnf)
    | (refine ⟨_, _, _, rfl, ?_⟩; conv => whnf)
    | (refine ⟨_, _, _, _, rfl, ?_⟩; conv => whnf)
    | (refine And.intro rfl ?_; conv => whnf)
    | (refine And.intro (lm_vc (by decide)) ?_; conv => whnf)
    | (refine And.intro (by decide) ?_; conv => whnf)
    | (refine ⟨fun hx => absurd hx (by decide), fun _ => ?_⟩; conv => whnf)
    | (refine ⟨fun _ => ?_, fun hx => absurd hx (by decide)⟩; conv => whnf)
    | (refine And.intro (hw hx) ?_; conv => whnf)
    | (refine And.intro hw ?_; conv => whnf)
    | (refine And.intro hw2 ?_; conv => whnf)
    | (refine And.intro hw3 ?_; conv => whnf)
    | (refine And.intro hw4 ?_; conv => whnf)
    | (refine And.intro hw5 ?_; conv => whnf)
    | (refine And.intro hw6 ?_; conv => whnf)
    | (refine And.intro hw7 ?_; conv => whnf)
    | (refine And.intro (hv1 (by assumption)) ?_; conv => whnf)
    | (refine And.intro (hv2 (by assumption) (by assumption)) ?_; conv => whnf)
    | (refine And.intro (hv3 (by assumption) (by assumption)) ?_; conv => whnf)
    | (refine And.intro (lm_v511 _) ?_; conv => whnf)
    | (refine And.intro (lm_v7 _) ?_; conv => whnf)
    | (refine ⟨fun hx => ?_, fun hx => ?_⟩ <;> conv => whnf)
    | (split at h)
    | contradiction
    | exact h
end
section
/-! the reference: stop, watch, go, wrote, run, seek -/
theorem km_cpt_le (j : Nat) (a : Int32) : ∀ (m k n : Nat) (S : lm_S), (km_cpt j a m k n S).1 ≤ n + m
  | 0, _, _, _ => Nat.le_refl _
  | m + 1, k, n, S => by
    rw [km_cpt]
    split
    · have := km_cpt_le j a m (k + 1) n S
      omega
    · have := km_cpt_le j a m (k + 1) (n + 1) (lm_set S j n (S j k))
      omega
theorem km_tur_le {j c : Nat} {a on : Int32} {S : lm_S} {q : Nat × lm_S} (h : km_tur j c a on S = some q) : q.1 ≤ c + 1 := by
  unfold km_tur at h
  split at h
  · cases h
  · split at h
    · cases h
    · split at h
      · have := km_cpt_le j a c 0 0 S
        have e := Option.some.inj h
        rw [← e]
        omega
      · split at h
        · cases h
        · have e := Option.some.inj h
          rw [← e]
          exact Nat.le_refl _
def km_tsr (r : Option (Nat × lm_S)) : Int32 := match r with
  | none => 0
  | some _ => 1
def km_tss (f : Nat) (r : Option (Nat × lm_S)) (S : lm_S) : lm_S := match r with
  | none => S
  | some q => lm_set q.2 16 f (nI q.1)
def s_R_stop : lm_Sp := fun av S post => ∃ (a on : Int32) (c : Nat), av = [.ref 16, .int a, .int on] ∧ c ≤ 4 ∧ S 16 6 = nI c ∧ post (some (.int (km_tsr (km_tur 19 c a on S)))) (km_tss 6 (km_tur 19 c a on S) S)
abbrev ca_R_stop : lm_Ca := [(110, 4, none, s_R_turn)]
theorem cok_R_stop (l : Launch) : lm_cok l (kk_Y kk_shF) R_R 2 49 ca_R_stop := kk_cok (kk_cons ⟨y_R_turn, b_R_turn, 7, some .int, 1, 23, I_R_turn l, ⟨by decide, by decide⟩, yw_R_turn, li_R_110⟩ <| kk_nil)
set_option maxHeartbeats 1000000 in
set_option maxRecDepth 20000 in
theorem I_R_stop (l : Launch) : lm_I l (kk_Y kk_shF) y_R_stop b_R_stop 4 (some .boolean) 2 49 s_R_stop := by
  refine lm_impl g_R_stop ca_R_stop (by decide +kernel) kk_okF ck_R_stop (kk_fok fl_R_ok) (kk_sok sl_R_ok) (Or.inl rfl) (cok_R_stop l) rfl (by decide) ?_
  rintro av S post ⟨a, on, c, rfl, hc, hS, h⟩
  refine ⟨Nat.le_of_ble_eq_true rfl, lm_run 60 ?_⟩
  conv => whnf
  refine ⟨19, c, a, on, ?_, Or.inl rfl, hc, ?_⟩
  · show [Value.ref 19, Value.int (S 16 6), Value.int a, Value.int on] = _
    rw [hS]
  cases hr : km_tur 19 c a on S with
  | none =>
    rw [hr] at h
    conv => whnf
    refine ⟨fun hy => absurd hy (show ¬ (0 : Int32) ≤ -1 by decide), fun _ => ?_⟩
    exact ⟨by decide, h⟩
  | some q =>
    have hq := km_tur_le hr
    rw [hr] at h
    conv => whnf
    refine ⟨fun _ => ?_, fun hy => absurd (show (0 : Int32) ≤ nI q.1 from nI_pos' (by omega)) hy⟩
    exact ⟨by decide, h⟩
def s_R_watch : lm_Sp := fun av S post => ∃ (a on : Int32) (c : Nat), av = [.ref 16, .int a, .int on] ∧ c ≤ 4 ∧ S 16 7 = nI c ∧ post (some (.int (km_tsr (km_tur 20 c a on S)))) (km_tss 7 (km_tur 20 c a on S) S)
abbrev ca_R_watch : lm_Ca := [(110, 4, none, s_R_turn)]
theorem cok_R_watch (l : Launch) : lm_cok l (kk_Y kk_shF) R_R 2 49 ca_R_watch := kk_cok (kk_cons ⟨y_R_turn, b_R_turn, 7, some .int, 1, 23, I_R_turn l, ⟨by decide, by decide⟩, yw_R_turn, li_R_110⟩ <| kk_nil)
set_option maxHeartbeats 1000000 in
set_option maxRecDepth 20000 in
theorem I_R_watch (l : Launch) : lm_I l (kk_Y kk_shF) y_R_watch b_R_watch 4 (some .boolean) 2 49 s_R_watch := by
  refine lm_impl g_R_watch ca_R_watch (by decide +kernel) kk_okF ck_R_watch (kk_fok fl_R_ok) (kk_sok sl_R_ok) (Or.inl rfl) (cok_R_watch l) rfl (by decide) ?_
  rintro av S post ⟨a, on, c, rfl, hc, hS, h⟩
  refine ⟨Nat.le_of_ble_eq_true rfl, lm_run 60 ?_⟩
  conv => whnf
  refine ⟨20, c, a, on, ?_, Or.inr rfl, hc, ?_⟩
  · show [Value.ref 20, Value.int (S 16 7), Value.int a, Value.int on] = _
    rw [hS]
  cases hr : km_tur 20 c a on S with
  | none =>
    rw [hr] at h
    conv => whnf
    refine ⟨fun hy => absurd hy (show ¬ (0 : Int32) ≤ -1 by decide), fun _ => ?_⟩
    exact ⟨by decide, h⟩
  | some q =>
    have hq := km_tur_le hr
    rw [hr] at h
    conv => whnf
    refine ⟨fun _ => ?_, fun hy => absurd (show (0 : Int32) ≤ nI q.1 from nI_pos' (by omega)) hy⟩
    exact ⟨by decide, h⟩
/-- images that the reference can go on from -/
def km_Q (Q : (Nat → Int32) → Prop) : Prop := ∀ S : lm_S, Q (S 18) → km_ok S ∧ Q ((km_step S) 18)
theorem km_Q.J {Q : (Nat → Int32) → Prop} (h : km_Q Q) : km_J (fun S => Q (S 18)) := h
def s_R_go : lm_Sp := fun av S post => ∃ (t : Int32) (b : Nat) (Q : (Nat → Int32) → Prop), av = [.ref 16, .int t] ∧ S 16 3 = nI b ∧ b ≤ 300 ∧ km_Q Q ∧ Q (S 17) ∧ post (some (.int (km_w01 (km_within t (S 16 3))))) (if km_within t (S 16 3) = 0 then S else km_come t.toNatClampNeg S)
theorem km_in_le {t : Int32} {b : Nat} (hb : b ≤ 300) (h : ¬ km_within t (nI b) = 0) : ∃ j : Nat, j ≤ b ∧ t = nI j := by
  obtain ⟨j, hj, e⟩ := vp_in_of (km_within_in (n := b) (nI_toInt (by omega)) h) (by omega)
  exact ⟨j, by omega, e⟩
abbrev ca_R_go : lm_Ca := [(32, 2, none, s_R_within), (104, 1, (some 4), s_R_come)]
theorem cok_R_go (l : Launch) : lm_cok l (kk_Y kk_shF) R_R 6 139 ca_R_go := kk_cok (kk_cons ⟨y_R_within, b_R_within, 2, some .boolean, 0, 0, I_R_within l, ⟨by decide, by decide⟩, yw_R_within, li_R_32⟩ <| kk_cons ⟨y_R_come, b_R_come, 3, none, 5, 117, I_R_come l, ⟨by decide, by decide⟩, yw_R_come, li_R_104⟩ <| kk_nil)
set_option maxHeartbeats 1000000 in
set_option maxRecDepth 20000 in
theorem I_R_go (l : Launch) : lm_I l (kk_Y kk_shF) y_R_go b_R_go 2 (some .boolean) 6 139 s_R_go := by
  refine lm_impl g_R_go ca_R_go (by decide +kernel) kk_okF ck_R_go (kk_fok fl_R_ok) (kk_sok sl_R_ok) (Or.inl rfl) (cok_R_go l) rfl (by decide) ?_
  rintro av S post ⟨t, b, Q, rfl, h3, hb, hQ, hS, h⟩
  refine ⟨Nat.le_of_ble_eq_true rfl, lm_run 60 ?_⟩
  unfold km_w01 at h
  conv => whnf
  refine ⟨_, _, rfl, ?_⟩
  conv => whnf
  refine ⟨fun (hy : ¬ km_within t (S 16 3) = 0) => ?_, fun (hy : km_within t (S 16 3) = 0) => ?_⟩
  · rw [if_neg hy, if_neg hy] at h
    rw [h3] at hy
    obtain ⟨j, hj, rfl⟩ := km_in_le hb hy
    rw [nI_clamp (by omega)] at h
    conv => whnf
    refine ⟨j, _, rfl, by omega, hQ.J, hS, ?_⟩
    exact ⟨by decide, h⟩
  · rw [if_pos hy, if_pos hy] at h
    exact ⟨by decide, h⟩
theorem km_it_fr : ∀ (n : Nat) (S : lm_S), km_fr (km_it n S) S
  | 0, S => km_fr.rf S
  | n + 1, S => (km_it_fr n _).tr (gq_step S)
theorem km_come_17 (t : Nat) (S : lm_S) : (km_come t S) 17 = S 17 := (km_it_fr t (km_back S)).1 17 (by omega) (by omega)
theorem km_come_16 (t k : Nat) (S : lm_S) (h2 : k ≠ 2) (h8 : k ≠ 8) (h9 : k ≠ 9) : (km_come t S) 16 k = S 16 k := by
  show upd ((km_it t (km_back S)) 16) 2 (nI t) k = S 16 k
  rw [pk_un h2]
  exact (km_it_fr t (km_back S)).2 k h8 h9
def km_wrr (t : Int32) (S : lm_S) : Int32 := if km_within t (S 16 3 - 1) = 0 then -1 else (km_come (t.toNatClampNeg + 1) S) 16 8
def km_wrs (a : Nat) (t : Int32) (S : lm_S) : lm_S := if km_within t (S 16 3 - 1) = 0 then S else km_come a (km_come (t.toNatClampNeg + 1) S)
def s_R_wrote : lm_Sp := fun av S post => ∃ (t : Int32) (a b : Nat) (Q : (Nat → Int32) → Prop), av = [.ref 16, .int t] ∧ S 16 2 = nI a ∧ S 16 3 = nI b ∧ a ≤ 300 ∧ b ≤ 300 ∧ km_Q Q ∧ Q (S 17) ∧ post (some (.int (km_wrr t S))) (km_wrs a t S)
theorem km_wr_in {t : Int32} {b : Nat} (hb : b ≤ 300) (h : ¬ km_within t (nI b - 1) = 0) : ∃ j : Nat, j + 1 ≤ b ∧ t = nI j := by
  by_cases h0 : b = 0
  · subst h0
    exfalso
    apply h
    unfold km_within
    split
    · rfl
    · rename_i h1
      rw [if_pos]
      rw [Int32.lt_iff_toInt_lt, Int32.toInt_zero] at h1
      rw [Int32.lt_iff_toInt_lt, show (nI 0 - 1 : Int32).toInt = -1 from by decide]
      omega
  · rw [show nI b - 1 = nI (b - 1) from nI_p1m b (by omega)] at h
    obtain ⟨j, hj, e⟩ := km_in_le (by omega) h
    exact ⟨j, by omega, e⟩
abbrev ca_R_wrote : lm_Ca := [(32, 2, none, s_R_within), (104, 1, (some 4), s_R_come)]
theorem cok_R_wrote (l : Launch) : lm_cok l (kk_Y kk_shF) R_R 6 139 ca_R_wrote := kk_cok (kk_cons ⟨y_R_within, b_R_within, 2, some .boolean, 0, 0, I_R_within l, ⟨by decide, by decide⟩, yw_R_within, li_R_32⟩ <| kk_cons ⟨y_R_come, b_R_come, 3, none, 5, 117, I_R_come l, ⟨by decide, by decide⟩, yw_R_come, li_R_104⟩ <| kk_nil)
set_option maxHeartbeats 1000000 in
set_option maxRecDepth 20000 in
theorem I_R_wrote (l : Launch) : lm_I l (kk_Y kk_shF) y_R_wrote b_R_wrote 4 (some .int) 6 139 s_R_wrote := by
  refine lm_impl g_R_wrote ca_R_wrote (by decide +kernel) kk_okF ck_R_wrote (kk_fok fl_R_ok) (kk_sok sl_R_ok) (Or.inl rfl) (cok_R_wrote l) rfl (by decide) ?_
  rintro av S post ⟨t, a, b, Q, rfl, h2, h3, ha, hb, hQ, hS, h⟩
  refine ⟨Nat.le_of_ble_eq_true rfl, lm_run 60 ?_⟩
  unfold km_wrr km_wrs at h
  conv => whnf
  refine ⟨_, _, rfl, ?_⟩
  conv => whnf
  refine ⟨fun (hy : ¬ km_within t (S 16 3 - 1) = 0) => ?_, fun (hy : km_within t (S 16 3 - 1) = 0) => ?_⟩
  · rw [if_neg hy, if_neg hy] at h
    rw [h3] at hy
    obtain ⟨j, hj, rfl⟩ := km_wr_in hb hy
    rw [nI_clamp (by omega)] at h
    conv => whnf
    refine ⟨j + 1, _, ?_, by omega, hQ.J, hS, ?_⟩
    · show [Value.ref 16, Value.int (nI j + 1)] = _
      rw [nI_1]
    conv => whnf
    refine ⟨a, _, ?_, ha, hQ.J, ?_, ?_⟩
    · show [Value.ref 16, Value.int (S 16 2)] = _
      rw [h2]
    · show Q ((km_come (j + 1) S) 17)
      rw [km_come_17]
      exact hS
    exact h
  · rw [if_pos hy, if_pos hy] at h
    exact h
/-! run -/
def km_rs2 (S : lm_S) : lm_S := if S 16 2 ≤ S 16 3 then S else lm_set S 16 3 (S 16 2)
def km_rs (S : lm_S) : lm_S := km_rs2 (lm_set (km_step S) 16 2 ((km_step S) 16 2 + 1))
def km_m1 (c k : Nat) (S : lm_S) : Prop := k = 0 ∨ km_hs 19 (S 18 517) S c 0 = 0
def km_m2 (S : lm_S) : Prop := S 16 2 < S 16 3 ∨ (S 18 518 = 0 ∧ ¬ 300 ≤ S 16 3)
abbrev ca_rr : lm_Ca := [(32, 2, none, s_R_within), (94, 0, (some 4), s_R_step), (100, 3, none, s_R_has)]
theorem rr_end {post : Option Value → lm_S → Prop} (x k d : Int32) (S : lm_S) (h : post (some (.int d)) S) : lm_Go YF g_R_run ca_rr post 13 [(0, .ref 16), (1, .int x), (2, .int d), (3, .int 0), (4, .int k)] [] S := by
  refine lm_run 20 ?_
  conv => whnf
  refine ⟨fun _ => ?_, fun _ => ?_⟩
  · exact h
  · conv => whnf
    refine ⟨fun _ => ?_, fun hy => absurd rfl hy⟩
    exact h
theorem rr_no {post : Option Value → lm_S → Prop} (x k d m : Int32) (S : lm_S) (h : post (some (.int d)) S) : lm_Go YF g_R_run ca_rr post 86 [(0, .ref 16), (1, .int x), (2, .int d), (3, .int m), (4, .int k)] [.int 0] S := by
  refine lm_to 13 20 ?_
  conv => whnf
  refine ⟨fun _ => ?_, fun hy => absurd rfl hy⟩
  exact lm_Go.sub (rr_end x (k + 1) d S h) (kk_cons rfl (kk_cons rfl (kk_cons rfl (kk_cons rfl (kk_cons rfl kk_nil)))))
theorem rr_yes {post : Option Value → lm_S → Prop} (x k d m : Int32) (S : lm_S) (hok : km_ok S) (h : lm_Go YF g_R_run ca_rr post 13 [(0, .ref 16), (1, .int x), (2, .int (d + 1)), (3, .int 1), (4, .int (k + 1))] [] (km_rs S)) : lm_Go YF g_R_run ca_rr post 86 [(0, .ref 16), (1, .int x), (2, .int d), (3, .int m), (4, .int k)] [.int 1] S := by
  refine lm_to 13 40 ?_
  unfold km_rs km_rs2 at h
  conv => whnf
  refine ⟨fun hy => absurd hy (by decide), fun _ => ?_⟩
  conv => whnf
  refine ⟨rfl, hok, ?_⟩
  conv => whnf
  refine ⟨fun hy => ?_, fun hy => ?_⟩
  · rw [if_pos hy] at h
    exact lm_Go.sub h (kk_cons rfl (kk_cons rfl (kk_cons rfl (kk_cons rfl (kk_cons rfl kk_nil)))))
  · rw [if_neg hy] at h
    exact lm_Go.sub h (kk_cons rfl (kk_cons rfl (kk_cons rfl (kk_cons rfl (kk_cons rfl kk_nil)))))
/-- from 49: time against last -/
theorem rr_m2 {post : Option Value → lm_S → Prop} (x k d m : Int32) (S : lm_S) (hy1 : km_m2 S → lm_Go YF g_R_run ca_rr post 86 [(0, .ref 16), (1, .int x), (2, .int d), (3, .int m), (4, .int k)] [.int 1] S) (hn1 : ¬ km_m2 S → post (some (.int d)) S) : lm_Go YF g_R_run ca_rr post 49 [(0, .ref 16), (1, .int x), (2, .int d), (3, .int m), (4, .int k)] [] S := by
  refine lm_to 86 30 ?_
  conv => whnf
  refine ⟨fun (h1 : S 16 2 < S 16 3) => ?_, fun (h1 : ¬ S 16 2 < S 16 3) => ?_⟩
  · exact hy1 (Or.inl h1)
  · conv => whnf
    refine ⟨lm_vc (by decide), ?_⟩
    conv => whnf
    refine ⟨fun (h2 : ¬ S 18 518 = 0) => ?_, fun (h2 : S 18 518 = 0) => ?_⟩
    · exact rr_no x k d m S (hn1 (fun q => q.elim h1 (fun r => h2 r.1)))
    · conv => whnf
      refine ⟨fun (h3 : 300 ≤ S 16 3) => ?_, fun (h3 : ¬ 300 ≤ S 16 3) => ?_⟩
      · exact rr_no x k d m S (hn1 (fun q => q.elim h1 (fun r => r.2 h3)))
      · exact hy1 (Or.inr ⟨h2, h3⟩)
/-- one turn of the loop -/
theorem rr_turn {post : Option Value → lm_S → Prop} (x c k : Nat) (hx : x ≤ 300) (hk : k < x) (hc : c ≤ 4) (S : lm_S) (hS : S 16 6 = nI c) (hok : km_ok S) (hy : km_m1 c k S ∧ km_m2 S → lm_Go YF g_R_run ca_rr post 13 [(0, .ref 16), (1, .int (nI x)), (2, .int (nI (k + 1))), (3, .int 1), (4, .int (nI (k + 1)))] [] (km_rs S)) (hn : ¬ (km_m1 c k S ∧ km_m2 S) → post (some (.int (nI k))) S) : lm_Go YF g_R_run ca_rr post 13 [(0, .ref 16), (1, .int (nI x)), (2, .int (nI k)), (3, .int 1), (4, .int (nI k))] [] S := by
  have h49 : km_m1 c k S → lm_Go YF g_R_run ca_rr post 49 [(0, .ref 16), (1, .int (nI x)), (2, .int (nI k)), (3, .int 1), (4, .int (nI k))] [] S := by
    intro h1
    refine rr_m2 (nI x) (nI k) (nI k) 1 S (fun h2 => ?_) (fun h2 => hn (fun q => h2 q.2))
    have g := hy ⟨h1, h2⟩
    rw [← nI_1] at g
    exact rr_yes (nI x) (nI k) (nI k) 1 S hok g
  refine lm_tos (fun q => Nat.beq q 49 || Nat.beq q 86) 40 ?_
  conv => whnf
  refine ⟨fun q => absurd q (nI_ge hk (by omega)), fun _ => ?_⟩
  conv => whnf
  refine ⟨fun q => absurd q (by decide), fun _ => ?_⟩
  conv => whnf
  refine ⟨fun (h0 : nI k = 0) => ?_, fun (h0 : ¬ nI k = 0) => ?_⟩
  · exact h49 (Or.inl ((nI_eq (b := 0) (by omega) (by omega)).mp h0))
  · have hk0 : ¬ k = 0 := fun q => h0 (by rw [q]; rfl)
    conv => whnf
    refine ⟨lm_vc (by decide), ?_⟩
    conv => whnf
    refine ⟨19, c, S 18 517, ?_, Or.inl rfl, hc, ?_⟩
    · show [Value.ref 19, Value.int (S 16 6), Value.int (S 18 517)] = _
      rw [hS]
    conv => whnf
    refine ⟨fun (h1 : ¬ km_hs 19 (S 18 517) S c 0 = 0) => ?_, fun (h1 : km_hs 19 (S 18 517) S c 0 = 0) => ?_⟩
    · exact rr_no _ _ _ _ S (hn (fun q => q.1.elim hk0 h1))
    · exact h49 (Or.inr h1)
noncomputable def km_rn (c : Nat) : Nat → Nat → lm_S → Nat × lm_S
  | 0, k, S => (k, S)
  | m + 1, k, S => @ite _ (km_m1 c k S ∧ km_m2 S) (Classical.propDecidable _) (km_rn c m (k + 1) (km_rs S)) (k, S)
theorem km_rs_18 (S : lm_S) : (km_rs S) 18 = (km_step S) 18 := by
  unfold km_rs km_rs2
  split <;> rfl
theorem km_rs_6 (S : lm_S) : (km_rs S) 16 6 = S 16 6 := by
  have h := (gq_step S).2 6 (by omega) (by omega)
  unfold km_rs km_rs2
  split
  · exact h
  · exact h
theorem rr_loop {post : Option Value → lm_S → Prop} {Q : (Nat → Int32) → Prop} (hQ : km_Q Q) (x c : Nat) (hx : x ≤ 300) (hc : c ≤ 4) : ∀ (m k : Nat) (S : lm_S), k + m = x → Q (S 18) → S 16 6 = nI c → post (some (.int (nI (km_rn c m k S).1))) (km_rn c m k S).2 → lm_Go YF g_R_run ca_rr post 13 [(0, .ref 16), (1, .int (nI x)), (2, .int (nI k)), (3, .int 1), (4, .int (nI k))] [] S
  | 0, k, S, hk, hS, h6, h => by
    refine lm_run 20 ?_
    conv => whnf
    refine ⟨fun _ => ?_, fun hy => absurd (nI_le (show x ≤ k by omega) (by omega)) hy⟩
    exact h
  | m + 1, k, S, hk, hS, h6, h => by
    rw [km_rn] at h
    refine rr_turn x c k hx (by omega) hc S h6 (hQ S hS).1 (fun hy => ?_) (fun hy => ?_)
    · rw [if_pos hy] at h
      exact rr_loop hQ x c hx hc m (k + 1) (km_rs S) (by omega) (by rw [km_rs_18]; exact (hQ S hS).2) (by rw [km_rs_6]; exact h6) h
    · rw [if_neg hy] at h
      exact h
noncomputable def km_run (c : Nat) (x : Int32) (S : lm_S) : Nat × lm_S := if km_within x 300 = 0 then (0, S) else km_rn c x.toNatClampNeg 0 S
def s_R_run : lm_Sp := fun av S post => ∃ (x : Int32) (c : Nat) (Q : (Nat → Int32) → Prop), av = [.ref 16, .int x] ∧ c ≤ 4 ∧ S 16 6 = nI c ∧ km_Q Q ∧ Q (S 18) ∧ post (some (.int (nI (km_run c x S).1))) (km_run c x S).2
abbrev ca_R_run : lm_Ca := [(32, 2, none, s_R_within), (94, 0, (some 4), s_R_step), (100, 3, none, s_R_has)]
theorem cok_R_run (l : Launch) : lm_cok l (kk_Y kk_shF) R_R 5 117 ca_R_run := kk_cok (kk_cons ⟨y_R_within, b_R_within, 2, some .boolean, 0, 0, I_R_within l, ⟨by decide, by decide⟩, yw_R_within, li_R_32⟩ <| kk_cons ⟨y_R_step, b_R_step, 8, none, 4, 90, I_R_step l, ⟨by decide, by decide⟩, yw_R_step, li_R_94⟩ <| kk_cons ⟨y_R_has, b_R_has, 4, some .boolean, 0, 0, I_R_has l, ⟨by decide, by decide⟩, yw_R_has, li_R_100⟩ <| kk_nil)
set_option maxHeartbeats 1000000 in
set_option maxRecDepth 20000 in
theorem I_R_run (l : Launch) : lm_I l (kk_Y kk_shF) y_R_run b_R_run 5 (some .int) 5 117 s_R_run := by
  refine lm_impl g_R_run ca_R_run (by decide +kernel) kk_okF ck_R_run (kk_fok fl_R_ok) (kk_sok sl_R_ok) (Or.inl rfl) (cok_R_run l) rfl (by decide) ?_
  rintro av S post ⟨x, c, Q, rfl, hc, h6, hQ, hS, h⟩
  refine ⟨Nat.le_of_ble_eq_true rfl, lm_to 13 30 ?_⟩
  conv => whnf
  refine ⟨_, _, rfl, ?_⟩
  unfold km_run at h
  by_cases hx : km_within x 300 = 0
  · rw [if_pos hx] at h
    refine lm_Go.sub (rr_end x 0 0 S h) (kk_cons rfl (kk_cons rfl (kk_cons rfl (kk_cons ?_ (kk_cons rfl kk_nil)))))
    show some (Value.int (km_within x 300)) = some (Value.int 0)
    rw [hx]
  · rw [if_neg hx] at h
    obtain ⟨b, hb, rfl⟩ := km_in_le (b := 300) (by omega) hx
    rw [nI_clamp (by omega)] at h
    have h1 : km_within (nI b) 300 = 1 := by
      unfold km_within
      have hq : ¬ (300 : Int32) < nI b := nI_nlt (a := 300) hb (by omega)
      rw [if_neg (nI_pos (by omega)), if_neg hq]
    refine lm_Go.sub (rr_loop hQ b c hb hc b 0 S (by omega) hS h6 h) (kk_cons rfl (kk_cons rfl (kk_cons rfl (kk_cons ?_ (kk_cons rfl kk_nil)))))
    show some (Value.int (km_within (nI b) 300)) = some (Value.int 1)
    rw [h1]
end
section
/-! the reference: seek -/
/-- a moment is met: a stop at its counter, or its step (to S1) writes a watched address -/
def km_mt (c d : Nat) (S S1 : lm_S) : Prop := ¬ km_hs 19 (S 18 517) S c 0 = 0 ∨ (¬ S1 16 8 < 0 ∧ ¬ km_hs 20 (S1 16 8) S1 d 0 = 0) ∨ (¬ S1 16 9 < 0 ∧ ¬ km_hs 20 (S1 16 9) S1 d 0 = 0)
noncomputable def km_sl (c d : Nat) : Nat → Nat → Option Nat → lm_S → Option Nat × lm_S
  | 0, _, b, S => (b, S)
  | m + 1, t, b, S => @ite _ (km_mt c d S (km_step S)) (Classical.propDecidable _) (km_sl c d m (t + 1) (some t) (km_step S)) (km_sl c d m (t + 1) b (km_step S))
abbrev ca_sl : lm_Ca := [(94, 0, (some 4), s_R_step), (100, 3, none, s_R_has), (104, 1, (some 4), s_R_come)]
/-- from 74: the second place -/
theorem sl_b {post : Option Value → lm_S → Prop} (d : Nat) (hd : d ≤ 4) (p b t m : Int32) (S1 : lm_S) (h7 : S1 16 7 = nI d) (hy : (¬ S1 16 9 < 0 ∧ ¬ km_hs 20 (S1 16 9) S1 d 0 = 0) → lm_Go YF g_R_seek ca_sl post 14 [(0, .ref 16), (1, .int p), (2, .int t), (3, .int (t + 1))] [] S1) (hn : ¬ (¬ S1 16 9 < 0 ∧ ¬ km_hs 20 (S1 16 9) S1 d 0 = 0) → lm_Go YF g_R_seek ca_sl post 14 [(0, .ref 16), (1, .int p), (2, .int b), (3, .int (t + 1))] [] S1) : lm_Go YF g_R_seek ca_sl post 74 [(0, .ref 16), (1, .int p), (2, .int b), (3, .int t), (4, .int m)] [] S1 := by
  refine lm_to 14 30 ?_
  conv => whnf
  refine ⟨fun (h1 : S1 16 9 < 0) => ?_, fun (h1 : ¬ S1 16 9 < 0) => ?_⟩
  · exact lm_Go.sub (hn (fun q => q.1 h1)) (kk_cons rfl (kk_cons rfl (kk_cons rfl (kk_cons rfl kk_nil))))
  · conv => whnf
    refine ⟨20, d, S1 16 9, ?_, Or.inr rfl, hd, ?_⟩
    · show [Value.ref 20, Value.int (S1 16 7), Value.int (S1 16 9)] = _
      rw [h7]
    conv => whnf
    refine ⟨fun (h2 : km_hs 20 (S1 16 9) S1 d 0 = 0) => ?_, fun (h2 : ¬ km_hs 20 (S1 16 9) S1 d 0 = 0) => ?_⟩
    · exact lm_Go.sub (hn (fun q => q.2 h2)) (kk_cons rfl (kk_cons rfl (kk_cons rfl (kk_cons rfl kk_nil))))
    · exact lm_Go.sub (hy ⟨h1, h2⟩) (kk_cons rfl (kk_cons rfl (kk_cons rfl (kk_cons rfl kk_nil))))
/-- from 49: the first place -/
theorem sl_a {post : Option Value → lm_S → Prop} (d : Nat) (hd : d ≤ 4) (p b t m : Int32) (S1 : lm_S) (h7 : S1 16 7 = nI d) (hy : ((¬ S1 16 8 < 0 ∧ ¬ km_hs 20 (S1 16 8) S1 d 0 = 0) ∨ (¬ S1 16 9 < 0 ∧ ¬ km_hs 20 (S1 16 9) S1 d 0 = 0)) → lm_Go YF g_R_seek ca_sl post 14 [(0, .ref 16), (1, .int p), (2, .int t), (3, .int (t + 1))] [] S1) (hn : ¬ ((¬ S1 16 8 < 0 ∧ ¬ km_hs 20 (S1 16 8) S1 d 0 = 0) ∨ (¬ S1 16 9 < 0 ∧ ¬ km_hs 20 (S1 16 9) S1 d 0 = 0)) → lm_Go YF g_R_seek ca_sl post 14 [(0, .ref 16), (1, .int p), (2, .int b), (3, .int (t + 1))] [] S1) : lm_Go YF g_R_seek ca_sl post 49 [(0, .ref 16), (1, .int p), (2, .int b), (3, .int t), (4, .int m)] [] S1 := by
  have h74 : ¬ (¬ S1 16 8 < 0 ∧ ¬ km_hs 20 (S1 16 8) S1 d 0 = 0) → lm_Go YF g_R_seek ca_sl post 74 [(0, .ref 16), (1, .int p), (2, .int b), (3, .int t), (4, .int m)] [] S1 := fun h0 => sl_b d hd p b t m S1 h7 (fun q => hy (Or.inr q)) (fun q => hn (fun r => r.elim h0 q))
  refine lm_tos (fun q => Nat.beq q 74 || Nat.beq q 14) 30 ?_
  conv => whnf
  refine ⟨fun (h1 : S1 16 8 < 0) => ?_, fun (h1 : ¬ S1 16 8 < 0) => ?_⟩
  · exact h74 (fun q => q.1 h1)
  · conv => whnf
    refine ⟨20, d, S1 16 8, ?_, Or.inr rfl, hd, ?_⟩
    · show [Value.ref 20, Value.int (S1 16 7), Value.int (S1 16 8)] = _
      rw [h7]
    conv => whnf
    refine ⟨fun (h2 : ¬ km_hs 20 (S1 16 8) S1 d 0 = 0) => ?_, fun (h2 : km_hs 20 (S1 16 8) S1 d 0 = 0) => ?_⟩
    · exact lm_Go.sub (hy (Or.inl ⟨h1, h2⟩)) (kk_cons rfl (kk_cons rfl (kk_cons rfl (kk_cons rfl kk_nil))))
    · exact h74 (fun q => q.2 h2)
theorem sl_turn {post : Option Value → lm_S → Prop} (c d x t : Nat) (hx : x ≤ 300) (ht : t < x) (hc : c ≤ 4) (hd : d ≤ 4) (b : Int32) (S : lm_S) (h6 : S 16 6 = nI c) (h7 : S 16 7 = nI d) (hok : km_ok S) (hy : km_mt c d S (km_step S) → lm_Go YF g_R_seek ca_sl post 14 [(0, .ref 16), (1, .int (nI x)), (2, .int (nI t)), (3, .int (nI (t + 1)))] [] (km_step S)) (hn : ¬ km_mt c d S (km_step S) → lm_Go YF g_R_seek ca_sl post 14 [(0, .ref 16), (1, .int (nI x)), (2, .int b), (3, .int (nI (t + 1)))] [] (km_step S)) : lm_Go YF g_R_seek ca_sl post 14 [(0, .ref 16), (1, .int (nI x)), (2, .int b), (3, .int (nI t))] [] S := by
  rw [← nI_1] at hy hn
  have h7s : (km_step S) 16 7 = nI d := by rw [← h7]; exact (gq_step S).2 7 (by omega) (by omega)
  refine lm_tos (fun q => Nat.beq q 49 || Nat.beq q 14) 40 ?_
  conv => whnf
  refine ⟨fun q => absurd q (nI_ge ht (by omega)), fun _ => ?_⟩
  conv => whnf
  refine ⟨lm_vc (by decide), ?_⟩
  conv => whnf
  refine ⟨19, c, S 18 517, ?_, Or.inl rfl, hc, ?_⟩
  · show [Value.ref 19, Value.int (S 16 6), Value.int (S 18 517)] = _
    rw [h6]
  conv => whnf
  refine ⟨rfl, hok, ?_⟩
  conv => whnf
  refine ⟨fun (h1 : ¬ km_hs 19 (S 18 517) S c 0 = 0) => ?_, fun (h1 : km_hs 19 (S 18 517) S c 0 = 0) => ?_⟩
  · exact lm_Go.sub (hy (Or.inl h1)) (kk_cons rfl (kk_cons rfl (kk_cons rfl (kk_cons rfl kk_nil))))
  · exact lm_Go.sub (sl_a d hd (nI x) b (nI t) (km_hs 19 (S 18 517) S c 0) (km_step S) h7s (fun q => hy (Or.inr q)) (fun q => hn (fun r => r.elim (fun z => z h1) q))) (kk_cons rfl (kk_cons rfl (kk_cons rfl (kk_cons rfl (kk_cons rfl kk_nil)))))
def km_ob (b : Option Nat) : Int32 := match b with
  | none => -1
  | some t => nI t
def km_of (x : Nat) (b : Option Nat) : Nat := match b with
  | none => x
  | some t => t
theorem sl_end {post : Option Value → lm_S → Prop} {Q : (Nat → Int32) → Prop} (hQ : km_Q Q) (x : Nat) (hx : x ≤ 300) (b : Option Nat) (hb : ∀ t, b = some t → t ≤ 300) (t : Int32) (ht : nI x ≤ t) (S : lm_S) (hS : Q (S 17)) (h : post (some (.int (km_ob b))) (km_come (km_of x b) S)) : lm_Go YF g_R_seek ca_sl post 14 [(0, .ref 16), (1, .int (nI x)), (2, .int (km_ob b)), (3, .int t)] [] S := by
  cases b with
  | none =>
    refine lm_run 30 ?_
    conv => whnf
    refine ⟨fun _ => ?_, fun q => absurd ht q⟩
    conv => whnf
    refine ⟨fun q => absurd q (by decide), fun _ => ?_⟩
    conv => whnf
    refine ⟨x, _, rfl, hx, hQ.J, hS, ?_⟩
    exact h
  | some u =>
    have hu := hb u rfl
    refine lm_run 30 ?_
    conv => whnf
    refine ⟨fun _ => ?_, fun q => absurd ht q⟩
    conv => whnf
    refine ⟨fun _ => ?_, fun q => absurd (nI_pos' (show u < 2 ^ 31 by omega)) q⟩
    conv => whnf
    refine ⟨u, _, rfl, hu, hQ.J, hS, ?_⟩
    exact h
theorem sl_loop {post : Option Value → lm_S → Prop} {Q : (Nat → Int32) → Prop} (hQ : km_Q Q) (c d x : Nat) (hx : x ≤ 300) (hc : c ≤ 4) (hd : d ≤ 4) : ∀ (m t : Nat) (b : Option Nat) (S : lm_S), t + m = x → (∀ u, b = some u → u ≤ 300) → Q (S 18) → Q (S 17) → S 16 6 = nI c → S 16 7 = nI d → post (some (.int (km_ob (km_sl c d m t b S).1))) (km_come (km_of x (km_sl c d m t b S).1) (km_sl c d m t b S).2) → lm_Go YF g_R_seek ca_sl post 14 [(0, .ref 16), (1, .int (nI x)), (2, .int (km_ob b)), (3, .int (nI t))] [] S
  | 0, t, b, S, ht, hb, _, hS, _, _, h => sl_end hQ x hx b hb (nI t) (nI_le (by omega) (by omega)) S hS h
  | m + 1, t, b, S, ht, hb, h18, h17, h6, h7, h => by
    rw [km_sl] at h
    have g17 : Q ((km_step S) 17) := by rw [(gq_step S).1 17 (by omega) (by omega)]; exact h17
    have g6 : (km_step S) 16 6 = nI c := by rw [← h6]; exact (gq_step S).2 6 (by omega) (by omega)
    have g7 : (km_step S) 16 7 = nI d := by rw [← h7]; exact (gq_step S).2 7 (by omega) (by omega)
    refine sl_turn c d x t hx (by omega) hc hd _ S h6 h7 (hQ S h18).1 (fun hy => ?_) (fun hy => ?_)
    · rw [if_pos hy] at h
      exact sl_loop hQ c d x hx hc hd m (t + 1) (some t) (km_step S) (by omega) (fun u hu => by cases hu; omega) (hQ S h18).2 g17 g6 g7 h
    · rw [if_neg hy] at h
      exact sl_loop hQ c d x hx hc hd m (t + 1) b (km_step S) (by omega) hb (hQ S h18).2 g17 g6 g7 h
noncomputable def km_skp (c d x : Nat) (S : lm_S) : Option Nat × lm_S := km_sl c d x 0 none (km_come 0 S)
def s_R_seek : lm_Sp := fun av S post => ∃ (c d x : Nat) (Q : (Nat → Int32) → Prop), av = [.ref 16] ∧ c ≤ 4 ∧ d ≤ 4 ∧ x ≤ 300 ∧ S 16 6 = nI c ∧ S 16 7 = nI d ∧ S 16 2 = nI x ∧ km_Q Q ∧ Q (S 17) ∧ post (some (.int (km_ob (km_skp c d x S).1))) (km_come (km_of x (km_skp c d x S).1) (km_skp c d x S).2)
abbrev ca_R_seek : lm_Ca := [(94, 0, (some 4), s_R_step), (100, 3, none, s_R_has), (104, 1, (some 4), s_R_come)]
theorem cok_R_seek (l : Launch) : lm_cok l (kk_Y kk_shF) R_R 6 139 ca_R_seek := kk_cok (kk_cons ⟨y_R_step, b_R_step, 8, none, 4, 90, I_R_step l, ⟨by decide, by decide⟩, yw_R_step, li_R_94⟩ <| kk_cons ⟨y_R_has, b_R_has, 4, some .boolean, 0, 0, I_R_has l, ⟨by decide, by decide⟩, yw_R_has, li_R_100⟩ <| kk_cons ⟨y_R_come, b_R_come, 3, none, 5, 117, I_R_come l, ⟨by decide, by decide⟩, yw_R_come, li_R_104⟩ <| kk_nil)
set_option maxHeartbeats 1000000 in
set_option maxRecDepth 20000 in
theorem I_R_seek (l : Launch) : lm_I l (kk_Y kk_shF) y_R_seek b_R_seek 5 (some .int) 6 139 s_R_seek := by
  refine lm_impl g_R_seek ca_R_seek (by decide +kernel) kk_okF ck_R_seek (kk_fok fl_R_ok) (kk_sok sl_R_ok) (Or.inl rfl) (cok_R_seek l) rfl (by decide) ?_
  rintro av S post ⟨c, d, x, Q, rfl, hc, hd, hx, h6, h7, h2, hQ, hS, h⟩
  refine ⟨Nat.le_of_ble_eq_true rfl, lm_to 14 30 ?_⟩
  conv => whnf
  refine ⟨0, _, rfl, by omega, hQ.J, hS, ?_⟩
  have k17 : Q ((km_come 0 S) 17) := by rw [km_come_17]; exact hS
  have k18 : Q ((km_come 0 S) 18) := hS
  have k6 : (km_come 0 S) 16 6 = nI c := by rw [← h6]; exact km_come_16 0 6 S (by omega) (by omega) (by omega)
  have k7 : (km_come 0 S) 16 7 = nI d := by rw [← h7]; exact km_come_16 0 7 S (by omega) (by omega) (by omega)
  refine lm_Go.sub (sl_loop hQ c d x hx hc hd x 0 none (km_come 0 S) (by omega) (fun u hu => by cases hu) k18 k17 k6 k7 h) (kk_cons rfl (kk_cons ?_ (kk_cons rfl (kk_cons rfl kk_nil))))
  show some (Value.int (S 16 2)) = some (Value.int (nI x))
  rw [h2]
end
section
/-! a step of the reference reads its image alone -/
def rho (Z S : lm_S) : lm_S := fun i => if i = 18 then S 18 else if i = 16 then (fun k => if k = 8 then S 16 8 else if k = 9 then S 16 9 else Z 16 k) else Z i
section RHO
variable {Z : lm_S}
theorem rh_st (S : lm_S) (k : Nat) (x : Int32) : lm_set (rho Z S) 18 k x = rho Z (lm_set S 18 k x) := by
  funext i
  by_cases h : i = 18
  · subst h; rfl
  · show va_up (rho Z S) 18 _ i = _
    rw [va_up_ne _ _ h]
    simp only [rho, h, if_false]
    rfl
theorem rh_8 (S : lm_S) (x : Int32) : lm_set (rho Z S) 16 8 x = rho Z (lm_set S 16 8 x) := by
  funext i
  by_cases h : i = 16
  · subst h
    funext k
    show upd ((rho Z S) 16) 8 x k = (if k = 8 then x else if k = 9 then S 16 9 else Z 16 k)
    by_cases h8 : k = 8
    · subst h8; rfl
    · rw [pk_un h8, if_neg h8]
      show (if k = 8 then S 16 8 else if k = 9 then S 16 9 else Z 16 k) = _
      rw [if_neg h8]
  · show va_up (rho Z S) 16 _ i = _
    rw [va_up_ne _ _ h]
    simp only [rho, h, if_false]
    rfl
theorem rh_9 (S : lm_S) (x : Int32) : lm_set (rho Z S) 16 9 x = rho Z (lm_set S 16 9 x) := by
  funext i
  by_cases h : i = 16
  · subst h
    funext k
    show upd ((rho Z S) 16) 9 x k = (if k = 8 then S 16 8 else if k = 9 then x else Z 16 k)
    by_cases h9 : k = 9
    · subst h9; rfl
    · rw [pk_un h9, if_neg h9]
      show (if k = 8 then S 16 8 else if k = 9 then S 16 9 else Z 16 k) = _
      rw [if_neg h9]
  · show va_up (rho Z S) 16 _ i = _
    rw [va_up_ne _ _ h]
    simp only [rho, h, if_false]
    rfl
theorem rh_it {c : Prop} [Decidable c] {A B A1 B1 : lm_S} (h : A1 = rho Z A) (g : B1 = rho Z B) : (if c then A1 else B1) = rho Z (if c then A else B) := by
  split
  · exact h
  · exact g
theorem rh_flag (f o : Int32) (S : lm_S) : km_flag f o (rho Z S) = rho Z (km_flag f o S) := rh_st _ _ _
theorem rh_mark (v : Int32) (S : lm_S) : km_mark v (rho Z S) = rho Z (km_mark v S) := by
  unfold km_mark
  rw [rh_flag, rh_flag]
theorem rh_write (a v : Int32) (S : lm_S) : km_write a v (rho Z S) = rho Z (km_write a v S) := by
  show lm_set (lm_set (lm_set (rho Z S) 18 _ _) 16 9 (S 16 8)) 16 8 a = _
  rw [rh_st, rh_9, rh_8]
  rfl
theorem rh_push (v : Int32) (S : lm_S) : km_push v (rho Z S) = rho Z (km_push v S) := by
  unfold km_push
  rw [rh_write]
  exact rh_st _ _ _
theorem rh_pull (S : lm_S) : km_pull (rho Z S) = rho Z (km_pull S) := rh_st _ _ _
theorem rh_pv (S : lm_S) : km_pv (rho Z S) = km_pv S := rfl
theorem rh_change (p v : Int32) (S : lm_S) : km_change p v (rho Z S) = rho Z (km_change p v S) := rh_it (rh_st _ _ _) (rh_write _ _ _)
theorem rh_add1 (s : Int32) (S : lm_S) : km_add1 s (rho Z S) = rho Z (km_add1 s S) := rh_flag _ _ _
theorem rh_add2 (s t : Int32) (S : lm_S) : km_add2 s t (rho Z S) = rho Z (km_add2 s t S) := by
  unfold km_add2
  rw [rh_add1]
  exact rh_flag _ _ _
theorem rh_add3 (s t : Int32) (S : lm_S) : km_add3 s t (rho Z S) = rho Z (km_add3 s t S) := by
  unfold km_add3
  rw [rh_add2, rh_mark]
  exact rh_st _ _ _
theorem rh_add (t : Int32) (S : lm_S) : km_add t (rho Z S) = rho Z (km_add t S) := rh_add3 _ _ _
theorem rh_cmp (v t : Int32) (S : lm_S) : km_cmp v t (rho Z S) = rho Z (km_cmp v t S) := by
  unfold km_cmp
  rw [rh_mark]
  exact rh_flag _ _ _
theorem rh_tr (d : Nat) (v : Int32) (S : lm_S) : km_tr d v (rho Z S) = rho Z (km_tr d v S) := by
  unfold km_tr
  rw [rh_mark]
  exact rh_st _ _ _
theorem rh_sm0 (md : Int32) (S : lm_S) : km_sm0 md (rho Z S) = rho Z (km_sm0 md S) := rh_it (rh_tr 514 _ _) rfl
theorem rh_sm1 (md : Int32) (S : lm_S) : km_sm1 md (rho Z S) = rho Z (km_sm1 md S) := rh_it (rh_tr 514 _ _) rfl
theorem rh_sm2 (md : Int32) (S : lm_S) : km_sm2 md (rho Z S) = rho Z (km_sm2 md S) := rh_it (rh_it (rh_flag _ _ _) (rh_flag _ _ _)) (rh_it (rh_flag _ _ _) rfl)
theorem rh_sm4 (md : Int32) (S : lm_S) : km_sm4 md (rho Z S) = rho Z (km_sm4 md S) := rh_it (rh_flag _ _ _) rfl
theorem rh_small (md : Int32) (S : lm_S) : km_small md (rho Z S) = rho Z (km_small md S) := by
  unfold km_small
  rw [rh_sm0, rh_sm1, rh_sm2, rh_sm4]
theorem rh_branch (md o : Int32) (S : lm_S) : km_branch md o (rho Z S) = rho Z (km_branch md o S) := rh_it (rh_it rfl (rh_st _ _ _)) (rh_it (rh_st _ _ _) rfl)
theorem rh_wt2 (t : Int32) (S : lm_S) : km_wt2 t (rho Z S) = rho Z (km_wt2 t S) := by
  unfold km_wt2
  rw [rh_flag, rh_flag]
theorem rh_wte (t : Int32) (S : lm_S) : km_wte t (rho Z S) = rho Z (km_wte t S) := by
  unfold km_wte
  rw [rh_wt2]
  exact rh_flag _ _ _
theorem rh_win (p v : Int32) (S : lm_S) : km_win p v (rho Z S) = rho Z (km_win p v S) := by
  unfold km_win
  rw [rh_mark, rh_change]
theorem rh_wsl (op p t c : Int32) (S : lm_S) : km_wsl op p t c (rho Z S) = rho Z (km_wsl op p t c S) := by
  unfold km_wsl
  rw [rh_win, rh_flag]
theorem rh_wsr (op p t c : Int32) (S : lm_S) : km_wsr op p t c (rho Z S) = rho Z (km_wsr op p t c S) := by
  unfold km_wsr
  rw [rh_win, rh_flag]
theorem rh_wld (op t : Int32) (S : lm_S) : km_wld op t (rho Z S) = rho Z (km_wld op t S) := rh_tr _ _ _
theorem rh_wbt (v : Int32) (S : lm_S) : km_wbt v (rho Z S) = rho Z (km_wbt v S) := rh_tr 512 _ _
theorem rh_wk (op p t c : Int32) (S : lm_S) : km_wk op p t c (rho Z S) = rho Z (km_wk op p t c S) := (rh_it (rh_wld _ _ _) (rh_it (rh_wld _ _ _) (rh_it (rh_wld _ _ _) (rh_it (rh_change _ _ _) (rh_it (rh_change _ _ _) (rh_it (rh_change _ _ _) (rh_it (rh_add _ _) (rh_it (rh_add _ _) (rh_it (rh_wbt _ _) (rh_it (rh_wbt _ _) (rh_it (rh_wbt _ _) (rh_it (rh_cmp _ _ _) (rh_it (rh_cmp _ _ _) (rh_it (rh_cmp _ _ _) (rh_it (rh_wte _ _) (rh_it (rh_win _ _ _) (rh_it (rh_win _ _ _) (rh_it (rh_wsl _ _ _ _ _) (rh_it (rh_wsr _ _ _ _ _) (rh_it (rh_wsl _ _ _ _ _) (rh_wsr _ _ _ _ _)))))))))))))))))))))
theorem rh_work (op p : Int32) (S : lm_S) : km_work op p (rho Z S) = rho Z (km_work op p S) := rh_wk _ _ _ _ _
theorem rh_move (md : Int32) (S : lm_S) : km_move md (rho Z S) = rho Z (km_move md S) := rh_it (rh_tr _ _ _) (rh_it (rh_tr _ _ _) (rh_it (rh_tr _ _ _) (rh_it (rh_tr _ _ _) (rh_it (rh_tr _ _ _) (rh_it (rh_st _ _ _) (rh_it (rh_tr _ _ _) (rh_tr _ _ _)))))))
theorem rh_o1 (k : Int32) (S : lm_S) : km_o1 k (rho Z S) = rho Z (km_o1 k S) := rh_st _ _ _
theorem rh_out (S : lm_S) : km_out (rho Z S) = rho Z (km_out S) := by
  unfold km_out km_oe km_o7
  rw [rh_o1, rh_o1, rh_o1, rh_o1, rh_o1, rh_o1, rh_o1, rh_st, rh_st]
  rfl
theorem rh_shi : ∀ (n k : Nat) (S : lm_S), km_shi n k (rho Z S) = rho Z (km_shi n k S)
  | 0, _, _ => rfl
  | n + 1, k, S => by
    rw [km_shi, rh_st, rh_shi n]
    rfl
theorem rh_i1 (S : lm_S) : km_i1 (rho Z S) = rho Z (km_i1 S) := rh_flag _ _ _
theorem rh_i2 (v : Int32) (S : lm_S) : km_i2 v (rho Z S) = rho Z (km_i2 v S) := rh_tr 512 _ _
theorem rh_i3 (w : Nat) (S : lm_S) : km_i3 w (rho Z S) = rho Z (km_i3 w S) := rh_it rfl (by rw [rh_st, rh_shi]; rfl)
theorem rh_in (w : Nat) (S : lm_S) : km_in w (rho Z S) = rho Z (km_in w S) := by
  unfold km_in
  rw [rh_i1, rh_i2, rh_i3]
  rfl
theorem rh_stack (w : Nat) (md : Int32) (S : lm_S) : km_stack w md (rho Z S) = rho Z (km_stack w md S) := rh_it (by rw [rh_pull, rh_pull, rh_st]; rfl) (rh_it (rh_push _ _) (rh_it (by rw [rh_pull]; exact rh_tr _ _ _) (rh_it (rh_push _ _) (rh_it (by rw [rh_pull]; exact rh_st _ _ _) (rh_it (rh_st _ _ _) (rh_it (rh_in _ _) (rh_out _)))))))
theorem rh_jmp (op p : Int32) (S : lm_S) : km_jmp op p (rho Z S) = rho Z (km_jmp op p S) := rh_it (by rw [rh_push, rh_push]; exact rh_st _ _ _) (rh_st _ _ _)
theorem rh_disp (w : Nat) (op md be i wd : Int32) (S : lm_S) : km_disp w op md be i wd (rho Z S) = rho Z (km_disp w op md be i wd S) := rh_it (rh_it (rh_it (rh_stack _ _ _) (rh_it (rh_move _ _) (rh_it (rh_small _ _) (rh_it (rh_branch _ _ _) rfl)))) (rh_it rfl (rh_it rfl (rh_jmp _ _ _)))) (rh_it (rh_work _ _ _) (rh_work _ _ _))
theorem rh_st1 (S : lm_S) : km_st1 (rho Z S) = rho Z (km_st1 S) := by
  unfold km_st1
  rw [rh_st]
  exact rh_disp _ _ _ _ _ _ _
theorem rh_step (S : lm_S) : km_step (rho Z S) = rho Z (km_step S) := by
  unfold km_step
  rw [rh_8, rh_9, rh_st1]
end RHO
theorem rho_self (Z S : lm_S) (h : Z 18 = S 18) : lm_set (lm_set Z 16 8 (-1)) 16 9 (-1) = rho Z (lm_set (lm_set S 16 8 (-1)) 16 9 (-1)) := by
  funext i
  by_cases h18 : i = 18
  · subst h18; exact h
  · by_cases h16 : i = 16
    · subst h16
      funext k
      show upd (upd (Z 16) 8 (-1)) 9 (-1) k = (if k = 8 then -1 else if k = 9 then -1 else Z 16 k)
      simp only [upd]
      by_cases h8 : k = 8
      · subst h8; rfl
      · by_cases h9 : k = 9
        · subst h9; rfl
        · simp only [h8, h9, if_false]
    · show va_up (va_up Z 16 _) 16 _ i = (if i = 18 then _ else if i = 16 then _ else Z i)
      rw [va_up_ne _ _ h16, va_up_ne _ _ h16, if_neg h18, if_neg h16]
/-- the image and the places after a step, from the image alone -/
theorem km_local {Z S : lm_S} (h : Z 18 = S 18) : (km_step Z) 18 = (km_step S) 18 ∧ (km_step Z) 16 8 = (km_step S) 16 8 ∧ (km_step Z) 16 9 = (km_step S) 16 9 := by
  have e : km_step Z = rho Z (km_step S) := by
    unfold km_step
    rw [rho_self Z S h, rh_st1]
  rw [e]
  exact ⟨rfl, rfl, rfl⟩
/-- the reference's step on images -/
def ns_S (n : Nat → Int32) : lm_S := fun i => if i = 18 then n else fun _ => 0
def ns_st (n : Nat → Int32) : Nat → Int32 := (km_step (ns_S n)) 18
def ns_w (n : Nat → Int32) : Int32 := (km_step (ns_S n)) 16 8
def ns_b (n : Nat → Int32) : Int32 := (km_step (ns_S n)) 16 9
theorem ns_eq (S : lm_S) : (km_step S) 18 = ns_st (S 18) ∧ (km_step S) 16 8 = ns_w (S 18) ∧ (km_step S) 16 9 = ns_b (S 18) := km_local (Z := S) (S := ns_S (S 18)) rfl
def ns_it : Nat → (Nat → Int32) → Nat → Int32
  | 0, n => n
  | k + 1, n => ns_it k (ns_st n)
theorem ns_it_s : ∀ (k : Nat) (n : Nat → Int32), ns_it (k + 1) n = ns_st (ns_it k n)
  | 0, _ => rfl
  | k + 1, n => by
    show ns_it (k + 1) (ns_st n) = ns_st (ns_it k (ns_st n))
    rw [ns_it_s k (ns_st n)]
theorem km_it_18 : ∀ (k : Nat) (S : lm_S), (km_it k S) 18 = ns_it k (S 18)
  | 0, _ => rfl
  | k + 1, S => by rw [km_it, km_it_18 k, (ns_eq S).1]; rfl
theorem km_it_s : ∀ (k : Nat) (S : lm_S), km_it (k + 1) S = km_step (km_it k S)
  | 0, _ => rfl
  | k + 1, S => by
    show km_it (k + 1) (km_step S) = km_step (km_it k (km_step S))
    rw [km_it_s k (km_step S)]
end
section
/-! numbers: flags, bytes -/
def bt (x : Int32) (i : Nat) : Bool := x.toBitVec.getLsbD i
theorem b_ext {x y : Int32} (h : ∀ i, i < 32 → bt x i = bt y i) : x = y := Int32.toBitVec_inj.mp (BitVec.eq_of_getLsbD_eq (fun i hi => h i hi))
theorem b_or (x y : Int32) (i : Nat) : bt (x ||| y) i = (bt x i || bt y i) := by unfold bt; rw [Int32.toBitVec_or, BitVec.getLsbD_or]
theorem b_and (x y : Int32) (i : Nat) : bt (x &&& y) i = (bt x i && bt y i) := by unfold bt; rw [Int32.toBitVec_and, BitVec.getLsbD_and]
theorem b_xor (x y : Int32) (i : Nat) : bt (x ^^^ y) i = (bt x i ^^ bt y i) := by unfold bt; rw [Int32.toBitVec_xor, BitVec.getLsbD_xor]
theorem b_0 : ∀ i, i < 32 → bt 0 i = false := by decide +kernel
theorem b_m1 : ∀ i, i < 32 → bt (-1) i = true := by decide +kernel
/-- a flag -/
def fl (f o P : Int32) : Int32 := if o = 0 then P &&& (f ^^^ (-1)) else P ||| f
theorem fl_comm {f g : Int32} (h : f &&& g = 0) (a b P : Int32) : fl f a (fl g b P) = fl g b (fl f a P) := by
  apply b_ext
  intro i hi
  have h1 : (bt f i && bt g i) = false := by rw [← b_and, h, b_0 i hi]
  have h2 := b_m1 i hi
  unfold fl
  split <;> split <;> simp only [b_and, b_or, b_xor, h2] <;> revert h1 <;> cases bt f i <;> cases bt g i <;> cases bt P i <;> decide
/-- N and Z by v -/
def nz (v P : Int32) : Int32 := fl 2 (if v &&& 255 = 0 then 1 else 0) (fl 128 (if v &&& 128 = 0 then 0 else 1) P)
theorem nz_comm {f : Int32} (h2 : f &&& 2 = 0) (h8 : f &&& 128 = 0) (o v P : Int32) : fl f o (nz v P) = nz v (fl f o P) := by
  unfold nz
  rw [fl_comm h2, fl_comm h8]
theorem b_7 (x : Int32) : x &&& 128 = if bt x 7 then 128 else 0 := by
  apply b_ext
  intro i hi
  rw [b_and]
  by_cases h : i = 7
  · subst h
    cases bt x 7 <;> decide
  · have h1 : bt 128 i = false := (by decide +kernel : ∀ i, i < 32 → i ≠ 7 → bt 128 i = false) i hi h
    rw [h1, Bool.and_false]
    split
    · exact h1.symm
    · exact (b_0 i hi).symm
theorem x_128 (x : Int32) : x &&& 128 = 0 ∨ x &&& 128 = 128 := by
  rw [b_7]
  cases bt x 7
  · exact Or.inl rfl
  · exact Or.inr rfl
theorem and_255_128 (v : Int32) : (v &&& 255) &&& 128 = v &&& 128 := by
  rw [Int32.and_assoc]
  rfl
theorem nz_note (v P : Int32) : P &&& (-131) ||| ((v &&& 255) &&& 128) ||| (if v &&& 255 = 0 then 2 else 0) = nz v P := by
  rw [and_255_128]
  unfold nz fl
  rcases x_128 v with h | h
  · by_cases h2 : v &&& 255 = 0
    · rw [if_pos h2, if_pos h2, h, if_pos rfl, if_pos rfl, if_neg (by decide)]
      apply b_ext
      intro i hi
      simp only [b_or, b_and]
      exact (by decide +kernel : ∀ i, i < 32 → ∀ p : Bool, ((p && bt (-131) i || bt 0 i) || bt 2 i) = ((p && bt (128 ^^^ (-1)) i) || bt 2 i)) i hi (bt P i)
    · rw [if_neg h2, if_neg h2, h, if_pos rfl, if_pos rfl, if_pos rfl]
      apply b_ext
      intro i hi
      simp only [b_or, b_and]
      exact (by decide +kernel : ∀ i, i < 32 → ∀ p : Bool, ((p && bt (-131) i || bt 0 i) || bt 0 i) = ((p && bt (128 ^^^ (-1)) i) && bt (2 ^^^ (-1)) i)) i hi (bt P i)
  · have h2 : ¬ v &&& 255 = 0 := by
      intro q
      rw [← and_255_128, q] at h
      exact absurd h (by decide)
    rw [if_neg h2, if_neg h2, h, if_pos rfl, if_neg (show ¬ (128 : Int32) = 0 by decide), if_neg (show ¬ (1 : Int32) = 0 by decide)]
    apply b_ext
    intro i hi
    simp only [b_or, b_and]
    exact (by decide +kernel : ∀ i, i < 32 → ∀ p : Bool, ((p && bt (-131) i || bt 128 i) || bt 0 i) = ((p || bt 128 i) && bt (2 ^^^ (-1)) i)) i hi (bt P i)
/-- a byte -/
def kb (x : Int32) : Prop := ∃ j : Nat, j < 256 ∧ x = nI j
theorem kb_and (x : Int32) : kb (x &&& 255) := pk_andE x 8 (by decide)
theorem kb_id {x : Int32} (h : kb x) : x &&& 255 = x := by
  obtain ⟨j, hj, rfl⟩ := h
  rw [pk_andN (by omega) 8 (by decide), Nat.mod_eq_of_lt hj]
theorem kb_of {x : Int32} (h : x &&& 255 = x) : kb x := by
  rw [← h]
  exact kb_and x
theorem kb_in {x : Int32} (h : kb x) : vp_in x 256 := by
  obtain ⟨j, hj, rfl⟩ := h
  exact vp_in_nI hj (by decide)
theorem kb_n {x : Int32} (h : kb x) : ¬ x < 0 := by
  obtain ⟨j, hj, rfl⟩ := h
  exact nI_pos (by omega)
theorem kb_fl {f P : Int32} (hf : f &&& 255 = f) (o : Int32) (h : kb P) : kb (fl f o P) := by
  have h := kb_id h
  apply kb_of
  unfold fl
  split
  · rw [Int32.and_assoc, Int32.and_comm (f ^^^ -1) 255, ← Int32.and_assoc, h]
  · apply b_ext
    intro i hi
    have e1 : bt (P &&& 255) i = bt P i := by rw [h]
    have e2 : bt (f &&& 255) i = bt f i := by rw [hf]
    rw [b_and] at e1 e2
    rw [b_and, b_or, Bool.and_or_distrib_right, e1, e2]
theorem kb_nz {P : Int32} (v : Int32) (h : kb P) : kb (nz v P) := kb_fl (by decide) _ (kb_fl (by decide) _ h)
theorem kb_0 : kb 0 := ⟨0, by omega, rfl⟩
theorem kb_1 : kb 1 := ⟨1, by omega, rfl⟩
/-- sets -/
theorem ls_ss (S : lm_S) (i k : Nat) (x y : Int32) : lm_set (lm_set S i k x) i k y = lm_set S i k y := by
  funext a b
  simp only [lm_set, va_up, upd]
  by_cases h : a = i
  · subst h
    by_cases h2 : b = k
    · simp [upd, h2]
    · simp [upd, h2]
  · simp [h]
theorem ls_cc (S : lm_S) (i : Nat) {k l : Nat} (h : k ≠ l) (x y : Int32) : lm_set (lm_set S i k x) i l y = lm_set (lm_set S i l y) i k x := by
  funext a b
  simp only [lm_set, va_up, upd]
  by_cases ha : a = i
  · subst ha
    by_cases h1 : b = k
    · subst h1
      simp [upd, h]
    · by_cases h2 : b = l
      · subst h2
        simp [upd, h1]
      · simp [upd, h1, h2]
  · simp [ha]
theorem ls_i (S : lm_S) (i k : Nat) (x : Int32) : (lm_set S i k x) i k = x := by simp [lm_set, va_up, upd]
theorem ls_n (S : lm_S) (i : Nat) {k l : Nat} (h : l ≠ k) (x : Int32) : (lm_set S i k x) i l = S i l := by simp [lm_set, va_up, upd, h]
theorem ls_o (S : lm_S) {i j : Nat} (h : j ≠ i) (k : Nat) (x : Int32) : (lm_set S i k x) j = S j := by simp [lm_set, va_up, h]
theorem mk_nz (v : Int32) (M : lm_S) : km_mark v M = lm_set M 18 516 (nz v (M 18 516)) := by
  show lm_set (lm_set M 18 516 (fl 128 _ (M 18 516))) 18 516 (fl 2 _ ((lm_set M 18 516 (fl 128 _ (M 18 516))) 18 516)) = _
  rw [ls_ss, ls_i]
  rfl
theorem nt_nz (v : Int32) (D : lm_S) : kd_note (v &&& 255) D = lm_set D 6 4 (nz v (D 6 4)) := by
  unfold kd_note
  rw [nz_note]
theorem ld_nz (g : Nat) (hg : g < 4) (v : Int32) (D : lm_S) : kd_load (nI g) v D = lm_set (lm_set D 6 g (v &&& 255)) 6 4 (nz v (D 6 4)) := by
  unfold kd_load
  rw [nI_clamp (by omega), ls_i, nt_nz, ls_n _ _ (by omega)]
end
section
/-! the desk's cells against the reference's image -/
def rl_io (D M : lm_S) : Prop := ∃ tk fd hd dr : Nat, D 6 7 = nI tk ∧ D 1 3 = nI fd ∧ tk ≤ fd ∧ fd ≤ 40 ∧ M 18 519 = nI (fd - tk) ∧ (∀ k, k < fd - tk → D 7 (tk + k) = M 18 (520 + k)) ∧ D 6 8 = nI hd ∧ D 1 5 = nI dr ∧ M 18 560 = nI (dr + hd) ∧ (∀ k, k < 8 → k < hd → D 8 (hd - 1 - k) = M 18 (561 + k)) ∧ (hd < 8 → dr = 0) ∧ hd ≤ 308
/-- what a step has written so far: C0 the cells before it -/
def rl_w (C0 : Nat → Int32) (D M : lm_S) : Prop :=
  (D 1 8 = 0 ∧ D 9 0 = -1 ∧ D 9 1 = -1 ∧ M 16 8 = -1 ∧ M 16 9 = -1 ∧ D 5 = C0) ∨
  (∃ (p : Nat) (v : Int32), p < 512 ∧ D 1 8 = 1 ∧ D 9 0 = nI p ∧ D 9 1 = -1 ∧ M 16 8 = nI p ∧ M 16 9 = -1 ∧ D 10 0 = C0 p ∧ D 5 = upd C0 p v) ∨
  ∃ (p q : Nat) (v u : Int32), p < 512 ∧ q < 512 ∧ D 1 8 = 2 ∧ D 9 0 = nI p ∧ D 9 1 = nI q ∧ M 16 8 = nI q ∧ M 16 9 = nI p ∧ D 10 0 = C0 p ∧ D 10 1 = (upd C0 p v) q ∧ D 5 = upd (upd C0 p v) q u
def rl_v (M : lm_S) : Prop := (∀ a, a < 512 → kb (M 18 a)) ∧ (∀ k, k < 5 → kb (M 18 (512 + k))) ∧ vp_in (M 18 517) 512
def rl (C0 : Nat → Int32) (D M : lm_S) : Prop := (∀ a, a < 512 → D 5 a = M 18 a) ∧ (∀ k, k < 7 → D 6 k = M 18 (512 + k)) ∧ rl_v M ∧ rl_io D M ∧ rl_w C0 D M
section REL
variable {C0 : Nat → Int32} {D M : lm_S}
theorem rl.A (h : rl C0 D M) : D 6 0 = M 18 512 := h.2.1 0 (by omega)
theorem rl.X (h : rl C0 D M) : D 6 1 = M 18 513 := h.2.1 1 (by omega)
theorem rl.Y (h : rl C0 D M) : D 6 2 = M 18 514 := h.2.1 2 (by omega)
theorem rl.S (h : rl C0 D M) : D 6 3 = M 18 515 := h.2.1 3 (by omega)
theorem rl.P (h : rl C0 D M) : D 6 4 = M 18 516 := h.2.1 4 (by omega)
theorem rl.C (h : rl C0 D M) : D 6 5 = M 18 517 := h.2.1 5 (by omega)
theorem rl.H (h : rl C0 D M) : D 6 6 = M 18 518 := h.2.1 6 (by omega)
/-- one register on both sides -/
theorem rl.reg (h : rl C0 D M) (k : Nat) (hk : k < 7) (x : Int32) (hx : k < 5 → kb x) (h5 : k = 5 → vp_in x 512) : rl C0 (lm_set D 6 k x) (lm_set M 18 (512 + k) x) := by
  obtain ⟨h1, h2, ⟨v1, v2, v3⟩, ⟨tk, fd, hd, dr, i1, i2, i3, i4, i5, i6, i7, i8, i9, i10, i11, i12⟩, h4⟩ := h
  refine ⟨fun a ha => ?_, fun j hj => ?_, ⟨fun a ha => ?_, fun j hj => ?_, ?_⟩, ⟨tk, fd, hd, dr, ?_, i2, i3, i4, ?_, fun j hj => ?_, ?_, i8, ?_, fun j hj hj2 => ?_, i11, i12⟩, h4⟩
  · rw [ls_o _ (by omega), ls_n _ _ (by omega)]
    exact h1 a ha
  · by_cases e : j = k
    · subst e
      rw [ls_i, ls_i]
    · rw [ls_n _ _ e, ls_n _ _ (by omega)]
      exact h2 j hj
  · rw [ls_n _ _ (by omega)]
    exact v1 a ha
  · by_cases e : j = k
    · subst e
      rw [ls_i]
      exact hx hj
    · rw [ls_n _ _ (by omega)]
      exact v2 j hj
  · by_cases e : k = 5
    · subst e
      rw [show (517 : Nat) = 512 + 5 from rfl, ls_i]
      exact h5 rfl
    · rw [ls_n _ _ (by omega)]
      exact v3
  · rw [ls_n _ _ (by omega)]; exact i1
  · rw [ls_n _ _ (by omega)]; exact i5
  · rw [ls_o _ (by omega), ls_n _ _ (by omega)]; exact i6 j hj
  · rw [ls_n _ _ (by omega)]; exact i7
  · rw [ls_n _ _ (by omega)]; exact i9
  · rw [ls_o _ (by omega), ls_n _ _ (by omega)]; exact i10 j hj hj2
theorem rl.flag (h : rl C0 D M) (f o : Int32) (hf : f &&& 255 = f) : rl C0 (kd_flag f o D) (km_flag f o M) := by
  have e : kd_flag f o D = lm_set D 6 4 (fl f o (M 18 516)) := by rw [← h.P]; rfl
  rw [e]
  exact h.reg 4 (by omega) _ (fun _ => kb_fl hf o (h.2.2.1.2.1 4 (by omega))) (fun q => by omega)
theorem rl.note (h : rl C0 D M) (v : Int32) : rl C0 (kd_note (v &&& 255) D) (km_mark v M) := by
  rw [nt_nz, mk_nz, h.P]
  exact h.reg 4 (by omega) _ (fun _ => kb_nz v (h.2.2.1.2.1 4 (by omega))) (fun q => by omega)
theorem rl.load (h : rl C0 D M) (g : Nat) (hg : g < 4) (v : Int32) : rl C0 (kd_load (nI g) v D) (lm_set (km_mark v M) 18 (512 + g) (v &&& 255)) := by
  rw [ld_nz g hg, mk_nz, ls_cc M 18 (k := 516) (l := 512 + g) (by omega), h.P]
  have h2 := h.reg g (by omega) (v &&& 255) (fun _ => kb_and v) (fun q => by omega)
  exact h2.reg 4 (by omega) _ (fun _ => kb_nz v (h.2.2.1.2.1 4 (by omega))) (fun q => by omega)
theorem and511 {p : Nat} (hp : p < 512) : nI p &&& 511 = nI p := by rw [pk_andN (by omega) 9 (by decide), Nat.mod_eq_of_lt hp]
/-- a cell is written -/
theorem rl.wcell (h : rl C0 D M) (p : Nat) (hp : p < 512) (v : Int32) (hv : kb v) (hw : D 1 8 = 0 ∨ D 1 8 = 1) : rl C0 (kd_wcell (nI p) v D) (km_write (nI p) v M) := by
  obtain ⟨h1, h2, ⟨v1, v2, v3⟩, ⟨tk, fd, hd, dr, i1, i2, i3, i4, i5, i6, i7, i8, i9, i10, i11, i12⟩, h4⟩ := h
  have e1 : kd_wcell (nI p) v D = lm_set (lm_set (lm_set (lm_set D 9 (D 1 8).toNatClampNeg (nI p)) 10 (D 1 8).toNatClampNeg (D 5 p)) 1 8 (D 1 8 + 1)) 5 p v := by
    unfold kd_wcell kd_note2
    rw [and511 hp, nI_clamp (by omega), if_neg]
    rcases hw with hw | hw
    · rw [hw]; decide
    · rw [hw]; decide
  have e2 : km_write (nI p) v M = lm_set (lm_set (lm_set M 18 p v) 16 9 (M 16 8)) 16 8 (nI p) := by
    unfold km_write
    rw [nI_clamp (by omega), kb_id hv]
  rw [e1, e2]
  have c5 : ∀ a, (lm_set (lm_set (lm_set (lm_set D 9 (D 1 8).toNatClampNeg (nI p)) 10 (D 1 8).toNatClampNeg (D 5 p)) 1 8 (D 1 8 + 1)) 5 p v) 5 a = upd (D 5) p v a := fun a => rfl
  have c18 : ∀ a, (lm_set (lm_set (lm_set M 18 p v) 16 9 (M 16 8)) 16 8 (nI p)) 18 a = upd (M 18) p v a := fun a => rfl
  refine ⟨fun a ha => ?_, fun j hj => ?_, ⟨fun a ha => ?_, fun j hj => ?_, ?_⟩, ⟨tk, fd, hd, dr, i1, i2, i3, i4, ?_, fun j hj => ?_, i7, i8, ?_, fun j hj hj2 => ?_, i11, i12⟩, ?_⟩
  · rw [c5, c18]
    simp only [upd]
    split
    · rfl
    · exact h1 a ha
  · rw [c18, pk_un (by omega)]
    exact h2 j hj
  · rw [c18]
    simp only [upd]
    split
    · exact hv
    · exact v1 a ha
  · rw [c18, pk_un (by omega)]
    exact v2 j hj
  · rw [c18, pk_un (by omega)]
    exact v3
  · rw [c18, pk_un (by omega)]; exact i5
  · rw [c18, pk_un (by omega)]; exact i6 j hj
  · rw [c18, pk_un (by omega)]; exact i9
  · rw [c18, pk_un (by omega)]; exact i10 j hj hj2
  · rcases h4 with ⟨w1, w2, w3, w4, w5, w6⟩ | ⟨q, u, w0, w1, w2, w3, w4, w5, w6, w7⟩ | ⟨_, _, _, _, _, _, w1, _⟩
    · refine Or.inr (Or.inl ⟨p, v, hp, ?_, ?_, ?_, rfl, ?_, ?_, ?_⟩)
      · show D 1 8 + 1 = 1
        rw [w1]; rfl
      · show upd (D 9) (D 1 8).toNatClampNeg (nI p) 0 = nI p
        rw [w1]; rfl
      · show upd (D 9) (D 1 8).toNatClampNeg (nI p) 1 = -1
        rw [w1]; exact w3
      · exact w4
      · show upd (D 10) (D 1 8).toNatClampNeg (D 5 p) 0 = C0 p
        rw [w1, w6]; rfl
      · show upd (D 5) p v = upd C0 p v
        rw [w6]
    · refine Or.inr (Or.inr ⟨q, p, u, v, w0, hp, ?_, ?_, ?_, rfl, ?_, ?_, ?_, ?_⟩)
      · show D 1 8 + 1 = 2
        rw [w1]; rfl
      · show upd (D 9) (D 1 8).toNatClampNeg (nI p) 0 = nI q
        rw [w1]; exact w2
      · show upd (D 9) (D 1 8).toNatClampNeg (nI p) 1 = nI p
        rw [w1]; rfl
      · exact w4
      · show upd (D 10) (D 1 8).toNatClampNeg (D 5 p) 0 = C0 q
        rw [w1]; exact w6
      · show upd (D 10) (D 1 8).toNatClampNeg (D 5 p) 1 = upd C0 q u p
        rw [w1, w7]; rfl
      · show upd (D 5) p v = upd (upd C0 q u) p v
        rw [w7]
    · rcases hw with hw | hw <;> rw [hw] at w1 <;> exact absurd w1 (by decide)
end REL
end
section
/-! the instructions, side by side -/
/-- the same place: in A, or a cell -/
def pl (p q : Int32) : Prop := (p = -1 ∧ q = 512) ∨ ∃ j : Nat, j < 512 ∧ p = nI j ∧ q = nI j
theorem nI_nm1 {j : Nat} (h : j < 512) : ¬ nI j = -1 := by
  intro q
  have := congrArg Int32.toInt q
  rw [nI_toInt (by omega), show (-1 : Int32).toInt = -1 from by decide] at this
  omega
theorem nI_n512 {j : Nat} (h : j < 512) : ¬ nI j = 512 := fun q => by
  have := (nI_eq (b := 512) (by omega) (by omega)).mp q
  omega
def w01 (D : lm_S) : Prop := D 1 8 = 0 ∨ D 1 8 = 1
section OPS
variable {C0 : Nat → Int32} {D M : lm_S}
theorem rl.change (h : rl C0 D M) {p q : Int32} (hp : pl p q) {v : Int32} (hv : kb v) (hw : w01 D) : rl C0 (kd_wplace p v D) (km_change q v M) := by
  rcases hp with ⟨rfl, rfl⟩ | ⟨j, hj, rfl, rfl⟩
  · unfold kd_wplace km_change
    rw [if_pos rfl, if_pos rfl, kb_id hv]
    exact h.reg 0 (by omega) v (fun _ => hv) (fun q => by omega)
  · unfold kd_wplace km_change
    rw [if_neg (nI_nm1 hj), if_neg (nI_n512 hj)]
    exact h.wcell j hj v hv hw
theorem rl.cell (h : rl C0 D M) (j : Nat) (hj : j < 512) : kd_cell (nI j) D = M 18 j ∧ kb (M 18 j) := by
  unfold kd_cell
  rw [and511 hj, nI_clamp (by omega)]
  exact ⟨h.1 j hj, h.2.2.1.1 j hj⟩
/-- what stands at the place -/
theorem rl.tv (h : rl C0 D M) {p q : Int32} (hp : pl p q) : (if p = -1 then D 6 0 else kd_cell p D) = M 18 q.toNatClampNeg ∧ kb (M 18 q.toNatClampNeg) := by
  rcases hp with ⟨rfl, rfl⟩ | ⟨j, hj, rfl, rfl⟩
  · rw [if_pos rfl]
    exact ⟨h.A, h.2.2.1.2.1 0 (by omega)⟩
  · rw [if_neg (nI_nm1 hj), nI_clamp (by omega)]
    exact h.cell j hj
theorem rl.push (h : rl C0 D M) {v : Int32} (hv : kb v) (hw : w01 D) : rl C0 (kd_push v D) (km_push v M) := by
  obtain ⟨s, hs, es⟩ := h.2.2.1.2.1 3 (by omega)
  have es : M 18 515 = nI s := es
  have e1 : (256 : Int32) + nI s = nI (256 + s) := by rw [show (256 : Int32) = nI 256 from rfl, nI_add]
  have h2 := h.wcell (256 + s) (by omega) v hv hw
  unfold kd_push km_push
  rw [h.S, es, e1, h2.S]
  exact h2.reg 3 (by omega) _ (fun _ => kb_and _) (fun q => by omega)
theorem push_w (v : Int32) (D : lm_S) (hw : D 1 8 = 0) : w01 (kd_push v D) := by
  refine Or.inr ?_
  show (kd_wcell (256 + D 6 3) v D) 1 8 = 1
  unfold kd_wcell
  rw [if_neg (by rw [hw]; decide)]
  show D 1 8 + 1 = 1
  rw [hw]
  rfl
theorem rl.pull (h : rl C0 D M) : rl C0 (kd_take D) (km_pull M) := by
  unfold kd_take km_pull
  rw [h.S]
  exact h.reg 3 (by omega) _ (fun _ => kb_and _) (fun q => by omega)
theorem rl.pv (h : rl C0 D M) : kd_pv D = km_pv M ∧ kb (km_pv M) := by
  unfold kd_pv km_pv km_pull
  rw [h.S]
  obtain ⟨j, hj, e⟩ := kb_and (M 18 515 + 1)
  rw [e, show (256 : Int32) + nI j = nI (256 + j) from by rw [show (256 : Int32) = nI 256 from rfl, nI_add], nI_clamp (by omega), ls_n _ _ (by omega)]
  exact h.cell (256 + j) (by omega)
theorem v_flag (a t s : Int32) : (if (a ^^^ t) &&& 128 = 0 then (if (a ^^^ (s &&& 255)) &&& 128 = 0 then (0 : Int32) else 1) else 0) = (if a &&& 128 = t &&& 128 then (if s &&& 128 = t &&& 128 then (0 : Int32) else 1) else 0) := by
  rw [b_7 (a ^^^ t), b_7 (a ^^^ (s &&& 255)), b_7 a, b_7 t, b_7 s, b_xor, b_xor, b_and, show bt 255 7 = true from by decide, Bool.and_true]
  cases bt a 7 <;> cases bt t 7 <;> cases bt s 7 <;> decide
theorem rl.add (h : rl C0 D M) (t : Int32) : rl C0 (kd_add t D) (km_add t M) := by
  have ea : kd_add2 (M 18 512) t (M 18 516 &&& 1) D = lm_set (lm_set D 6 0 ((M 18 512 + t + (M 18 516 &&& 1)) &&& 255)) 6 4 (fl 1 (if M 18 512 + t + (M 18 516 &&& 1) ≤ 255 then 0 else 1) (nz (M 18 512 + t + (M 18 516 &&& 1)) (M 18 516))) := by
    show kd_flag 1 _ (kd_load (nI 0) _ D) = _
    rw [ld_nz 0 (by omega), h.P]
    show lm_set (lm_set (lm_set D 6 0 _) 6 4 _) 6 4 (fl 1 _ ((lm_set (lm_set D 6 0 _) 6 4 _) 6 4)) = _
    rw [ls_ss, ls_i]
  unfold kd_add km_add
  rw [h.A, h.P, ea]
  generalize M 18 512 + t + (M 18 516 &&& 1) = s
  have e1 : (lm_set (lm_set D 6 0 (s &&& 255)) 6 4 (fl 1 (if s ≤ 255 then 0 else 1) (nz s (M 18 516)))) 6 0 = s &&& 255 := by rw [ls_n _ _ (by omega), ls_i]
  rw [e1, v_flag]
  have e2 : km_add3 s t M = lm_set (lm_set M 18 516 (nz s (fl 64 (if M 18 512 &&& 128 = t &&& 128 then (if s &&& 128 = t &&& 128 then 0 else 1) else 0) (fl 1 (if s ≤ 255 then 0 else 1) (M 18 516))))) 18 512 (s &&& 255) := by
    have a1 : km_add1 s M = lm_set M 18 516 (fl 1 (if s ≤ 255 then 0 else 1) (M 18 516)) := rfl
    have a2 : km_add2 s t M = lm_set M 18 516 (fl 64 (if M 18 512 &&& 128 = t &&& 128 then (if s &&& 128 = t &&& 128 then 0 else 1) else 0) (fl 1 (if s ≤ 255 then 0 else 1) (M 18 516))) := by
      show lm_set (km_add1 s M) 18 516 (fl 64 (if (km_add1 s M) 18 512 &&& 128 = t &&& 128 then (if s &&& 128 = t &&& 128 then 0 else 1) else 0) ((km_add1 s M) 18 516)) = _
      rw [a1, ls_ss, ls_i, ls_n _ _ (by omega)]
    unfold km_add3
    rw [a2, mk_nz, ls_ss, ls_i]
  rw [e2, ← nz_comm (f := 64) (by decide) (by decide), ← nz_comm (f := 1) (by decide) (by decide), ls_cc M 18 (k := 516) (l := 512) (by omega)]
  have e3 : ∀ (E : lm_S) (o x : Int32), kd_flag 64 o (lm_set E 6 4 x) = lm_set E 6 4 (fl 64 o x) := by
    intro E o x
    show lm_set (lm_set E 6 4 x) 6 4 (fl 64 o ((lm_set E 6 4 x) 6 4)) = _
    rw [ls_ss, ls_i]
  rw [e3]
  have h2 := h.reg 0 (by omega) (s &&& 255) (fun _ => kb_and s) (fun q => by omega)
  exact h2.reg 4 (by omega) _ (fun _ => kb_fl (by decide) _ (kb_fl (by decide) _ (kb_nz s (h.2.2.1.2.1 4 (by omega))))) (fun q => by omega)
theorem rl.cmp (h : rl C0 D M) (v t : Int32) : rl C0 (kd_cmp v t D) (km_cmp v t M) := (h.note (v - t)).flag 1 _ (by decide)
theorem rl.test (h : rl C0 D M) (t : Int32) : rl C0 (kd_test t D) (km_wte t M) := by
  have h2 : rl C0 (kd_test2 t D) (km_wt2 t M) := (h.flag 128 _ (by decide)).flag 64 _ (by decide)
  unfold kd_test km_wte
  rw [h2.A]
  exact h2.flag 2 _ (by decide)
theorem rl.bits (h : rl C0 D M) (v : Int32) : rl C0 (kd_load 0 v D) (km_wbt v M) := h.load 0 (by omega) v
/-- the carry may be set first -/
theorem win_c (o : Int32) {q : Int32} (hq : q = 512 ∨ ∃ j : Nat, j < 512 ∧ q = nI j) (v : Int32) (M : lm_S) : km_flag 1 o (km_win q v M) = km_win q v (km_flag 1 o M) := by
  unfold km_win
  rw [mk_nz, mk_nz]
  have e0 : lm_set (km_flag 1 o M) 18 516 (nz v ((km_flag 1 o M) 18 516)) = lm_set M 18 516 (nz v (fl 1 o (M 18 516))) := by
    show lm_set (lm_set M 18 516 (fl 1 o (M 18 516))) 18 516 (nz v ((lm_set M 18 516 (fl 1 o (M 18 516))) 18 516)) = _
    rw [ls_ss, ls_i]
  rw [e0, ← nz_comm (f := 1) (by decide) (by decide)]
  rcases hq with rfl | ⟨j, hj, rfl⟩
  · unfold km_change
    rw [if_pos rfl, if_pos rfl]
    show lm_set (lm_set (lm_set M 18 516 _) 18 512 _) 18 516 (fl 1 o ((lm_set (lm_set M 18 516 _) 18 512 _) 18 516)) = _
    rw [ls_n _ _ (by omega), ls_i, ls_cc _ _ (k := 516) (l := 512) (by omega), ls_ss, ls_cc M 18 (k := 512) (l := 516) (by omega)]
  · unfold km_change
    rw [if_neg (nI_n512 hj), if_neg (nI_n512 hj)]
    unfold km_write
    rw [nI_clamp (by omega)]
    funext a b
    show (lm_set _ 18 516 (fl 1 o ((lm_set (lm_set M 18 516 _) 18 j _) 18 516))) a b = _
    rw [ls_n _ _ (by omega), ls_i]
    by_cases h18 : a = 18
    · subst h18
      show upd (upd (upd (M 18) 516 _) j _) 516 _ b = upd (upd (M 18) 516 _) j _ b
      simp only [upd]
      by_cases hb : b = 516
      · subst hb
        rw [if_pos rfl, if_neg (by omega), if_pos rfl]
      · rw [if_neg hb, if_neg hb]
        split
        · rfl
        · rfl
    · rw [ls_o _ h18]
      by_cases h16 : a = 16
      · subst h16; rfl
      · rw [ls_o _ h16, ls_o _ h16, ls_o _ h16, ls_o _ h16, ls_o _ h18, ls_o _ h18, ls_o _ h18, ls_o _ h18]
theorem pl_q {p q : Int32} (h : pl p q) : q = 512 ∨ ∃ j : Nat, j < 512 ∧ q = nI j := by
  rcases h with ⟨_, h⟩ | ⟨j, hj, _, h⟩
  · exact Or.inl h
  · exact Or.inr ⟨j, hj, h⟩
theorem rl.win (h : rl C0 D M) {p q : Int32} (hp : pl p q) (v : Int32) (hw : w01 D) : rl C0 (kd_wplace p (v &&& 255) (kd_note (v &&& 255) D)) (km_win q v M) := (h.note v).change hp (kb_and v) hw
theorem rl.carry (h : rl C0 D M) {p q : Int32} (hp : pl p q) (o v : Int32) (hw : w01 D) : rl C0 (kd_wplace p (v &&& 255) (kd_note (v &&& 255) (kd_flag 1 o D))) (km_flag 1 o (km_win q v M)) := by
  rw [win_c o (pl_q hp)]
  exact (h.flag 1 o (by decide)).win hp v hw
theorem t_shl : ∀ j, j < 256 → nI j <<< (1 &&& 31) = nI j * 2 := by decide +kernel
theorem t_shr : ∀ j, j < 256 → nI j >>> (1 &&& 31) = nI j / 2 := by decide +kernel
theorem t_hi : ∀ j, j < 256 → (if nI j &&& 128 = 0 then (0 : Int32) else 1) = (if nI j ≤ 127 then 0 else 1) := by decide +kernel
theorem t_lo : ∀ j, j < 256 → (if nI j &&& 1 = 0 then (0 : Int32) else 1) = (if nI j - nI j / 2 * 2 = 1 then 1 else 0) := by decide +kernel
end OPS
end
section
/-! work, jump, move, small, branch, side by side -/
theorem kdw_0 (p t : Int32) (D : lm_S) : kd_workt (nI 0) p t D = kd_load (nI 0) t D := by
  unfold kd_workt
  rw [if_neg (by decide)]
theorem kmw_0 (q t c : Int32) (M : lm_S) : km_wk (nI 0) q t c M = km_wld (nI 0) t M := by
  unfold km_wk
  rw [if_pos (by decide)]
theorem kdw_1 (p t : Int32) (D : lm_S) : kd_workt (nI 1) p t D = kd_load (nI 1) t D := by
  unfold kd_workt
  rw [if_neg (by decide)]
theorem kmw_1 (q t c : Int32) (M : lm_S) : km_wk (nI 1) q t c M = km_wld (nI 1) t M := by
  unfold km_wk
  rw [if_neg (by decide), if_pos (by decide)]
theorem kdw_2 (p t : Int32) (D : lm_S) : kd_workt (nI 2) p t D = kd_load (nI 2) t D := by
  unfold kd_workt
  rw [if_neg (by decide)]
theorem kmw_2 (q t c : Int32) (M : lm_S) : km_wk (nI 2) q t c M = km_wld (nI 2) t M := by
  unfold km_wk
  rw [if_neg (by decide), if_neg (by decide), if_pos (by decide)]
theorem kdw_3 (p t : Int32) (D : lm_S) : kd_workt (nI 3) p t D = kd_wplace p (D 6 0) D := by
  unfold kd_workt
  rw [if_pos (by decide), if_neg (by decide), show (nI 3 - 3).toNatClampNeg = 0 from by decide]
theorem kmw_3 (q t c : Int32) (M : lm_S) : km_wk (nI 3) q t c M = km_change q (M 18 (512 + 3 - 3)) M := by
  unfold km_wk
  rw [if_neg (by decide), if_neg (by decide), if_neg (by decide), if_pos (by decide)]
  unfold km_wst
  rw [show (512 + nI 3 - 3).toNatClampNeg = 512 + 3 - 3 from by decide]
theorem kdw_4 (p t : Int32) (D : lm_S) : kd_workt (nI 4) p t D = kd_wplace p (D 6 1) D := by
  unfold kd_workt
  rw [if_pos (by decide), if_neg (by decide), show (nI 4 - 3).toNatClampNeg = 1 from by decide]
theorem kmw_4 (q t c : Int32) (M : lm_S) : km_wk (nI 4) q t c M = km_change q (M 18 (512 + 4 - 3)) M := by
  unfold km_wk
  rw [if_neg (by decide), if_neg (by decide), if_neg (by decide), if_neg (by decide), if_pos (by decide)]
  unfold km_wst
  rw [show (512 + nI 4 - 3).toNatClampNeg = 512 + 4 - 3 from by decide]
theorem kdw_5 (p t : Int32) (D : lm_S) : kd_workt (nI 5) p t D = kd_wplace p (D 6 2) D := by
  unfold kd_workt
  rw [if_pos (by decide), if_neg (by decide), show (nI 5 - 3).toNatClampNeg = 2 from by decide]
theorem kmw_5 (q t c : Int32) (M : lm_S) : km_wk (nI 5) q t c M = km_change q (M 18 (512 + 5 - 3)) M := by
  unfold km_wk
  rw [if_neg (by decide), if_neg (by decide), if_neg (by decide), if_neg (by decide), if_neg (by decide), if_pos (by decide)]
  unfold km_wst
  rw [show (512 + nI 5 - 3).toNatClampNeg = 512 + 5 - 3 from by decide]
theorem kdw_6 (p t : Int32) (D : lm_S) : kd_workt (nI 6) p t D = kd_add t D := by
  unfold kd_workt
  rw [if_pos (by decide), if_pos (by decide), if_pos (by decide)]
theorem kmw_6 (q t c : Int32) (M : lm_S) : km_wk (nI 6) q t c M = km_add t M := by
  unfold km_wk
  rw [if_neg (by decide), if_neg (by decide), if_neg (by decide), if_neg (by decide), if_neg (by decide), if_neg (by decide), if_pos (by decide)]
theorem kdw_7 (p t : Int32) (D : lm_S) : kd_workt (nI 7) p t D = kd_add (255 - t) D := by
  unfold kd_workt
  rw [if_pos (by decide), if_pos (by decide), if_neg (by decide), if_pos (by decide)]
theorem kmw_7 (q t c : Int32) (M : lm_S) : km_wk (nI 7) q t c M = km_add (255 - t) M := by
  unfold km_wk
  rw [if_neg (by decide), if_neg (by decide), if_neg (by decide), if_neg (by decide), if_neg (by decide), if_neg (by decide), if_neg (by decide), if_pos (by decide)]
theorem kdw_8 (p t : Int32) (D : lm_S) : kd_workt (nI 8) p t D = kd_load 0 (kd_bits (nI 8) t D) D := by
  unfold kd_workt
  rw [if_pos (by decide), if_pos (by decide), if_neg (by decide), if_neg (by decide), if_neg (by decide)]
theorem kmw_8 (q t c : Int32) (M : lm_S) : km_wk (nI 8) q t c M = km_wbt (M 18 512 &&& t) M := by
  unfold km_wk
  rw [if_neg (by decide), if_neg (by decide), if_neg (by decide), if_neg (by decide), if_neg (by decide), if_neg (by decide), if_neg (by decide), if_neg (by decide), if_pos (by decide)]
theorem kdw_9 (p t : Int32) (D : lm_S) : kd_workt (nI 9) p t D = kd_load 0 (kd_bits (nI 9) t D) D := by
  unfold kd_workt
  rw [if_pos (by decide), if_pos (by decide), if_neg (by decide), if_neg (by decide), if_neg (by decide)]
theorem kmw_9 (q t c : Int32) (M : lm_S) : km_wk (nI 9) q t c M = km_wbt (M 18 512 ||| t) M := by
  unfold km_wk
  rw [if_neg (by decide), if_neg (by decide), if_neg (by decide), if_neg (by decide), if_neg (by decide), if_neg (by decide), if_neg (by decide), if_neg (by decide), if_neg (by decide), if_pos (by decide)]
theorem kdw_10 (p t : Int32) (D : lm_S) : kd_workt (nI 10) p t D = kd_load 0 (kd_bits (nI 10) t D) D := by
  unfold kd_workt
  rw [if_pos (by decide), if_pos (by decide), if_neg (by decide), if_neg (by decide), if_neg (by decide)]
theorem kmw_10 (q t c : Int32) (M : lm_S) : km_wk (nI 10) q t c M = km_wbt (M 18 512 ^^^ t) M := by
  unfold km_wk
  rw [if_neg (by decide), if_neg (by decide), if_neg (by decide), if_neg (by decide), if_neg (by decide), if_neg (by decide), if_neg (by decide), if_neg (by decide), if_neg (by decide), if_neg (by decide), if_pos (by decide)]
theorem kdw_11 (p t : Int32) (D : lm_S) : kd_workt (nI 11) p t D = kd_cmp (D 6 0) t D := by
  unfold kd_workt
  rw [if_pos (by decide), if_pos (by decide), if_neg (by decide), if_neg (by decide), if_pos (by decide), if_neg (by decide), show (nI 11 - 11).toNatClampNeg = 0 from by decide]
theorem kmw_11 (q t c : Int32) (M : lm_S) : km_wk (nI 11) q t c M = km_cmp (M 18 (512 + 11 - 11)) t M := by
  unfold km_wk
  rw [if_neg (by decide), if_neg (by decide), if_neg (by decide), if_neg (by decide), if_neg (by decide), if_neg (by decide), if_neg (by decide), if_neg (by decide), if_neg (by decide), if_neg (by decide), if_neg (by decide), if_pos (by decide)]
  unfold km_wcm
  rw [show (512 + nI 11 - 11).toNatClampNeg = 512 + 11 - 11 from by decide]
theorem kdw_12 (p t : Int32) (D : lm_S) : kd_workt (nI 12) p t D = kd_cmp (D 6 1) t D := by
  unfold kd_workt
  rw [if_pos (by decide), if_pos (by decide), if_neg (by decide), if_neg (by decide), if_pos (by decide), if_neg (by decide), show (nI 12 - 11).toNatClampNeg = 1 from by decide]
theorem kmw_12 (q t c : Int32) (M : lm_S) : km_wk (nI 12) q t c M = km_cmp (M 18 (512 + 12 - 11)) t M := by
  unfold km_wk
  rw [if_neg (by decide), if_neg (by decide), if_neg (by decide), if_neg (by decide), if_neg (by decide), if_neg (by decide), if_neg (by decide), if_neg (by decide), if_neg (by decide), if_neg (by decide), if_neg (by decide), if_neg (by decide), if_pos (by decide)]
  unfold km_wcm
  rw [show (512 + nI 12 - 11).toNatClampNeg = 512 + 12 - 11 from by decide]
theorem kdw_13 (p t : Int32) (D : lm_S) : kd_workt (nI 13) p t D = kd_cmp (D 6 2) t D := by
  unfold kd_workt
  rw [if_pos (by decide), if_pos (by decide), if_neg (by decide), if_neg (by decide), if_pos (by decide), if_neg (by decide), show (nI 13 - 11).toNatClampNeg = 2 from by decide]
theorem kmw_13 (q t c : Int32) (M : lm_S) : km_wk (nI 13) q t c M = km_cmp (M 18 (512 + 13 - 11)) t M := by
  unfold km_wk
  rw [if_neg (by decide), if_neg (by decide), if_neg (by decide), if_neg (by decide), if_neg (by decide), if_neg (by decide), if_neg (by decide), if_neg (by decide), if_neg (by decide), if_neg (by decide), if_neg (by decide), if_neg (by decide), if_neg (by decide), if_pos (by decide)]
  unfold km_wcm
  rw [show (512 + nI 13 - 11).toNatClampNeg = 512 + 13 - 11 from by decide]
theorem kdw_14 (p t : Int32) (D : lm_S) : kd_workt (nI 14) p t D = kd_test t D := by
  unfold kd_workt
  rw [if_pos (by decide), if_pos (by decide), if_neg (by decide), if_neg (by decide), if_pos (by decide), if_pos (by decide), if_pos (by decide)]
theorem kmw_14 (q t c : Int32) (M : lm_S) : km_wk (nI 14) q t c M = km_wte t M := by
  unfold km_wk
  rw [if_neg (by decide), if_neg (by decide), if_neg (by decide), if_neg (by decide), if_neg (by decide), if_neg (by decide), if_neg (by decide), if_neg (by decide), if_neg (by decide), if_neg (by decide), if_neg (by decide), if_neg (by decide), if_neg (by decide), if_neg (by decide), if_pos (by decide)]
theorem kdw_15 (p t : Int32) (D : lm_S) : kd_workt (nI 15) p t D = kd_alter (nI 15) p t D := by
  unfold kd_workt
  rw [if_pos (by decide), if_pos (by decide), if_neg (by decide), if_neg (by decide), if_pos (by decide), if_pos (by decide), if_neg (by decide)]
theorem kmw_15 (q t c : Int32) (M : lm_S) : km_wk (nI 15) q t c M = km_win q (t + 1) M := by
  unfold km_wk
  rw [if_neg (by decide), if_neg (by decide), if_neg (by decide), if_neg (by decide), if_neg (by decide), if_neg (by decide), if_neg (by decide), if_neg (by decide), if_neg (by decide), if_neg (by decide), if_neg (by decide), if_neg (by decide), if_neg (by decide), if_neg (by decide), if_neg (by decide), if_pos (by decide)]
theorem kdw_16 (p t : Int32) (D : lm_S) : kd_workt (nI 16) p t D = kd_alter (nI 16) p t D := by
  unfold kd_workt
  rw [if_pos (by decide), if_pos (by decide), if_neg (by decide), if_neg (by decide), if_pos (by decide), if_pos (by decide), if_neg (by decide)]
theorem kmw_16 (q t c : Int32) (M : lm_S) : km_wk (nI 16) q t c M = km_win q (t - 1) M := by
  unfold km_wk
  rw [if_neg (by decide), if_neg (by decide), if_neg (by decide), if_neg (by decide), if_neg (by decide), if_neg (by decide), if_neg (by decide), if_neg (by decide), if_neg (by decide), if_neg (by decide), if_neg (by decide), if_neg (by decide), if_neg (by decide), if_neg (by decide), if_neg (by decide), if_neg (by decide), if_pos (by decide)]
theorem kdw_17 (p t : Int32) (D : lm_S) : kd_workt (nI 17) p t D = kd_alter (nI 17) p t D := by
  unfold kd_workt
  rw [if_pos (by decide), if_pos (by decide), if_neg (by decide), if_neg (by decide), if_pos (by decide), if_pos (by decide), if_neg (by decide)]
theorem kmw_17 (q t c : Int32) (M : lm_S) : km_wk (nI 17) q t c M = km_wsl (nI 17) q t c M := by
  unfold km_wk
  rw [if_neg (by decide), if_neg (by decide), if_neg (by decide), if_neg (by decide), if_neg (by decide), if_neg (by decide), if_neg (by decide), if_neg (by decide), if_neg (by decide), if_neg (by decide), if_neg (by decide), if_neg (by decide), if_neg (by decide), if_neg (by decide), if_neg (by decide), if_neg (by decide), if_neg (by decide), if_pos (by decide)]
theorem kdw_18 (p t : Int32) (D : lm_S) : kd_workt (nI 18) p t D = kd_alter (nI 18) p t D := by
  unfold kd_workt
  rw [if_pos (by decide), if_pos (by decide), if_neg (by decide), if_neg (by decide), if_pos (by decide), if_pos (by decide), if_neg (by decide)]
theorem kmw_18 (q t c : Int32) (M : lm_S) : km_wk (nI 18) q t c M = km_wsr (nI 18) q t c M := by
  unfold km_wk
  rw [if_neg (by decide), if_neg (by decide), if_neg (by decide), if_neg (by decide), if_neg (by decide), if_neg (by decide), if_neg (by decide), if_neg (by decide), if_neg (by decide), if_neg (by decide), if_neg (by decide), if_neg (by decide), if_neg (by decide), if_neg (by decide), if_neg (by decide), if_neg (by decide), if_neg (by decide), if_neg (by decide), if_pos (by decide)]
theorem kdw_19 (p t : Int32) (D : lm_S) : kd_workt (nI 19) p t D = kd_alter (nI 19) p t D := by
  unfold kd_workt
  rw [if_pos (by decide), if_pos (by decide), if_neg (by decide), if_neg (by decide), if_pos (by decide), if_pos (by decide), if_neg (by decide)]
theorem kmw_19 (q t c : Int32) (M : lm_S) : km_wk (nI 19) q t c M = km_wsl (nI 19) q t c M := by
  unfold km_wk
  rw [if_neg (by decide), if_neg (by decide), if_neg (by decide), if_neg (by decide), if_neg (by decide), if_neg (by decide), if_neg (by decide), if_neg (by decide), if_neg (by decide), if_neg (by decide), if_neg (by decide), if_neg (by decide), if_neg (by decide), if_neg (by decide), if_neg (by decide), if_neg (by decide), if_neg (by decide), if_neg (by decide), if_neg (by decide), if_pos (by decide)]
theorem kdw_20 (p t : Int32) (D : lm_S) : kd_workt (nI 20) p t D = kd_alter (nI 20) p t D := by
  unfold kd_workt
  rw [if_pos (by decide), if_pos (by decide), if_neg (by decide), if_neg (by decide), if_pos (by decide), if_pos (by decide), if_neg (by decide)]
theorem kmw_20 (q t c : Int32) (M : lm_S) : km_wk (nI 20) q t c M = km_wsr (nI 20) q t c M := by
  unfold km_wk
  rw [if_neg (by decide), if_neg (by decide), if_neg (by decide), if_neg (by decide), if_neg (by decide), if_neg (by decide), if_neg (by decide), if_neg (by decide), if_neg (by decide), if_neg (by decide), if_neg (by decide), if_neg (by decide), if_neg (by decide), if_neg (by decide), if_neg (by decide), if_neg (by decide), if_neg (by decide), if_neg (by decide), if_neg (by decide), if_neg (by decide)]
section WRK
variable {C0 : Nat → Int32} {D M : lm_S}
theorem rl.wk (h : rl C0 D M) {p q : Int32} (hp : pl p q) (hw : w01 D) (t : Int32) (ht : kb t) (o : Nat) (ho : o ≤ 20) : rl C0 (kd_workt (nI o) p t D) (km_wk (nI o) q t (M 18 516 &&& 1) M) := by
  have hbk : ∀ k, k < 5 → kb (M 18 (512 + k)) := h.2.2.1.2.1
  obtain ⟨j, hj, ej⟩ := ht
  rcases (show o = 0 ∨ o = 1 ∨ o = 2 ∨ o = 3 ∨ o = 4 ∨ o = 5 ∨ o = 6 ∨ o = 7 ∨ o = 8 ∨ o = 9 ∨ o = 10 ∨ o = 11 ∨ o = 12 ∨ o = 13 ∨ o = 14 ∨ o = 15 ∨ o = 16 ∨ o = 17 ∨ o = 18 ∨ o = 19 ∨ o = 20 by omega) with rfl | rfl | rfl | rfl | rfl | rfl | rfl | rfl | rfl | rfl | rfl | rfl | rfl | rfl | rfl | rfl | rfl | rfl | rfl | rfl | rfl
  · rw [kdw_0, kmw_0]
    show rl C0 (kd_load (nI 0) t D) (lm_set (km_mark t M) 18 (512 + 0) (t &&& 255))
    exact h.load 0 (by omega) t
  · rw [kdw_1, kmw_1]
    show rl C0 (kd_load (nI 1) t D) (lm_set (km_mark t M) 18 (512 + 1) (t &&& 255))
    exact h.load 1 (by omega) t
  · rw [kdw_2, kmw_2]
    show rl C0 (kd_load (nI 2) t D) (lm_set (km_mark t M) 18 (512 + 2) (t &&& 255))
    exact h.load 2 (by omega) t
  · rw [kdw_3, kmw_3]
    rw [h.2.1 0 (by omega)]
    exact h.change hp (hbk 0 (by omega)) hw
  · rw [kdw_4, kmw_4]
    rw [h.2.1 1 (by omega)]
    exact h.change hp (hbk 1 (by omega)) hw
  · rw [kdw_5, kmw_5]
    rw [h.2.1 2 (by omega)]
    exact h.change hp (hbk 2 (by omega)) hw
  · rw [kdw_6, kmw_6]; exact h.add t
  · rw [kdw_7, kmw_7]; exact h.add (255 - t)
  · rw [kdw_8, kmw_8]
    show rl C0 (kd_load 0 (D 6 0 &&& t) D) (km_wbt (M 18 512 &&& t) M)
    rw [h.A]
    exact h.bits _
  · rw [kdw_9, kmw_9]
    show rl C0 (kd_load 0 (D 6 0 ||| t) D) (km_wbt (M 18 512 ||| t) M)
    rw [h.A]
    exact h.bits _
  · rw [kdw_10, kmw_10]
    show rl C0 (kd_load 0 (D 6 0 ^^^ t) D) (km_wbt (M 18 512 ^^^ t) M)
    rw [h.A]
    exact h.bits _
  · rw [kdw_11, kmw_11]
    rw [h.2.1 0 (by omega)]
    exact h.cmp _ t
  · rw [kdw_12, kmw_12]
    rw [h.2.1 1 (by omega)]
    exact h.cmp _ t
  · rw [kdw_13, kmw_13]
    rw [h.2.1 2 (by omega)]
    exact h.cmp _ t
  · rw [kdw_14, kmw_14]; exact h.test t
  · rw [kdw_15, kmw_15]; exact h.win hp (t + 1) hw
  · rw [kdw_16, kmw_16]; exact h.win hp (t - 1) hw
  · rw [kdw_17, kmw_17]
    show rl C0 (kd_wplace p ((t <<< (1 &&& 31)) &&& 255) (kd_note ((t <<< (1 &&& 31)) &&& 255) (kd_flag 1 (if t &&& 128 = 0 then 0 else 1) D))) (km_flag 1 (if t ≤ 127 then 0 else 1) (km_win q (t * 2 + 0) M))
    rw [ej, t_shl j hj, t_hi j hj, Int32.add_zero]
    exact h.carry hp _ _ hw
  · rw [kdw_18, kmw_18]
    show rl C0 (kd_wplace p ((t >>> (1 &&& 31)) &&& 255) (kd_note ((t >>> (1 &&& 31)) &&& 255) (kd_flag 1 (if t &&& 1 = 0 then 0 else 1) D))) (km_flag 1 (if t - t / 2 * 2 = 1 then 1 else 0) (km_win q (t / 2 + 0) M))
    rw [ej, t_shr j hj, t_lo j hj, Int32.add_zero]
    exact h.carry hp _ _ hw
  · rw [kdw_19, kmw_19]
    show rl C0 (kd_wplace p ((t <<< (1 &&& 31) + (D 6 4 &&& 1)) &&& 255) (kd_note ((t <<< (1 &&& 31) + (D 6 4 &&& 1)) &&& 255) (kd_flag 1 (if t &&& 128 = 0 then 0 else 1) D))) (km_flag 1 (if t ≤ 127 then 0 else 1) (km_win q (t * 2 + (M 18 516 &&& 1)) M))
    rw [ej, t_shl j hj, t_hi j hj, h.P]
    exact h.carry hp _ _ hw
  · rw [kdw_20, kmw_20]
    show rl C0 (kd_wplace p ((t >>> (1 &&& 31) + 128 * (D 6 4 &&& 1)) &&& 255) (kd_note ((t >>> (1 &&& 31) + 128 * (D 6 4 &&& 1)) &&& 255) (kd_flag 1 (if t &&& 1 = 0 then 0 else 1) D))) (km_flag 1 (if t - t / 2 * 2 = 1 then 1 else 0) (km_win q (t / 2 + 128 * (M 18 516 &&& 1)) M))
    rw [ej, t_shr j hj, t_lo j hj, h.P]
    exact h.carry hp _ _ hw
theorem rl.work (h : rl C0 D M) {p q : Int32} (hp : pl p q) (hw : w01 D) (o : Nat) (ho : o ≤ 20) : rl C0 (kd_work (nI o) p D) (km_work (nI o) q M) := by
  obtain ⟨e, hb⟩ := h.tv hp
  unfold kd_work km_work
  split
  · rename_i h1
    rw [if_pos h1] at e
    rw [e]
    exact h.wk hp hw _ hb o ho
  · rename_i h1
    rw [if_neg h1] at e
    rw [e]
    exact h.wk hp hw _ hb o ho
theorem v_255 {j : Nat} (hj : j < 512) : kb (nI j / 256) := by
  rw [show (256 : Int32) = nI 256 from rfl, pk_div (by omega) (by omega) (by omega)]
  exact ⟨j / 256, by omega, rfl⟩
theorem rl.jmp (h : rl C0 D M) (hw : D 1 8 = 0) (k : Nat) (hk : k < 512) (op : Int32) : rl C0 (if op = 22 then lm_set (kd_push ((kd_push (D 6 5 / 256) D) 6 5 &&& 255) (kd_push (D 6 5 / 256) D)) 6 5 (nI k) else lm_set D 6 5 (nI k)) (km_jmp op (nI k) M) := by
  obtain ⟨c, hc, ec⟩ := vp_in_of h.2.2.1.2.2 (by decide)
  unfold km_jmp
  split
  · have h2 : rl C0 (kd_push (D 6 5 / 256) D) (km_push (M 18 517 / 256) M) := by
      rw [h.C]
      exact h.push (by rw [ec]; exact v_255 hc) (Or.inl hw)
    have h3 : rl C0 (kd_push ((kd_push (D 6 5 / 256) D) 6 5 &&& 255) (kd_push (D 6 5 / 256) D)) (km_push ((km_push (M 18 517 / 256) M) 18 517 &&& 255) (km_push (M 18 517 / 256) M)) := by
      rw [h2.C]
      exact h2.push (kb_and _) (push_w _ D hw)
    exact h3.reg 5 (by omega) _ (fun q => by omega) (fun _ => vp_in_nI hk (by decide))
  · exact h.reg 5 (by omega) _ (fun q => by omega) (fun _ => vp_in_nI hk (by decide))
theorem rl.move (h : rl C0 D M) (j : Nat) (hj : j < 8) : rl C0 (kd_move (nI j) D) (km_move (nI j) M) := by
  rcases (show j = 0 ∨ j = 1 ∨ j = 2 ∨ j = 3 ∨ j = 4 ∨ j = 5 ∨ j = 6 ∨ j = 7 by omega) with rfl | rfl | rfl | rfl | rfl | rfl | rfl | rfl
  · show rl C0 (kd_load 1 (D 6 0) D) (km_tr 513 (M 18 512) M)
    rw [h.A]; exact h.load 1 (by omega) _
  · show rl C0 (kd_load 0 (D 6 1) D) (km_tr 512 (M 18 513) M)
    rw [h.X]; exact h.load 0 (by omega) _
  · show rl C0 (kd_load 2 (D 6 0) D) (km_tr 514 (M 18 512) M)
    rw [h.A]; exact h.load 2 (by omega) _
  · show rl C0 (kd_load 0 (D 6 2) D) (km_tr 512 (M 18 514) M)
    rw [h.Y]; exact h.load 0 (by omega) _
  · show rl C0 (kd_load 1 (D 6 3) D) (km_tr 513 (M 18 515) M)
    rw [h.S]; exact h.load 1 (by omega) _
  · show rl C0 (lm_set D 6 3 (D 6 1)) (lm_set M 18 515 (M 18 513))
    rw [h.X]; exact h.reg 3 (by omega) _ (fun _ => h.2.2.1.2.1 1 (by omega)) (fun q => by omega)
  · show rl C0 (kd_load 1 (D 6 1 + 1) D) (km_tr 513 (M 18 513 + 1) M)
    rw [h.X]; exact h.load 1 (by omega) _
  · show rl C0 (kd_load 1 (D 6 1 - 1) D) (km_tr 513 (M 18 513 - 1) M)
    rw [h.X]; exact h.load 1 (by omega) _
theorem rl.small (h : rl C0 D M) (j : Nat) (hj : j < 8) : rl C0 (kd_small (nI j) D) (km_small (nI j) M) := by
  rcases (show j = 0 ∨ j = 1 ∨ j = 2 ∨ j = 3 ∨ j = 4 ∨ j = 5 ∨ j = 6 ∨ j = 7 by omega) with rfl | rfl | rfl | rfl | rfl | rfl | rfl | rfl
  · show rl C0 (kd_load 2 (D 6 2 + 1) D) (km_tr 514 (M 18 514 + 1) M)
    rw [h.Y]; exact h.load 2 (by omega) _
  · show rl C0 (kd_load 2 (D 6 2 - 1) D) (km_tr 514 (M 18 514 - 1) M)
    rw [h.Y]; exact h.load 2 (by omega) _
  · exact h.flag 1 0 (by decide)
  · exact h.flag 1 1 (by decide)
  · exact h.flag 64 0 (by decide)
  · exact h
  · exact h
  · exact h
theorem hop_v (o : Int32) (ho : kb o) : (if 128 ≤ o then o - 256 else o) = (if o ≤ 127 then o else o - 256) := by
  obtain ⟨j, hj, rfl⟩ := ho
  have e1 : (128 ≤ nI j) ↔ 128 ≤ j := nI_leI (a := 128) (by omega) (by omega)
  have e2 : (nI j ≤ 127) ↔ j ≤ 127 := nI_leI (b := 127) (by omega) (by omega)
  by_cases h : 128 ≤ j
  · rw [if_pos (e1.mpr h), if_neg (fun q => absurd (e2.mp q) (by omega))]
  · rw [if_neg (fun q => h (e1.mp q)), if_pos (e2.mpr (by omega))]
theorem rl.hop (h : rl C0 D M) (o : Int32) (ho : kb o) : rl C0 (kd_hop o D) (km_hop o M) := by
  unfold kd_hop km_hop
  rw [h.C, hop_v o ho]
  exact h.reg 5 (by omega) _ (fun q => by omega) (fun _ => lm_v511 _)
theorem rl.it {c : Prop} [Decidable c] {D1 M1 : lm_S} (h : rl C0 D M) (g : rl C0 D1 M1) : rl C0 (if c then D else D1) (if c then M else M1) := by
  split
  · exact h
  · exact g
theorem rl.branch (h : rl C0 D M) (j : Nat) (hj : j < 8) (o : Int32) (ho : kb o) : rl C0 (kd_branch (nI j) o D) (km_branch (nI j) o M) := by
  have g := h.hop o ho
  rcases (show j = 0 ∨ j = 1 ∨ j = 2 ∨ j = 3 ∨ j = 4 ∨ j = 5 ∨ j = 6 ∨ j = 7 by omega) with rfl | rfl | rfl | rfl | rfl | rfl | rfl | rfl
  · show rl C0 (if D 6 4 &&& 128 = 0 then kd_hop o D else D) (if M 18 516 &&& 128 = 0 then km_hop o M else M)
    rw [h.P]; exact rl.it g h
  · show rl C0 (if D 6 4 &&& 128 = 0 then D else kd_hop o D) (if M 18 516 &&& 128 = 0 then M else km_hop o M)
    rw [h.P]; exact rl.it h g
  · show rl C0 (if D 6 4 &&& 64 = 0 then kd_hop o D else D) (if M 18 516 &&& 64 = 0 then km_hop o M else M)
    rw [h.P]; exact rl.it g h
  · show rl C0 (if D 6 4 &&& 64 = 0 then D else kd_hop o D) (if M 18 516 &&& 64 = 0 then M else km_hop o M)
    rw [h.P]; exact rl.it h g
  · show rl C0 (if D 6 4 &&& 1 = 0 then kd_hop o D else D) (if M 18 516 &&& 1 = 0 then km_hop o M else M)
    rw [h.P]; exact rl.it g h
  · show rl C0 (if D 6 4 &&& 1 = 0 then D else kd_hop o D) (if M 18 516 &&& 1 = 0 then M else km_hop o M)
    rw [h.P]; exact rl.it h g
  · show rl C0 (if D 6 4 &&& 2 = 0 then kd_hop o D else D) (if M 18 516 &&& 2 = 0 then km_hop o M else M)
    rw [h.P]; exact rl.it g h
  · show rl C0 (if D 6 4 &&& 2 = 0 then D else kd_hop o D) (if M 18 516 &&& 2 = 0 then M else km_hop o M)
    rw [h.P]; exact rl.it h g
theorem len_eq (j : Nat) (hj : j < 8) (op : Int32) : kd_len op (nI j) = km_len op (nI j) := by
  unfold kd_len km_len
  split
  · rfl
  · rcases (show j = 0 ∨ j = 1 ∨ j = 2 ∨ j = 3 ∨ j = 4 ∨ j = 5 ∨ j = 6 ∨ j = 7 by omega) with rfl | rfl | rfl | rfl | rfl | rfl | rfl | rfl <;> rfl
end WRK
end
section
/-! inputs, outputs, a whole step, side by side -/
theorem ls_id (S : lm_S) (i k : Nat) (x : Int32) (h : S i k = x) : lm_set S i k x = S := by
  funext a b
  simp only [lm_set, va_up]
  by_cases ha : a = i
  · subst ha
    simp only [if_true, upd]
    by_cases hb : b = k
    · subst hb; simp [h]
    · simp [hb]
  · simp [ha]
theorem shi_18 : ∀ (m k : Nat) (M : lm_S) (a : Nat), k + m ≤ 40 → (km_shi m k M) 18 a = if 520 + k ≤ a ∧ a < 520 + k + m then M 18 (a + 1) else M 18 a
  | 0, k, M, a, _ => by
    rw [if_neg (by omega)]
    rfl
  | m + 1, k, M, a, hk => by
    have e1 : (520 : Int32) + nI k = nI (520 + k) := by rw [show (520 : Int32) = nI 520 from rfl, nI_add]
    rw [km_shi, shi_18 m (k + 1) _ a (by omega), e1, nI_1, nI_clamp (by omega), nI_clamp (by omega)]
    by_cases h1 : a = 520 + k
    · subst h1
      rw [if_neg (by omega), if_pos (by omega), ls_i]
    · by_cases h2 : 520 + (k + 1) ≤ a ∧ a < 520 + (k + 1) + m
      · rw [if_pos h2, if_pos (by omega), ls_n _ _ (by omega)]
      · rw [if_neg h2, if_neg (by omega), ls_n _ _ h1]
theorem shi_16 : ∀ (m k : Nat) (M : lm_S) (i : Nat), i ≠ 18 → (km_shi m k M) i = M i
  | 0, _, _, _, _ => rfl
  | m + 1, k, M, i, hi => by
    rw [km_shi, shi_16 m (k + 1) _ i hi]
    exact ls_o _ hi _ _
section IOS
variable {C0 : Nat → Int32} {D M : lm_S}
/-- A and C by an input, without its being taken -/
theorem rl.in1 (h : rl C0 D M) (o v : Int32) : rl C0 (kd_flag 1 o (kd_load 0 v D)) (km_i2 v (km_flag 1 o M)) := by
  have e : km_i2 v (km_flag 1 o M) = km_flag 1 o (lm_set (km_mark v M) 18 (512 + 0) (v &&& 255)) := by
    have g := win_c o (Or.inl rfl) v M
    unfold km_win km_change at g
    rw [if_pos rfl, if_pos rfl, kb_id (kb_and v)] at g
    exact g.symm
  rw [e]
  exact (h.load 0 (by omega) v).flag 1 o (by decide)
theorem rl.inp (h : rl C0 D M) (w : Nat) (hw : M 18 519 = nI w) (hw40 : w ≤ 40) : rl C0 (kd_in D) (km_in w M) := by
  have h0 := h
  obtain ⟨h1, h2, h3, ⟨tk, fd, hd, dr, i1, i2, i3, i4, i5, i6, i7, i8, i9, i10, i11, i12⟩, h4⟩ := h
  have ew : w = fd - tk := by
    rw [hw] at i5
    exact (nI_eq (by omega) (by omega)).mp i5
  have e1 : D 1 3 - D 6 7 = nI w := by rw [i2, i1, pk_sub i3, ew]
  unfold kd_in km_in km_i1
  rw [e1, hw]
  by_cases hz : w = 0
  · subst hz
    rw [if_pos (by decide), if_pos (by decide), if_pos (by decide)]
    have e2 : lm_set (kd_flag 1 1 (kd_load 0 0 D)) 6 7 (D 6 7) = kd_flag 1 1 (kd_load 0 0 D) := ls_id _ _ _ _ rfl
    rw [e2]
    exact h0.in1 1 0
  · have q1 : ¬ nI w ≤ 0 := nI_nle (by omega) (by omega)
    have q2 : ¬ nI w = 0 := nI_ne0 (by omega) (by omega)
    rw [if_neg q1, if_neg q2, if_neg q2]
    have ev : D 7 (D 6 7).toNatClampNeg = M 18 520 := by
      rw [i1, nI_clamp (by omega)]
      exact i6 0 (by omega)
    rw [ev]
    have g := h0.in1 0 (M 18 520)
    obtain ⟨g1, g2, ⟨v1, v2, v3⟩, -, g4⟩ := g
    generalize hE : kd_flag 1 0 (kd_load 0 (M 18 520) D) = E at g1 g2 g4 ⊢
    generalize hN : km_i2 (M 18 520) (km_flag 1 0 M) = N at g1 g2 v1 v2 v3 g4 ⊢
    have n5 : ∀ a, 519 ≤ a → N 18 a = M 18 a := by
      intro a ha
      rw [← hN]
      show (lm_set (km_mark (M 18 520) (km_flag 1 0 M)) 18 512 _) 18 a = _
      rw [ls_n _ _ (by omega), mk_nz, ls_n _ _ (by omega)]
      show (lm_set M 18 516 _) 18 a = _
      rw [ls_n _ _ (by omega)]
    have dE : ∀ k, 6 < k → E 6 k = D 6 k := by
      intro k hk
      rw [← hE]
      show (lm_set (kd_load (nI 0) _ D) 6 4 _) 6 k = _
      rw [ls_n _ _ (by omega), ld_nz 0 (by omega), ls_n _ _ (by omega), ls_n _ _ (by omega)]
    have dO : ∀ i, i ≠ 6 → E i = D i := by
      intro i hi
      rw [← hE]
      show (lm_set (kd_load (nI 0) _ D) 6 4 _) i = _
      rw [ls_o _ hi, ld_nz 0 (by omega), ls_o _ hi, ls_o _ hi]
    have m18 : ∀ a, (km_i3 w N) 18 a = if a = 519 then nI (w - 1) else if 520 ≤ a ∧ a < 520 + (w - 1) then M 18 (a + 1) else N 18 a := by
      intro a
      unfold km_i3
      rw [if_neg hz, shi_18 _ _ _ _ (by omega)]
      by_cases ha : a = 519
      · subst ha
        rw [if_neg (by omega), ls_i, if_pos rfl, n5 519 (by omega), hw, show (1 : Int32) = nI 1 from rfl, pk_sub (by omega)]
      · rw [if_neg ha]
        by_cases hb : 520 + 0 ≤ a ∧ a < 520 + 0 + (w - 1)
        · rw [if_pos hb, if_pos (by omega), ls_n _ _ (by omega), n5 _ (by omega)]
        · rw [if_neg hb, if_neg (by omega), ls_n _ _ ha]
    have m16 : (km_i3 w N) 16 = N 16 := by
      unfold km_i3
      rw [if_neg hz, shi_16 _ _ _ _ (by omega), ls_o _ (by omega)]
    have mlo : ∀ a, a < 519 → (km_i3 w N) 18 a = N 18 a := by
      intro a ha
      rw [m18, if_neg (by omega), if_neg (by omega)]
    refine ⟨fun a ha => ?_, fun k hk => ?_, ⟨fun a ha => ?_, fun k hk => ?_, ?_⟩, ⟨tk + 1, fd, hd, dr, ?_, ?_, by omega, i4, ?_, fun k hk => ?_, ?_, ?_, ?_, fun k hk hk2 => ?_, i11, i12⟩, ?_⟩
    · rw [ls_o _ (by omega), mlo a (by omega)]; exact g1 a ha
    · rw [ls_n _ _ (by omega), mlo _ (by omega)]; exact g2 k hk
    · rw [mlo a (by omega)]; exact v1 a ha
    · rw [mlo _ (by omega)]; exact v2 k hk
    · rw [mlo _ (by omega)]; exact v3
    · rw [ls_i, i1, nI_1]
    · rw [ls_o _ (by omega), dO 1 (by omega)]; exact i2
    · rw [m18, if_pos rfl, ew, show fd - tk - 1 = fd - (tk + 1) by omega]
    · rw [ls_o _ (by omega), dO 7 (by omega), m18, if_neg (by omega), if_pos (by omega), show tk + 1 + k = tk + (k + 1) by omega]
      exact i6 (k + 1) (by omega)
    · rw [ls_n _ _ (by omega), dE 8 (by omega)]; exact i7
    · rw [ls_o _ (by omega), dO 1 (by omega)]; exact i8
    · rw [m18, if_neg (by omega), if_neg (by omega), n5 _ (by omega)]; exact i9
    · rw [ls_o _ (by omega), dO 8 (by omega), m18, if_neg (by omega), if_neg (by omega), n5 _ (by omega)]; exact i10 k hk hk2
    · unfold rl_w at g4 ⊢
      rw [m16, ls_o _ (by omega), ls_o _ (by omega), ls_o _ (by omega), ls_o _ (by omega)]
      exact g4
theorem o1_e (k : Int32) (a b : Nat) (ha : (561 + k).toNatClampNeg = a) (hb : (561 + k - 1).toNatClampNeg = b) (S : lm_S) : km_o1 k S = lm_set S 18 a (S 18 b) := by
  unfold km_o1
  rw [ha, hb]
theorem o7_18 (M : lm_S) (a : Nat) : (km_o7 M) 18 a = if 562 ≤ a ∧ a ≤ 568 then M 18 (a - 1) else M 18 a := by
  unfold km_o7
  rw [o1_e 7 568 567 (by decide) (by decide), o1_e (7 + -1) 567 566 (by decide) (by decide), o1_e (7 + -1 + -1) 566 565 (by decide) (by decide), o1_e (7 + -1 + -1 + -1) 565 564 (by decide) (by decide), o1_e (7 + -1 + -1 + -1 + -1) 564 563 (by decide) (by decide), o1_e (7 + -1 + -1 + -1 + -1 + -1) 563 562 (by decide) (by decide), o1_e (7 + -1 + -1 + -1 + -1 + -1 + -1) 562 561 (by decide) (by decide)]
  simp only [lm_set, va_up, upd, if_true]
  by_cases h : 562 ≤ a ∧ a ≤ 568
  · rw [if_pos h]
    rcases (show a = 562 ∨ a = 563 ∨ a = 564 ∨ a = 565 ∨ a = 566 ∨ a = 567 ∨ a = 568 by omega) with rfl | rfl | rfl | rfl | rfl | rfl | rfl <;> simp
  · rw [if_neg h, if_neg (by omega), if_neg (by omega), if_neg (by omega), if_neg (by omega), if_neg (by omega), if_neg (by omega), if_neg (by omega)]
theorem o7_o (M : lm_S) (i : Nat) (hi : i ≠ 18) : (km_o7 M) i = M i := by
  unfold km_o7 km_o1
  rw [ls_o _ hi, ls_o _ hi, ls_o _ hi, ls_o _ hi, ls_o _ hi, ls_o _ hi, ls_o _ hi]
theorem rl.out (h : rl C0 D M) (hd : Nat) (hD : D 6 8 = nI hd) (hlt : hd < 308) : rl C0 (kd_out D) (km_out M) := by
  have hA := h.A
  obtain ⟨h1, h2, ⟨v1, v2, v3⟩, ⟨tk, fd, hd2, dr, i1, i2, i3, i4, i5, i6, i7, i8, i9, i10, i11, i12⟩, h4⟩ := h
  have e0 : hd2 = hd := by
    rw [hD] at i7
    exact ((nI_eq (by omega) (by omega)).mp i7).symm
  subst e0
  have m18 : ∀ a, (km_out M) 18 a = if a = 560 then M 18 560 + 1 else if a = 561 then M 18 512 else if 562 ≤ a ∧ a ≤ 568 then M 18 (a - 1) else M 18 a := by
    intro a
    show (lm_set (lm_set (km_o7 M) 18 561 ((km_o7 M) 18 512)) 18 560 ((lm_set (km_o7 M) 18 561 ((km_o7 M) 18 512)) 18 560 + 1)) 18 a = _
    by_cases ha : a = 560
    · subst ha
      rw [ls_i, if_pos rfl, ls_n _ _ (by omega), o7_18, if_neg (by omega)]
    · rw [ls_n _ _ ha, if_neg ha]
      by_cases hb : a = 561
      · subst hb
        rw [ls_i, if_pos rfl, o7_18, if_neg (by omega)]
      · rw [ls_n _ _ hb, if_neg hb, o7_18]
  have m16 : (km_out M) 16 = M 16 := by
    unfold km_out km_oe
    rw [ls_o _ (by omega), ls_o _ (by omega), o7_o _ _ (by omega)]
  have mlo : ∀ a, a < 560 → (km_out M) 18 a = M 18 a := by
    intro a ha
    rw [m18, if_neg (by omega), if_neg (by omega), if_neg (by omega)]
  have hge : ¬ (308 : Int32) ≤ nI hd2 := nI_ge (b := 308) hlt (by omega)
  have eD : kd_out D = lm_set (lm_set D 8 hd2 (D 6 0)) 6 8 (nI hd2 + 1) := by
    unfold kd_out
    rw [hD, if_neg hge, nI_clamp (by omega)]
  rw [eD]
  refine ⟨fun a ha => ?_, fun k hk => ?_, ⟨fun a ha => ?_, fun k hk => ?_, ?_⟩, ⟨tk, fd, hd2 + 1, dr, ?_, ?_, i3, i4, ?_, fun k hk => ?_, ?_, ?_, ?_, fun k hk hk2 => ?_, fun q => i11 (by omega), by omega⟩, ?_⟩
  · rw [ls_o _ (by omega), ls_o _ (by omega), mlo a (by omega)]; exact h1 a ha
  · rw [ls_n _ _ (by omega), ls_o _ (by omega), mlo _ (by omega)]; exact h2 k hk
  · rw [mlo a (by omega)]; exact v1 a ha
  · rw [mlo _ (by omega)]; exact v2 k hk
  · rw [mlo _ (by omega)]; exact v3
  · rw [ls_n _ _ (by omega), ls_o _ (by omega)]; exact i1
  · rw [ls_o _ (by omega), ls_o _ (by omega)]; exact i2
  · rw [mlo _ (by omega)]; exact i5
  · rw [ls_o _ (by omega), ls_o _ (by omega), mlo _ (by omega)]; exact i6 k hk
  · rw [ls_i, nI_1]
  · rw [ls_o _ (by omega), ls_o _ (by omega)]; exact i8
  · rw [m18, if_pos rfl, i9, nI_1]; rfl
  · rw [ls_o _ (by omega), m18, if_neg (by omega)]
    by_cases h0 : k = 0
    · subst h0
      rw [if_pos (by omega), show hd2 + 1 - 1 - 0 = hd2 by omega, ls_i, hA]
    · rw [if_neg (by omega), if_pos (by omega), ls_n _ _ (by omega), show hd2 + 1 - 1 - k = hd2 - 1 - (k - 1) by omega, show 561 + k - 1 = 561 + (k - 1) by omega]
      exact i10 (k - 1) (by omega) (by omega)
  · unfold rl_w at h4 ⊢
    rw [m16, ls_o _ (by omega), ls_o _ (by omega), ls_o _ (by omega), ls_o _ (by omega), ls_o _ (by omega), ls_o _ (by omega), ls_o _ (by omega), ls_o _ (by omega)]
    exact h4
end IOS
end
section
/-! a whole step, side by side -/
theorem kds_0 (D : lm_S) : kd_stack (nI 0) D = lm_set (kd_take (kd_take D)) 6 5 ((kd_pv D + 256 * kd_pv (kd_take D)) &&& 511) := by
  unfold kd_stack; rw [if_pos (by decide)]
theorem kds_1 (D : lm_S) : kd_stack (nI 1) D = kd_push (D 6 0) D := by
  unfold kd_stack; rw [if_neg (by decide), if_pos (by decide)]
theorem kds_2 (D : lm_S) : kd_stack (nI 2) D = kd_load 0 (kd_pv D) (kd_take D) := by
  unfold kd_stack; rw [if_neg (by decide), if_neg (by decide), if_pos (by decide)]
theorem kds_3 (D : lm_S) : kd_stack (nI 3) D = kd_push (D 6 4) D := by
  unfold kd_stack; rw [if_neg (by decide), if_neg (by decide), if_neg (by decide), if_pos (by decide)]
theorem kds_4 (D : lm_S) : kd_stack (nI 4) D = lm_set (kd_take D) 6 4 (kd_pv D &&& 195) := by
  unfold kd_stack; rw [if_neg (by decide), if_neg (by decide), if_neg (by decide), if_neg (by decide), if_pos (by decide)]
theorem kds_5 (D : lm_S) : kd_stack (nI 5) D = lm_set D 6 6 1 := by
  unfold kd_stack; rw [if_neg (by decide), if_neg (by decide), if_neg (by decide), if_neg (by decide), if_neg (by decide), if_pos (by decide)]
theorem kds_6 (D : lm_S) : kd_stack (nI 6) D = kd_in D := by
  unfold kd_stack; rw [if_neg (by decide), if_neg (by decide), if_neg (by decide), if_neg (by decide), if_neg (by decide), if_neg (by decide), if_pos (by decide)]
theorem kds_7 (D : lm_S) : kd_stack (nI 7) D = kd_out D := by
  unfold kd_stack; rw [if_neg (by decide), if_neg (by decide), if_neg (by decide), if_neg (by decide), if_neg (by decide), if_neg (by decide), if_neg (by decide)]
theorem kms_0 (w : Nat) (M : lm_S) : km_stack w (nI 0) M = lm_set (km_pull (km_pull M)) 18 517 ((km_pv M + 256 * km_pv (km_pull M)) &&& 511) := by
  unfold km_stack; rw [if_pos (by decide)]
theorem kms_1 (w : Nat) (M : lm_S) : km_stack w (nI 1) M = km_push (M 18 512) M := by
  unfold km_stack; rw [if_neg (by decide), if_pos (by decide)]
theorem kms_2 (w : Nat) (M : lm_S) : km_stack w (nI 2) M = km_tr 512 (km_pv M) (km_pull M) := by
  unfold km_stack; rw [if_neg (by decide), if_neg (by decide), if_pos (by decide)]
theorem kms_3 (w : Nat) (M : lm_S) : km_stack w (nI 3) M = km_push (M 18 516) M := by
  unfold km_stack; rw [if_neg (by decide), if_neg (by decide), if_neg (by decide), if_pos (by decide)]
theorem kms_4 (w : Nat) (M : lm_S) : km_stack w (nI 4) M = lm_set (km_pull M) 18 516 (km_pv M &&& 195) := by
  unfold km_stack; rw [if_neg (by decide), if_neg (by decide), if_neg (by decide), if_neg (by decide), if_pos (by decide)]
theorem kms_5 (w : Nat) (M : lm_S) : km_stack w (nI 5) M = lm_set M 18 518 1 := by
  unfold km_stack; rw [if_neg (by decide), if_neg (by decide), if_neg (by decide), if_neg (by decide), if_neg (by decide), if_pos (by decide)]
theorem kms_6 (w : Nat) (M : lm_S) : km_stack w (nI 6) M = km_in w M := by
  unfold km_stack; rw [if_neg (by decide), if_neg (by decide), if_neg (by decide), if_neg (by decide), if_neg (by decide), if_neg (by decide), if_pos (by decide)]
theorem kms_7 (w : Nat) (M : lm_S) : km_stack w (nI 7) M = km_out M := by
  unfold km_stack; rw [if_neg (by decide), if_neg (by decide), if_neg (by decide), if_neg (by decide), if_neg (by decide), if_neg (by decide), if_neg (by decide)]
section SIM
variable {C0 : Nat → Int32} {D M : lm_S}
theorem kb_195 (x : Int32) : kb (x &&& 195) := by
  apply kb_of
  rw [Int32.and_assoc]
  rfl
theorem rl.stack (h : rl C0 D M) (j : Nat) (hj : j < 8) (w : Nat) (hw : M 18 519 = nI w) (hw40 : w ≤ 40) (hd : Nat) (hD : D 6 8 = nI hd) (hlt : hd < 308) (h0 : w01 D) : rl C0 (kd_stack (nI j) D) (km_stack w (nI j) M) := by
  rcases (show j = 0 ∨ j = 1 ∨ j = 2 ∨ j = 3 ∨ j = 4 ∨ j = 5 ∨ j = 6 ∨ j = 7 by omega) with rfl | rfl | rfl | rfl | rfl | rfl | rfl | rfl
  · rw [kds_0, kms_0, h.pv.1, h.pull.pv.1]
    exact h.pull.pull.reg 5 (by omega) _ (fun q => by omega) (fun _ => lm_v511 _)
  · rw [kds_1, kms_1, h.A]
    exact h.push (h.2.2.1.2.1 0 (by omega)) h0
  · rw [kds_2, kms_2, h.pv.1]
    exact h.pull.load 0 (by omega) _
  · rw [kds_3, kms_3, h.P]
    exact h.push (h.2.2.1.2.1 4 (by omega)) h0
  · rw [kds_4, kms_4, h.pv.1]
    exact h.pull.reg 4 (by omega) _ (fun _ => kb_195 _) (fun q => by omega)
  · rw [kds_5, kms_5]
    exact h.reg 6 (by omega) _ (fun q => by omega) (fun q => by omega)
  · rw [kds_6, kms_6]
    exact h.inp w hw hw40
  · rw [kds_7, kms_7]
    exact h.out hd hD hlt
/-- any cell read -/
theorem rl.cx (h : rl C0 D M) (x : Int32) : kd_cell x D = M 18 (x &&& 511).toNatClampNeg ∧ kb (M 18 (x &&& 511).toNatClampNeg) := by
  obtain ⟨j, hj, e⟩ := pk_andE x (m := 511) 9 (by decide)
  unfold kd_cell
  rw [e, nI_clamp (by omega)]
  exact ⟨h.1 j hj, h.2.2.1.1 j hj⟩
theorem kb_511 {x : Int32} (h : kb x) : x &&& 511 = x := by
  obtain ⟨j, hj, rfl⟩ := h
  exact and511 (by omega)
theorem rl.place (h : rl C0 D M) (j : Nat) (hj : j < 7) : ∃ k : Nat, k < 512 ∧ kd_place (nI j) (D 6 5) D = nI k ∧ km_place (nI j) (M 18 517 + 1 &&& 511) (km_i M) (km_wd M) M = nI k := by
  have c1 := h.cx (M 18 517 + 1)
  have c2 := h.cx (M 18 517 + 2)
  have hi : kb (km_i M) := c1.2
  have f1 : kd_cell (M 18 517 + 1) D = km_i M := c1.1
  have f2 : kd_wide (M 18 517) D = km_wd M := by
    unfold kd_wide km_wd
    rw [f1, c2.1]
  have m511 : ∀ x : Int32, ∃ k : Nat, k < 512 ∧ x &&& 511 = nI k := fun x => pk_andE x 9 (by decide)
  have m255 : ∀ x : Int32, ∃ k : Nat, k < 512 ∧ x &&& 255 = nI k := fun x => by
    obtain ⟨k, hk, e⟩ := kb_and x
    exact ⟨k, by omega, e⟩
  have key : kd_place (nI j) (D 6 5) D = km_place (nI j) (M 18 517 + 1 &&& 511) (km_i M) (km_wd M) M ∧ ∃ k : Nat, k < 512 ∧ km_place (nI j) (M 18 517 + 1 &&& 511) (km_i M) (km_wd M) M = nI k := by
    unfold kd_place km_place
    rw [h.C, f1, f2, h.X, h.Y]
    rcases (show j = 0 ∨ j = 1 ∨ j = 2 ∨ j = 3 ∨ j = 4 ∨ j = 5 ∨ j = 6 by omega) with rfl | rfl | rfl | rfl | rfl | rfl | rfl
    · rw [if_pos (by decide), if_pos (by decide)]
      exact ⟨rfl, m511 _⟩
    · rw [if_neg (by decide), if_pos (by decide), if_neg (by decide), if_pos (by decide)]
      obtain ⟨k, hk, e⟩ := hi
      exact ⟨rfl, k, by omega, e⟩
    · rw [if_neg (by decide), if_neg (by decide), if_pos (by decide), if_neg (by decide), if_neg (by decide), if_pos (by decide)]
      exact ⟨rfl, m255 _⟩
    · rw [if_neg (by decide), if_neg (by decide), if_neg (by decide), if_pos (by decide), if_neg (by decide), if_neg (by decide), if_neg (by decide), if_pos (by decide)]
      exact ⟨rfl, m511 _⟩
    · rw [if_neg (by decide), if_neg (by decide), if_neg (by decide), if_neg (by decide), if_pos (by decide), if_neg (by decide), if_neg (by decide), if_neg (by decide), if_neg (by decide), if_pos (by decide)]
      exact ⟨rfl, m511 _⟩
    · rw [if_neg (by decide), if_neg (by decide), if_neg (by decide), if_neg (by decide), if_neg (by decide), if_pos (by decide), if_neg (by decide), if_neg (by decide), if_neg (by decide), if_neg (by decide), if_neg (by decide), if_pos (by decide)]
      exact ⟨rfl, m511 _⟩
    · rw [if_neg (by decide), if_neg (by decide), if_neg (by decide), if_neg (by decide), if_neg (by decide), if_neg (by decide), if_pos (by decide), if_neg (by decide), if_neg (by decide), if_neg (by decide), if_neg (by decide), if_neg (by decide), if_neg (by decide)]
      unfold kd_point
      rw [(h.cx (km_i M)).1, (h.cx (km_i M + 1 &&& 255)).1, kb_511 hi, kb_511 (kb_and _)]
      exact ⟨rfl, m511 _⟩
  obtain ⟨k1, k, hk, e⟩ := key
  exact ⟨k, hk, k1.trans e, e⟩
theorem kd_place_7 (a : Int32) (D : lm_S) : kd_place (nI 7) a D = -1 := by
  unfold kd_place
  rw [if_neg (by decide), if_neg (by decide), if_neg (by decide), if_neg (by decide), if_neg (by decide), if_neg (by decide), if_neg (by decide)]
theorem place_pc (md be i w x : Int32) (M : lm_S) (hi : kb i) : km_place md be i w (lm_set M 18 517 x) = km_place md be i w M := by
  unfold km_place
  obtain ⟨k, hk, e⟩ := hi
  obtain ⟨k2, hk2, e2⟩ := kb_and (i + 1)
  rw [e2, e, nI_clamp (by omega), nI_clamp (by omega), ls_n _ _ (by omega), ls_n _ _ (by omega), ls_n _ _ (by omega), ls_n _ _ (by omega)]
theorem rl.disp (h : rl C0 D M) (b : Nat) (hb : b < 32) (j : Nat) (hj : j < 8) (be i wd p : Int32) (hi : kb i) (hp : (j = 7 ∧ p = -1) ∨ (j < 7 ∧ ∃ k : Nat, k < 512 ∧ p = nI k ∧ km_place (nI j) be i wd M = nI k)) (w : Nat) (hw : M 18 519 = nI w) (hw40 : w ≤ 40) (hd : Nat) (hD : D 6 8 = nI hd) (hlt : hd < 308) (h0 : D 1 8 = 0) : rl C0 (kd_disp (nI b) (nI j) i p D) (km_disp w (nI b) (nI j) be i wd M) := by
  unfold kd_disp km_disp
  by_cases h20 : (20 : Int32) < nI b
  · rw [if_pos h20, if_pos h20]
    by_cases h22 : (22 : Int32) < nI b
    · rw [if_pos h22, if_pos h22]
      exact rl.it (h.stack j hj w hw hw40 hd hD hlt (Or.inl h0)) (rl.it (h.move j hj) (rl.it (h.small j hj) (rl.it (h.branch j hj i hi) h)))
    · rw [if_neg h22, if_neg h22]
      rcases hp with ⟨rfl, rfl⟩ | ⟨hj7, k, hk, rfl, ek⟩
      · have e1 : ∀ ar : Int32, kd_jump ar (nI 7) (-1) D = D := fun ar => by
          unfold kd_jump
          rw [if_neg (by decide), if_pos rfl]
        rw [e1, e1, if_neg (show ¬ nI 7 ≤ 0 by decide), if_pos (show (7 : Int32) ≤ nI 7 by decide)]
        split <;> exact h
      · by_cases hj0 : j = 0
        · subst hj0
          have e1 : ∀ ar : Int32, kd_jump ar (nI 0) (nI k) D = D := fun ar => by
            unfold kd_jump
            rw [if_pos (show nI 0 = 0 by decide)]
          rw [e1, e1, if_pos (show nI 0 ≤ 0 by decide)]
          split <;> exact h
        · have q0 : ¬ nI j = 0 := nI_ne0 (by omega) (by omega)
          have q1 : ¬ nI j ≤ 0 := nI_nle (by omega) (by omega)
          have q7 : ¬ (7 : Int32) ≤ nI j := nI_ge (b := 7) (by omega) (by omega)
          rw [if_neg q1, if_neg q7, ek]
          have g := h.jmp h0 k hk (nI b)
          have e1 : kd_jump 1 (nI j) (nI k) D = lm_set (kd_push ((kd_push (D 6 5 / 256) D) 6 5 &&& 255) (kd_push (D 6 5 / 256) D)) 6 5 (nI k) := by
            unfold kd_jump
            rw [if_neg q0, if_neg (nI_nm1 hk), if_neg (by decide)]
          have e2 : kd_jump 0 (nI j) (nI k) D = lm_set D 6 5 (nI k) := by
            unfold kd_jump
            rw [if_neg q0, if_neg (nI_nm1 hk), if_pos rfl]
          rw [e1, e2]
          exact g
  · rw [if_neg h20, if_neg h20]
    have hb20 : b ≤ 20 := by
      have q : ¬ (nI 20) < nI b := h20
      rw [nI_ltI (by omega) (by omega)] at q
      omega
    rcases hp with ⟨rfl, rfl⟩ | ⟨hj7, k, hk, rfl, ek⟩
    · rw [if_pos (show nI 7 = 7 by decide)]
      exact h.work (Or.inl ⟨rfl, rfl⟩) (Or.inl h0) b hb20
    · have q7 : ¬ nI j = 7 := fun q => by
        have := (nI_eq (b := 7) (by omega) (by omega)).mp q
        omega
      rw [if_neg q7, ek]
      exact h.work (Or.inr ⟨k, hk, rfl, rfl⟩) (Or.inl h0) b hb20
/-- the desk against the image, between steps -/
def rs (D M : lm_S) : Prop := (∀ a, a < 512 → D 5 a = M 18 a) ∧ (∀ k, k < 7 → D 6 k = M 18 (512 + k)) ∧ rl_v M ∧ rl_io D M
theorem rs.begin (h : rs D M) : rl (D 5) (kd_forget D) (lm_set (lm_set M 16 8 (-1)) 16 9 (-1)) := by
  obtain ⟨h1, h2, h3, h4⟩ := h
  exact ⟨h1, h2, h3, h4, Or.inl ⟨rfl, rfl, rfl, rfl, rfl, rfl⟩⟩
theorem rl.step1 (h : rl C0 D M) (hd : Nat) (hD : D 6 8 = nI hd) (hlt : hd < 308) (h0 : D 1 8 = 0) : rl C0 (kd_step0 D) (km_st1 M) := by
  obtain ⟨c, hc, ec⟩ := vp_in_of h.2.2.1.2.2 (by decide)
  have eb : kd_b D = km_b M ∧ kb (km_b M) := by
    unfold kd_b km_b
    rw [h.C, ec, nI_clamp (by omega)]
    exact ⟨h.1 c hc, h.2.2.1.1 c hc⟩
  obtain ⟨bb, hbb, ebb⟩ := eb.2
  have e3 : nI bb >>> (3 &&& 31) = nI (bb / 8) := pk_shrN (by omega) _ 3 (by decide)
  have e7 : nI bb &&& 7 = nI (bb % 8) := pk_andN (by omega) 3 (by decide)
  obtain ⟨w, hw40, hw⟩ : ∃ w : Nat, w ≤ 40 ∧ M 18 519 = nI w := by
    obtain ⟨tk, fd, _, _, _, _, i3, i4, i5, _⟩ := h.2.2.2.1
    exact ⟨fd - tk, by omega, i5⟩
  have ew : km_w M = w := by
    unfold km_w
    rw [hw, nI_clamp (by omega)]
  have ci := h.cx (M 18 517 + 1)
  have hi : kb (km_i M) := ci.2
  have f1 : kd_cell (D 6 5 + 1) D = km_i M := by rw [h.C]; exact ci.1
  unfold kd_step0 km_st1
  rw [eb.1, ebb, e3, e7, f1, ew, len_eq (bb % 8) (by omega)]
  have hx : ∀ x, vp_in x 512 → rl C0 (lm_set D 6 5 x) (lm_set M 18 517 x) := fun x q => h.reg 5 (by omega) x (fun q => by omega) (fun _ => q)
  have g := hx ((M 18 517 + km_len (nI (bb / 8)) (nI (bb % 8))) &&& 511) (lm_v511 _)
  rw [h.C] at *
  refine g.disp (bb / 8) (by omega) (bb % 8) (by omega) _ _ _ _ hi ?_ w ?_ hw40 hd ?_ hlt h0
  · by_cases h7 : bb % 8 = 7
    · refine Or.inl ⟨h7, ?_⟩
      rw [h7]
      exact kd_place_7 _ _
    · obtain ⟨k, hk, k1, k2⟩ := h.place (bb % 8) (by omega)
      refine Or.inr ⟨by omega, k, hk, ?_, ?_⟩
      · rw [← h.C]
        exact k1
      · rw [place_pc _ _ _ _ _ _ hi]
        exact k2
  · rw [ls_n _ _ (by omega)]
    exact hw
  · rw [ls_n _ _ (by omega)]
    exact hD
/-- ONE STEP: the desk's and the reference's -/
theorem rs.step (h : rs D M) (hd : Nat) (hD : D 6 8 = nI hd) (hlt : hd < 308) : rl (D 5) (kd_step D) (km_step M) := h.begin.step1 hd hD hlt rfl
end SIM
end
section
/-! the desk's history: moments, places, other bytes, against the images ns_it t b -/
/-- the j-th write of the history, seen from the m-th -/
def hO (C : Nat → Nat → Int32) (m j : Nat) (S : lm_S) : Prop := (S 12 j = -1 ∧ C (j + 1) = C j) ∨ ∃ (p : Nat) (v : Int32), p < 512 ∧ S 12 j = nI p ∧ C (j + 1) = upd (C j) p v ∧ S 13 j = (if j < m then C j p else v)
def hM (C : Nat → Nat → Int32) (m n : Nat) (S : lm_S) : Prop := S 5 = C m ∧ ∀ j, j < n → hO C m j S
theorem upd_back (f : Nat → Int32) (p : Nat) (v : Int32) : upd (upd f p v) p (f p) = f := by
  funext k
  simp only [upd]
  by_cases h : k = p
  · subst h; simp
  · simp [h]
theorem isA_p {p : Nat} (hp : p < 512) : ¬ kd_isA (nI p) = 0 := by
  unfold kd_isA
  rw [if_neg (nI_pos (by omega)), if_neg (show ¬ (512 : Int32) ≤ nI p from nI_ge (b := 512) hp (by omega))]
  decide
theorem isA_m : kd_isA (-1) = 0 := by decide
theorem swap_o (k : Int32) (S : lm_S) (i : Nat) (h5 : i ≠ 5) (h13 : i ≠ 13) : (kd_swap k S) i = S i := by
  unfold kd_swap kd_swp
  split
  · rfl
  · rw [ls_o _ h5, ls_o _ h13]
theorem hM.fwd {C : Nat → Nat → Int32} {m n : Nat} {S : lm_S} (h : hM C m n S) (hm : m < n) (hn : n ≤ 600) : hM C (m + 1) n (kd_swap (nI m) S) := by
  obtain ⟨h5, hj⟩ := h
  unfold kd_swap
  rw [nI_clamp (by omega)]
  rcases hj m hm with ⟨e, c⟩ | ⟨p, v, hp, e, c, o⟩
  · unfold kd_swp
    rw [e, if_pos isA_m]
    refine ⟨by rw [c]; exact h5, fun j hjn => ?_⟩
    rcases hj j hjn with q | ⟨p, v, hp, e2, c2, o2⟩
    · exact Or.inl q
    · refine Or.inr ⟨p, v, hp, e2, c2, ?_⟩
      have hne : j ≠ m := fun q => by
        subst q
        rw [e] at e2
        exact nI_nm1 hp e2.symm
      rw [o2]
      by_cases hl : j < m
      · rw [if_pos hl, if_pos (by omega)]
      · rw [if_neg hl, if_neg (by omega)]
  · unfold kd_swp
    rw [e, if_neg (isA_p hp), nI_clamp (by omega), nI_clamp (by omega), o, if_neg (by omega)]
    refine ⟨?_, fun j hjn => ?_⟩
    · show upd (S 5) p v = C (m + 1)
      rw [c, h5]
    · by_cases hjm : j = m
      · subst hjm
        refine Or.inr ⟨p, v, hp, ?_, c, ?_⟩
        · rw [ls_o _ (by omega), ls_o _ (by omega)]
          exact e
        · rw [if_pos (by omega), ls_o _ (by omega), ls_i, h5]
      · rcases hj j hjn with ⟨e2, c2⟩ | ⟨p2, v2, hp2, e2, c2, o2⟩
        · exact Or.inl ⟨by rw [ls_o _ (by omega), ls_o _ (by omega)]; exact e2, c2⟩
        · refine Or.inr ⟨p2, v2, hp2, by rw [ls_o _ (by omega), ls_o _ (by omega)]; exact e2, c2, ?_⟩
          rw [ls_o _ (by omega), ls_n _ _ hjm, o2]
          by_cases hl : j < m
          · rw [if_pos hl, if_pos (by omega)]
          · rw [if_neg hl, if_neg (by omega)]
theorem hM.bwd {C : Nat → Nat → Int32} {m n : Nat} {S : lm_S} (h : hM C (m + 1) n S) (hm : m < n) (hn : n ≤ 600) : hM C m n (kd_swap (nI m) S) := by
  obtain ⟨h5, hj⟩ := h
  unfold kd_swap
  rw [nI_clamp (by omega)]
  rcases hj m hm with ⟨e, c⟩ | ⟨p, v, hp, e, c, o⟩
  · unfold kd_swp
    rw [e, if_pos isA_m]
    refine ⟨by rw [← c]; exact h5, fun j hjn => ?_⟩
    rcases hj j hjn with q | ⟨p, v, hp, e2, c2, o2⟩
    · exact Or.inl q
    · refine Or.inr ⟨p, v, hp, e2, c2, ?_⟩
      have hne : j ≠ m := fun q => by
        subst q
        rw [e] at e2
        exact nI_nm1 hp e2.symm
      rw [o2]
      by_cases hl : j < m
      · rw [if_pos hl, if_pos (by omega)]
      · rw [if_neg hl, if_neg (by omega)]
  · unfold kd_swp
    rw [e, if_neg (isA_p hp), nI_clamp (by omega), nI_clamp (by omega), o, if_pos (by omega)]
    refine ⟨?_, fun j hjn => ?_⟩
    · show upd (S 5) p (C m p) = C m
      rw [h5, c, upd_back]
    · by_cases hjm : j = m
      · subst hjm
        refine Or.inr ⟨p, v, hp, ?_, c, ?_⟩
        · rw [ls_o _ (by omega), ls_o _ (by omega)]
          exact e
        · rw [if_neg (by omega), ls_o _ (by omega), ls_i, h5, c]
          simp [upd]
      · rcases hj j hjn with ⟨e2, c2⟩ | ⟨p2, v2, hp2, e2, c2, o2⟩
        · exact Or.inl ⟨by rw [ls_o _ (by omega), ls_o _ (by omega)]; exact e2, c2⟩
        · refine Or.inr ⟨p2, v2, hp2, by rw [ls_o _ (by omega), ls_o _ (by omega)]; exact e2, c2, ?_⟩
          rw [ls_o _ (by omega), ls_n _ _ hjm, o2]
          by_cases hl : j < m
          · rw [if_pos hl, if_pos (by omega)]
          · rw [if_neg hl, if_neg (by omega)]
theorem hM.fw {C : Nat → Nat → Int32} {n : Nat} (hn : n ≤ 600) : ∀ (d m : Nat) (S : lm_S), hM C m n S → m + d ≤ n → hM C (m + d) n (kd_fw d m S)
  | 0, _, _, h, _ => h
  | d + 1, m, S, h, hd => by
    rw [kd_fw, show m + (d + 1) = m + 1 + d by omega]
    exact hM.fw hn d (m + 1) _ (h.fwd (by omega) hn) (by omega)
theorem hM.bw {C : Nat → Nat → Int32} {n : Nat} (hn : n ≤ 600) : ∀ (d m : Nat) (S : lm_S), hM C m n S → d ≤ m → m ≤ n → hM C (m - d) n (kd_bw d m S)
  | 0, _, _, h, _, _ => h
  | d + 1, m, S, h, hd, hm => by
    rw [kd_bw, show m - (d + 1) = m - 1 - d by omega]
    refine hM.bw hn d (m - 1) _ ?_ (by omega) (by omega)
    have e : m - 1 + 1 = m := by omega
    rw [← e] at h
    exact h.bwd (by omega) hn
theorem fw_o : ∀ (d m : Nat) (S : lm_S) (i : Nat), i ≠ 5 → i ≠ 13 → (kd_fw d m S) i = S i
  | 0, _, _, _, _, _ => rfl
  | d + 1, m, S, i, h5, h13 => by rw [kd_fw, fw_o d _ _ i h5 h13, swap_o _ _ _ h5 h13]
theorem bw_o : ∀ (d m : Nat) (S : lm_S) (i : Nat), i ≠ 5 → i ≠ 13 → (kd_bw d m S) i = S i
  | 0, _, _, _, _, _ => rfl
  | d + 1, m, S, i, h5, h13 => by rw [kd_bw, bw_o d _ _ i h5 h13, swap_o _ _ _ h5 h13]
theorem mv_o (a t : Nat) (S : lm_S) (i : Nat) (h2 : i ≠ 2) (h5 : i ≠ 5) (h6 : i ≠ 6) (h13 : i ≠ 13) : (kd_mv a t S) i = S i := by
  unfold kd_mv kd_fin
  rw [va_up_ne _ _ h6, ls_o _ h2, bw_o _ _ _ _ h5 h13, fw_o _ _ _ _ h5 h13]
theorem mv_2 (a t : Nat) (S : lm_S) : (kd_mv a t S) 2 3 = nI t ∧ (kd_mv a t S) 2 4 = S 2 4 := by
  unfold kd_mv kd_fin
  rw [va_up_ne _ _ (by omega)]
  refine ⟨ls_i _ _ _ _, ?_⟩
  rw [ls_n _ _ (by omega), bw_o _ _ _ _ (by omega) (by omega), fw_o _ _ _ _ (by omega) (by omega)]
theorem mv_6 (a t : Nat) (S : lm_S) (k : Nat) (hk : k < 9) : (kd_mv a t S) 6 k = S 11 (t * 9 + k) := by
  unfold kd_mv kd_fin
  rw [va_up_self, pk_cpy_in (by omega) (by omega), bw_o _ _ _ _ (by omega) (by omega), fw_o _ _ _ _ (by omega) (by omega), Nat.sub_zero]
theorem mv_M {C : Nat → Nat → Int32} {n a t : Nat} {S : lm_S} (hn : n ≤ 600) (h : hM C (2 * a) n S) (ha : 2 * a ≤ n) (ht : 2 * t ≤ n) : hM C (2 * t) n (kd_mv a t S) := by
  have h1 : hM C (2 * a + (2 * t - 2 * a)) n (kd_fw (2 * t - 2 * a) (2 * a) S) := hM.fw hn _ _ _ h (by omega)
  have h2 : hM C (2 * t) n (kd_bw (2 * a - 2 * t) (2 * a) (kd_fw (2 * t - 2 * a) (2 * a) S)) := by
    by_cases hq : t ≤ a
    · rw [show 2 * t - 2 * a = 0 by omega] at h1 ⊢
      have h3 := hM.bw hn (2 * a - 2 * t) (2 * a) _ h1 (by omega) (by omega)
      rw [show 2 * a - (2 * a - 2 * t) = 2 * t by omega] at h3
      exact h3
    · rw [show 2 * a - 2 * t = 0 by omega]
      rw [show 2 * a + (2 * t - 2 * a) = 2 * t by omega] at h1
      exact h1
  generalize hT : kd_bw (2 * a - 2 * t) (2 * a) (kd_fw (2 * t - 2 * a) (2 * a) S) = T at h2
  have e : kd_mv a t S = kd_fin t T := by unfold kd_mv; rw [hT]
  rw [e]
  obtain ⟨g5, gj⟩ := h2
  have o5 : (kd_fin t T) 5 = T 5 := by unfold kd_fin; rw [va_up_ne _ _ (by omega), ls_o _ (by omega)]
  have o12 : (kd_fin t T) 12 = T 12 := by unfold kd_fin; rw [va_up_ne _ _ (by omega), ls_o _ (by omega)]
  have o13 : (kd_fin t T) 13 = T 13 := by unfold kd_fin; rw [va_up_ne _ _ (by omega), ls_o _ (by omega)]
  refine ⟨by rw [o5]; exact g5, fun j hj => ?_⟩
  unfold hO
  rw [o12, o13]
  exact gj j hj
/-! the whole history -/
def wc (p0 p1 w b : Int32) : Prop := (p0 = -1 ∧ p1 = -1 ∧ w = -1 ∧ b = -1) ∨ (∃ p : Nat, p < 512 ∧ p0 = nI p ∧ p1 = -1 ∧ w = nI p ∧ b = -1) ∨ ∃ p q : Nat, p < 512 ∧ q < 512 ∧ p0 = nI p ∧ p1 = nI q ∧ w = nI q ∧ b = nI p
/-- the desk at moment t -/
def dT (C : Nat → Nat → Int32) (t : Nat) (S : lm_S) : lm_S := va_up (va_up S 6 (fun k => S 11 (t * 9 + k))) 5 (C (2 * t))
def hT (b : Nat → Int32) (C : Nat → Nat → Int32) (t : Nat) (S : lm_S) : Prop := rs (dT C t S) (ns_S (ns_it t b)) ∧ ∃ hd : Nat, hd ≤ 8 + t ∧ S 11 (t * 9 + 8) = nI hd
def hP (b : Nat → Int32) (t : Nat) (S : lm_S) : Prop := wc (S 12 (2 * t)) (S 12 (2 * t + 1)) (ns_w (ns_it t b)) (ns_b (ns_it t b))
def HD (b : Nat → Int32) (C : Nat → Nat → Int32) (a N : Nat) (S : lm_S) : Prop := a ≤ N ∧ N ≤ 300 ∧ S 2 3 = nI a ∧ S 2 4 = nI N ∧ (∀ k, k < 9 → S 6 k = S 11 (a * 9 + k)) ∧ hM C (2 * a) (2 * N) S ∧ (∀ t, t ≤ N → hT b C t S) ∧ (∀ t, t < N → hP b t S) ∧ ∀ t, t ≤ N → ∃ x y : Nat, S 11 (t * 9 + 8) = nI x ∧ S 11 (N * 9 + 8) = nI y ∧ x ≤ y ∧ y ≤ 8 + N
theorem rs.cong {D D1 M M1 : lm_S} (h : rs D M) (h5 : ∀ a, a < 512 → D1 5 a = D 5 a) (h6 : ∀ k, k < 9 → D1 6 k = D 6 k) (h1 : D1 1 = D 1) (h7 : D1 7 = D 7) (h8 : D1 8 = D 8) (hM : M1 18 = M 18) : rs D1 M1 := by
  obtain ⟨r1, r2, r3, tk, fd, hd, dr, i1, i2, i3, i4, i5, i6, i7, i8, i9, i10, i11, i12⟩ := h
  refine ⟨fun a ha => ?_, fun k hk => ?_, ?_, tk, fd, hd, dr, ?_, ?_, i3, i4, ?_, fun k hk => ?_, ?_, ?_, ?_, fun k hk hk2 => ?_, i11, i12⟩
  · rw [h5 a ha, hM]; exact r1 a ha
  · rw [h6 k (by omega), hM]; exact r2 k hk
  · unfold rl_v; rw [hM]; exact r3
  · rw [h6 7 (by omega)]; exact i1
  · rw [h1]; exact i2
  · rw [hM]; exact i5
  · rw [h7, hM]; exact i6 k hk
  · rw [h6 8 (by omega)]; exact i7
  · rw [h1]; exact i8
  · rw [hM]; exact i9
  · rw [h8, hM]; exact i10 k hk hk2
/-- a history that says the same of the same cells -/
theorem hT.cong {b : Nat → Int32} {C : Nat → Nat → Int32} {t : Nat} {S S1 : lm_S} (h : hT b C t S) (h11 : ∀ k, k < 9 → S1 11 (t * 9 + k) = S 11 (t * 9 + k)) (h1 : S1 1 = S 1) (h7 : S1 7 = S 7) (h8 : S1 8 = S 8) : hT b C t S1 := by
  obtain ⟨g, hd, g1, g2⟩ := h
  refine ⟨g.cong (fun a _ => rfl) (fun k hk => h11 k hk) h1 h7 h8 rfl, hd, g1, by rw [h11 8 (by omega)]; exact g2⟩
/-- GO: the present is moment t -/
theorem HD.move {b : Nat → Int32} {C : Nat → Nat → Int32} {a N : Nat} {S : lm_S} (h : HD b C a N S) (t : Nat) (ht : t ≤ N) : HD b C t N (kd_mv a t S) := by
  obtain ⟨h1, h2, h3, h4, h5, h6, h7, h8, h9⟩ := h
  have o : ∀ i, i ≠ 2 → i ≠ 5 → i ≠ 6 → i ≠ 13 → (kd_mv a t S) i = S i := mv_o a t S
  refine ⟨ht, h2, (mv_2 a t S).1, by rw [(mv_2 a t S).2]; exact h4, fun k hk => ?_, mv_M (by omega) h6 (by omega) (by omega), fun u hu => ?_, fun u hu => ?_, fun u hu => by rw [o 11 (by omega) (by omega) (by omega) (by omega)]; exact h9 u hu⟩
  · rw [mv_6 a t S k hk, o 11 (by omega) (by omega) (by omega) (by omega)]
  · exact (h7 u hu).cong (fun k _ => by rw [o 11 (by omega) (by omega) (by omega) (by omega)]) (o 1 (by omega) (by omega) (by omega) (by omega)) (o 7 (by omega) (by omega) (by omega) (by omega)) (o 8 (by omega) (by omega) (by omega) (by omega))
  · unfold hP
    rw [o 12 (by omega) (by omega) (by omega) (by omega)]
    exact h8 u hu
end
section
/-! a new moment is appended -/
/-- outputs, fed and dropped as before -/
def ko (S1 S : lm_S) : Prop := S1 8 = S 8 ∧ S1 6 8 = S 6 8 ∧ ∀ k, k ≠ 8 → S1 1 k = S 1 k
theorem ko.rf (S : lm_S) : ko S S := ⟨rfl, rfl, fun _ _ => rfl⟩
theorem ko.tr {S2 S1 S : lm_S} (h : ko S2 S1) (g : ko S1 S) : ko S2 S := ⟨h.1.trans g.1, h.2.1.trans g.2.1, fun k hk => (h.2.2 k hk).trans (g.2.2 k hk)⟩
theorem ko.s6 {S1 S : lm_S} (h : ko S1 S) {k : Nat} {x : Int32} (hk : k ≠ 8) : ko (lm_set S1 6 k x) S := ⟨by rw [ls_o _ (by omega)]; exact h.1, by rw [ls_n _ _ (Ne.symm hk)]; exact h.2.1, fun j hj => by rw [ls_o _ (by omega)]; exact h.2.2 j hj⟩
theorem ko.s1 {S1 S : lm_S} (h : ko S1 S) {x : Int32} : ko (lm_set S1 1 8 x) S := ⟨by rw [ls_o _ (by omega)]; exact h.1, by rw [ls_o _ (by omega)]; exact h.2.1, fun j hj => by rw [ls_n _ _ hj]; exact h.2.2 j hj⟩
theorem ko.so {S1 S : lm_S} (h : ko S1 S) {i k : Nat} {x : Int32} (h8 : i ≠ 8) (h6 : i ≠ 6) (h1 : i ≠ 1) : ko (lm_set S1 i k x) S := ⟨by rw [ls_o _ (Ne.symm h8)]; exact h.1, by rw [ls_o _ (Ne.symm h6)]; exact h.2.1, fun j hj => by rw [ls_o _ (Ne.symm h1)]; exact h.2.2 j hj⟩
theorem ko.it {c : Prop} [Decidable c] {A B S : lm_S} (h : ko A S) (g : ko B S) : ko (if c then A else B) S := by
  split
  · exact h
  · exact g
theorem ko_note (r : Int32) (S : lm_S) : ko (kd_note r S) S := (ko.rf S).s6 (by omega)
theorem ko_flag (f o : Int32) (S : lm_S) : ko (kd_flag f o S) S := (ko.rf S).s6 (by omega)
theorem ko_load (g v : Int32) (S : lm_S) (hg : g.toNatClampNeg ≠ 8) : ko (kd_load g v S) S := (ko_note _ _).tr ((ko.rf S).s6 hg)
theorem ko_wcell (a v : Int32) (S : lm_S) : ko (kd_wcell a v S) S := ((ko.rf S).it (((ko.rf S).so (by omega) (by omega) (by omega)).so (by omega) (by omega) (by omega)).s1).so (by omega) (by omega) (by omega)
theorem ko_take (S : lm_S) : ko (kd_take S) S := (ko.rf S).s6 (by omega)
theorem ko_push (v : Int32) (S : lm_S) : ko (kd_push v S) S := (ko_wcell _ _ _).s6 (by omega)
theorem ko_wplace (p v : Int32) (S : lm_S) : ko (kd_wplace p v S) S := ((ko.rf S).s6 (by omega)).it (ko_wcell _ _ _)
theorem ko_forget (S : lm_S) : ko (kd_forget S) S := ((ko.rf S).s1.so (by omega) (by omega) (by omega)).so (by omega) (by omega) (by omega)
theorem ko_add (t : Int32) (S : lm_S) : ko (kd_add t S) S := (ko_flag _ _ _).tr ((ko_flag _ _ _).tr (ko_load _ _ _ (by decide)))
theorem ko_cmp (v t : Int32) (S : lm_S) : ko (kd_cmp v t S) S := (ko_flag _ _ _).tr (ko_note _ _)
theorem ko_test (t : Int32) (S : lm_S) : ko (kd_test t S) S := (ko_flag _ _ _).tr ((ko_flag _ _ _).tr (ko_flag _ _ _))
theorem ko_altc (op t : Int32) (S : lm_S) : ko (kd_altc op t S) S := (ko_flag _ _ _).it ((ko_flag _ _ _).it ((ko_flag _ _ _).it ((ko_flag _ _ _).it (ko.rf S))))
theorem ko_alter (op p t : Int32) (S : lm_S) : ko (kd_alter op p t S) S := (ko_wplace _ _ _).tr ((ko_note _ _).tr (ko_altc _ _ _))
theorem ko_jump (ar md p : Int32) (S : lm_S) : ko (kd_jump ar md p S) S := (ko.rf S).it ((ko.rf S).it (((ko.rf S).s6 (by omega)).it (((ko_push _ _).tr (ko_push _ _)).s6 (by omega))))
theorem ko_in (S : lm_S) : ko (kd_in S) S := (((ko_flag _ _ _).tr (ko_load _ _ _ (by decide))).s6 (by omega)).it (((ko_flag _ _ _).tr (ko_load _ _ _ (by decide))).s6 (by omega))
theorem ko_move (md : Int32) (S : lm_S) : ko (kd_move md S) S := (ko_load _ _ _ (by decide)).it ((ko_load _ _ _ (by decide)).it ((ko_load _ _ _ (by decide)).it ((ko_load _ _ _ (by decide)).it ((ko_load _ _ _ (by decide)).it (((ko.rf S).s6 (by omega)).it ((ko_load _ _ _ (by decide)).it (ko_load _ _ _ (by decide))))))))
theorem ko_small (md : Int32) (S : lm_S) : ko (kd_small md S) S := (ko_load _ _ _ (by decide)).it ((ko_load _ _ _ (by decide)).it ((ko_flag _ _ _).it ((ko_flag _ _ _).it ((ko_flag _ _ _).it (ko.rf S)))))
theorem ko_branch (md o : Int32) (S : lm_S) : ko (kd_branch md o S) S := (((ko.rf S).s6 (by omega)).it (ko.rf S)).it ((ko.rf S).it ((ko.rf S).s6 (by omega)))
theorem ko_workt (op p t : Int32) (S : lm_S) (h0 : ¬ op < 0) : ko (kd_workt op p t S) S := by
  unfold kd_workt
  by_cases h2 : 2 < op
  · rw [if_pos h2]
    exact ((ko_add _ _).it ((ko_add _ _).it ((((ko_test _ _).it (ko_alter _ _ _ _)).it (ko_cmp _ _ _)).it (ko_load _ _ _ (by decide))))).it (ko_wplace _ _ _)
  · rw [if_neg h2]
    refine ko_load _ _ _ ?_
    have h9 := kd_op1 h0 h2
    obtain ⟨j, hj, rfl⟩ := vp_in_of h9 (by decide)
    rw [nI_clamp (by omega)]
    have q : ¬ nI 2 < nI j := h2
    rw [nI_ltI (by omega) (by omega)] at q
    omega
theorem ko_work (op p : Int32) (S : lm_S) (h0 : ¬ op < 0) : ko (kd_work op p S) S := (ko_workt _ _ _ _ h0).it (ko_workt _ _ _ _ h0)
/-- or one output more -/
def kp (hd : Nat) (S1 S : lm_S) : Prop := ko S1 S ∨ ∃ x : Int32, S1 8 = upd (S 8) hd x ∧ S1 6 8 = nI (hd + 1) ∧ ∀ k, k ≠ 8 → S1 1 k = S 1 k
theorem kp.it {hd : Nat} {c : Prop} [Decidable c] {A B S : lm_S} (h : kp hd A S) (g : kp hd B S) : kp hd (if c then A else B) S := by
  split
  · exact h
  · exact g
theorem kp_out (hd : Nat) (h8 : hd < 308) (S : lm_S) (hS : S 6 8 = nI hd) : kp hd (kd_out S) S := by
  refine Or.inr ⟨S 6 0, ?_⟩
  unfold kd_out
  rw [hS, if_neg (show ¬ (308 : Int32) ≤ nI hd from nI_ge (b := 308) h8 (by omega)), nI_clamp (by omega)]
  refine ⟨by rw [ls_o _ (by omega)]; rfl, by rw [ls_i, nI_1], fun k _ => by rw [ls_o _ (by omega), ls_o _ (by omega)]⟩
theorem kp_stack (hd : Nat) (h8 : hd < 308) (md : Int32) (S : lm_S) (hS : S 6 8 = nI hd) : kp hd (kd_stack md S) S := kp.it (Or.inl (((ko_take _).tr (ko_take _)).s6 (by omega))) (kp.it (Or.inl (ko_push _ _)) (kp.it (Or.inl ((ko_load _ _ _ (by decide)).tr (ko_take _))) (kp.it (Or.inl (ko_push _ _)) (kp.it (Or.inl ((ko_take _).s6 (by omega))) (kp.it (Or.inl ((ko.rf S).s6 (by omega))) (kp.it (Or.inl (ko_in _)) (kp_out hd h8 S hS)))))))
theorem kp_disp (hd : Nat) (h8 : hd < 308) (op md o p : Int32) (S : lm_S) (hS : S 6 8 = nI hd) (h0 : ¬ op < 0) : kp hd (kd_disp op md o p S) S := kp.it (kp.it (kp.it (kp_stack hd h8 _ _ hS) (kp.it (Or.inl (ko_move _ _)) (kp.it (Or.inl (ko_small _ _)) (kp.it (Or.inl (ko_branch _ _ _)) (Or.inl (ko.rf S)))))) (kp.it (Or.inl (ko_jump _ _ _ _)) (Or.inl (ko_jump _ _ _ _)))) (Or.inl (ko_work _ _ _ h0))
theorem kp_step (hd : Nat) (h8 : hd < 308) (S : lm_S) (hS : S 6 8 = nI hd) (hb : ¬ kd_b S < 0) : kp hd (kd_step S) S := by
  have g : kp hd (kd_step S) (lm_set (kd_forget S) 6 5 (((kd_forget S) 6 5 + kd_len (kd_b (kd_forget S) >>> (3 &&& 31)) (kd_b (kd_forget S) &&& 7)) &&& 511)) := kp_disp hd h8 _ _ _ _ _ hS (kd_opn hb)
  rcases g with g | ⟨x, g1, g2, g3⟩
  · exact Or.inl (g.tr ((ko_forget S).s6 (by omega)))
  · exact Or.inr ⟨x, g1, g2, fun k hk => (g3 k hk).trans ((ko_forget S).2.2 k hk)⟩
end
section
/-! the history grows by one moment -/
theorem rl_w.split {C0 : Nat → Int32} {T M : lm_S} (h : rl_w C0 T M) : ∃ X1 X2 : Nat → Int32, T 5 = X2 ∧ wc (T 9 0) (T 9 1) (M 16 8) (M 16 9) ∧ ((T 9 0 = -1 ∧ X1 = C0) ∨ ∃ (p : Nat) (v : Int32), p < 512 ∧ T 9 0 = nI p ∧ X1 = upd C0 p v ∧ T 10 0 = C0 p) ∧ ((T 9 1 = -1 ∧ X2 = X1) ∨ ∃ (q : Nat) (u : Int32), q < 512 ∧ T 9 1 = nI q ∧ X2 = upd X1 q u ∧ T 10 1 = X1 q) := by
  rcases h with ⟨_, w2, w3, w4, w5, w6⟩ | ⟨p, v, w0, _, w2, w3, w4, w5, w6, w7⟩ | ⟨p, q, v, u, w0, w1, _, w3, w4, w5, w6, w7, w8, w9⟩
  · exact ⟨C0, C0, w6, Or.inl ⟨w2, w3, w4, w5⟩, Or.inl ⟨w2, rfl⟩, Or.inl ⟨w3, rfl⟩⟩
  · exact ⟨upd C0 p v, upd C0 p v, w7, Or.inr (Or.inl ⟨p, w0, w2, w3, w4, w5⟩), Or.inr ⟨p, v, w0, w2, rfl, w6⟩, Or.inl ⟨w3, rfl⟩⟩
  · exact ⟨upd C0 p v, upd (upd C0 p v) q u, w9, Or.inr (Or.inr ⟨p, q, w0, w1, w3, w4, w5, w6⟩), Or.inr ⟨p, v, w0, w3, rfl, w7⟩, Or.inr ⟨q, u, w1, w4, rfl, w8⟩⟩
section APP
variable {T : lm_S} {N : Nat}
theorem ap_e (hN : N < 300) (hT : T 2 4 = nI N) : kd_app4 (T 2 4) T = lm_set (lm_set (lm_set (lm_set T 12 (2 * N) (T 9 0)) 13 (2 * N) (T 10 0)) 12 (2 * N + 1) (T 9 1)) 13 (2 * N + 1) (T 10 1) := by
  have e0 : (nI N * 2 + 0).toNatClampNeg = 2 * N := by
    rw [nI_m2, show (0 : Int32) = nI 0 from rfl, nI_add, nI_clamp (by omega)]; rfl
  have e1 : (nI N * 2 + (0 + 1)).toNatClampNeg = 2 * N + 1 := by
    rw [nI_m2, show ((0 : Int32) + 1) = nI 1 from rfl, nI_add, nI_clamp (by omega)]
  unfold kd_app4
  rw [hT, e0, e1]
theorem ap_12 (hN : N < 300) (hT : T 2 4 = nI N) (j : Nat) : (kd_app T) 12 j = if j = 2 * N then T 9 0 else if j = 2 * N + 1 then T 9 1 else T 12 j := by
  unfold kd_app kd_keep
  rw [va_up_ne _ _ (by omega), ls_o _ (by omega), ls_o _ (by omega), ap_e hN hT, ls_o _ (by omega)]
  by_cases h1 : j = 2 * N + 1
  · subst h1
    rw [ls_i, if_neg (by omega), if_pos rfl]
  · rw [ls_n _ _ h1, ls_o _ (by omega)]
    by_cases h0 : j = 2 * N
    · subst h0
      rw [ls_i, if_pos rfl]
    · rw [ls_n _ _ h0, if_neg h0, if_neg h1]
theorem ap_13 (hN : N < 300) (hT : T 2 4 = nI N) (j : Nat) : (kd_app T) 13 j = if j = 2 * N then T 10 0 else if j = 2 * N + 1 then T 10 1 else T 13 j := by
  unfold kd_app kd_keep
  rw [va_up_ne _ _ (by omega), ls_o _ (by omega), ls_o _ (by omega), ap_e hN hT]
  by_cases h1 : j = 2 * N + 1
  · subst h1
    rw [ls_i, if_neg (by omega), if_pos rfl]
  · rw [ls_n _ _ h1, ls_o _ (by omega)]
    by_cases h0 : j = 2 * N
    · subst h0
      rw [ls_i, if_pos rfl]
    · rw [ls_n _ _ h0, ls_o _ (by omega), if_neg h0, if_neg h1]
theorem ap_2 (hT : T 2 4 = nI N) : (kd_app T) 2 3 = nI (N + 1) ∧ (kd_app T) 2 4 = nI (N + 1) := by
  unfold kd_app kd_keep
  rw [va_up_ne _ _ (by omega)]
  exact ⟨by rw [ls_i, hT, nI_1], by rw [ls_n _ _ (by omega), ls_i, hT, nI_1]⟩
theorem ap_o (hN : N < 300) (hT : T 2 4 = nI N) (i : Nat) (h2 : i ≠ 2) (h11 : i ≠ 11) (h12 : i ≠ 12) (h13 : i ≠ 13) : (kd_app T) i = T i := by
  unfold kd_app kd_keep
  rw [va_up_ne _ _ h11, ls_o _ h2, ls_o _ h2, ap_e hN hT, ls_o _ h13, ls_o _ h12, ls_o _ h13, ls_o _ h12]
theorem ap_11 (hN : N < 300) (hT : T 2 4 = nI N) (i : Nat) : (kd_app T) 11 i = if (N + 1) * 9 ≤ i ∧ i < (N + 1) * 9 + 9 then T 6 (i - (N + 1) * 9) else T 11 i := by
  unfold kd_app kd_keep
  rw [va_up_self, ls_i, hT, nI_1, show nI (N + 1) * 9 = nI ((N + 1) * 9) from pk_mul _ 9, nI_clamp (by omega), show (0 : Int32).toNatClampNeg = 0 from by decide, show (9 : Int32).toNatClampNeg = 9 from by decide]
  unfold va_cpy
  rw [ls_o _ (by omega), ls_o _ (by omega), ls_o _ (by omega), ls_o _ (by omega)]
  have e : kd_app4 (nI N) T = kd_app4 (T 2 4) T := by rw [hT]
  rw [e, ap_e hN hT, ls_o _ (by omega), ls_o _ (by omega), ls_o _ (by omega), ls_o _ (by omega), ls_o _ (by omega), ls_o _ (by omega), ls_o _ (by omega), ls_o _ (by omega)]
  split
  · rw [Nat.zero_add]
  · rfl
end APP
/-- the present of a history -/
theorem HD.now {b : Nat → Int32} {C : Nat → Nat → Int32} {a N : Nat} {S : lm_S} (h : HD b C a N S) : rs S (ns_S (ns_it a b)) := by
  obtain ⟨h1, h2, h3, h4, h5, h6, h7, h8, h9⟩ := h
  exact (h7 a h1).1.cong (fun k _ => by rw [h6.1]; rfl) (fun k hk => h5 k hk) rfl rfl rfl rfl
theorem rs.ok {D M : lm_S} (h : rs D M) : kd_ok D := by
  obtain ⟨r1, r2, r3, tk, fd, hd, dr, i1, i2, i3, i4, i5, i6, i7, i8, i9, i10, i11, i12⟩ := h
  have e5 : D 6 5 = M 18 517 := r2 5 (by omega)
  refine ⟨by rw [e5]; exact r3.2.2, ?_, fun hx => ?_, by rw [i7]; exact nI_pos (by omega)⟩
  · unfold kd_b
    rw [e5]
    obtain ⟨c, hc, ec⟩ := vp_in_of r3.2.2 (by decide)
    rw [ec, nI_clamp (by omega), r1 c hc]
    exact kb_n (r3.1 c hc)
  · rw [i1]
    rw [i2, i1, pk_sub i3] at hx
    have : 0 < fd - tk := by
      apply Nat.pos_of_ne_zero
      intro q
      rw [q] at hx
      exact hx (by decide)
    exact vp_in_nI (by omega) (by decide)
/-- rs where the outputs beyond the held ones may differ -/
theorem rs.cong3 {D D1 M : lm_S} (h : rs D M) (h5 : D1 5 = D 5) (h6 : ∀ k, k < 9 → D1 6 k = D 6 k) (h13 : D1 1 3 = D 1 3) (h15 : D1 1 5 = D 1 5) (h7 : D1 7 = D 7) (h8 : ∀ hd : Nat, D 6 8 = nI hd → hd ≤ 308 → ∀ i, i < hd → D1 8 i = D 8 i) : rs D1 M := by
  obtain ⟨r1, r2, r3, tk, fd, hd, dr, i1, i2, i3, i4, i5, i6, i7, i8, i9, i10, i11, i12⟩ := h
  refine ⟨by rw [h5]; exact r1, fun k hk => by rw [h6 k (by omega)]; exact r2 k hk, r3, tk, fd, hd, dr, by rw [h6 7 (by omega)]; exact i1, by rw [h13]; exact i2, i3, i4, i5, by rw [h7]; exact i6, by rw [h6 8 (by omega)]; exact i7, by rw [h15]; exact i8, i9, fun k hk hk2 => ?_, i11, i12⟩
  rw [h8 hd i7 i12 _ (by omega)]
  exact i10 k hk hk2
theorem dT_o (C : Nat → Nat → Int32) (t : Nat) (S : lm_S) (i : Nat) (h5 : i ≠ 5) (h6 : i ≠ 6) : (dT C t S) i = S i := by
  unfold dT
  rw [va_up_ne _ _ h5, va_up_ne _ _ h6]
theorem dT_5 (C : Nat → Nat → Int32) (t : Nat) (S : lm_S) : (dT C t S) 5 = C (2 * t) := va_up_self _ _ _
theorem dT_6 (C : Nat → Nat → Int32) (t : Nat) (S : lm_S) (k : Nat) : (dT C t S) 6 k = S 11 (t * 9 + k) := by
  unfold dT
  rw [va_up_ne _ _ (by omega), va_up_self]
def cx (C : Nat → Nat → Int32) (n : Nat) (X1 X2 : Nat → Int32) : Nat → Nat → Int32 := fun j => if j ≤ n then C j else if j = n + 1 then X1 else X2
/-- A STEP: the history has one moment more, which is the present -/
theorem HD.append {b : Nat → Int32} {C : Nat → Nat → Int32} {N : Nat} {S : lm_S} (h : HD b C N N S) (hN : N < 300) : ∃ C1, HD b C1 (N + 1) (N + 1) (kd_app (kd_step S)) := by
  have hnow := h.now
  have hok := hnow.ok
  obtain ⟨-, h2, h3, h4, h5, h6, h7, h8, h9⟩ := h
  obtain ⟨hd, hd8, hde⟩ := (h7 N (Nat.le_refl _)).2
  have e68 : S 6 8 = nI hd := by rw [h5 8 (by omega)]; exact hde
  have hstep := hnow.step hd e68 (by omega)
  have hkp := kp_step hd (by omega) S e68 hok.2.1
  have hfr := fr_step S
  have kq : (km_step (ns_S (ns_it N b))) 18 = ns_st (ns_it N b) ∧ (km_step (ns_S (ns_it N b))) 16 8 = ns_w (ns_it N b) ∧ (km_step (ns_S (ns_it N b))) 16 9 = ns_b (ns_it N b) := ns_eq (ns_S (ns_it N b))
  generalize km_step (ns_S (ns_it N b)) = K at hstep kq
  generalize kd_step S = T at hstep hkp hfr ⊢
  have t24 : T 2 4 = nI N := by rw [hfr 2 (by omega) (by omega) (by omega) (by omega) (by omega) (by omega)]; exact h4
  have t11 : T 11 = S 11 := hfr 11 (by omega) (by omega) (by omega) (by omega) (by omega) (by omega)
  have t12 : T 12 = S 12 := hfr 12 (by omega) (by omega) (by omega) (by omega) (by omega) (by omega)
  have t13 : T 13 = S 13 := hfr 13 (by omega) (by omega) (by omega) (by omega) (by omega) (by omega)
  have t7 : T 7 = S 7 := hfr 7 (by omega) (by omega) (by omega) (by omega) (by omega) (by omega)
  obtain ⟨g1, g2, g3, g4, g5⟩ := hstep
  have gI : K 18 = ns_it (N + 1) b := by rw [ns_it_s]; exact kq.1
  have hrs : rs T (ns_S (ns_it (N + 1) b)) := rs.cong (D := T) (M := K) ⟨g1, g2, g3, g4⟩ (fun _ _ => rfl) (fun _ _ => rfl) rfl rfl rfl (by rw [gI]; rfl)
  obtain ⟨X1, X2, x5, xw, x0, x1⟩ := g5.split
  rw [kq.2.1, kq.2.2] at xw
  have o := ap_o hN t24
  have f13 : T 1 3 = S 1 3 := by
    rcases hkp with q | ⟨x, q1, q2, q3⟩
    · exact q.2.2 3 (by omega)
    · exact q3 3 (by omega)
  have f15 : T 1 5 = S 1 5 := by
    rcases hkp with q | ⟨x, q1, q2, q3⟩
    · exact q.2.2 5 (by omega)
    · exact q3 5 (by omega)
  have f8 : ∀ i, i < hd → T 8 i = S 8 i := by
    intro i hi
    rcases hkp with q | ⟨x, q1, q2, q3⟩
    · rw [q.1]
    · rw [q1, pk_un (by omega)]
  obtain ⟨hd2, hdl, hdu, hdt⟩ : ∃ hd2 : Nat, hd ≤ hd2 ∧ hd2 ≤ 8 + (N + 1) ∧ T 6 8 = nI hd2 := by
    rcases hkp with q | ⟨x, q1, q2, q3⟩
    · exact ⟨hd, by omega, by omega, by rw [q.2.1]; exact e68⟩
    · exact ⟨hd + 1, by omega, by omega, q2⟩
  have m_old : ∀ t k, t ≤ N → k < 9 → (kd_app T) 11 (t * 9 + k) = S 11 (t * 9 + k) := by
    intro t k ht hk
    rw [ap_11 hN t24, if_neg (by omega), t11]
  have m_new : ∀ k, k < 9 → (kd_app T) 11 ((N + 1) * 9 + k) = T 6 k := by
    intro k hk
    rw [ap_11 hN t24, if_pos (by omega), show (N + 1) * 9 + k - (N + 1) * 9 = k by omega]
  have a12 := ap_12 hN t24
  have a13 := ap_13 hN t24
  have a2 := ap_2 t24
  generalize kd_app T = S1 at a12 a13 a2 o m_old m_new ⊢
  refine ⟨cx C (2 * N) X1 X2, Nat.le_refl _, by omega, a2.1, a2.2, fun k hk => ?_, ⟨?_, fun j hj => ?_⟩, fun t ht => ?_, fun t ht => ?_, fun t ht => ?_⟩
  · rw [o 6 (by omega) (by omega) (by omega) (by omega), m_new k hk]
  · rw [o 5 (by omega) (by omega) (by omega) (by omega), x5]
    show X2 = cx C (2 * N) X1 X2 (2 * (N + 1))
    unfold cx
    rw [if_neg (by omega), if_neg (by omega)]
  · unfold hO
    rw [a12, a13]
    by_cases j0 : j = 2 * N
    · subst j0
      rw [if_pos rfl, if_pos rfl]
      have c0 : cx C (2 * N) X1 X2 (2 * N) = S 5 := by unfold cx; rw [if_pos (by omega)]; exact h6.1.symm
      have c1 : cx C (2 * N) X1 X2 (2 * N + 1) = X1 := by unfold cx; rw [if_neg (by omega), if_pos rfl]
      rw [c0, c1]
      rcases x0 with ⟨e1, e2⟩ | ⟨p, v, hp, e1, e2, e3⟩
      · exact Or.inl ⟨e1, e2⟩
      · exact Or.inr ⟨p, v, hp, e1, e2, by rw [if_pos (by omega)]; exact e3⟩
    · rw [if_neg j0, if_neg j0]
      by_cases j1 : j = 2 * N + 1
      · subst j1
        rw [if_pos rfl, if_pos rfl]
        have c1 : cx C (2 * N) X1 X2 (2 * N + 1) = X1 := by unfold cx; rw [if_neg (by omega), if_pos rfl]
        have c2 : cx C (2 * N) X1 X2 (2 * N + 1 + 1) = X2 := by unfold cx; rw [if_neg (by omega), if_neg (by omega)]
        rw [c1, c2]
        rcases x1 with ⟨e1, e2⟩ | ⟨p, v, hp, e1, e2, e3⟩
        · exact Or.inl ⟨e1, e2⟩
        · exact Or.inr ⟨p, v, hp, e1, e2, by rw [if_pos (by omega)]; exact e3⟩
      · rw [if_neg j1, if_neg j1, t12, t13]
        have c0 : cx C (2 * N) X1 X2 j = C j := by unfold cx; rw [if_pos (by omega)]
        have c1 : cx C (2 * N) X1 X2 (j + 1) = C (j + 1) := by unfold cx; rw [if_pos (by omega)]
        rw [c0, c1]
        rcases h6.2 j (by omega) with q | ⟨p, v, hp, e1, e2, e3⟩
        · exact Or.inl q
        · exact Or.inr ⟨p, v, hp, e1, e2, by rw [e3, if_pos (by omega), if_pos (by omega)]⟩
  · by_cases htn : t = N + 1
    · subst htn
      refine ⟨hrs.cong (fun a _ => ?_) (fun k hk => (dT_6 _ _ _ k).trans (m_new k hk)) ((dT_o _ _ _ 1 (by omega) (by omega)).trans (o 1 (by omega) (by omega) (by omega) (by omega))) ((dT_o _ _ _ 7 (by omega) (by omega)).trans (o 7 (by omega) (by omega) (by omega) (by omega))) ((dT_o _ _ _ 8 (by omega) (by omega)).trans (o 8 (by omega) (by omega) (by omega) (by omega))) rfl, hd2, hdu, by rw [m_new 8 (by omega)]; exact hdt⟩
      rw [dT_5, x5]
      unfold cx
      rw [if_neg (by omega), if_neg (by omega)]
    · obtain ⟨q, hq, q1, q2⟩ := h7 t (by omega)
      obtain ⟨xx, yy, y1, y2, y3, y4⟩ := h9 t (by omega)
      refine ⟨?_, hq, q1, by rw [m_old t 8 (by omega) (by omega)]; exact q2⟩
      have cc : cx C (2 * N) X1 X2 (2 * t) = C (2 * t) := by unfold cx; rw [if_pos (by omega)]
      have e1 : S1 1 3 = S 1 3 := by rw [o 1 (by omega) (by omega) (by omega) (by omega)]; exact f13
      have e2 : S1 1 5 = S 1 5 := by rw [o 1 (by omega) (by omega) (by omega) (by omega)]; exact f15
      have e3 : S1 7 = S 7 := by rw [o 7 (by omega) (by omega) (by omega) (by omega)]; exact t7
      refine q.cong3 (by rw [dT_5, dT_5, cc]) (fun k hk => by rw [dT_6, dT_6]; exact m_old t k (by omega) hk) (by rw [dT_o _ _ _ 1 (by omega) (by omega), dT_o _ _ _ 1 (by omega) (by omega)]; exact e1) (by rw [dT_o _ _ _ 1 (by omega) (by omega), dT_o _ _ _ 1 (by omega) (by omega)]; exact e2) (by rw [dT_o _ _ _ 7 (by omega) (by omega), dT_o _ _ _ 7 (by omega) (by omega)]; exact e3) (fun hx hx1 hx2 i hi => ?_)
      rw [dT_o _ _ _ 8 (by omega) (by omega), dT_o _ _ _ 8 (by omega) (by omega), o 8 (by omega) (by omega) (by omega) (by omega)]
      refine f8 i ?_
      rw [dT_6, y1] at hx1
      have z1 : xx = hx := (nI_eq (by omega) (by omega)).mp hx1
      have z2 : yy = hd := by
        rw [hde] at y2
        exact ((nI_eq (by omega) (by omega)).mp y2).symm
      omega
  · unfold hP
    rw [a12, a12]
    by_cases htn : t = N
    · subst htn
      rw [if_pos rfl, if_neg (by omega), if_pos rfl]
      exact xw
    · rw [if_neg (by omega), if_neg (by omega), if_neg (by omega), if_neg (by omega), t12]
      exact h8 t (by omega)
  · rw [m_new 8 (by omega)]
    by_cases htn : t = N + 1
    · subst htn
      exact ⟨hd2, hd2, by rw [m_new 8 (by omega)]; exact hdt, hdt, Nat.le_refl _, hdu⟩
    · obtain ⟨xx, yy, y1, y2, y3, y4⟩ := h9 t (by omega)
      refine ⟨xx, hd2, by rw [m_old t 8 (by omega) (by omega)]; exact y1, hdt, ?_, hdu⟩
      have z2 : yy = hd := by
        rw [hde] at y2
        exact ((nI_eq (by omega) (by omega)).mp y2).symm
      omega
end
section
/-! a new history begins -/
theorem sho_8 (s : Nat) (hs : 0 < s) : ∀ (m k : Nat) (S : lm_S) (i : Nat), s + k + m ≤ 308 → (kd_sho s m k S) 8 i = if k ≤ i ∧ i < k + m then S 8 (s + i) else S 8 i
  | 0, k, S, i, _ => by
    rw [if_neg (by omega)]
    rfl
  | m + 1, k, S, i, h => by
    rw [kd_sho, nI_add, nI_clamp (by omega), nI_clamp (by omega), sho_8 s hs m (k + 1) _ i (by omega)]
    by_cases h1 : i = k
    · subst h1
      rw [if_neg (by omega), if_pos (by omega), ls_i]
    · by_cases h2 : k + 1 ≤ i ∧ i < k + 1 + m
      · rw [if_pos h2, if_pos (by omega), ls_n _ _ (by omega)]
      · rw [if_neg h2, if_neg (by omega), ls_n _ _ h1]
theorem sho_o (s : Nat) : ∀ (m k : Nat) (S : lm_S) (i : Nat), i ≠ 8 → (kd_sho s m k S) i = S i
  | 0, _, _, _, _ => rfl
  | m + 1, k, S, i, hi => by rw [kd_sho, sho_o s m _ _ i hi, ls_o _ hi]
theorem drop_o (hd : Nat) (S : lm_S) (i : Nat) (h1 : i ≠ 1) (h6 : i ≠ 6) (h8 : i ≠ 8) : (kd_drop hd S) i = S i := by
  unfold kd_drop
  split
  · rfl
  · unfold kd_dt
    rw [ls_o _ h6, ls_o _ h1, sho_o _ _ _ _ _ h8]
/-- at most eight outputs are held then -/
theorem rs.drop {D M : lm_S} (h : rs D M) (hd : Nat) (hD : D 6 8 = nI hd) (h308 : hd ≤ 308) : rs (kd_drop hd D) M ∧ ∃ h8 : Nat, h8 ≤ 8 ∧ (kd_drop hd D) 6 8 = nI h8 := by
  by_cases hq : hd ≤ 8
  · have e : kd_drop hd D = D := by unfold kd_drop; rw [if_pos hq]
    rw [e]
    exact ⟨h, hd, hq, hD⟩
  · obtain ⟨r1, r2, r3, tk, fd, hd2, dr, i1, i2, i3, i4, i5, i6, i7, i8, i9, i10, i11, i12⟩ := h
    have e0 : hd2 = hd := by
      rw [hD] at i7
      exact ((nI_eq (by omega) (by omega)).mp i7).symm
    subst e0
    have eE : kd_drop hd2 D = kd_dt (hd2 - 8) (kd_sho (hd2 - 8) 8 0 D) := by unfold kd_drop; rw [if_neg hq]
    have o : ∀ i, i ≠ 1 → i ≠ 6 → i ≠ 8 → (kd_drop hd2 D) i = D i := drop_o hd2 D
    have e6 : ∀ k, k ≠ 8 → (kd_drop hd2 D) 6 k = D 6 k := by
      intro k hk
      rw [eE]
      unfold kd_dt
      rw [ls_n _ _ hk, ls_o _ (by omega), sho_o _ _ _ _ _ (by omega)]
    have e68 : (kd_drop hd2 D) 6 8 = nI 8 := by
      rw [eE]
      unfold kd_dt
      rw [ls_i]
      rfl
    have e13 : (kd_drop hd2 D) 1 3 = D 1 3 := by
      rw [eE]
      unfold kd_dt
      rw [ls_o _ (by omega), ls_n _ _ (by omega), sho_o _ _ _ _ _ (by omega)]
    have e15 : (kd_drop hd2 D) 1 5 = nI (dr + (hd2 - 8)) := by
      rw [eE]
      unfold kd_dt
      rw [ls_o _ (by omega), ls_i, sho_o _ _ _ _ _ (by omega), i8, nI_add]
    have e8 : ∀ i, i < 8 → (kd_drop hd2 D) 8 i = D 8 (hd2 - 8 + i) := by
      intro i hi
      rw [eE]
      unfold kd_dt
      rw [ls_o _ (by omega), ls_o _ (by omega), sho_8 _ (by omega) _ _ _ _ (by omega), if_pos (by omega)]
    generalize kd_drop hd2 D = E at o e6 e68 e13 e15 e8 ⊢
    refine ⟨⟨?_, fun k hk => ?_, r3, tk, fd, 8, dr + (hd2 - 8), ?_, ?_, i3, i4, i5, ?_, e68, e15, ?_, fun k hk hk2 => ?_, fun q => by omega, by omega⟩, 8, Nat.le_refl _, e68⟩
    · rw [o 5 (by omega) (by omega) (by omega)]; exact r1
    · rw [e6 k (by omega)]; exact r2 k hk
    · rw [e6 7 (by omega)]; exact i1
    · rw [e13]; exact i2
    · rw [o 7 (by omega) (by omega) (by omega)]; exact i6
    · rw [i9, show dr + (hd2 - 8) + 8 = dr + hd2 by omega]
    · rw [e8 _ (by omega), show hd2 - 8 + (8 - 1 - k) = hd2 - 1 - k by omega]
      exact i10 k hk (by omega)
/-- the history of one moment -/
theorem HD.begin {b : Nat → Int32} {S : lm_S} (h : rs S (ns_S b)) (h8 : ∃ hd : Nat, hd ≤ 8 ∧ S 6 8 = nI hd) : HD b (fun _ => S 5) 0 0 (kd_begin S) := by
  obtain ⟨hd, hd8, hde⟩ := h8
  have e11 : ∀ k, k < 9 → (kd_begin S) 11 (0 * 9 + k) = S 6 k := by
    intro k hk
    unfold kd_begin kd_keep
    rw [va_up_self, pk_cpy_in (by rw [ls_n _ _ (by omega), ls_i]; exact Nat.zero_le _) (by rw [ls_n _ _ (by omega), ls_i, show ((0 : Int32) * 9).toNatClampNeg = 0 from by decide, show (9 : Int32).toNatClampNeg = 9 from by decide]; omega), ls_o _ (by omega), ls_o _ (by omega), ls_n _ _ (by omega), ls_i, show ((0 : Int32) * 9).toNatClampNeg = 0 from by decide, show (0 : Int32).toNatClampNeg = 0 from by decide]
    congr 1
    omega
  have o : ∀ i, i ≠ 2 → i ≠ 11 → (kd_begin S) i = S i := by
    intro i h2 h11
    unfold kd_begin kd_keep
    rw [va_up_ne _ _ h11, ls_o _ h2, ls_o _ h2]
  have e23 : (kd_begin S) 2 3 = nI 0 := by
    unfold kd_begin kd_keep
    rw [va_up_ne _ _ (by omega), ls_n _ _ (by omega), ls_i]
    rfl
  have e24 : (kd_begin S) 2 4 = nI 0 := by
    unfold kd_begin kd_keep
    rw [va_up_ne _ _ (by omega), ls_i]
    rfl
  generalize kd_begin S = E at e11 o e23 e24 ⊢
  refine ⟨Nat.le_refl _, by omega, e23, e24, fun k hk => ?_, ⟨o 5 (by omega) (by omega), fun j hj => by omega⟩, fun t ht => ?_, fun t ht => by omega, fun t ht => ?_⟩
  · rw [o 6 (by omega) (by omega), e11 k hk]
  · have e : t = 0 := by omega
    subst e
    refine ⟨h.cong (fun a _ => by rw [dT_5]) (fun k hk => by rw [dT_6]; exact e11 k hk) (by rw [dT_o _ _ _ 1 (by omega) (by omega)]; exact o 1 (by omega) (by omega)) (by rw [dT_o _ _ _ 7 (by omega) (by omega)]; exact o 7 (by omega) (by omega)) (by rw [dT_o _ _ _ 8 (by omega) (by omega)]; exact o 8 (by omega) (by omega)) rfl, hd, by omega, by rw [e11 8 (by omega)]; exact hde⟩
  · have e : t = 0 := by omega
    subst e
    exact ⟨hd, hd, by rw [e11 8 (by omega)]; exact hde, by rw [e11 8 (by omega)]; exact hde, Nat.le_refl _, by omega⟩
end
section
/-! stops and watches -/
theorem hs_1 (l : Nat) (a : Int32) (S : lm_S) : ∀ (n k : Nat), km_hs l a S n k = 0 ∨ km_hs l a S n k = 1
  | 0, _ => Or.inl rfl
  | n + 1, k => by
    rw [km_hs]
    split
    · exact Or.inr rfl
    · exact hs_1 l a S n (k + 1)
theorem hs_iff (l : Nat) (a : Int32) (S : lm_S) : ∀ (n k : Nat), ¬ km_hs l a S n k = 0 ↔ ∃ i, k ≤ i ∧ i < k + n ∧ S l i = a
  | 0, k => ⟨fun h => absurd rfl h, fun ⟨i, h1, h2, _⟩ => by omega⟩
  | n + 1, k => by
    rw [km_hs]
    by_cases h : S l k = a
    · rw [if_pos h]
      exact ⟨fun _ => ⟨k, Nat.le_refl _, by omega, h⟩, fun _ => by decide⟩
    · rw [if_neg h, hs_iff l a S n (k + 1)]
      constructor
      · rintro ⟨i, h1, h2, h3⟩
        exact ⟨i, by omega, by omega, h3⟩
      · rintro ⟨i, h1, h2, h3⟩
        refine ⟨i, ?_, by omega, h3⟩
        rcases Nat.lt_or_ge k i with q | q
        · omega
        · have : i = k := by omega
          subst this
          exact absurd h3 h
/-- list l with count in field f of the reference; marks m with count in object s of the desk -/
def mk (l f m s c : Nat) (S : lm_S) : Prop := c ≤ 4 ∧ S 16 f = nI c ∧ S s 1 = nI c ∧ (∀ k, k < c → ∃ p : Nat, p < 512 ∧ S l k = nI p) ∧ (∀ i j, i < c → j < c → S l i = S l j → i = j) ∧ ∀ p : Nat, p < 512 → (S m p = 1 ∧ ∃ k, k < c ∧ S l k = nI p) ∨ (S m p = 0 ∧ ∀ k, k < c → ¬ S l k = nI p)
theorem isA_of {x : Int32} (h : ¬ kd_isA x = 0) : ∃ p : Nat, p < 512 ∧ x = nI p := vp_in_of (kd_isA_in h) (by decide)
/-- both find the same -/
theorem mk.has {l f m s c : Nat} {S : lm_S} (h : mk l f m s c S) (x : Int32) : kd_has m x S = km_hs l x S c 0 := by
  obtain ⟨h1, h2, h3, h4, h5, h6⟩ := h
  have key : kd_has m x S = 0 ↔ km_hs l x S c 0 = 0 := by
    have g := hs_iff l x S c 0
    constructor
    · intro hz
      refine Classical.byContradiction (fun q => ?_)
      obtain ⟨i, -, hi, e⟩ := g.mp q
      obtain ⟨p, hp, ep⟩ := h4 i (by omega)
      rw [e] at ep
      subst ep
      unfold kd_has at hz
      rw [if_neg (isA_p hp), nI_clamp (by omega)] at hz
      rcases h6 p hp with ⟨a, _⟩ | ⟨_, b⟩
      · rw [a, if_neg (by decide)] at hz
        exact absurd hz (by decide)
      · exact b i (by omega) e
    · intro hz
      unfold kd_has
      by_cases hA : kd_isA x = 0
      · rw [if_pos hA]
      · rw [if_neg hA]
        obtain ⟨p, hp, rfl⟩ := isA_of hA
        rw [nI_clamp (by omega)]
        rcases h6 p hp with ⟨_, k, hk, e⟩ | ⟨b, _⟩
        · exact absurd hz (g.mpr ⟨k, by omega, by omega, e⟩)
        · rw [b, if_pos rfl]
  have d01 : kd_has m x S = 0 ∨ kd_has m x S = 1 := by
    unfold kd_has
    split
    · exact Or.inl rfl
    · split
      · exact Or.inl rfl
      · exact Or.inr rfl
  rcases d01 with a | a
  · rw [a, key.mp a]
  · rcases hs_1 l x S c 0 with b | b
    · rw [key.mpr b] at a
      exact absurd a (by decide)
    · rw [a, b]
theorem mk.cong {l f m s c : Nat} {S S1 : lm_S} (h : mk l f m s c S) (hl : S1 l = S l) (hf : S1 16 f = S 16 f) (hm : S1 m = S m) (hs : S1 s 1 = S s 1) : mk l f m s c S1 := by
  obtain ⟨h1, h2, h3, h4, h5, h6⟩ := h
  refine ⟨h1, by rw [hf]; exact h2, by rw [hs]; exact h3, by rw [hl]; exact h4, by rw [hl]; exact h5, by rw [hl, hm]; exact h6⟩
end
section
/-! valid images; the two runs -/
theorem nI_all (x : Int32) : ∃ n : Nat, x = nI n := ⟨x.toBitVec.toNat, Int32.toBitVec_inj.mp (by
  show x.toBitVec = BitVec.ofNat 32 x.toBitVec.toNat
  rw [BitVec.ofNat_toNat, BitVec.setWidth_eq])⟩
def vQ (n : Nat → Int32) : Prop := rl_v (ns_S n) ∧ ∃ w : Nat, w ≤ 40 ∧ n 519 = nI w
/-- a desk for an image -/
theorem vQ.desk {n : Nat → Int32} (h : vQ n) : ∃ (D : lm_S) (hd : Nat), rs D (ns_S n) ∧ D 6 8 = nI hd ∧ hd ≤ 8 := by
  obtain ⟨hv, w, hw, e⟩ := h
  obtain ⟨pu, ep⟩ := nI_all (n 560)
  obtain ⟨hd, dr, h1, h2, h3⟩ : ∃ hd dr : Nat, hd ≤ 8 ∧ dr + hd = pu ∧ (hd < 8 → dr = 0) := by
    by_cases q : pu < 8
    · exact ⟨pu, 0, by omega, by omega, fun _ => rfl⟩
    · exact ⟨8, pu - 8, by omega, by omega, fun z => by omega⟩
  refine ⟨fun i k => if i = 5 then n k else if i = 6 then (if k = 7 then nI 0 else if k = 8 then nI hd else n (512 + k)) else if i = 1 then (if k = 3 then nI w else nI dr) else if i = 7 then n (520 + k) else n (561 + (hd - 1 - k)), hd, ⟨fun a _ => rfl, fun k hk => ?_, hv, 0, w, hd, dr, rfl, rfl, by omega, hw, ?_, fun k hk => ?_, rfl, rfl, ?_, fun k hk hk2 => ?_, h3, by omega⟩, rfl, h1⟩
  · show (if k = 7 then nI 0 else if k = 8 then nI hd else n (512 + k)) = n (512 + k)
    rw [if_neg (by omega), if_neg (by omega)]
  · exact e
  · show n (520 + (0 + k)) = n (520 + k)
    rw [Nat.zero_add]
  · show n 560 = nI (dr + hd)
    rw [h2]; exact ep
  · show n (561 + (hd - 1 - (hd - 1 - k))) = n (561 + k)
    rw [show hd - 1 - (hd - 1 - k) = k by omega]
theorem vQ_km : km_Q vQ := by
  intro S hS
  obtain ⟨hv, w, hw, e⟩ := hS
  refine ⟨⟨hv.2.2, ?_, kb_in (hv.2.1 3 (by omega)), w, hw, e⟩, ?_⟩
  · unfold km_i
    obtain ⟨j, hj, ej⟩ := pk_andE (S 18 517 + 1) (m := 511) 9 (by decide)
    rw [ej, nI_clamp (by omega)]
    exact kb_in (hv.1 j hj)
  · obtain ⟨D, hd, h1, h2, h3⟩ := vQ.desk (n := S 18) ⟨hv, w, hw, e⟩
    have g := h1.step hd h2 (by omega)
    have kq := ns_eq S
    have kn := ns_eq (ns_S (S 18))
    have e18 : (km_step S) 18 = (km_step (ns_S (S 18))) 18 := by rw [kq.1, kn.1]; rfl
    generalize km_step (ns_S (S 18)) = K at g e18
    rw [e18]
    obtain ⟨-, -, g3, ⟨tk, fd, _, _, _, _, i3, i4, i5, _⟩, -⟩ := g
    exact ⟨g3, fd - tk, by omega, i5⟩
theorem rs.q {D : lm_S} {n : Nat → Int32} (h : rs D (ns_S n)) : vQ n := by
  obtain ⟨-, -, r3, tk, fd, hd, dr, i1, i2, i3, i4, i5, _⟩ := h
  exact ⟨r3, fd - tk, by omega, i5⟩
/-- the reference's side -/
def HM (b : Nat → Int32) (a N : Nat) (M : lm_S) : Prop := M 17 = b ∧ M 18 = ns_it a b ∧ M 16 2 = nI a ∧ M 16 3 = nI N
theorem has_c {m : Nat} {S S1 : lm_S} (h : S1 m = S m) (x : Int32) : kd_has m x S1 = kd_has m x S := by
  unfold kd_has
  rw [h]
theorem hs_c {l : Nat} {S S1 : lm_S} (h : S1 l = S l) (a : Int32) : ∀ n k, km_hs l a S1 n k = km_hs l a S n k
  | 0, _ => rfl
  | n + 1, k => by rw [km_hs, km_hs, h, hs_c h a n (k + 1)]
theorem HD.an {b : Nat → Int32} {C : Nat → Nat → Int32} {a N : Nat} {S : lm_S} (h : HD b C a N S) : kd_a S = a ∧ kd_n S = N ∧ kd_an (kd_a S) (kd_n S) S := by
  obtain ⟨h1, h2, h3, h4, _⟩ := h
  have e1 : kd_a S = a := by unfold kd_a; rw [h3, nI_clamp (by omega)]
  have e2 : kd_n S = N := by unfold kd_n; rw [h4, nI_clamp (by omega)]
  refine ⟨e1, e2, ?_⟩
  rw [e1, e2]
  exact ⟨h3, h4, h1, h2⟩
/-- a step on: to the next moment, or a new one -/
theorem HD.on {b : Nat → Int32} {C : Nat → Nat → Int32} {a N : Nat} {S : lm_S} (h : HD b C a N S) : (a < N ∧ kd_sr S = 1 ∧ HD b C (a + 1) N (kd_so S)) ∨ (a = N ∧ S 6 6 = 0 ∧ N < 300 ∧ kd_sr S = 1 ∧ ∃ C1, HD b C1 (N + 1) (N + 1) (kd_so S)) ∨ (a = N ∧ ¬ (S 6 6 = 0 ∧ N < 300) ∧ kd_sr S = 0 ∧ kd_so S = S) := by
  obtain ⟨e1, e2, -⟩ := h.an
  unfold kd_sr kd_so kd_sor kd_sos
  rw [e1, e2]
  by_cases h1 : a < N
  · refine Or.inl ⟨h1, by rw [if_pos h1], ?_⟩
    rw [if_pos h1]
    exact h.move (a + 1) (by omega)
  · have hN : a = N := by have := h.1; omega
    subst hN
    rw [if_neg h1, if_neg h1]
    by_cases h6 : S 6 6 = 0
    · by_cases h3 : a < 300
      · refine Or.inr (Or.inl ⟨rfl, h6, h3, by rw [if_pos h6, if_pos h3], ?_⟩)
        rw [if_pos h6, if_pos h3]
        exact h.append h3
      · exact Or.inr (Or.inr ⟨rfl, fun q => h3 q.2, by rw [if_pos h6, if_neg h3], by rw [if_pos h6, if_neg h3]⟩)
    · exact Or.inr (Or.inr ⟨rfl, fun q => h6 q.1, by rw [if_neg h6], by rw [if_neg h6]⟩)
theorem so_o (S : lm_S) (i : Nat) (h1 : i ≠ 1) (h2 : i ≠ 2) (h5 : i ≠ 5) (h6 : i ≠ 6) (h8 : i ≠ 8) (h9 : i ≠ 9) (h10 : i ≠ 10) (h11 : i ≠ 11) (h12 : i ≠ 12) (h13 : i ≠ 13) : (kd_so S) i = S i := by
  unfold kd_so kd_sos
  split
  · exact mv_o _ _ _ _ h2 h5 h6 h13
  · split
    · split
      · unfold kd_app kd_keep kd_app4
        rw [va_up_ne _ _ h11, ls_o _ h2, ls_o _ h2, ls_o _ h13, ls_o _ h12, ls_o _ h13, ls_o _ h12]
        exact fr_step S i h1 h5 h6 h8 h9 h10
      · rfl
    · rfl
/-- the invariant for the desk's run -/
def dJ (b : Nat → Int32) (S : lm_S) : Prop := ∃ C a N, HD b C a N S
theorem dJ_J (b : Nat → Int32) : kd_J (dJ b) := by
  rintro S ⟨C, a, N, h⟩
  refine ⟨h.an.2.2, h.now.ok, ?_⟩
  rcases h.on with ⟨_, _, g⟩ | ⟨_, _, _, _, C1, g⟩ | ⟨_, _, _, g⟩
  · exact ⟨C, _, _, g⟩
  · exact ⟨C1, _, _, g⟩
  · rw [g]
    exact ⟨C, a, N, h⟩
theorem HM.rs {b : Nat → Int32} {a N : Nat} {M : lm_S} (h : HM b a N M) (hN : N < 300 ∨ a < N) (haN : a ≤ N) (h3 : N ≤ 300) : HM b (a + 1) (if a < N then N else a + 1) (km_rs M) := by
  obtain ⟨h17, h18, h2, h3m⟩ := h
  have e18 : (km_rs M) 18 = ns_it (a + 1) b := by
    rw [km_rs_18, (ns_eq M).1, h18, ns_it_s]
  have f2 : (km_step M) 16 2 = nI a := by rw [← h2]; exact (gq_step M).2 2 (by omega) (by omega)
  have f3 : (km_step M) 16 3 = nI N := by rw [← h3m]; exact (gq_step M).2 3 (by omega) (by omega)
  have f17 : (km_step M) 17 = b := by rw [← h17]; exact (gq_step M).1 17 (by omega) (by omega)
  unfold HM
  rw [e18]
  unfold km_rs km_rs2
  generalize km_step M = K at f2 f3 f17
  rw [f2, nI_1, ls_i, ls_n _ _ (by omega), f3]
  by_cases h1 : a < N
  · rw [if_pos (show nI (a + 1) ≤ nI N from nI_le (by omega) (by omega)), if_pos h1]
    exact ⟨by rw [ls_o _ (by omega)]; exact f17, rfl, ls_i _ _ _ _, by rw [ls_n _ _ (by omega)]; exact f3⟩
  · rw [if_neg (show ¬ nI (a + 1) ≤ nI N from nI_ge (by omega) (by omega)), if_neg h1]
    exact ⟨by rw [ls_o _ (by omega), ls_o _ (by omega)]; exact f17, rfl, by rw [ls_n _ _ (by omega), ls_i], ls_i _ _ _ _⟩
/-- RUN: both make the same steps -/
theorem run_sim (b : Nat → Int32) (c : Nat) (hx : Int32 → Int32) : ∀ (m k : Nat) (D M : lm_S) (C : Nat → Nat → Int32) (a N : Nat), HD b C a N D → HM b a N M → (∀ x, kd_has 14 x D = hx x) → (∀ x, km_hs 19 x M c 0 = hx x) → (kd_rn m k D).1 = (km_rn c m k M).1 ∧ ∃ C1 a1 N1, HD b C1 a1 N1 (kd_rn m k D).2 ∧ HM b a1 N1 (km_rn c m k M).2
  | 0, k, D, M, C, a, N, hD, hM, _, _ => ⟨rfl, C, a, N, hD, hM⟩
  | m + 1, k, D, M, C, a, N, hD, hM, h1, h2 => by
    have hnow := hD.now
    have e5 : D 6 5 = M 18 517 := by rw [hM.2.1]; exact hnow.2.1 5 (by omega)
    have e6 : D 6 6 = M 18 518 := by rw [hM.2.1]; exact hnow.2.1 6 (by omega)
    have haN := hD.1
    have hN3 := hD.2.1
    rw [kd_rn, km_rn]
    by_cases hs : 0 < k ∧ ¬ kd_has 14 (D 6 5) D = 0
    · have hn : ¬ (km_m1 c k M ∧ km_m2 M) := by
        rintro ⟨q | q, _⟩
        · omega
        · rw [h2, ← h1, ← e5] at q
          exact hs.2 q
      rw [if_pos hs, if_neg hn]
      exact ⟨rfl, C, a, N, hD, hM⟩
    · rw [if_neg hs]
      have hm1 : km_m1 c k M := by
        by_cases hk : k = 0
        · exact Or.inl hk
        · refine Or.inr ?_
          rw [h2, ← h1, ← e5]
          exact Classical.byContradiction (fun q => hs ⟨by omega, q⟩)
      have l1 : ∀ S1, S1 14 = D 14 → ∀ x, kd_has 14 x S1 = hx x := fun S1 e x => by rw [has_c e]; exact h1 x
      have l2 : ∀ x, km_hs 19 x (km_rs M) c 0 = hx x := fun x => by
        rw [hs_c (S := M)]
        · exact h2 x
        · unfold km_rs km_rs2
          have g := (gq_step M).1 19 (by omega) (by omega)
          split
          · rw [ls_o _ (by omega)]; exact g
          · rw [ls_o _ (by omega), ls_o _ (by omega)]; exact g
      have so14 : (kd_so D) 14 = D 14 := so_o D 14 (by omega) (by omega) (by omega) (by omega) (by omega) (by omega) (by omega) (by omega) (by omega) (by omega)
      rcases hD.on with ⟨q1, q2, q3⟩ | ⟨q1, q2, q3, q4, C1, q5⟩ | ⟨q1, q2, q3, q4⟩
      · have hm2 : km_m2 M := Or.inl (by rw [hM.2.2.1, hM.2.2.2]; exact nI_lt q1 (by omega))
        rw [if_neg (by rw [q2]; decide), if_pos ⟨hm1, hm2⟩]
        have g := hM.rs (Or.inr q1) haN hN3
        rw [if_pos q1] at g
        exact run_sim b c hx m (k + 1) _ _ C (a + 1) N q3 g (l1 _ so14) l2
      · subst q1
        have hm2 : km_m2 M := Or.inr ⟨by rw [← e6]; exact q2, by rw [hM.2.2.2]; exact nI_ge (b := 300) q3 (by omega)⟩
        rw [if_neg (by rw [q4]; decide), if_pos ⟨hm1, hm2⟩]
        have g := hM.rs (Or.inl q3) haN hN3
        rw [if_neg (by omega)] at g
        exact run_sim b c hx m (k + 1) _ _ C1 (a + 1) (a + 1) q5 g (l1 _ so14) l2
      · subst q1
        have hm2 : ¬ km_m2 M := by
          rintro (z | ⟨z1, z2⟩)
          · rw [hM.2.2.1, hM.2.2.2] at z
            exact absurd ((nI_ltI (by omega) (by omega)).mp z) (by omega)
          · rw [hM.2.2.2] at z2
            refine q2 ⟨by rw [e6]; exact z1, ?_⟩
            rcases Nat.lt_or_ge a 300 with y | y
            · exact y
            · exact absurd (nI_le (a := 300) y (by omega)) z2
        rw [if_pos q3, if_neg (fun z => hm2 z.2), q4]
        exact ⟨rfl, C, a, a, hD, hM⟩
end
section
/-! the two seeks; wrote -/
theorem kd_has_m1 (m : Nat) (S : lm_S) : kd_has m (-1) S = 0 := by
  unfold kd_has
  rw [if_pos isA_m]
/-- moment t is met -/
def mt (b : Nat → Int32) (hx hy : Int32 → Int32) (t : Nat) : Prop := ¬ hx (ns_it t b 517) = 0 ∨ (¬ ns_w (ns_it t b) < 0 ∧ ¬ hy (ns_w (ns_it t b)) = 0) ∨ (¬ ns_b (ns_it t b) < 0 ∧ ¬ hy (ns_b (ns_it t b)) = 0)
theorem HD.ctr {b : Nat → Int32} {C : Nat → Nat → Int32} {a N : Nat} {S : lm_S} (h : HD b C a N S) (t : Nat) (ht : t ≤ N) : kd_ctr (nI t) S = ns_it t b 517 := by
  obtain ⟨h1, h2, h3, h4, h5, h6, h7, h8, h9⟩ := h
  unfold kd_ctr
  rw [if_neg (nI_pos (by omega)), h4, if_pos (nI_le ht (by omega)), show nI t * 9 + 5 = nI (t * 9 + 5) from by rw [show nI t * 9 = nI (t * 9) from pk_mul t 9, show (5 : Int32) = nI 5 from rfl, nI_add], nI_clamp (by omega)]
  have g := (h7 t ht).1.2.1 5 (by omega)
  rw [dT_6] at g
  exact g
theorem HD.pw {b : Nat → Int32} {C : Nat → Nat → Int32} {a N : Nat} {S : lm_S} (h : HD b C a N S) (t : Nat) (ht : t < N) (k : Nat) (hk : k < 2) : kd_pw2 (nI t) (nI k) S = S 12 (2 * t + k) := by
  obtain ⟨h1, h2, h3, h4, h5, h6, h7, h8, h9⟩ := h
  unfold kd_pw2
  rw [if_neg (nI_pos (by omega)), h4, if_pos (nI_lt ht (by omega)), nI_m2, nI_add, nI_clamp (by omega)]
theorem nI_pl {p : Nat} (h : p < 512) : ¬ nI p < 0 := nI_pos (by omega)
theorem HD.met {b : Nat → Int32} {C : Nat → Nat → Int32} {a N : Nat} {S : lm_S} (h : HD b C a N S) {hx hy : Int32 → Int32} (h1 : ∀ x, kd_has 14 x S = hx x) (h2 : ∀ x, kd_has 15 x S = hy x) (t : Nat) (ht : t < N) : ¬ kd_met (nI t) S = 0 ↔ mt b hx hy t := by
  have c := h.ctr t (by omega)
  have p0 := h.pw t ht 0 (by omega)
  have p1 := h.pw t ht 1 (by omega)
  have hy1 : hy (-1) = 0 := by rw [← h2]; exact kd_has_m1 15 S
  have hw := h.2.2.2.2.2.2.2.1 t ht
  unfold kd_met mt
  rw [c, h1, h2, h2, show (0 : Int32) = nI 0 from rfl] at *
  rw [show kd_pw2 (nI t) 1 S = S 12 (2 * t + 1) from p1, p0, Nat.add_zero]
  unfold hP at hw
  generalize ns_it t b = n at hw ⊢
  generalize ns_w n = w at hw ⊢
  generalize ns_b n = wb at hw ⊢
  have m1 : (-1 : Int32) < nI 0 := by decide
  rcases hw with ⟨a1, a2, a3, a4⟩ | ⟨p, hp, a1, a2, a3, a4⟩ | ⟨p, q, hp, hq, a1, a2, a3, a4⟩
  · rw [a1, a2, a3, a4, hy1]
    by_cases z : hx (n 517) = nI 0
    · rw [if_pos z, if_pos rfl, if_pos rfl]
      exact ⟨fun q => absurd rfl q, fun q => by
        rcases q with q | q | q
        · exact absurd z q
        · exact absurd m1 q.1
        · exact absurd m1 q.1⟩
    · rw [if_neg z]
      exact ⟨fun _ => Or.inl z, fun _ => by decide⟩
  · rw [a1, a2, a3, a4, hy1]
    by_cases z : hx (n 517) = nI 0
    · rw [if_pos z, if_pos (c := nI 0 = nI 0) rfl]
      by_cases z2 : hy (nI p) = nI 0
      · rw [if_pos z2]
        exact ⟨fun q => absurd rfl q, fun q => by
          rcases q with q | q | q
          · exact absurd z q
          · exact absurd z2 q.2
          · exact absurd m1 q.1⟩
      · rw [if_neg z2]
        exact ⟨fun _ => Or.inr (Or.inl ⟨nI_pl hp, z2⟩), fun _ => by decide⟩
    · rw [if_neg z]
      exact ⟨fun _ => Or.inl z, fun _ => by decide⟩
  · rw [a1, a2, a3, a4]
    by_cases z : hx (n 517) = nI 0
    · rw [if_pos z]
      by_cases z2 : hy (nI p) = nI 0
      · rw [if_pos z2]
        by_cases z3 : hy (nI q) = nI 0
        · rw [if_pos z3]
          exact ⟨fun q => absurd rfl q, fun q => by
            rcases q with q | q | q
            · exact absurd z q
            · exact absurd z3 q.2
            · exact absurd z2 q.2⟩
        · rw [if_neg z3]
          exact ⟨fun _ => Or.inr (Or.inl ⟨nI_pl hq, z3⟩), fun _ => by decide⟩
      · rw [if_neg z2]
        exact ⟨fun _ => Or.inr (Or.inr ⟨nI_pl hp, z2⟩), fun _ => by decide⟩
    · rw [if_neg z]
      exact ⟨fun _ => Or.inl z, fun _ => by decide⟩
noncomputable def bst (P : Nat → Prop) : Nat → Option Nat
  | 0 => none
  | j + 1 => @ite _ (P j) (Classical.propDecidable _) (some j) (bst P j)
theorem bst_lt (P : Nat → Prop) : ∀ (j t : Nat), bst P j = some t → t < j
  | 0, t, h => by cases h
  | j + 1, t, h => by
    rw [bst] at h
    by_cases q : P j
    · rw [if_pos q] at h
      cases h
      omega
    · rw [if_neg q] at h
      have := bst_lt P j t h
      omega
theorem HD.sk {b : Nat → Int32} {C : Nat → Nat → Int32} {a N : Nat} {S : lm_S} (h : HD b C a N S) {hx hy : Int32 → Int32} (h1 : ∀ x, kd_has 14 x S = hx x) (h2 : ∀ x, kd_has 15 x S = hy x) : ∀ j, j ≤ N → kd_sk S j = bst (mt b hx hy) j
  | 0, _ => rfl
  | j + 1, hj => by
    rw [kd_sk, bst]
    have g := h.met h1 h2 j (by omega)
    by_cases q : mt b hx hy j
    · rw [if_pos q, if_neg (g.mpr q)]
    · rw [if_neg q, if_pos (Classical.byContradiction (fun z => q (g.mp z)))]
      exact h.sk h1 h2 j (by omega)
theorem km_mt_iff {b : Nat → Int32} {c d t : Nat} {S : lm_S} (h18 : S 18 = ns_it t b) {hx hy : Int32 → Int32} (h1 : ∀ x, km_hs 19 x S c 0 = hx x) (h2 : ∀ x, km_hs 20 x S d 0 = hy x) : km_mt c d S (km_step S) ↔ mt b hx hy t := by
  obtain ⟨k1, k2, k3⟩ := ns_eq S
  have k20 : ∀ x, km_hs 20 x (km_step S) d 0 = hy x := fun x => by rw [hs_c ((gq_step S).1 20 (by omega) (by omega))]; exact h2 x
  unfold km_mt mt
  rw [k20, k20, k2, k3, h1, h18]
theorem sl_sim (b : Nat → Int32) (c d : Nat) {hx hy : Int32 → Int32} : ∀ (m t : Nat) (S : lm_S), S 18 = ns_it t b → (∀ x, km_hs 19 x S c 0 = hx x) → (∀ x, km_hs 20 x S d 0 = hy x) → (km_sl c d m t (bst (mt b hx hy) t) S).1 = bst (mt b hx hy) (t + m) ∧ km_fr (km_sl c d m t (bst (mt b hx hy) t) S).2 S
  | 0, t, S, _, _, _ => ⟨rfl, km_fr.rf S⟩
  | m + 1, t, S, h18, h1, h2 => by
    have g := km_mt_iff (c := c) (d := d) h18 h1 h2
    have e18 : (km_step S) 18 = ns_it (t + 1) b := by rw [(ns_eq S).1, h18, ns_it_s]
    have k1 : ∀ x, km_hs 19 x (km_step S) c 0 = hx x := fun x => by rw [hs_c ((gq_step S).1 19 (by omega) (by omega))]; exact h1 x
    have k2 : ∀ x, km_hs 20 x (km_step S) d 0 = hy x := fun x => by rw [hs_c ((gq_step S).1 20 (by omega) (by omega))]; exact h2 x
    have ih := sl_sim b c d m (t + 1) (km_step S) e18 k1 k2
    rw [show t + (m + 1) = t + 1 + m by omega, km_sl]
    by_cases q : mt b hx hy t
    · have e : bst (mt b hx hy) (t + 1) = some t := by rw [bst, if_pos q]
      rw [e] at ih
      rw [if_pos (g.mpr q)]
      exact ⟨ih.1, ih.2.tr (gq_step S)⟩
    · have e : bst (mt b hx hy) (t + 1) = bst (mt b hx hy) t := by rw [bst, if_neg q]
      rw [e] at ih
      rw [if_neg (fun z => q (g.mp z))]
      exact ⟨ih.1, ih.2.tr (gq_step S)⟩
/-- the reference comes to moment t -/
theorem come_M {b : Nat → Int32} {N : Nat} {M : lm_S} (h17 : M 17 = b) (h3 : M 16 3 = nI N) (t : Nat) : HM b t N (km_come t M) := by
  refine ⟨by rw [km_come_17]; exact h17, ?_, ?_, by rw [km_come_16 t 3 M (by omega) (by omega) (by omega)]; exact h3⟩
  · unfold km_come
    rw [ls_o _ (by omega), km_it_18]
    unfold km_back
    rw [va_up_self, h17]
  · unfold km_come
    rw [ls_i]
theorem come_o (t : Nat) (M : lm_S) (i : Nat) (h16 : i ≠ 16) (h18 : i ≠ 18) : (km_come t M) i = M i := by
  unfold km_come
  rw [ls_o _ h16, (km_it_fr t (km_back M)).1 i h16 h18]
  unfold km_back
  rw [va_up_ne _ _ h18]
/-- SEEK: both find the same moment and come there -/
theorem seek_sim {b : Nat → Int32} {C : Nat → Nat → Int32} {a N c d : Nat} {D M : lm_S} (hD : HD b C a N D) (hM : HM b a N M) {hx hy : Int32 → Int32} (h1 : ∀ x, kd_has 14 x D = hx x) (h2 : ∀ x, kd_has 15 x D = hy x) (k1 : ∀ x, km_hs 19 x M c 0 = hx x) (k2 : ∀ x, km_hs 20 x M d 0 = hy x) :
    (km_skp c d a M).1 = kd_sk D a ∧ km_fr (km_skp c d a M).2 (km_come 0 M) ∧ HD b C (km_of a (kd_sk D a)) N (kd_sks a D (kd_sk D a)) ∧ HM b (km_of a (kd_sk D a)) N (km_come (km_of a (kd_sk D a)) (km_skp c d a M).2) := by
  have e18 : (km_come 0 M) 18 = ns_it 0 b := (come_M hM.1 hM.2.2.2 0).2.1
  have j1 : ∀ x, km_hs 19 x (km_come 0 M) c 0 = hx x := fun x => by rw [hs_c (come_o 0 M 19 (by omega) (by omega))]; exact k1 x
  have j2 : ∀ x, km_hs 20 x (km_come 0 M) d 0 = hy x := fun x => by rw [hs_c (come_o 0 M 20 (by omega) (by omega))]; exact k2 x
  have g := sl_sim b c d a 0 (km_come 0 M) e18 j1 j2
  rw [Nat.zero_add] at g
  have es := hD.sk h1 h2 a hD.1
  have g1 : (km_skp c d a M).1 = kd_sk D a := by rw [es]; exact g.1
  have g2 : km_fr (km_skp c d a M).2 (km_come 0 M) := g.2
  refine ⟨g1, g2, ?_, ?_⟩
  · cases hk : kd_sk D a with
    | none => exact hD
    | some t =>
      have ht : t < a := by
        rw [es] at hk
        exact bst_lt _ a t hk
      exact hD.move t (by have := hD.1; omega)
  · refine come_M ?_ ?_ _
    · rw [g2.1 17 (by omega) (by omega), km_come_17]
      exact hM.1
    · rw [g2.2 3 (by omega) (by omega), km_come_16 0 3 M (by omega) (by omega) (by omega)]
      exact hM.2.2.2
/-- WROTE -/
theorem wrote_sim {b : Nat → Int32} {C : Nat → Nat → Int32} {a N : Nat} {D M : lm_S} (hD : HD b C a N D) (hM : HM b a N M) (t : Int32) : kd_lpw t D = km_wrr t M := by
  have h4 := hD.2.2.2.1
  have hN := hD.2.1
  unfold km_wrr
  rw [hM.2.2.2]
  by_cases hz : km_within t (nI N - 1) = 0
  · rw [if_pos hz]
    have hq : t < 0 ∨ ¬ t < D 2 4 := by
      refine Classical.byContradiction (fun q => ?_)
      have q1 : ¬ t < 0 := fun z => q (Or.inl z)
      have q2 : t < D 2 4 := Classical.byContradiction (fun z => q (Or.inr z))
      obtain ⟨j, hj, rfl⟩ := nI_of q1
      rw [h4, nI_ltI hj (by omega)] at q2
      unfold km_within at hz
      rw [if_neg q1, show nI N - 1 = nI (N - 1) from nI_p1m N (by omega), if_neg (nI_nlt (by omega) (by omega))] at hz
      exact absurd hz (by decide)
    have e : ∀ k, kd_pw2 t k D = -1 := by
      intro k
      unfold kd_pw2
      rcases hq with q | q
      · rw [if_pos q]
      · by_cases z : t < 0
        · rw [if_pos z]
        · rw [if_neg z, if_neg q]
    unfold kd_lpw
    rw [e, e, if_pos rfl]
  · rw [if_neg hz]
    obtain ⟨j, hj, rfl⟩ := km_wr_in hN hz
    rw [nI_clamp (by omega)]
    have e8 : (km_come (j + 1) M) 16 8 = ns_w (ns_it j b) := by
      unfold km_come
      rw [ls_n _ _ (by omega), km_it_s, (ns_eq _).2.1, km_it_18]
      unfold km_back
      rw [va_up_self, hM.1]
    rw [e8]
    have p0 := hD.pw j (by omega) 0 (by omega)
    have p1 := hD.pw j (by omega) 1 (by omega)
    rw [Nat.add_zero] at p0
    unfold kd_lpw
    rw [show kd_pw2 (nI j) 1 D = D 12 (2 * j + 1) from p1, show kd_pw2 (nI j) 0 D = D 12 (2 * j) from p0]
    rcases hD.2.2.2.2.2.2.2.1 j (by omega) with ⟨a1, a2, a3, a4⟩ | ⟨p, hp, a1, a2, a3, a4⟩ | ⟨p, q, hp, hq, a1, a2, a3, a4⟩
    · rw [a1, a2, a3, if_pos rfl]
    · rw [a1, a2, a3, if_pos rfl]
    · rw [a1, a2, a3, if_neg (nI_nm1 hq)]
end
section
/-! what binds the two sides between calls -/
theorem HD.cong {b : Nat → Int32} {C : Nat → Nat → Int32} {a N : Nat} {S S1 : lm_S} (h : HD b C a N S) (e : ∀ i, i < 14 → i ≠ 3 → i ≠ 4 → S1 i = S i) : HD b C a N S1 := by
  obtain ⟨h1, h2, h3, h4, h5, h6, h7, h8, h9⟩ := h
  refine ⟨h1, h2, by rw [e 2 (by omega) (by omega) (by omega)]; exact h3, by rw [e 2 (by omega) (by omega) (by omega)]; exact h4, by rw [e 6 (by omega) (by omega) (by omega), e 11 (by omega) (by omega) (by omega)]; exact h5, ?_, fun t ht => ?_, fun t ht => ?_, by rw [e 11 (by omega) (by omega) (by omega)]; exact h9⟩
  · refine ⟨by rw [e 5 (by omega) (by omega) (by omega)]; exact h6.1, fun j hj => ?_⟩
    unfold hO
    rw [e 12 (by omega) (by omega) (by omega), e 13 (by omega) (by omega) (by omega)]
    exact h6.2 j hj
  · exact (h7 t ht).cong (fun k _ => by rw [e 11 (by omega) (by omega) (by omega)]) (e 1 (by omega) (by omega) (by omega)) (e 7 (by omega) (by omega) (by omega)) (e 8 (by omega) (by omega) (by omega))
  · unfold hP
    rw [e 12 (by omega) (by omega) (by omega)]
    exact h8 t ht
theorem HM.cong {b : Nat → Int32} {a N : Nat} {S S1 : lm_S} (h : HM b a N S) (h17 : S1 17 = S 17) (h18 : S1 18 = S 18) (h2 : S1 16 2 = S 16 2) (h3 : S1 16 3 = S 16 3) : HM b a N S1 := by
  unfold HM
  rw [h17, h18, h2, h3]
  exact h
/-- what the desk's calls but stop and watch leave -/
def dfo (S1 S : lm_S) : Prop := ∀ i, i = 3 ∨ i = 4 ∨ 14 ≤ i → S1 i = S i
/-- what the reference's calls but stop and watch leave -/
def mfo (S1 S : lm_S) : Prop := (∀ i, i < 16 ∨ 18 < i → S1 i = S i) ∧ ∀ k, k = 6 ∨ k = 7 → S1 16 k = S 16 k
theorem dfo.rf (S : lm_S) : dfo S S := fun _ _ => rfl
theorem dfo.tr {S2 S1 S : lm_S} (h : dfo S2 S1) (g : dfo S1 S) : dfo S2 S := fun i hi => (h i hi).trans (g i hi)
theorem dfo.it {c : Prop} [Decidable c] {A B S : lm_S} (h : dfo A S) (g : dfo B S) : dfo (if c then A else B) S := by
  split
  · exact h
  · exact g
theorem dfo.st {S1 S : lm_S} (h : dfo S1 S) {i k : Nat} {x : Int32} (hi : i < 14) (h3 : i ≠ 3) (h4 : i ≠ 4) : dfo (lm_set S1 i k x) S := fun j hj => by
  rw [ls_o _ (by omega)]
  exact h j hj
theorem mfo.rf (S : lm_S) : mfo S S := ⟨fun _ _ => rfl, fun _ _ => rfl⟩
theorem mfo.tr {S2 S1 S : lm_S} (h : mfo S2 S1) (g : mfo S1 S) : mfo S2 S := ⟨fun i hi => (h.1 i hi).trans (g.1 i hi), fun i hi => (h.2 i hi).trans (g.2 i hi)⟩
theorem mfo.it {c : Prop} [Decidable c] {A B S : lm_S} (h : mfo A S) (g : mfo B S) : mfo (if c then A else B) S := by
  split
  · exact h
  · exact g
theorem mfo.st {S1 S : lm_S} (h : mfo S1 S) {k : Nat} {x : Int32} : mfo (lm_set S1 18 k x) S := ⟨fun j hj => by
  rw [ls_o _ (by omega)]
  exact h.1 j hj, fun k hk => by
  rw [ls_o _ (by omega)]
  exact h.2 k hk⟩
theorem mfo.sf {S1 S : lm_S} (h : mfo S1 S) {k : Nat} {x : Int32} (h6 : k ≠ 6) (h7 : k ≠ 7) : mfo (lm_set S1 16 k x) S := ⟨fun j hj => by
  rw [ls_o _ (by omega)]
  exact h.1 j hj, fun j hj => by
  rw [ls_n _ _ (by omega)]
  exact h.2 j hj⟩
theorem mfo.up {S1 S : lm_S} (h : mfo S1 S) {i : Nat} {x : Nat → Int32} (hi : i = 17 ∨ i = 18) : mfo (va_up S1 i x) S := ⟨fun j hj => by
  rw [va_up_ne _ _ (by omega)]
  exact h.1 j hj, fun k hk => by
  rw [va_up_ne _ _ (by omega)]
  exact h.2 k hk⟩
theorem km_fr.mfo {S1 S : lm_S} (h : km_fr S1 S) : mfo S1 S := ⟨fun i hi => h.1 i (by omega) (by omega), fun k hk => h.2 k (by omega) (by omega)⟩
/-! the desk's frames -/
theorem do_keep (S : lm_S) : dfo (kd_keep S) S := fun i hi => by
  unfold kd_keep
  rw [va_up_ne _ _ (by omega)]
theorem do_begin (S : lm_S) : dfo (kd_begin S) S := (do_keep _).tr (((dfo.rf S).st (by omega) (by omega) (by omega)).st (by omega) (by omega) (by omega))
theorem do_drop (hd : Nat) (S : lm_S) : dfo (kd_drop hd S) S := fun i hi => drop_o hd S i (by omega) (by omega) (by omega)
theorem do_mv (a t : Nat) (S : lm_S) : dfo (kd_mv a t S) S := fun i hi => mv_o a t S i (by omega) (by omega) (by omega) (by omega)
theorem do_so (S : lm_S) : dfo (kd_so S) S := fun i hi => so_o S i (by omega) (by omega) (by omega) (by omega) (by omega) (by omega) (by omega) (by omega) (by omega) (by omega)
theorem do_rn : ∀ (m k : Nat) (S : lm_S), dfo (kd_rn m k S).2 S
  | 0, _, S => dfo.rf S
  | m + 1, k, S => by
    rw [kd_rn]
    split
    · exact dfo.rf S
    · split
      · exact do_so S
      · exact (do_rn m (k + 1) _).tr (do_so S)
theorem do_runs (x : Int32) (S : lm_S) : dfo (kd_runs x S) S := (dfo.rf S).it ((do_rn _ _ _).it (dfo.rf S))
theorem do_sks (a : Nat) (S : lm_S) (o : Option Nat) : dfo (kd_sks a S o) S := by
  cases o with
  | none => exact dfo.rf S
  | some t => exact do_mv a t S
theorem do_poke (hd : Nat) (a v : Int32) (S : lm_S) : dfo (kd_poke hd a v S) S := (dfo.rf S).it ((do_begin _).tr ((do_drop _ _).tr ((dfo.rf S).st (by omega) (by omega) (by omega))))
theorem do_setv (k v : Int32) (S : lm_S) : dfo (kd_setv k v S) S := ((dfo.rf S).st (by omega) (by omega) (by omega)).it ((dfo.rf S).st (by omega) (by omega) (by omega))
theorem do_sets (hd : Nat) (k v : Int32) (S : lm_S) : dfo (kd_sets hd k v S) S := (dfo.rf S).it ((do_begin _).tr ((do_drop _ _).tr (do_setv _ _ _)))
theorem do_shi : ∀ (n k : Nat) (S : lm_S), dfo (kd_shi n k S) S
  | 0, _, S => dfo.rf S
  | n + 1, k, S => by
    rw [kd_shi]
    exact (do_shi n (k + 1) _).tr ((dfo.rf S).st (by omega) (by omega) (by omega))
theorem do_ai (w : Nat) (v : Int32) (S : lm_S) : dfo (kd_ai w v S) S := (((dfo.rf S).st (by omega) (by omega) (by omega)).st (by omega) (by omega) (by omega)).it (((((dfo.rf S).st (by omega) (by omega) (by omega)).st (by omega) (by omega) (by omega)).st (by omega) (by omega) (by omega)).st (by omega) (by omega) (by omega))
theorem do_feed (hd w : Nat) (v : Int32) (S : lm_S) : dfo (kd_feed hd w v S) S := ((do_begin _).tr ((do_drop _ _).tr ((do_ai _ _ _).tr (do_shi _ _ _)))).it (dfo.rf S)
/-! the reference's frames -/
theorem mo_an (S : lm_S) : mfo (km_an S) S := (((mfo.rf S).up (Or.inl rfl)).sf (by omega) (by omega)).sf (by omega) (by omega)
theorem mo_come (t : Nat) (S : lm_S) : mfo (km_come t S) S := ((km_it_fr t (km_back S)).mfo.tr ((mfo.rf S).up (Or.inr rfl))).sf (by omega) (by omega)
theorem mo_pokes (a v : Int32) (S : lm_S) : mfo (km_pokes a v S) S := (mfo.rf S).it ((mo_an _).tr (mfo.rf S).st)
theorem mo_sets (k v : Int32) (S : lm_S) : mfo (km_sets k v S) S := (mfo.rf S).it ((mo_an _).tr (mfo.rf S).st)
theorem mo_feeds (v : Int32) (S : lm_S) : mfo (km_feeds v S) S := (mfo.rf S).it ((mo_an _).tr (mfo.rf S).st.st)
theorem mo_rs (S : lm_S) : mfo (km_rs S) S := by
  unfold km_rs km_rs2
  exact ((gq_step S).mfo.sf (by omega) (by omega)).it (((gq_step S).mfo.sf (by omega) (by omega)).sf (by omega) (by omega))
theorem mo_rn (c : Nat) : ∀ (m k : Nat) (S : lm_S), mfo (km_rn c m k S).2 S
  | 0, _, S => mfo.rf S
  | m + 1, k, S => by
    rw [km_rn]
    split
    · exact (mo_rn c m (k + 1) _).tr (mo_rs S)
    · exact mfo.rf S
theorem mo_run (c : Nat) (x : Int32) (S : lm_S) : mfo (km_run c x S).2 S := by
  unfold km_run
  split
  · exact mfo.rf S
  · exact mo_rn c _ _ S
theorem mo_wrs (a : Nat) (t : Int32) (S : lm_S) : mfo (km_wrs a t S) S := (mfo.rf S).it ((mo_come _ _).tr (mo_come _ _))
/-! the invariant -/
def IV (q : Nat) (S : lm_S) : Prop := ∃ (b : Nat → Int32) (C : Nat → Nat → Int32) (a N c d dr : Nat), HD b C a N S ∧ HM b a N S ∧ mk 19 6 14 3 c S ∧ mk 20 7 15 4 d S ∧ S 1 5 = nI dr ∧ dr ≤ 300 * q
theorem IV.up {q p : Nat} {S : lm_S} (h : IV q S) (hp : q ≤ p) : IV p S := by
  obtain ⟨b, C, a, N, c, d, dr, h1, h2, h3, h4, h5, h6⟩ := h
  exact ⟨b, C, a, N, c, d, dr, h1, h2, h3, h4, h5, by have := Nat.mul_le_mul_left 300 hp; omega⟩
/-- both sides have moved; stops and watches stand -/
theorem IV.both {q c d : Nat} {b : Nat → Int32} {C : Nat → Nat → Int32} {a N dr : Nat} {S D F : lm_S} (h3 : mk 19 6 14 3 c S) (h4 : mk 20 7 15 4 d S) (hD : HD b C a N D) (oD : dfo D S) (oF : mfo F D) (hM : HM b a N F) (h5 : D 1 5 = nI dr) (h6 : dr ≤ 300 * q) : IV q F := by
  have e16 : D 16 = S 16 := oD 16 (by omega)
  refine ⟨b, C, a, N, c, d, dr, hD.cong (fun i hi _ _ => oF.1 i (by omega)), hM, ?_, ?_, by rw [oF.1 1 (by omega)]; exact h5, h6⟩
  · exact h3.cong (by rw [oF.1 19 (by omega), oD 19 (by omega)]) (by rw [oF.2 6 (by omega), e16]) (by rw [oF.1 14 (by omega), oD 14 (by omega)]) (by rw [oF.1 3 (by omega), oD 3 (by omega)])
  · exact h4.cong (by rw [oF.1 20 (by omega), oD 20 (by omega)]) (by rw [oF.2 7 (by omega), e16]) (by rw [oF.1 15 (by omega), oD 15 (by omega)]) (by rw [oF.1 4 (by omega), oD 4 (by omega)])
theorem HM.dfo {b : Nat → Int32} {a N : Nat} {S D : lm_S} (h : HM b a N S) (o : dfo D S) : HM b a N D := h.cong (o 17 (by omega)) (o 18 (by omega)) (by rw [o 16 (by omega)]) (by rw [o 16 (by omega)])
end
section
/-! a new history on both sides: poke, set, feed -/
theorem now_S {b : Nat → Int32} {C : Nat → Nat → Int32} {a N : Nat} {S : lm_S} (hD : HD b C a N S) (hM : HM b a N S) : rs S S := hD.now.cong (fun _ _ => rfl) (fun _ _ => rfl) rfl rfl rfl hM.2.1
theorem drop_15 (hd dr : Nat) (S : lm_S) (h : S 1 5 = nI dr) : (kd_drop hd S) 1 5 = nI (dr + (hd - 8)) := by
  unfold kd_drop
  by_cases q : hd ≤ 8
  · rw [if_pos q, h, show dr + (hd - 8) = dr by omega]
  · rw [if_neg q]
    unfold kd_dt
    rw [ls_o _ (by omega), ls_i, sho_o _ _ _ _ _ (by omega), h, nI_add]
theorem IV.anew {q c d hd dr : Nat} {S D1 M1 K : lm_S} (h3 : mk 19 6 14 3 c S) (h4 : mk 20 7 15 4 d S) (r : rs D1 M1) (hd8 : D1 6 8 = nI hd) (h308 : hd ≤ 308) (oD : dfo D1 S) (e15 : D1 1 5 = nI dr) (hdr : dr ≤ 300 * q) (oK : mfo K (kd_begin (kd_drop hd D1))) (eK : K 18 = M1 18) : IV (q + 1) (km_an K) := by
  obtain ⟨r8, h8⟩ := r.drop hd hd8 h308
  have r9 : rs (kd_drop hd D1) (ns_S (M1 18)) := r8.cong (fun _ _ => rfl) (fun _ _ => rfl) rfl rfl rfl rfl
  refine IV.both (dr := dr + (hd - 8)) h3 h4 (HD.begin r9 h8) ((do_begin _).tr ((do_drop _ _).tr oD)) ((mo_an K).tr oK) ⟨?_, ?_, ?_, ?_⟩ ?_ (by omega)
  · unfold km_an
    rw [ls_o _ (by omega), ls_o _ (by omega), va_up_self]
    exact eK
  · unfold km_an
    rw [ls_o _ (by omega), ls_o _ (by omega), va_up_ne _ _ (by omega)]
    exact eK
  · unfold km_an
    rw [ls_n _ _ (by omega), ls_i]
    rfl
  · unfold km_an
    rw [ls_i]
    rfl
  · have e : (kd_begin (kd_drop hd D1)) 1 = (kd_drop hd D1) 1 := by
      unfold kd_begin kd_keep
      rw [va_up_ne _ _ (by omega), ls_o _ (by omega), ls_o _ (by omega)]
    rw [e]
    exact drop_15 hd dr D1 e15
theorem rs.cset {D M : lm_S} (h : rs D M) (p : Nat) (hp : p < 512) (x : Int32) (hx : kb x) : rs (lm_set D 5 p x) (lm_set M 18 p x) := by
  obtain ⟨r1, r2, ⟨v1, v2, v3⟩, tk, fd, hd, dr, i1, i2, i3, i4, i5, i6, i7, i8, i9, i10, i11, i12⟩ := h
  refine ⟨fun a ha => ?_, fun k hk => ?_, ⟨fun a ha => ?_, fun k hk => ?_, ?_⟩, tk, fd, hd, dr, ?_, ?_, i3, i4, ?_, fun k hk => ?_, ?_, ?_, ?_, fun k hk hk2 => ?_, i11, i12⟩
  · by_cases e : a = p
    · subst e
      rw [ls_i, ls_i]
    · rw [ls_n _ _ e, ls_n _ _ e]
      exact r1 a ha
  · rw [ls_o _ (by omega), ls_n _ _ (by omega)]
    exact r2 k hk
  · by_cases e : a = p
    · subst e
      rw [ls_i]
      exact hx
    · rw [ls_n _ _ e]
      exact v1 a ha
  · rw [ls_n _ _ (by omega)]
    exact v2 k hk
  · rw [ls_n _ _ (by omega)]
    exact v3
  · rw [ls_o _ (by omega)]; exact i1
  · rw [ls_o _ (by omega)]; exact i2
  · rw [ls_n _ _ (by omega)]; exact i5
  · rw [ls_o _ (by omega), ls_n _ _ (by omega)]; exact i6 k hk
  · rw [ls_o _ (by omega)]; exact i7
  · rw [ls_o _ (by omega)]; exact i8
  · rw [ls_n _ _ (by omega)]; exact i9
  · rw [ls_o _ (by omega), ls_n _ _ (by omega)]; exact i10 k hk hk2
theorem rs.rset {D M : lm_S} (h : rs D M) (p : Nat) (hp : p < 7) (x : Int32) (hx : p < 5 → kb x) (h5 : p = 5 → vp_in x 512) : rs (lm_set D 6 p x) (lm_set M 18 (512 + p) x) := by
  obtain ⟨r1, r2, ⟨v1, v2, v3⟩, tk, fd, hd, dr, i1, i2, i3, i4, i5, i6, i7, i8, i9, i10, i11, i12⟩ := h
  refine ⟨fun a ha => ?_, fun k hk => ?_, ⟨fun a ha => ?_, fun k hk => ?_, ?_⟩, tk, fd, hd, dr, ?_, ?_, i3, i4, ?_, fun k hk => ?_, ?_, ?_, ?_, fun k hk hk2 => ?_, i11, i12⟩
  · rw [ls_o _ (by omega), ls_n _ _ (by omega)]
    exact r1 a ha
  · by_cases e : k = p
    · subst e
      rw [ls_i, ls_i]
    · rw [ls_n _ _ e, ls_n _ _ (by omega)]
      exact r2 k hk
  · rw [ls_n _ _ (by omega)]
    exact v1 a ha
  · by_cases e : k = p
    · subst e
      rw [ls_i]
      exact hx hk
    · rw [ls_n _ _ (by omega)]
      exact v2 k hk
  · by_cases e : p = 5
    · subst e
      rw [show (517 : Nat) = 512 + 5 from rfl, ls_i]
      exact h5 rfl
    · rw [ls_n _ _ (by omega)]
      exact v3
  · rw [ls_n _ _ (by omega)]; exact i1
  · rw [ls_o _ (by omega)]; exact i2
  · rw [ls_n _ _ (by omega)]; exact i5
  · rw [ls_o _ (by omega), ls_n _ _ (by omega)]; exact i6 k hk
  · rw [ls_n _ _ (by omega)]; exact i7
  · rw [ls_o _ (by omega)]; exact i8
  · rw [ls_n _ _ (by omega)]; exact i9
  · rw [ls_o _ (by omega), ls_n _ _ (by omega)]; exact i10 k hk hk2
theorem shi_7 (tk : Nat) : ∀ (m k : Nat) (S : lm_S) (i : Nat), S 6 7 = nI tk → tk + k + m ≤ 40 → (kd_shi m k S) 7 i = if k ≤ i ∧ i < k + m then S 7 (tk + i) else S 7 i
  | 0, k, S, i, _, _ => by
    rw [if_neg (by omega)]
    rfl
  | m + 1, k, S, i, ht, h => by
    rw [kd_shi, ht, nI_add, nI_clamp (by omega), nI_clamp (by omega), shi_7 tk m (k + 1) _ i (by rw [ls_o _ (by omega)]; exact ht) (by omega)]
    by_cases h1 : i = k
    · subst h1
      rw [if_neg (by omega), if_pos (by omega), ls_i]
    · by_cases h2 : k + 1 ≤ i ∧ i < k + 1 + m
      · rw [if_pos h2, if_pos (by omega), ls_n _ _ (by omega)]
      · rw [if_neg h2, if_neg (by omega), ls_n _ _ h1]
theorem shi_o : ∀ (m k : Nat) (S : lm_S) (i : Nat), i ≠ 7 → (kd_shi m k S) i = S i
  | 0, _, _, _, _ => rfl
  | m + 1, k, S, i, hi => by rw [kd_shi, shi_o m _ _ i hi, ls_o _ hi]
theorem rs.feed {D M : lm_S} (h : rs D M) (tk w : Nat) (h7 : D 6 7 = nI tk) (h3 : D 1 3 = nI (tk + w)) (hw : tk + w ≤ 40) (h40 : w < 40) (x : Int32) : rs (kd_ai w x (kd_shi w 0 D)) (lm_set (lm_set M 18 (520 + w) x) 18 519 (nI (w + 1))) := by
  obtain ⟨r1, r2, ⟨v1, v2, v3⟩, tk2, fd, hd, dr, i1, i2, i3, i4, i5, i6, i7, i8, i9, i10, i11, i12⟩ := h
  have et : tk2 = tk := by
    rw [h7] at i1
    exact ((nI_eq (by omega) (by omega)).mp i1).symm
  subst et
  have ef : fd = tk2 + w := by
    rw [h3] at i2
    exact ((nI_eq (by omega) (by omega)).mp i2).symm
  subst ef
  have eE : kd_ai w x (kd_shi w 0 D) = lm_set (lm_set (lm_set (lm_set (kd_shi w 0 D) 6 7 0) 1 3 (nI w)) 7 w x) 1 3 (nI (w + 1)) := by
    unfold kd_ai
    rw [if_neg (show ¬ (40 : Int32) ≤ nI w from nI_ge (b := 40) h40 (by omega)), nI_clamp (by omega), nI_1]
  have e7 : ∀ k, k < w → (kd_shi w 0 D) 7 k = D 7 (tk2 + k) := fun k hk => by
    rw [shi_7 tk2 w 0 D k h7 (by omega), if_pos (by omega)]
  have o : ∀ i, i ≠ 7 → (kd_shi w 0 D) i = D i := fun i hi => shi_o w 0 D i hi
  rw [eE]
  generalize kd_shi w 0 D = E at e7 o ⊢
  refine ⟨fun a ha => ?_, fun k hk => ?_, ⟨fun a ha => ?_, fun k hk => ?_, ?_⟩, 0, w + 1, hd, dr, ?_, ls_i _ _ _ _, by omega, by omega, ls_i _ _ _ _, fun k hk => ?_, ?_, ?_, ?_, fun k hk hk2 => ?_, i11, i12⟩
  · rw [ls_o _ (by omega), ls_o _ (by omega), ls_o _ (by omega), ls_o _ (by omega), o 5 (by omega), ls_n _ _ (by omega), ls_n _ _ (by omega)]
    exact r1 a ha
  · rw [ls_o _ (by omega), ls_o _ (by omega), ls_o _ (by omega), ls_n _ _ (by omega), o 6 (by omega), ls_n _ _ (by omega), ls_n _ _ (by omega)]
    exact r2 k hk
  · rw [ls_n _ _ (by omega), ls_n _ _ (by omega)]
    exact v1 a ha
  · rw [ls_n _ _ (by omega), ls_n _ _ (by omega)]
    exact v2 k hk
  · rw [ls_n _ _ (by omega), ls_n _ _ (by omega)]
    exact v3
  · rw [ls_o _ (by omega), ls_o _ (by omega), ls_o _ (by omega), ls_i]
    rfl
  · rw [ls_o _ (by omega), Nat.zero_add, ls_n (l := 520 + k) _ _ (by omega)]
    by_cases e : k = w
    · subst e
      rw [ls_i, ls_i]
    · rw [ls_n _ _ e, ls_n _ _ (by omega), ls_o _ (by omega), ls_o _ (by omega), e7 k (by omega)]
      exact i6 k (by omega)
  · rw [ls_o _ (by omega), ls_o _ (by omega), ls_o _ (by omega), ls_n _ _ (by omega), o 6 (by omega)]
    exact i7
  · rw [ls_n _ _ (by omega), ls_o _ (by omega), ls_n _ _ (by omega), ls_o _ (by omega), o 1 (by omega)]
    exact i8
  · rw [ls_n _ _ (by omega), ls_n _ _ (by omega)]
    exact i9
  · rw [ls_o _ (by omega), ls_o _ (by omega), ls_o _ (by omega), ls_o _ (by omega), o 8 (by omega), ls_n _ _ (by omega), ls_n _ _ (by omega)]
    exact i10 k hk hk2
end
section
/-! each call on both sides -/
/-- the two answer alike, and what binds them stands -/
def jc (sD sR : lm_Sp) (avD avR : List Value) (q : Nat) (S : lm_S) : Prop := ∃ (x : Int32) (D F : lm_S), (∀ post, post (some (.int x)) D → sD avD S post) ∧ (∀ post, post (some (.int x)) F → sR avR D post) ∧ IV (q + 1) F ∧ (∀ i, 20 < i → D i = S i) ∧ ∀ i, 20 < i → F i = S i
theorem jc.see {sD sR : lm_Sp} {avD avR : List Value} {q : Nat} {S : lm_S} (h : IV q S) {x : Int32} (h1 : ∀ post, post (some (.int x)) S → sD avD S post) (h2 : ∀ post, post (some (.int x)) S → sR avR S post) : jc sD sR avD avR q S := ⟨x, S, S, h1, h2, h.up (by omega), fun _ _ => rfl, fun _ _ => rfl⟩
theorem isA_w (a : Int32) : kd_isA a = km_within a 511 := by
  unfold kd_isA km_within
  by_cases h : a < 0
  · rw [if_pos h, if_pos h]
  · rw [if_neg h, if_neg h]
    have e : (512 : Int32) ≤ a ↔ (511 : Int32) < a := by
      rw [Int32.le_iff_toInt_le, Int32.lt_iff_toInt_lt, show (512 : Int32).toInt = 512 from by decide, show (511 : Int32).toInt = 511 from by decide]
      omega
    by_cases g : (512 : Int32) ≤ a
    · rw [if_pos g, if_pos (e.mp g)]
    · rw [if_neg g, if_neg (fun z => g (e.mpr z))]
theorem w01_A (a : Int32) : km_w01 (km_within a 511) = if kd_isA a = 0 then 0 else 1 := by
  rw [isA_w]
  rfl
theorem jc_time {q : Nat} {S : lm_S} (h : IV q S) : jc s_D_time s_R_time [.ref 0] [.ref 16] q S := by
  obtain ⟨b, C, a, N, c, d, dr, hD, hM, h3, h4, h5, h6⟩ := h
  have e : S 2 3 = S 16 2 := by rw [hD.2.2.1, hM.2.2.1]
  exact jc.see ⟨b, C, a, N, c, d, dr, hD, hM, h3, h4, h5, h6⟩ (x := S 2 3) (fun post p => ⟨rfl, p⟩) (fun post p => ⟨rfl, by rw [← e]; exact p⟩)
theorem jc_last {q : Nat} {S : lm_S} (h : IV q S) : jc s_D_last s_R_last [.ref 0] [.ref 16] q S := by
  obtain ⟨b, C, a, N, c, d, dr, hD, hM, h3, h4, h5, h6⟩ := h
  have e : S 2 4 = S 16 3 := by rw [hD.2.2.2.1, hM.2.2.2]
  exact jc.see ⟨b, C, a, N, c, d, dr, hD, hM, h3, h4, h5, h6⟩ (x := S 2 4) (fun post p => ⟨rfl, p⟩) (fun post p => ⟨rfl, by rw [← e]; exact p⟩)
theorem IV.rs {q : Nat} {S : lm_S} (h : IV q S) : rs S S := by
  obtain ⟨b, C, a, N, c, d, dr, hD, hM, h3, h4, h5, h6⟩ := h
  exact now_S hD hM
theorem jc_waiting {q : Nat} {S : lm_S} (h : IV q S) : jc s_D_waiting s_R_waiting [.ref 0] [.ref 16] q S := by
  obtain ⟨r1, r2, r3, tk, fd, hd, dr, i1, i2, i3, i4, i5, i6, i7, i8, i9, i10, i11, i12⟩ := h.rs
  have e : S 1 3 - S 6 7 = S 18 519 := by rw [i1, i2, i5, pk_sub i3]
  exact jc.see h (x := S 1 3 - S 6 7) (fun post p => ⟨rfl, p⟩) (fun post p => ⟨rfl, by rw [← e]; exact p⟩)
theorem jc_puts {q : Nat} {S : lm_S} (h : IV q S) : jc s_D_puts s_R_puts [.ref 0] [.ref 16] q S := by
  obtain ⟨r1, r2, r3, tk, fd, hd, dr, i1, i2, i3, i4, i5, i6, i7, i8, i9, i10, i11, i12⟩ := h.rs
  have e : S 1 5 + S 6 8 = S 18 560 := by rw [i7, i8, i9, nI_add]
  exact jc.see h (x := S 1 5 + S 6 8) (fun post p => ⟨rfl, p⟩) (fun post p => ⟨rfl, by rw [← e]; exact p⟩)
theorem jc_cell {q : Nat} {S : lm_S} (h : IV q S) (k : Int32) : jc s_D_cell s_R_cell [.ref 0, .int k] [.ref 16, .int k] q S := by
  have r := h.rs
  have e : kd_cellr k S = km_cellr k S := by
    unfold kd_cellr km_cellr
    rw [← isA_w]
    by_cases hA : kd_isA k = 0
    · rw [if_pos hA, if_pos hA]
    · rw [if_neg hA, if_neg hA]
      obtain ⟨p, hp, rfl⟩ := isA_of hA
      rw [nI_clamp (by omega)]
      exact r.1 p hp
  exact jc.see h (x := kd_cellr k S) (fun post p => ⟨k, rfl, p⟩) (fun post p => ⟨k, rfl, by rw [← e]; exact p⟩)
theorem isR_of {x : Int32} (h : ¬ kd_isR x = 0) : ∃ p : Nat, p < 7 ∧ x = nI p := vp_in_of (km_within_in (n := 6) (by decide) h) (by decide)
theorem jc_register {q : Nat} {S : lm_S} (h : IV q S) (k : Int32) : jc s_D_register s_R_register [.ref 0, .int k] [.ref 16, .int k] q S := by
  have r := h.rs
  have e : kd_regr k S = km_regr k S := by
    unfold kd_regr km_regr
    rw [show km_within k 6 = kd_isR k from rfl]
    by_cases hA : kd_isR k = 0
    · rw [if_pos hA, if_pos hA]
    · rw [if_neg hA, if_neg hA]
      obtain ⟨p, hp, rfl⟩ := isR_of hA
      rw [show (512 : Int32) + nI p = nI (512 + p) from nI_add 512 p, nI_clamp (by omega), nI_clamp (by omega)]
      exact r.2.1 p hp
  exact jc.see h (x := kd_regr k S) (fun post p => ⟨k, rfl, p⟩) (fun post p => ⟨k, rfl, by rw [← e]; exact p⟩)
theorem jc_output {q : Nat} {S : lm_S} (h : IV q S) (hq : q ≤ 1000) (k : Int32) : jc s_D_output s_R_output [.ref 0, .int k] [.ref 16, .int k] q S := by
  have r := h.rs
  have hdr : ∃ dr : Nat, S 1 5 = nI dr ∧ dr ≤ 300000 := by
    obtain ⟨b, C, a, N, c, d, dr, hD, hM, h3, h4, h5, h6⟩ := h
    exact ⟨dr, h5, by omega⟩
  obtain ⟨dr0, e0, hdr0⟩ := hdr
  obtain ⟨r1, r2, r3, tk, fd, hd, dr, i1, i2, i3, i4, i5, i6, i7, i8, i9, i10, i11, i12⟩ := r
  have hs : S 18 560 = nI (dr0 + hd) := by
    rw [i9, ← nI_add, ← i8, e0, nI_add]
  have e : kd_outr k S = km_outr k S := by
    unfold kd_outr km_outr km_within
    by_cases h0 : k < 0
    · rw [if_pos h0, if_pos h0, if_pos rfl]
    · rw [if_neg h0, if_neg h0]
      obtain ⟨j, hj, rfl⟩ := nI_of h0
      by_cases h8 : j < 8
      · rw [if_pos (show nI j < (8 : Int32) from nI_lt (b := 8) h8 (by omega)), if_neg (show ¬ (7 : Int32) < nI j from nI_nlt (a := 7) (by omega) (by omega)), if_neg (show ¬ (1 : Int32) = 0 by decide), hs]
        unfold kd_outb
        rw [i7]
        by_cases hl : j < hd
        · rw [if_pos (nI_lt hl (by omega)), if_neg (nI_ge (by omega) (by omega)), nI_p1m hd (by omega), pk_sub (by omega), nI_clamp (by omega), show (561 : Int32) + nI j = nI (561 + j) from nI_add 561 j, nI_clamp (by omega)]
          exact i10 j h8 hl
        · have hdr0e : dr0 = 0 := by
            have := i11 (by omega)
            subst this
            rw [e0] at i8
            exact (nI_eq (by omega) (by omega)).mp i8
          rw [if_neg (nI_nlt (by omega) (by omega)), if_pos (nI_le (by omega) (by omega))]
      · rw [if_neg (show ¬ nI j < (8 : Int32) from nI_nlt (b := 8) (by omega) (by omega)), if_pos (show (7 : Int32) < nI j from nI_lt (a := 7) (by omega) (by omega)), if_pos rfl]
  refine jc.see h (x := kd_outr k S) (fun post p => ⟨k, rfl, fun h0 h8 hl => ?_, p⟩) (fun post p => ⟨k, rfl, by rw [← e]; exact p⟩)
  obtain ⟨j, hj, rfl⟩ := nI_of h0
  rw [i7] at hl ⊢
  have hl2 : j < hd := (nI_ltI hj (by omega)).mp hl
  rw [nI_p1m hd (by omega), pk_sub (by omega)]
  exact vp_in_nI (by omega) (by decide)
theorem jc_poke {q : Nat} {S : lm_S} (h : IV q S) (k v : Int32) : jc s_D_poke s_R_poke [.ref 0, .int k, .int v] [.ref 16, .int k, .int v] q S := by
  have h0 := h
  have r := h.rs
  obtain ⟨b, C, a, N, c, d, dr, hD, hM, h3, h4, h5, h6⟩ := h
  obtain ⟨hd, i7, i12⟩ : ∃ hd : Nat, S 6 8 = nI hd ∧ hd ≤ 308 := by
    obtain ⟨r1, r2, r3, tk, fd, hd, dr, i1, i2, i3, i4, i5, i6, i7, i8, i9, i10, i11, i12⟩ := r
    exact ⟨hd, i7, i12⟩
  have oD := do_poke hd k v S
  have oF := mo_pokes k v (kd_poke hd k v S)
  refine ⟨if kd_isA k = 0 then 0 else 1, kd_poke hd k v S, km_pokes k v (kd_poke hd k v S), fun post p => ⟨k, v, hd, rfl, i12, i7, p⟩, fun post p => ⟨k, v, rfl, by rw [w01_A]; exact p⟩, ?_, fun i hi => oD i (by omega), fun i hi => (oF.1 i (by omega)).trans (oD i (by omega))⟩
  unfold kd_poke at *
  unfold km_pokes at *
  rw [← isA_w] at *
  by_cases hA : kd_isA k = 0
  · rw [if_pos hA, if_pos hA]
    exact h0.up (by omega)
  · rw [if_neg hA] at *
    rw [if_neg hA]
    obtain ⟨p, hp, rfl⟩ := isA_of hA
    rw [nI_clamp (by omega)] at *
    refine IV.anew h3 h4 (r.cset p hp _ (kb_and v)) (by rw [ls_o _ (by omega)]; exact i7) i12 ((dfo.rf S).st (by omega) (by omega) (by omega)) (by rw [ls_o _ (by omega)]; exact h5) h6 (mfo.rf _).st ?_
    show upd _ p (v &&& 255) = upd (S 18) p (v &&& 255)
    rw [oD 18 (by omega)]
end
section
theorem IV.hd {q : Nat} {S : lm_S} (h : IV q S) : ∃ hd : Nat, S 6 8 = nI hd ∧ hd ≤ 308 := by
  obtain ⟨r1, r2, r3, tk, fd, hd, dr, i1, i2, i3, i4, i5, i6, i7, i8, i9, i10, i11, i12⟩ := h.rs
  exact ⟨hd, i7, i12⟩
theorem setv_kb (p : Nat) (v : Int32) (hp : p < 5) : kb (km_setv (nI p) v) := by
  unfold km_setv
  by_cases h4 : 4 ≤ p
  · have : p = 4 := by omega
    subst this
    rw [if_pos (by decide), if_pos (by decide)]
    exact kb_195 v
  · rw [if_neg (show ¬ (4 : Int32) ≤ nI p from nI_ge (b := 4) (by omega) (by omega))]
    exact kb_and v
theorem setv_5 (v : Int32) : vp_in (km_setv (nI 5) v) 512 := by
  unfold km_setv
  rw [if_pos (by decide), if_neg (by decide), if_pos (by decide)]
  exact lm_v511 v
theorem setv_eq (p : Nat) (hp : p < 7) (v : Int32) (S : lm_S) : kd_setv (nI p) v S = lm_set S 6 p (km_setv (nI p) v) := by
  have hp2 : p = 0 ∨ p = 1 ∨ p = 2 ∨ p = 3 ∨ p = 4 ∨ p = 5 ∨ p = 6 := by omega
  rcases hp2 with e | e | e | e | e | e | e <;> subst e <;> rfl
theorem w01_R (a : Int32) : km_w01 (km_within a 6) = if kd_isR a = 0 then 0 else 1 := rfl
theorem jc_set {q : Nat} {S : lm_S} (h : IV q S) (k v : Int32) : jc s_D_set s_R_set [.ref 0, .int k, .int v] [.ref 16, .int k, .int v] q S := by
  have h0 := h
  have r := h.rs
  obtain ⟨hd, i7, i12⟩ := h.hd
  obtain ⟨b, C, a, N, c, d, dr, hD, hM, h3, h4, h5, h6⟩ := h
  have oD := do_sets hd k v S
  have oF := mo_sets k v (kd_sets hd k v S)
  refine ⟨if kd_isR k = 0 then 0 else 1, kd_sets hd k v S, km_sets k v (kd_sets hd k v S), fun post p => ⟨k, v, hd, rfl, i12, i7, p⟩, fun post p => ⟨k, v, rfl, by rw [w01_R]; exact p⟩, ?_, fun i hi => oD i (by omega), fun i hi => (oF.1 i (by omega)).trans (oD i (by omega))⟩
  unfold kd_sets at *
  unfold km_sets at *
  rw [show km_within k 6 = kd_isR k from rfl] at *
  by_cases hA : kd_isR k = 0
  · rw [if_pos hA, if_pos hA]
    exact h0.up (by omega)
  · rw [if_neg hA] at *
    rw [if_neg hA]
    obtain ⟨p, hp, rfl⟩ := isR_of hA
    have ei : ((512 : Int32) + nI p).toNatClampNeg = 512 + p := by
      rw [show (512 : Int32) + nI p = nI (512 + p) from nI_add 512 p, nI_clamp (by omega)]
    rw [ei]
    rw [setv_eq p hp] at *
    refine IV.anew h3 h4 (r.rset p hp (km_setv (nI p) v) (setv_kb p v) (fun e => by subst e; exact setv_5 v)) (by rw [ls_n _ _ (by omega)]; exact i7) i12 ((dfo.rf S).st (by omega) (by omega) (by omega)) (by rw [ls_o _ (by omega)]; exact h5) h6 (mfo.rf _).st ?_
    show upd _ (512 + p) _ = upd (S 18) (512 + p) _
    rw [oD 18 (by omega)]
theorem jc_feed {q : Nat} {S : lm_S} (h : IV q S) (v : Int32) : jc s_D_feed s_R_feed [.ref 0, .int v] [.ref 16, .int v] q S := by
  have h0 := h
  have r := h.rs
  obtain ⟨hd, i7, i12⟩ := h.hd
  obtain ⟨tk, w, e7, e3, hw, e519⟩ : ∃ tk w : Nat, S 6 7 = nI tk ∧ S 1 3 = nI (tk + w) ∧ tk + w ≤ 40 ∧ S 18 519 = nI w := by
    obtain ⟨r1, r2, r3, tk, fd, hd, dr, i1, i2, i3, i4, i5, _⟩ := r
    exact ⟨tk, fd - tk, i1, by rw [i2, show tk + (fd - tk) = fd by omega], by omega, i5⟩
  obtain ⟨b, C, a, N, c, d, dr, hD, hM, h3, h4, h5, h6⟩ := h
  have oD := do_feed hd w v S
  have oF := mo_feeds v (kd_feed hd w v S)
  have f519 : (kd_feed hd w v S) 18 519 = nI w := by rw [oD 18 (by omega)]; exact e519
  have er : (if (kd_feed hd w v S) 18 519 = 40 then (0 : Int32) else 1) = if w < 40 then 1 else 0 := by
    rw [f519]
    by_cases q : w < 40
    · rw [if_pos q, if_neg (show ¬ nI w = (40 : Int32) from fun z => by have := (nI_eq (b := 40) (by omega) (by omega)).mp z; omega)]
    · rw [if_neg q, if_pos (by rw [show w = 40 by omega]; rfl)]
  refine ⟨if w < 40 then 1 else 0, kd_feed hd w v S, km_feeds v (kd_feed hd w v S), fun post p => ⟨v, hd, tk, w, rfl, i12, i7, hw, e7, e3, p⟩, fun post p => ⟨v, rfl, ⟨w, by omega, f519⟩, by rw [er]; exact p⟩, ?_, fun i hi => oD i (by omega), fun i hi => (oF.1 i (by omega)).trans (oD i (by omega))⟩
  have eM : km_feeds v (kd_feed hd w v S) = if w < 40 then km_an (lm_set (lm_set (kd_feed hd w v S) 18 (520 + w) (v &&& 255)) 18 519 (nI (w + 1))) else kd_feed hd w v S := by
    unfold km_feeds
    rw [f519]
    by_cases q : w < 40
    · rw [if_pos q, if_neg (show ¬ nI w = (40 : Int32) from fun z => by have := (nI_eq (b := 40) (by omega) (by omega)).mp z; omega), show (520 : Int32) + nI w = nI (520 + w) from nI_add 520 w, nI_clamp (by omega), ls_n _ _ (by omega), f519, nI_1]
    · rw [if_neg q, if_pos (by rw [show w = 40 by omega]; rfl)]
  rw [eM]
  by_cases q : w < 40
  · rw [if_pos q]
    have eD : kd_feed hd w v S = kd_begin (kd_drop hd (kd_ai w (v &&& 255) (kd_shi w 0 S))) := by unfold kd_feed; rw [if_pos q]
    have eE : kd_ai w (v &&& 255) (kd_shi w 0 S) = lm_set (lm_set (lm_set (lm_set (kd_shi w 0 S) 6 7 0) 1 3 (nI w)) 7 w (v &&& 255)) 1 3 (nI (w + 1)) := by
      unfold kd_ai
      rw [if_neg (show ¬ (40 : Int32) ≤ nI w from nI_ge (b := 40) q (by omega)), nI_clamp (by omega), nI_1]
    refine IV.anew (hd := hd) h3 h4 (r.feed tk w e7 e3 hw q (v &&& 255)) ?_ i12 ((do_ai _ _ _).tr (do_shi _ _ _)) (dr := dr) ?_ h6 ?_ ?_
    · rw [eE, ls_o _ (by omega), ls_o _ (by omega), ls_o _ (by omega), ls_n _ _ (by omega), shi_o _ _ _ _ (by omega)]
      exact i7
    · rw [eE, ls_n _ _ (by omega), ls_o _ (by omega), ls_n _ _ (by omega), ls_o _ (by omega), shi_o _ _ _ _ (by omega)]
      exact h5
    · rw [eD]
      exact (mfo.rf _).st.st
    · show upd (upd ((kd_feed hd w v S) 18) (520 + w) _) 519 _ = upd (upd (S 18) (520 + w) _) 519 _
      rw [oD 18 (by omega)]
  · rw [if_neg q]
    have eD : kd_feed hd w v S = S := by unfold kd_feed; rw [if_neg q]
    rw [eD]
    exact h0.up (by omega)
theorem jc_go {q : Nat} {S : lm_S} (h : IV q S) (t : Int32) : jc s_D_go s_R_go [.ref 0, .int t] [.ref 16, .int t] q S := by
  have h0 := h
  obtain ⟨b, C, a, N, c, d, dr, hD, hM, h3, h4, h5, h6⟩ := h
  obtain ⟨ea, eN, an⟩ := hD.an
  rw [ea, eN] at an
  have hN := hD.2.1
  have e24 := hD.2.2.2.1
  have hq : vQ b := by
    have g := (hD.2.2.2.2.2.2.1 0 (by omega)).1
    exact g.q
  by_cases hw : km_within t (nI N) = 0
  · have hz : t < 0 ∨ ¬ t ≤ nI N := by
      refine Classical.byContradiction (fun z => ?_)
      have z1 : ¬ t < 0 := fun y => z (Or.inl y)
      have z2 : t ≤ nI N := Classical.byContradiction (fun y => z (Or.inr y))
      unfold km_within at hw
      rw [if_neg z1, if_neg (Int32.not_lt.mpr z2)] at hw
      exact absurd hw (by decide)
    have e1 : (if t < 0 then (0 : Int32) else if t ≤ S 2 4 then 1 else 0) = 0 := by
      rw [e24]
      rcases hz with y | y
      · rw [if_pos y]
      · rw [if_neg y]
        split <;> rfl
    have e2 : (if t < 0 then S else if t ≤ S 2 4 then kd_mv a t.toNatClampNeg S else S) = S := by
      rw [e24]
      rcases hz with y | y
      · rw [if_pos y]
      · rw [if_neg y]
        split <;> rfl
    refine ⟨0, S, S, fun post p => ⟨t, a, N, rfl, an, by rw [e1, e2]; exact p⟩, fun post p => ⟨t, N, vQ, rfl, hM.2.2.2, hN, vQ_km, by rw [hM.1]; exact hq, ?_⟩, h0.up (by omega), fun _ _ => rfl, fun _ _ => rfl⟩
    rw [hM.2.2.2, hw, if_pos rfl]
    exact p
  · have h1 : ¬ t < 0 := fun y => hw (by unfold km_within; rw [if_pos y])
    have h2 : ¬ nI N < t := fun y => hw (by unfold km_within; rw [if_neg h1, if_pos y])
    obtain ⟨j, hj, rfl⟩ := nI_of h1
    have hjN : j ≤ N := by
      rcases Nat.lt_or_ge N j with y | y
      · exact absurd (nI_lt y hj) h2
      · exact y
    have e1 : (if nI j < 0 then (0 : Int32) else if nI j ≤ S 2 4 then 1 else 0) = 1 := by
      rw [e24, if_neg h1, if_pos (nI_le hjN (by omega))]
    have e2 : (if nI j < 0 then S else if nI j ≤ S 2 4 then kd_mv a (nI j).toNatClampNeg S else S) = kd_mv a j S := by
      rw [e24, if_neg h1, if_pos (nI_le hjN (by omega)), nI_clamp hj]
    have oD := do_mv a j S
    have hM2 := hM.dfo oD
    have oF := mo_come j (kd_mv a j S)
    refine ⟨1, kd_mv a j S, km_come j (kd_mv a j S), fun post p => ⟨nI j, a, N, rfl, an, by rw [e1, e2]; exact p⟩, fun post p => ⟨nI j, N, vQ, rfl, hM2.2.2.2, hN, vQ_km, by rw [hM2.1]; exact hq, ?_⟩, ?_, fun i hi => oD i (by omega), fun i hi => (oF.1 i (by omega)).trans (oD i (by omega))⟩
    · rw [hM2.2.2.2, if_neg hw, nI_clamp hj]
      have e3 : km_w01 (km_within (nI j) (nI N)) = 1 := by unfold km_w01; rw [if_neg hw]
      rw [e3]
      exact p
    · refine IV.up ?_ (show q ≤ q + 1 by omega)
      refine IV.both h3 h4 (hD.move j hjN) oD oF (come_M hM2.1 hM2.2.2.2 j) (dr := dr) ?_ h6
      rw [mv_o a j S 1 (by omega) (by omega) (by omega) (by omega)]
      exact h5
end
section
/-! wrote, seek, run -/
theorem HD.vq {b : Nat → Int32} {C : Nat → Nat → Int32} {a N : Nat} {S : lm_S} (hD : HD b C a N S) : vQ b := (hD.2.2.2.2.2.2.1 0 (by omega)).1.q
theorem jc_wrote {q : Nat} {S : lm_S} (h : IV q S) (t : Int32) : jc s_D_wrote s_R_wrote [.ref 0, .int t] [.ref 16, .int t] q S := by
  obtain ⟨b, C, a, N, c, d, dr, hD, hM, h3, h4, h5, h6⟩ := h
  have hN := hD.2.1
  have ha := hD.1
  have e24 := hD.2.2.2.1
  have oF := mo_wrs a t S
  have pre : ∀ k : Nat, k < 2 → ¬ t < 0 → t < S 2 4 → vp_in (t * 2 + nI k) 600 := fun k hk h1 h2 => by
    obtain ⟨j, hj, rfl⟩ := nI_of h1
    rw [e24, nI_ltI hj (by omega)] at h2
    rw [nI_m2, nI_add]
    exact vp_in_nI (by omega) (by decide)
  refine ⟨kd_lpw t S, S, km_wrs a t S, fun post p => ⟨t, rfl, pre 1 (by omega), pre 0 (by omega), p⟩, fun post p => ⟨t, a, N, vQ, rfl, hM.2.2.1, hM.2.2.2, by omega, hN, vQ_km, by rw [hM.1]; exact hD.vq, by rw [← wrote_sim hD hM]; exact p⟩, ?_, fun _ _ => rfl, fun i hi => oF.1 i (by omega)⟩
  refine IV.up ?_ (show q ≤ q + 1 by omega)
  refine IV.both h3 h4 hD (dfo.rf S) oF ?_ h5 h6
  unfold km_wrs
  split
  · exact hM
  · refine come_M ?_ ?_ a
    · rw [km_come_17]; exact hM.1
    · rw [km_come_16 _ 3 S (by omega) (by omega) (by omega)]; exact hM.2.2.2
theorem ob_skr (o : Option Nat) : km_ob o = kd_skr o := by
  cases o <;> rfl
theorem jc_seek {q : Nat} {S : lm_S} (h : IV q S) : jc s_D_seek s_R_seek [.ref 0] [.ref 16] q S := by
  obtain ⟨b, C, a, N, c, d, dr, hD, hM, h3, h4, h5, h6⟩ := h
  obtain ⟨ea, eN, an⟩ := hD.an
  rw [ea, eN] at an
  have hN := hD.2.1
  have ha := hD.1
  have oD := do_sks a S (kd_sk S a)
  generalize hDD : kd_sks a S (kd_sk S a) = D at oD
  have hM2 := hM.dfo oD
  have k1 : ∀ x, km_hs 19 x D c 0 = kd_has 14 x S := fun x => by rw [hs_c (oD 19 (by omega)), h3.has]
  have k2 : ∀ x, km_hs 20 x D d 0 = kd_has 15 x S := fun x => by rw [hs_c (oD 20 (by omega)), h4.has]
  obtain ⟨g1, g2, g3, g4⟩ := seek_sim (D := S) (M := D) hD hM2 (fun x => rfl) (fun x => rfl) k1 k2
  rw [hDD] at g3
  have oF : mfo (km_come (km_of a (kd_sk S a)) (km_skp c d a D).2) D := (mo_come _ _).tr (g2.mfo.tr (mo_come 0 D))
  refine ⟨kd_skr (kd_sk S a), D, km_come (km_of a (kd_sk S a)) (km_skp c d a D).2, fun post p => ⟨a, N, rfl, an, by rw [hDD]; exact p⟩, fun post p => ⟨c, d, a, vQ, rfl, h3.1, h4.1, by omega, by rw [oD 16 (by omega)]; exact h3.2.1, by rw [oD 16 (by omega)]; exact h4.2.1, hM2.2.2.1, vQ_km, by rw [hM2.1]; exact hD.vq, by rw [g1, ob_skr]; exact p⟩, ?_, fun i hi => oD i (by omega), fun i hi => (oF.1 i (by omega)).trans (oD i (by omega))⟩
  refine IV.up ?_ (show q ≤ q + 1 by omega)
  refine IV.both h3 h4 g3 oD oF g4 (dr := dr) ?_ h6
  rw [← hDD]
  cases kd_sk S a with
  | none => exact h5
  | some t =>
    show (kd_mv a t S) 1 5 = nI dr
    rw [mv_o a t S 1 (by omega) (by omega) (by omega) (by omega)]
    exact h5
theorem HD.so15 {b : Nat → Int32} {C : Nat → Nat → Int32} {a N : Nat} {S : lm_S} (h : HD b C a N S) : (kd_so S) 1 5 = S 1 5 := by
  have ok := h.now.ok
  obtain ⟨e1, e2, -⟩ := h.an
  obtain ⟨h1, h2, h3, h4, h5, h6, h7, h8, h9⟩ := h
  unfold kd_so kd_sos
  rw [e1, e2]
  split
  · rw [mv_o _ _ _ 1 (by omega) (by omega) (by omega) (by omega)]
  · split
    · split
      · rename_i q1 q2 q3
        have e : (kd_app (kd_step S)) 1 = (kd_step S) 1 := by
          unfold kd_app kd_keep kd_app4
          rw [va_up_ne _ _ (by omega), ls_o _ (by omega), ls_o _ (by omega), ls_o _ (by omega), ls_o _ (by omega), ls_o _ (by omega), ls_o _ (by omega)]
        rw [e]
        obtain ⟨x, y, hx, hy, hxy, hyN⟩ := h9 a h1
        have h68 : S 6 8 = nI x := by rw [h5 8 (by omega)]; exact hx
        rcases kp_step x (by omega) S h68 ok.2.1 with g | ⟨_, _, _, g⟩
        · exact g.2.2 5 (by omega)
        · exact g 5 (by omega)
      · rfl
    · rfl
theorem rn15 (b : Nat → Int32) : ∀ (m k : Nat) (S : lm_S), dJ b S → (kd_rn m k S).2 1 5 = S 1 5
  | 0, _, S, _ => rfl
  | m + 1, k, S, h => by
    have g := (dJ_J b S h).2.2
    have e : (kd_so S) 1 5 = S 1 5 := by
      obtain ⟨C, a, N, h2⟩ := h
      exact h2.so15
    rw [kd_rn]
    split
    · rfl
    · split
      · exact e
      · rw [rn15 b m (k + 1) _ g]
        exact e
theorem jc_run {q : Nat} {S : lm_S} (h : IV q S) (x : Int32) : jc s_D_run s_R_run [.ref 0, .int x] [.ref 16, .int x] q S := by
  have h0 := h
  obtain ⟨b, C, a, N, c, d, dr, hD, hM, h3, h4, h5, h6⟩ := h
  have hN := hD.2.1
  have ha := hD.1
  have hj : dJ b S := ⟨C, a, N, hD⟩
  have hq18 : vQ (S 18) := by rw [hM.2.1]; exact hD.now.q
  by_cases hw : km_within x 300 = 0
  · have hz : x < 0 ∨ ¬ x ≤ 300 := by
      refine Classical.byContradiction (fun z => ?_)
      have z1 : ¬ x < 0 := fun y => z (Or.inl y)
      have z2 : x ≤ 300 := Classical.byContradiction (fun y => z (Or.inr y))
      unfold km_within at hw
      rw [if_neg z1, if_neg (Int32.not_lt.mpr z2)] at hw
      exact absurd hw (by decide)
    have e1 : kd_runr x S = 0 := by
      unfold kd_runr
      rcases hz with y | y
      · rw [if_pos y]
      · rw [if_neg y]
        split <;> rfl
    have e2 : kd_runs x S = S := by
      unfold kd_runs
      rcases hz with y | y
      · rw [if_pos y]
      · rw [if_neg y]
        split <;> rfl
    have e3 : km_run c x S = (0, S) := by unfold km_run; rw [if_pos hw]
    refine ⟨0, S, S, fun post p => ⟨x, dJ b, rfl, dJ_J b, hj, by rw [e1, e2]; exact p⟩, fun post p => ⟨x, c, vQ, rfl, h3.1, h3.2.1, vQ_km, hq18, by rw [e3]; exact p⟩, h0.up (by omega), fun _ _ => rfl, fun _ _ => rfl⟩
  · have h1 : ¬ x < 0 := fun y => hw (by unfold km_within; rw [if_pos y])
    have h2 : ¬ (300 : Int32) < x := fun y => hw (by unfold km_within; rw [if_neg h1, if_pos y])
    have h2' : x ≤ 300 := Int32.not_lt.mp h2
    have e1 : kd_runr x S = nI (kd_rn x.toNatClampNeg 0 S).1 := by unfold kd_runr; rw [if_neg h1, if_pos h2']
    have e2 : kd_runs x S = (kd_rn x.toNatClampNeg 0 S).2 := by unfold kd_runs; rw [if_neg h1, if_pos h2']
    have oD := do_rn x.toNatClampNeg 0 S
    have e15 := rn15 b x.toNatClampNeg 0 S hj
    have hM2 := hM.dfo oD
    generalize hDD : (kd_rn x.toNatClampNeg 0 S).2 = D at oD e15 hM2 e2
    have k1 : ∀ y, km_hs 19 y D c 0 = kd_has 14 y S := fun y => by rw [hs_c (oD 19 (by omega)), h3.has]
    obtain ⟨g1, C1, a1, N1, g2, g3⟩ := run_sim b c (fun y => kd_has 14 y S) x.toNatClampNeg 0 S D C a N hD hM2 (fun y => rfl) k1
    rw [hDD] at g2
    have e3 : km_run c x D = km_rn c x.toNatClampNeg 0 D := by unfold km_run; rw [if_neg hw]
    have oF := mo_rn c x.toNatClampNeg 0 D
    refine ⟨nI (kd_rn x.toNatClampNeg 0 S).1, D, (km_rn c x.toNatClampNeg 0 D).2, fun post p => ⟨x, dJ b, rfl, dJ_J b, hj, by rw [e1, e2]; exact p⟩, fun post p => ⟨x, c, vQ, rfl, h3.1, by rw [oD 16 (by omega)]; exact h3.2.1, vQ_km, by rw [oD 18 (by omega)]; exact hq18, by rw [e3, ← g1]; exact p⟩, ?_, fun i hi => oD i (by omega), fun i hi => (oF.1 i (by omega)).trans (oD i (by omega))⟩
    refine IV.up ?_ (show q ≤ q + 1 by omega)
    exact IV.both h3 h4 g2 oD oF g3 (by rw [e15]; exact h5) h6
end
section
/-! stop and watch -/
def mq (c : Nat) (L G : Nat → Int32) : Prop := c ≤ 4 ∧ (∀ k, k < c → ∃ p : Nat, p < 512 ∧ L k = nI p) ∧ (∀ i j, i < c → j < c → L i = L j → i = j) ∧ ∀ p : Nat, p < 512 → (G p = 1 ∧ ∃ k, k < c ∧ L k = nI p) ∨ (G p = 0 ∧ ∀ k, k < c → ¬ L k = nI p)
theorem mk.q {l f m s c : Nat} {S : lm_S} (h : mk l f m s c S) : mq c (S l) (S m) := ⟨h.1, h.2.2.2⟩
theorem mq.mk {l f m s c : Nat} {S : lm_S} (h : mq c (S l) (S m)) (h2 : S 16 f = nI c) (h3 : S s 1 = nI c) : mk l f m s c S := ⟨h.1, h2, h3, h.2⟩
theorem mq.onn {c p : Nat} {L G : Nat → Int32} (h : mq c L G) (h4 : c < 4) (hp : p < 512) (h0 : G p = 0) : mq (c + 1) (upd L c (nI p)) (upd G p 1) := by
  obtain ⟨q1, q2, q3, q4⟩ := h
  have hno : ∀ k, k < c → ¬ L k = nI p := by
    rcases q4 p hp with ⟨a, _⟩ | ⟨_, b⟩
    · rw [h0] at a
      exact absurd a (by decide)
    · exact b
  have eC : upd L c (nI p) c = nI p := pk_us
  have eO : ∀ k, k < c → upd L c (nI p) k = L k := fun k hk => pk_un (by omega)
  refine ⟨by omega, fun k hk => ?_, fun i j hi hj e => ?_, fun r hr => ?_⟩
  · by_cases z : k = c
    · subst z
      exact ⟨p, hp, eC⟩
    · rw [eO k (by omega)]
      exact q2 k (by omega)
  · by_cases zi : i = c
    · subst zi
      by_cases zj : j = i
      · exact zj.symm
      · rw [eC, eO j (by omega)] at e
        exact absurd e.symm (hno j (by omega))
    · by_cases zj : j = c
      · subst zj
        rw [eC, eO i (by omega)] at e
        exact absurd e (hno i (by omega))
      · rw [eO i (by omega), eO j (by omega)] at e
        exact q3 i j (by omega) (by omega) e
  · by_cases z : r = p
    · subst z
      exact Or.inl ⟨pk_us, c, by omega, eC⟩
    · rw [pk_un z]
      rcases q4 r hr with ⟨a, k, hk, e⟩ | ⟨a, n⟩
      · exact Or.inl ⟨a, k, by omega, by rw [eO k hk]; exact e⟩
      · refine Or.inr ⟨a, fun k hk => ?_⟩
        by_cases y : k = c
        · subst y
          rw [eC]
          exact fun w => z ((nI_eq (by omega) (by omega)).mp w).symm
        · rw [eO k (by omega)]
          exact n k (by omega)
theorem mq.off {c p i0 : Nat} {L L1 G : Nat → Int32} (h : mq c L G) (hp : p < 512) (hi : i0 < c) (e0 : L i0 = nI p) (hL : ∀ j, j < c - 1 → L1 j = L (if j < i0 then j else j + 1)) : mq (c - 1) L1 (upd G p 0) := by
  obtain ⟨q1, q2, q3, q4⟩ := h
  have lt : ∀ j, j < c - 1 → (if j < i0 then j else j + 1) < c := fun j hj => by split <;> omega
  refine ⟨by omega, fun k hk => ?_, fun i j hi hj e => ?_, fun r hr => ?_⟩
  · rw [hL k hk]
    exact q2 _ (lt k hk)
  · rw [hL i hi, hL j hj] at e
    have g := q3 _ _ (lt i hi) (lt j hj) e
    split at g <;> split at g <;> omega
  · by_cases z : r = p
    · subst z
      refine Or.inr ⟨pk_us, fun k hk y => ?_⟩
      rw [hL k hk, ← e0] at y
      have g := q3 _ _ (lt k hk) hi y
      split at g <;> omega
    · rw [pk_un z]
      rcases q4 r hr with ⟨a, k, hk, e⟩ | ⟨a, n⟩
      · refine Or.inl ⟨a, ?_⟩
        have hne : k ≠ i0 := fun y => by
          subst y
          rw [e0] at e
          exact z ((nI_eq (by omega) (by omega)).mp e).symm
        by_cases y : k < i0
        · exact ⟨k, by omega, by rw [hL k (by omega), if_pos y]; exact e⟩
        · exact ⟨k - 1, by omega, by rw [hL (k - 1) (by omega), if_neg (by omega), show k - 1 + 1 = k by omega]; exact e⟩
      · refine Or.inr ⟨a, fun k hk => ?_⟩
        rw [hL k hk]
        exact n _ (lt k hk)
/-- the reference closes up its list -/
theorem cpt_2 (l : Nat) (a : Int32) : ∀ (m n : Nat) (S : lm_S), (∀ j, n + 1 ≤ j → j < n + 1 + m → ¬ S l j = a) → (km_cpt l a m (n + 1) n S).1 = n + m ∧ (∀ i, i ≠ l → (km_cpt l a m (n + 1) n S).2 i = S i) ∧ ∀ j, (km_cpt l a m (n + 1) n S).2 l j = if n ≤ j ∧ j < n + m then S l (j + 1) else S l j
  | 0, n, S, _ => ⟨rfl, fun _ _ => rfl, fun j => by rw [if_neg (by omega)]; rfl⟩
  | m + 1, n, S, h => by
    rw [km_cpt, if_neg (h (n + 1) (by omega) (by omega))]
    obtain ⟨g1, g2, g3⟩ := cpt_2 l a m (n + 1) (lm_set S l n (S l (n + 1))) (fun j h1 h2 => by rw [ls_n _ _ (by omega)]; exact h j (by omega) (by omega))
    refine ⟨by rw [g1]; omega, fun i hi => by rw [g2 i hi, ls_o _ hi], fun j => ?_⟩
    rw [g3]
    by_cases h1 : j = n
    · subst h1
      rw [if_neg (by omega), if_pos (by omega), ls_i]
    · by_cases h2 : n + 1 ≤ j ∧ j < n + 1 + m
      · rw [if_pos h2, if_pos (by omega), ls_n _ _ (by omega)]
      · rw [if_neg h2, if_neg (by omega), ls_n _ _ h1]
theorem cpt_1 (l : Nat) (a : Int32) (S : lm_S) (r : Nat) : ∀ (m k : Nat), (∀ j, k ≤ j → j < k + m → ¬ S l j = a) → km_cpt l a (m + r) k k S = km_cpt l a r (k + m) (k + m) S
  | 0, k, _ => by rw [Nat.zero_add, Nat.add_zero]
  | m + 1, k, h => by
    rw [show m + 1 + r = (m + r) + 1 by omega, km_cpt, if_neg (h k (by omega) (by omega)), ls_id S l k _ rfl, cpt_1 l a S r m (k + 1) (fun j h1 h2 => h j (by omega) (by omega)), show k + 1 + m = k + (m + 1) by omega]
theorem cpt_0 {l c i0 : Nat} {a : Int32} {S : lm_S} (hi : i0 < c) (e0 : S l i0 = a) (hd : ∀ j, j < c → S l j = a → j = i0) : (km_cpt l a c 0 0 S).1 = c - 1 ∧ (∀ i, i ≠ l → (km_cpt l a c 0 0 S).2 i = S i) ∧ ∀ j, j < c - 1 → (km_cpt l a c 0 0 S).2 l j = S l (if j < i0 then j else j + 1) := by
  have e : km_cpt l a c 0 0 S = km_cpt l a (c - 1 - i0) (i0 + 1) i0 S := by
    have g := cpt_1 l a S (c - i0) i0 0 (fun j h1 h2 z => by have := hd j (by omega) z; omega)
    rw [show i0 + (c - i0) = c by omega, Nat.zero_add] at g
    rw [g, show c - i0 = (c - 1 - i0) + 1 by omega, km_cpt, if_pos e0]
  rw [e]
  obtain ⟨g1, g2, g3⟩ := cpt_2 l a (c - 1 - i0) i0 S (fun j h1 h2 z => by have := hd j (by omega) z; omega)
  refine ⟨by rw [g1]; omega, g2, fun j hj => ?_⟩
  rw [g3]
  by_cases y : j < i0
  · rw [if_neg (by omega), if_pos y]
  · rw [if_pos (by omega), if_neg y]
theorem turn_sim {l f m s c : Nat} (hc : (l = 19 ∧ f = 6 ∧ m = 14 ∧ s = 3) ∨ (l = 20 ∧ f = 7 ∧ m = 15 ∧ s = 4)) {S : lm_S} (h : mk l f m s c S) (a on : Int32) (h01 : on = 0 ∨ on = 1) :
    kd_chr s m a on S = km_tsr (km_tur l c a on (kd_chs s m a on S)) ∧ (∃ c1, mk l f m s c1 (km_tss f (km_tur l c a on (kd_chs s m a on S)) (kd_chs s m a on S))) ∧ (∀ i, i ≠ s → i ≠ m → (kd_chs s m a on S) i = S i) ∧ (∀ i, i ≠ l → i ≠ 16 → (km_tss f (km_tur l c a on (kd_chs s m a on S)) (kd_chs s m a on S)) i = (kd_chs s m a on S) i) ∧ ∀ k, k ≠ f → (km_tss f (km_tur l c a on (kd_chs s m a on S)) (kd_chs s m a on S)) 16 k = (kd_chs s m a on S) 16 k := by
  have hh := h.has a
  have hq := h.q
  have hf := h.2.1
  have hs := h.2.2.1
  have hc4 := h.1
  have none : ∀ (D : lm_S), D = S → kd_chr s m a on S = 0 → km_tur l c a on D = none → kd_chr s m a on S = km_tsr (km_tur l c a on D) ∧ (∃ c1, mk l f m s c1 (km_tss f (km_tur l c a on D) D)) ∧ (∀ i, i ≠ s → i ≠ m → D i = S i) ∧ (∀ i, i ≠ l → i ≠ 16 → (km_tss f (km_tur l c a on D) D) i = D i) ∧ ∀ k, k ≠ f → (km_tss f (km_tur l c a on D) D) 16 k = D 16 k := by
    intro D e1 e2 e3
    rw [e3, e2, e1]
    exact ⟨rfl, ⟨c, h⟩, fun _ _ _ => rfl, fun _ _ _ => rfl, fun _ _ => rfl⟩
  by_cases hA : kd_isA a = 0
  · refine none _ ?_ ?_ ?_
    · unfold kd_chs; rw [if_pos hA]
    · unfold kd_chr; rw [if_pos hA]
    · unfold km_tur; rw [← isA_w, if_pos hA]
  · have hA2 := hA
    obtain ⟨p, hp, rfl⟩ := isA_of hA
    have hG : S m p = km_hs l (nI p) S c 0 := by
      rw [← hh]
      unfold kd_has
      rw [if_neg hA2, nI_clamp (by omega)]
      rcases hq.2.2.2 p hp with ⟨y, _⟩ | ⟨y, _⟩ <;> rw [y] <;> rfl
    by_cases hE : S m p = on
    · refine none _ ?_ ?_ ?_
      · unfold kd_chs; rw [if_neg hA2, nI_clamp (by omega), if_pos hE]
      · unfold kd_chr; rw [if_neg hA2, nI_clamp (by omega), if_pos hE]
      · have eD : kd_chs s m (nI p) on S = S := by unfold kd_chs; rw [if_neg hA2, nI_clamp (by omega), if_pos hE]
        rw [eD]
        unfold km_tur
        rw [← isA_w, if_neg hA2, ← hG, if_pos hE]
    · rcases h01 with rfl | rfl
      · -- off
        obtain ⟨_, i0, hi, e0⟩ : S m p = 1 ∧ ∃ k, k < c ∧ S l k = nI p := by
          rcases hq.2.2.2 p hp with y | ⟨y, _⟩
          · exact y
          · exact absurd y hE
        have eR : kd_chr s m (nI p) 0 S = 1 := by unfold kd_chr; rw [if_neg hA2, nI_clamp (by omega), if_neg hE, if_pos rfl]
        have eD : kd_chs s m (nI p) 0 S = lm_set (lm_set S m p 0) s 1 (nI (c - 1)) := by
          unfold kd_chs
          rw [if_neg hA2, nI_clamp (by omega), if_neg hE, if_pos rfl, hs, show c = (c - 1) + 1 by omega, pk_m1, show (0 : Int32) &&& 1 = 0 from by decide]
          rfl
        rw [eD, eR]
        have oD : ∀ i, i ≠ s → i ≠ m → (lm_set (lm_set S m p 0) s 1 (nI (c - 1))) i = S i := fun i h1 h2 => by rw [ls_o _ h1, ls_o _ h2]
        have dm : (lm_set (lm_set S m p 0) s 1 (nI (c - 1))) m = upd (S m) p 0 := by
          rw [ls_o _ (by omega)]
          exact va_up_self _ _ _
        have ds : (lm_set (lm_set S m p 0) s 1 (nI (c - 1))) s 1 = nI (c - 1) := ls_i _ _ _ _
        generalize lm_set (lm_set S m p 0) s 1 (nI (c - 1)) = D at oD dm ds
        have eT : km_tur l c (nI p) 0 D = some (km_cpt l (nI p) c 0 0 D) := by
          unfold km_tur
          rw [← isA_w, if_neg hA2, hs_c (oD l (by omega) (by omega)), ← hG, if_neg hE, if_pos rfl]
        have el : D l = S l := oD l (by omega) (by omega)
        obtain ⟨g1, g2, g3⟩ := cpt_0 (l := l) (c := c) (i0 := i0) (a := nI p) (S := D) hi (by rw [el]; exact e0) (fun j hj y => by rw [el, ← e0] at y; exact hq.2.2.1 j i0 hj hi y)
        rw [eT]
        refine ⟨rfl, ⟨c - 1, ?_⟩, oD, fun i h1 h2 => ?_, fun k hk => ?_⟩
        · show mk l f m s (c - 1) (lm_set (km_cpt l (nI p) c 0 0 D).2 16 f (nI (km_cpt l (nI p) c 0 0 D).1))
          rw [g1]
          refine mq.mk ?_ (ls_i _ _ _ _) ?_
          · rw [ls_o _ (by omega), ls_o _ (by omega), g2 m (by omega), dm]
            refine hq.off hp hi e0 (fun j hj => ?_)
            rw [g3 j hj, el]
          · rw [ls_o _ (by omega), g2 s (by omega)]
            exact ds
        · show (lm_set (km_cpt l (nI p) c 0 0 D).2 16 f _) i = D i
          rw [ls_o _ h2]
          exact g2 i h1
        · show (lm_set (km_cpt l (nI p) c 0 0 D).2 16 f _) 16 k = D 16 k
          rw [ls_n _ _ hk, g2 16 (by omega)]
      · -- on
        have e0 : S m p = 0 := by
          rcases hq.2.2.2 p hp with ⟨y, _⟩ | ⟨y, _⟩
          · exact absurd y hE
          · exact y
        by_cases h4 : c < 4
        · have hl4 : S s 1 < 4 := by rw [hs]; exact nI_lt (b := 4) h4 (by omega)
          have eR : kd_chr s m (nI p) 1 S = 1 := by unfold kd_chr; rw [if_neg hA2, nI_clamp (by omega), if_neg hE, if_neg (by decide), if_pos hl4]
          have eD : kd_chs s m (nI p) 1 S = lm_set (lm_set S m p 1) s 1 (nI (c + 1)) := by
            unfold kd_chs
            rw [if_neg hA2, nI_clamp (by omega), if_neg hE, if_neg (by decide), if_pos hl4, hs, nI_1, show (1 : Int32) &&& 1 = 1 from by decide]
          rw [eD, eR]
          have oD : ∀ i, i ≠ s → i ≠ m → (lm_set (lm_set S m p 1) s 1 (nI (c + 1))) i = S i := fun i h1 h2 => by rw [ls_o _ h1, ls_o _ h2]
          have dm : (lm_set (lm_set S m p 1) s 1 (nI (c + 1))) m = upd (S m) p 1 := by
            rw [ls_o _ (by omega)]
            exact va_up_self _ _ _
          have ds : (lm_set (lm_set S m p 1) s 1 (nI (c + 1))) s 1 = nI (c + 1) := ls_i _ _ _ _
          generalize lm_set (lm_set S m p 1) s 1 (nI (c + 1)) = D at oD dm ds
          have eT : km_tur l c (nI p) 1 D = some (c + 1, lm_set D l c (nI p)) := by
            unfold km_tur
            rw [← isA_w, if_neg hA2, hs_c (oD l (by omega) (by omega)), ← hG, if_neg hE, if_neg (by decide), if_neg (by omega)]
          have el : D l = S l := oD l (by omega) (by omega)
          rw [eT]
          refine ⟨rfl, ⟨c + 1, ?_⟩, oD, fun i h1 h2 => ?_, fun k hk => ?_⟩
          · show mk l f m s (c + 1) (lm_set (lm_set D l c (nI p)) 16 f (nI (c + 1)))
            refine mq.mk ?_ (ls_i _ _ _ _) ?_
            · rw [ls_o (j := l) _ (by omega), ls_o (j := m) _ (by omega), ls_o (j := m) _ (by omega), dm]
              have e : (lm_set D l c (nI p)) l = upd (S l) c (nI p) := by
                rw [← el]
                exact va_up_self _ _ _
              rw [e]
              exact hq.onn h4 hp e0
            · rw [ls_o _ (by omega), ls_o _ (by omega)]
              exact ds
          · show (lm_set (lm_set D l c (nI p)) 16 f _) i = D i
            rw [ls_o _ h2, ls_o _ h1]
          · show (lm_set (lm_set D l c (nI p)) 16 f _) 16 k = D 16 k
            rw [ls_n _ _ hk, ls_o _ (by omega)]
        · have hl4 : ¬ S s 1 < 4 := by rw [hs]; exact nI_nlt (b := 4) (by omega) (by omega)
          have eD : kd_chs s m (nI p) 1 S = S := by unfold kd_chs; rw [if_neg hA2, nI_clamp (by omega), if_neg hE, if_neg (by decide), if_neg hl4]
          refine none _ eD ?_ ?_
          · unfold kd_chr; rw [if_neg hA2, nI_clamp (by omega), if_neg hE, if_neg (by decide), if_neg hl4]
          · rw [eD]
            unfold km_tur
            rw [← isA_w, if_neg hA2, ← hG, if_neg hE, if_neg (by decide), if_pos (by omega)]
theorem jc_stop {q : Nat} {S : lm_S} (h : IV q S) (a on : Int32) (h01 : on = 0 ∨ on = 1) : jc s_D_stop s_R_stop [.ref 0, .int a, .int on] [.ref 16, .int a, .int on] q S := by
  obtain ⟨b, C, m, N, c, d, dr, hD, hM, h3, h4, h5, h6⟩ := h
  obtain ⟨g1, ⟨c1, g2⟩, oD, o1, o2⟩ := turn_sim (Or.inl ⟨rfl, rfl, rfl, rfl⟩) h3 a on h01
  refine ⟨kd_chr 3 14 a on S, kd_chs 3 14 a on S, km_tss 6 (km_tur 19 c a on (kd_chs 3 14 a on S)) (kd_chs 3 14 a on S), fun post p => ⟨a, on, rfl, p⟩, fun post p => ⟨a, on, c, rfl, h3.1, by rw [oD 16 (by omega) (by omega)]; exact h3.2.1, by rw [← g1]; exact p⟩, ?_, fun i hi => oD i (by omega) (by omega), fun i hi => (o1 i (by omega) (by omega)).trans (oD i (by omega) (by omega))⟩
  generalize kd_chs 3 14 a on S = D at *
  generalize km_tss 6 (km_tur 19 c a on D) D = F at *
  refine IV.up (q := q) ⟨b, C, m, N, c1, d, dr, hD.cong (fun i hi i3 i4 => (o1 i (by omega) (by omega)).trans (oD i (by omega) (by omega))), hM.cong (by rw [o1 17 (by omega) (by omega), oD 17 (by omega) (by omega)]) (by rw [o1 18 (by omega) (by omega), oD 18 (by omega) (by omega)]) (by rw [o2 2 (by omega), oD 16 (by omega) (by omega)]) (by rw [o2 3 (by omega), oD 16 (by omega) (by omega)]), g2, h4.cong ?_ ?_ ?_ ?_, ?_, h6⟩ (by omega)
  · rw [o1 20 (by omega) (by omega), oD 20 (by omega) (by omega)]
  · rw [o2 7 (by omega), oD 16 (by omega) (by omega)]
  · rw [o1 15 (by omega) (by omega), oD 15 (by omega) (by omega)]
  · rw [o1 4 (by omega) (by omega), oD 4 (by omega) (by omega)]
  · rw [o1 1 (by omega) (by omega), oD 1 (by omega) (by omega)]
    exact h5
theorem jc_watch {q : Nat} {S : lm_S} (h : IV q S) (a on : Int32) (h01 : on = 0 ∨ on = 1) : jc s_D_watch s_R_watch [.ref 0, .int a, .int on] [.ref 16, .int a, .int on] q S := by
  obtain ⟨b, C, m, N, c, d, dr, hD, hM, h3, h4, h5, h6⟩ := h
  obtain ⟨g1, ⟨c1, g2⟩, oD, o1, o2⟩ := turn_sim (Or.inr ⟨rfl, rfl, rfl, rfl⟩) h4 a on h01
  refine ⟨kd_chr 4 15 a on S, kd_chs 4 15 a on S, km_tss 7 (km_tur 20 d a on (kd_chs 4 15 a on S)) (kd_chs 4 15 a on S), fun post p => ⟨a, on, rfl, p⟩, fun post p => ⟨a, on, d, rfl, h4.1, by rw [oD 16 (by omega) (by omega)]; exact h4.2.1, by rw [← g1]; exact p⟩, ?_, fun i hi => oD i (by omega) (by omega), fun i hi => (o1 i (by omega) (by omega)).trans (oD i (by omega) (by omega))⟩
  generalize kd_chs 4 15 a on S = D at *
  generalize km_tss 7 (km_tur 20 d a on D) D = F at *
  refine IV.up (q := q) ⟨b, C, m, N, c, c1, dr, hD.cong (fun i hi i3 i4 => (o1 i (by omega) (by omega)).trans (oD i (by omega) (by omega))), hM.cong (by rw [o1 17 (by omega) (by omega), oD 17 (by omega) (by omega)]) (by rw [o1 18 (by omega) (by omega), oD 18 (by omega) (by omega)]) (by rw [o2 2 (by omega), oD 16 (by omega) (by omega)]) (by rw [o2 3 (by omega), oD 16 (by omega) (by omega)]), h3.cong ?_ ?_ ?_ ?_, g2, ?_, h6⟩ (by omega)
  · rw [o1 19 (by omega) (by omega), oD 19 (by omega) (by omega)]
  · rw [o2 6 (by omega), oD 16 (by omega) (by omega)]
  · rw [o1 14 (by omega) (by omega), oD 14 (by omega) (by omega)]
  · rw [o1 3 (by omega) (by omega), oD 3 (by omega) (by omega)]
  · rw [o1 1 (by omega) (by omega), oD 1 (by omega) (by omega)]
    exact h5
end
section
/-! the law's loop as a light walk: written by wip/whole/gen40.py -/
def R_L : String := "ReplayDeskLaw"
def k_L : List (Nat × lm_R) := [(16, .iconst 0, 17, 0, 0), (17, .istore_n 3, 18, 0, 0), (18, .iload_n 3, 19, 0, 0), (19, .aload_n 0, 20, 0, 0), (20, .arraylength, 21, 0, 0), (21, .iconst 3, 22, 3, 0), (22, .isub, 23, 0, 0), (23, .if_icmp .gt (485), 26, 0, 508), (26, .aload_n 0, 27, 0, 0), (27, .iload_n 3, 28, 0, 0), (28, .iaload, 29, 0, 0), (29, .bipush (15), 31, 15, 0), (31, .iand, 32, 0, 0), (32, .tableswitch (470) 0 15 #[80, 113, 146, 169, 192, 215, 228, 241, 254, 303, 352, 375, 398, 411, 424, 447], 112, 0, 0), (112, .aload_n 1, 113, 0, 0), (113, .aload_n 0, 114, 0, 0), (114, .iload_n 3, 115, 0, 0), (115, .iconst 1, 116, 1, 0), (116, .iadd, 117, 0, 0), (117, .iaload, 118, 0, 0), (118, .aload_n 0, 119, 0, 0), (119, .iload_n 3, 120, 0, 0), (120, .iconst 2, 121, 2, 0), (121, .iadd, 122, 0, 0), (122, .iaload, 123, 0, 0), (123, .invokevirtual 13, 126, 0, 0), (126, .aload_n 2, 127, 0, 0), (127, .aload_n 0, 128, 0, 0), (128, .iload_n 3, 129, 0, 0), (129, .iconst 1, 130, 1, 0), (130, .iadd, 131, 0, 0), (131, .iaload, 132, 0, 0), (132, .aload_n 0, 133, 0, 0), (133, .iload_n 3, 134, 0, 0), (134, .iconst 2, 135, 2, 0), (135, .iadd, 136, 0, 0), (136, .iaload, 137, 0, 0), (137, .invokevirtual 17, 140, 0, 0), (140, .if_icmp .eq (362), 143, 0, 502), (143, .iconst 0, 144, 0, 0), (144, .ireturn, 145, 0, 0), (145, .aload_n 1, 146, 0, 0), (146, .aload_n 0, 147, 0, 0), (147, .iload_n 3, 148, 0, 0), (148, .iconst 1, 149, 1, 0), (149, .iadd, 150, 0, 0), (150, .iaload, 151, 0, 0), (151, .aload_n 0, 152, 0, 0), (152, .iload_n 3, 153, 0, 0), (153, .iconst 2, 154, 2, 0), (154, .iadd, 155, 0, 0), (155, .iaload, 156, 0, 0), (156, .invokevirtual 18, 159, 0, 0), (159, .aload_n 2, 160, 0, 0), (160, .aload_n 0, 161, 0, 0), (161, .iload_n 3, 162, 0, 0), (162, .iconst 1, 163, 1, 0), (163, .iadd, 164, 0, 0), (164, .iaload, 165, 0, 0), (165, .aload_n 0, 166, 0, 0), (166, .iload_n 3, 167, 0, 0), (167, .iconst 2, 168, 2, 0), (168, .iadd, 169, 0, 0), (169, .iaload, 170, 0, 0), (170, .invokevirtual 21, 173, 0, 0), (173, .if_icmp .eq (329), 176, 0, 502), (176, .iconst 0, 177, 0, 0), (177, .ireturn, 178, 0, 0), (178, .aload_n 1, 179, 0, 0), (179, .aload_n 0, 180, 0, 0), (180, .iload_n 3, 181, 0, 0), (181, .iconst 1, 182, 1, 0), (182, .iadd, 183, 0, 0), (183, .iaload, 184, 0, 0), (184, .invokevirtual 22, 187, 0, 0), (187, .aload_n 2, 188, 0, 0), (188, .aload_n 0, 189, 0, 0), (189, .iload_n 3, 190, 0, 0), (190, .iconst 1, 191, 1, 0), (191, .iadd, 192, 0, 0), (192, .iaload, 193, 0, 0), (193, .invokevirtual 26, 196, 0, 0), (196, .if_icmp .eq (306), 199, 0, 502), (199, .iconst 0, 200, 0, 0), (200, .ireturn, 201, 0, 0), (201, .aload_n 1, 202, 0, 0), (202, .aload_n 0, 203, 0, 0), (203, .iload_n 3, 204, 0, 0), (204, .iconst 1, 205, 1, 0), (205, .iadd, 206, 0, 0), (206, .iaload, 207, 0, 0), (207, .invokevirtual 27, 210, 0, 0), (210, .aload_n 2, 211, 0, 0), (211, .aload_n 0, 212, 0, 0), (212, .iload_n 3, 213, 0, 0), (213, .iconst 1, 214, 1, 0), (214, .iadd, 215, 0, 0), (215, .iaload, 216, 0, 0), (216, .invokevirtual 31, 219, 0, 0), (219, .if_icmp .eq (283), 222, 0, 502), (222, .iconst 0, 223, 0, 0), (223, .ireturn, 224, 0, 0), (224, .aload_n 1, 225, 0, 0), (225, .aload_n 0, 226, 0, 0), (226, .iload_n 3, 227, 0, 0), (227, .iconst 1, 228, 1, 0), (228, .iadd, 229, 0, 0), (229, .iaload, 230, 0, 0), (230, .invokevirtual 32, 233, 0, 0), (233, .aload_n 2, 234, 0, 0), (234, .aload_n 0, 235, 0, 0), (235, .iload_n 3, 236, 0, 0), (236, .iconst 1, 237, 1, 0), (237, .iadd, 238, 0, 0), (238, .iaload, 239, 0, 0), (239, .invokevirtual 35, 242, 0, 0), (242, .if_icmp .eq (260), 245, 0, 502), (245, .iconst 0, 246, 0, 0), (246, .ireturn, 247, 0, 0), (247, .aload_n 1, 248, 0, 0), (248, .invokevirtual 36, 251, 0, 0), (251, .aload_n 2, 252, 0, 0), (252, .invokevirtual 40, 255, 0, 0), (255, .if_icmp .eq (247), 258, 0, 502), (258, .iconst 0, 259, 0, 0), (259, .ireturn, 260, 0, 0), (260, .aload_n 1, 261, 0, 0), (261, .invokevirtual 41, 264, 0, 0), (264, .aload_n 2, 265, 0, 0), (265, .invokevirtual 44, 268, 0, 0), (268, .if_icmp .eq (234), 271, 0, 502), (271, .iconst 0, 272, 0, 0), (272, .ireturn, 273, 0, 0), (273, .aload_n 1, 274, 0, 0), (274, .invokevirtual 45, 277, 0, 0), (277, .aload_n 2, 278, 0, 0), (278, .invokevirtual 48, 281, 0, 0), (281, .if_icmp .eq (221), 284, 0, 502), (284, .iconst 0, 285, 0, 0), (285, .ireturn, 286, 0, 0), (286, .aload_n 1, 287, 0, 0), (287, .aload_n 0, 288, 0, 0), (288, .iload_n 3, 289, 0, 0), (289, .iconst 1, 290, 1, 0), (290, .iadd, 291, 0, 0), (291, .iaload, 292, 0, 0), (292, .aload_n 0, 293, 0, 0), (293, .iload_n 3, 294, 0, 0), (294, .iconst 2, 295, 2, 0), (295, .iadd, 296, 0, 0), (296, .iaload, 297, 0, 0), (297, .ifCond .eq (7), 300, 0, 304), (300, .iconst 1, 301, 1, 0), (301, .goto (4), 304, 0, 305), (304, .iconst 0, 305, 0, 0), (305, .invokevirtual 49, 308, 0, 0), (308, .aload_n 2, 309, 0, 0), (309, .aload_n 0, 310, 0, 0), (310, .iload_n 3, 311, 0, 0), (311, .iconst 1, 312, 1, 0), (312, .iadd, 313, 0, 0), (313, .iaload, 314, 0, 0), (314, .aload_n 0, 315, 0, 0), (315, .iload_n 3, 316, 0, 0), (316, .iconst 2, 317, 2, 0), (317, .iadd, 318, 0, 0), (318, .iaload, 319, 0, 0), (319, .ifCond .eq (7), 322, 0, 326), (322, .iconst 1, 323, 1, 0), (323, .goto (4), 326, 0, 327), (326, .iconst 0, 327, 0, 0), (327, .invokevirtual 53, 330, 0, 0), (330, .if_icmp .eq (172), 333, 0, 502), (333, .iconst 0, 334, 0, 0), (334, .ireturn, 335, 0, 0), (335, .aload_n 1, 336, 0, 0), (336, .aload_n 0, 337, 0, 0), (337, .iload_n 3, 338, 0, 0), (338, .iconst 1, 339, 1, 0), (339, .iadd, 340, 0, 0), (340, .iaload, 341, 0, 0), (341, .aload_n 0, 342, 0, 0), (342, .iload_n 3, 343, 0, 0), (343, .iconst 2, 344, 2, 0), (344, .iadd, 345, 0, 0), (345, .iaload, 346, 0, 0), (346, .ifCond .eq (7), 349, 0, 353), (349, .iconst 1, 350, 1, 0), (350, .goto (4), 353, 0, 354), (353, .iconst 0, 354, 0, 0), (354, .invokevirtual 54, 357, 0, 0), (357, .aload_n 2, 358, 0, 0), (358, .aload_n 0, 359, 0, 0), (359, .iload_n 3, 360, 0, 0), (360, .iconst 1, 361, 1, 0), (361, .iadd, 362, 0, 0), (362, .iaload, 363, 0, 0), (363, .aload_n 0, 364, 0, 0), (364, .iload_n 3, 365, 0, 0), (365, .iconst 2, 366, 2, 0), (366, .iadd, 367, 0, 0), (367, .iaload, 368, 0, 0), (368, .ifCond .eq (7), 371, 0, 375), (371, .iconst 1, 372, 1, 0), (372, .goto (4), 375, 0, 376), (375, .iconst 0, 376, 0, 0), (376, .invokevirtual 57, 379, 0, 0), (379, .if_icmp .eq (123), 382, 0, 502), (382, .iconst 0, 383, 0, 0), (383, .ireturn, 384, 0, 0), (384, .aload_n 1, 385, 0, 0), (385, .aload_n 0, 386, 0, 0), (386, .iload_n 3, 387, 0, 0), (387, .iconst 1, 388, 1, 0), (388, .iadd, 389, 0, 0), (389, .iaload, 390, 0, 0), (390, .invokevirtual 58, 393, 0, 0), (393, .aload_n 2, 394, 0, 0), (394, .aload_n 0, 395, 0, 0), (395, .iload_n 3, 396, 0, 0), (396, .iconst 1, 397, 1, 0), (397, .iadd, 398, 0, 0), (398, .iaload, 399, 0, 0), (399, .invokevirtual 61, 402, 0, 0), (402, .if_icmp .eq (100), 405, 0, 502), (405, .iconst 0, 406, 0, 0), (406, .ireturn, 407, 0, 0), (407, .aload_n 1, 408, 0, 0), (408, .aload_n 0, 409, 0, 0), (409, .iload_n 3, 410, 0, 0), (410, .iconst 1, 411, 1, 0), (411, .iadd, 412, 0, 0), (412, .iaload, 413, 0, 0), (413, .invokevirtual 62, 416, 0, 0), (416, .aload_n 2, 417, 0, 0), (417, .aload_n 0, 418, 0, 0), (418, .iload_n 3, 419, 0, 0), (419, .iconst 1, 420, 1, 0), (420, .iadd, 421, 0, 0), (421, .iaload, 422, 0, 0), (422, .invokevirtual 65, 425, 0, 0), (425, .if_icmp .eq (77), 428, 0, 502), (428, .iconst 0, 429, 0, 0), (429, .ireturn, 430, 0, 0), (430, .aload_n 1, 431, 0, 0), (431, .invokevirtual 66, 434, 0, 0), (434, .aload_n 2, 435, 0, 0), (435, .invokevirtual 69, 438, 0, 0), (438, .if_icmp .eq (64), 441, 0, 502), (441, .iconst 0, 442, 0, 0), (442, .ireturn, 443, 0, 0), (443, .aload_n 1, 444, 0, 0), (444, .invokevirtual 70, 447, 0, 0), (447, .aload_n 2, 448, 0, 0), (448, .invokevirtual 73, 451, 0, 0), (451, .if_icmp .eq (51), 454, 0, 502), (454, .iconst 0, 455, 0, 0), (455, .ireturn, 456, 0, 0), (456, .aload_n 1, 457, 0, 0), (457, .aload_n 0, 458, 0, 0), (458, .iload_n 3, 459, 0, 0), (459, .iconst 1, 460, 1, 0), (460, .iadd, 461, 0, 0), (461, .iaload, 462, 0, 0), (462, .invokevirtual 74, 465, 0, 0), (465, .aload_n 2, 466, 0, 0), (466, .aload_n 0, 467, 0, 0), (467, .iload_n 3, 468, 0, 0), (468, .iconst 1, 469, 1, 0), (469, .iadd, 470, 0, 0), (470, .iaload, 471, 0, 0), (471, .invokevirtual 77, 474, 0, 0), (474, .if_icmp .eq (28), 477, 0, 502), (477, .iconst 0, 478, 0, 0), (478, .ireturn, 479, 0, 0), (479, .aload_n 1, 480, 0, 0), (480, .aload_n 0, 481, 0, 0), (481, .iload_n 3, 482, 0, 0), (482, .iconst 1, 483, 1, 0), (483, .iadd, 484, 0, 0), (484, .iaload, 485, 0, 0), (485, .invokevirtual 78, 488, 0, 0), (488, .aload_n 2, 489, 0, 0), (489, .aload_n 0, 490, 0, 0), (490, .iload_n 3, 491, 0, 0), (491, .iconst 1, 492, 1, 0), (492, .iadd, 493, 0, 0), (493, .iaload, 494, 0, 0), (494, .invokevirtual 81, 497, 0, 0), (497, .if_icmp .eq (5), 500, 0, 502), (500, .iconst 0, 501, 0, 0), (501, .ireturn, 502, 0, 0), (502, .iinc 3 (3), 505, 3, 0), (505, .goto (-487), 508, 0, 18), (508, .iconst 1, 509, 1, 0), (509, .ireturn, 510, 0, 0)]
abbrev g_L (n : Nat) (xs : Nat → Int32) : lm_G := (k_L, [], [], 0, 2, some (n, xs))
set_option maxRecDepth 20000 in
theorem ck_L : ∀ pc r, k_L.lookup pc = some r → lm_ck code 4 pc r = true := kk_ck (by decide +kernel)
theorem li_L_13 : kk_li R_L 13 y_D_poke := Or.inl (kk_tm 119 (by decide +kernel) (by decide +kernel))
theorem li_L_17 : kk_li R_L 17 y_R_poke := Or.inl (kk_tm 407 (by decide +kernel) (by decide +kernel))
theorem li_L_18 : kk_li R_L 18 y_D_set := Or.inl (kk_tm 134 (by decide +kernel) (by decide +kernel))
theorem li_L_21 : kk_li R_L 21 y_R_set := Or.inl (kk_tm 414 (by decide +kernel) (by decide +kernel))
theorem li_L_22 : kk_li R_L 22 y_D_feed := Or.inl (kk_tm 143 (by decide +kernel) (by decide +kernel))
theorem li_L_26 : kk_li R_L 26 y_R_feed := Or.inl (kk_tm 418 (by decide +kernel) (by decide +kernel))
theorem li_L_27 : kk_li R_L 27 y_D_run := Or.inl (kk_tm 156 (by decide +kernel) (by decide +kernel))
theorem li_L_31 : kk_li R_L 31 y_R_run := Or.inl (kk_tm 422 (by decide +kernel) (by decide +kernel))
theorem li_L_32 : kk_li R_L 32 y_D_go := Or.inl (kk_tm 293 (by decide +kernel) (by decide +kernel))
theorem li_L_35 : kk_li R_L 35 y_R_go := Or.inl (kk_tm 492 (by decide +kernel) (by decide +kernel))
theorem li_L_36 : kk_li R_L 36 y_D_seek := Or.inl (kk_tm 297 (by decide +kernel) (by decide +kernel))
theorem li_L_40 : kk_li R_L 40 y_R_seek := Or.inl (kk_tm 500 (by decide +kernel) (by decide +kernel))
theorem li_L_41 : kk_li R_L 41 y_D_time := Or.inl (kk_tm 313 (by decide +kernel) (by decide +kernel))
theorem li_L_44 : kk_li R_L 44 y_R_time := Or.inl (kk_tm 504 (by decide +kernel) (by decide +kernel))
theorem li_L_45 : kk_li R_L 45 y_D_last := Or.inl (kk_tm 317 (by decide +kernel) (by decide +kernel))
theorem li_L_48 : kk_li R_L 48 y_R_last := Or.inl (kk_tm 508 (by decide +kernel) (by decide +kernel))
theorem li_L_49 : kk_li R_L 49 y_D_stop := Or.inl (kk_tm 321 (by decide +kernel) (by decide +kernel))
theorem li_L_53 : kk_li R_L 53 y_R_stop := Or.inl (kk_tm 512 (by decide +kernel) (by decide +kernel))
theorem li_L_54 : kk_li R_L 54 y_D_watch := Or.inl (kk_tm 329 (by decide +kernel) (by decide +kernel))
theorem li_L_57 : kk_li R_L 57 y_R_watch := Or.inl (kk_tm 519 (by decide +kernel) (by decide +kernel))
theorem li_L_58 : kk_li R_L 58 y_D_cell := Or.inl (kk_tm 333 (by decide +kernel) (by decide +kernel))
theorem li_L_61 : kk_li R_L 61 y_R_cell := Or.inl (kk_tm 523 (by decide +kernel) (by decide +kernel))
theorem li_L_62 : kk_li R_L 62 y_D_register := Or.inl (kk_tm 337 (by decide +kernel) (by decide +kernel))
theorem li_L_65 : kk_li R_L 65 y_R_register := Or.inl (kk_tm 527 (by decide +kernel) (by decide +kernel))
theorem li_L_66 : kk_li R_L 66 y_D_waiting := Or.inl (kk_tm 341 (by decide +kernel) (by decide +kernel))
theorem li_L_69 : kk_li R_L 69 y_R_waiting := Or.inl (kk_tm 531 (by decide +kernel) (by decide +kernel))
theorem li_L_70 : kk_li R_L 70 y_D_puts := Or.inl (kk_tm 345 (by decide +kernel) (by decide +kernel))
theorem li_L_73 : kk_li R_L 73 y_R_puts := Or.inl (kk_tm 535 (by decide +kernel) (by decide +kernel))
theorem li_L_74 : kk_li R_L 74 y_D_output := Or.inl (kk_tm 349 (by decide +kernel) (by decide +kernel))
theorem li_L_77 : kk_li R_L 77 y_R_output := Or.inl (kk_tm 539 (by decide +kernel) (by decide +kernel))
theorem li_L_78 : kk_li R_L 78 y_D_wrote := Or.inl (kk_tm 357 (by decide +kernel) (by decide +kernel))
theorem li_L_81 : kk_li R_L 81 y_R_wrote := Or.inl (kk_tm 543 (by decide +kernel) (by decide +kernel))
abbrev ca_V (sp : Nat → lm_Sp) : lm_Ca := [(13, 2, (some 0), sp 13), (17, 2, (some 4), sp 17), (18, 2, (some 0), sp 18), (21, 2, (some 4), sp 21), (22, 1, (some 0), sp 22), (26, 1, (some 4), sp 26), (27, 1, (some 0), sp 27), (31, 1, (some 4), sp 31), (32, 1, (some 0), sp 32), (35, 1, (some 4), sp 35), (36, 0, (some 0), sp 36), (40, 0, (some 4), sp 40), (41, 0, (some 0), sp 41), (44, 0, (some 4), sp 44), (45, 0, (some 0), sp 45), (48, 0, (some 4), sp 48), (49, 2, (some 0), sp 49), (53, 2, (some 4), sp 53), (54, 2, (some 0), sp 54), (57, 2, (some 4), sp 57), (58, 1, (some 0), sp 58), (61, 1, (some 4), sp 61), (62, 1, (some 0), sp 62), (65, 1, (some 4), sp 65), (66, 0, (some 0), sp 66), (69, 0, (some 4), sp 69), (70, 0, (some 0), sp 70), (73, 0, (some 4), sp 73), (74, 1, (some 0), sp 74), (77, 1, (some 4), sp 77), (78, 1, (some 0), sp 78), (81, 1, (some 4), sp 81)]
def sp_L : Nat → lm_Sp := fun k => match k with
  | 13 => s_D_poke
  | 17 => s_R_poke
  | 18 => s_D_set
  | 21 => s_R_set
  | 22 => s_D_feed
  | 26 => s_R_feed
  | 27 => s_D_run
  | 31 => s_R_run
  | 32 => s_D_go
  | 35 => s_R_go
  | 36 => s_D_seek
  | 40 => s_R_seek
  | 41 => s_D_time
  | 44 => s_R_time
  | 45 => s_D_last
  | 48 => s_R_last
  | 49 => s_D_stop
  | 53 => s_R_stop
  | 54 => s_D_watch
  | 57 => s_R_watch
  | 58 => s_D_cell
  | 61 => s_R_cell
  | 62 => s_D_register
  | 65 => s_R_register
  | 66 => s_D_waiting
  | 69 => s_R_waiting
  | 70 => s_D_puts
  | 73 => s_R_puts
  | 74 => s_D_output
  | 77 => s_R_output
  | 78 => s_D_wrote
  | _ => s_R_wrote
abbrev ca_L : lm_Ca := ca_V sp_L
theorem cok_L (l : Launch) : lm_cok l (kk_Y kk_shF) R_L 9 326 ca_L := kk_cok (kk_cons ⟨y_D_poke, b_D_poke, 3, some .boolean, 4, 88, I_D_poke l, ⟨by decide, by decide⟩, yw_D_poke, li_L_13⟩ <| kk_cons ⟨y_R_poke, b_R_poke, 3, some .boolean, 1, 21, I_R_poke l, ⟨by decide, by decide⟩, yw_R_poke, li_L_17⟩ <| kk_cons ⟨y_D_set, b_D_set, 3, some .boolean, 4, 88, I_D_set l, ⟨by decide, by decide⟩, yw_D_set, li_L_18⟩ <| kk_cons ⟨y_R_set, b_R_set, 3, some .boolean, 1, 21, I_R_set l, ⟨by decide, by decide⟩, yw_R_set, li_L_21⟩ <| kk_cons ⟨y_D_feed, b_D_feed, 2, some .boolean, 4, 88, I_D_feed l, ⟨by decide, by decide⟩, yw_D_feed, li_L_22⟩ <| kk_cons ⟨y_R_feed, b_R_feed, 2, some .boolean, 1, 21, I_R_feed l, ⟨by decide, by decide⟩, yw_R_feed, li_L_26⟩ <| kk_cons ⟨y_D_run, b_D_run, 4, some .int, 6, 137, I_D_run l, ⟨by decide, by decide⟩, yw_D_run, li_L_27⟩ <| kk_cons ⟨y_R_run, b_R_run, 5, some .int, 5, 117, I_R_run l, ⟨by decide, by decide⟩, yw_R_run, li_L_31⟩ <| kk_cons ⟨y_D_go, b_D_go, 2, some .boolean, 3, 67, I_D_go l, ⟨by decide, by decide⟩, yw_D_go, li_L_32⟩ <| kk_cons ⟨y_R_go, b_R_go, 2, some .boolean, 6, 139, I_R_go l, ⟨by decide, by decide⟩, yw_R_go, li_L_35⟩ <| kk_cons ⟨y_D_seek, b_D_seek, 2, some .int, 3, 67, I_D_seek l, ⟨by decide, by decide⟩, yw_D_seek, li_L_36⟩ <| kk_cons ⟨y_R_seek, b_R_seek, 5, some .int, 6, 139, I_R_seek l, ⟨by decide, by decide⟩, yw_R_seek, li_L_40⟩ <| kk_cons ⟨y_D_time, b_D_time, 1, some .int, 0, 0, I_D_time l, ⟨by decide, by decide⟩, yw_D_time, li_L_41⟩ <| kk_cons ⟨y_R_time, b_R_time, 1, some .int, 0, 0, I_R_time l, ⟨by decide, by decide⟩, yw_R_time, li_L_44⟩ <| kk_cons ⟨y_D_last, b_D_last, 1, some .int, 0, 0, I_D_last l, ⟨by decide, by decide⟩, yw_D_last, li_L_45⟩ <| kk_cons ⟨y_R_last, b_R_last, 1, some .int, 0, 0, I_R_last l, ⟨by decide, by decide⟩, yw_R_last, li_L_48⟩ <| kk_cons ⟨y_D_stop, b_D_stop, 3, some .boolean, 2, 42, I_D_stop l, ⟨by decide, by decide⟩, yw_D_stop, li_L_49⟩ <| kk_cons ⟨y_R_stop, b_R_stop, 4, some .boolean, 2, 49, I_R_stop l, ⟨by decide, by decide⟩, yw_R_stop, li_L_53⟩ <| kk_cons ⟨y_D_watch, b_D_watch, 3, some .boolean, 2, 42, I_D_watch l, ⟨by decide, by decide⟩, yw_D_watch, li_L_54⟩ <| kk_cons ⟨y_R_watch, b_R_watch, 4, some .boolean, 2, 49, I_R_watch l, ⟨by decide, by decide⟩, yw_R_watch, li_L_57⟩ <| kk_cons ⟨y_D_cell, b_D_cell, 2, some .int, 1, 20, I_D_cell l, ⟨by decide, by decide⟩, yw_D_cell, li_L_58⟩ <| kk_cons ⟨y_R_cell, b_R_cell, 2, some .int, 1, 21, I_R_cell l, ⟨by decide, by decide⟩, yw_R_cell, li_L_61⟩ <| kk_cons ⟨y_D_register, b_D_register, 2, some .int, 1, 20, I_D_register l, ⟨by decide, by decide⟩, yw_D_register, li_L_62⟩ <| kk_cons ⟨y_R_register, b_R_register, 2, some .int, 1, 21, I_R_register l, ⟨by decide, by decide⟩, yw_R_register, li_L_65⟩ <| kk_cons ⟨y_D_waiting, b_D_waiting, 1, some .int, 1, 20, I_D_waiting l, ⟨by decide, by decide⟩, yw_D_waiting, li_L_66⟩ <| kk_cons ⟨y_R_waiting, b_R_waiting, 1, some .int, 0, 0, I_R_waiting l, ⟨by decide, by decide⟩, yw_R_waiting, li_L_69⟩ <| kk_cons ⟨y_D_puts, b_D_puts, 1, some .int, 0, 0, I_D_puts l, ⟨by decide, by decide⟩, yw_D_puts, li_L_70⟩ <| kk_cons ⟨y_R_puts, b_R_puts, 1, some .int, 0, 0, I_R_puts l, ⟨by decide, by decide⟩, yw_R_puts, li_L_73⟩ <| kk_cons ⟨y_D_output, b_D_output, 2, some .int, 1, 21, I_D_output l, ⟨by decide, by decide⟩, yw_D_output, li_L_74⟩ <| kk_cons ⟨y_R_output, b_R_output, 2, some .int, 1, 21, I_R_output l, ⟨by decide, by decide⟩, yw_R_output, li_L_77⟩ <| kk_cons ⟨y_D_wrote, b_D_wrote, 2, some .int, 2, 44, I_D_wrote l, ⟨by decide, by decide⟩, yw_D_wrote, li_L_78⟩ <| kk_cons ⟨y_R_wrote, b_R_wrote, 4, some .int, 6, 139, I_R_wrote l, ⟨by decide, by decide⟩, yw_R_wrote, li_L_81⟩ <| kk_nil)
abbrev L_L (i : Nat) : lm_L := [(0, .ref 999), (1, .ref 0), (2, .ref 16), (3, .int (nI i))]
abbrev po_L : Option Value → lm_S → Prop := fun r _ => r = some (.int 1)
set_option maxHeartbeats 1000000 in
set_option maxRecDepth 20000 in
theorem lc_poke {L : Nat} {xs : Nat → Int32} {q i : Nat} {S : lm_S} {sp : Nat → lm_Sp} (h : jc (sp 13) (sp 17) [.ref 0, .int (xs (nI i + 1).toNatClampNeg), .int (xs (nI i + 2).toNatClampNeg)] [.ref 16, .int (xs (nI i + 1).toNatClampNeg), .int (xs (nI i + 2).toNatClampNeg)] q S) (hv1 : vp_in (nI i + 1) L) (hv2 : vp_in (nI i + 2) L) (hk : ∀ F, IV (q + 1) F → lm_Go YF (g_L L xs) (ca_V sp) po_L 502 (L_L i) [] F) : lm_Go YF (g_L L xs) (ca_V sp) po_L 112 (L_L i) [] S := by
  obtain ⟨x, D, F, g1, g2, g3, -, -⟩ := h
  refine lm_to 502 60 ?_
  conv => whnf
  refine And.intro hv1 ?_
  conv => whnf
  refine And.intro hv2 ?_
  conv => whnf
  refine g1 _ ?_
  conv => whnf
  refine And.intro hv1 ?_
  conv => whnf
  refine And.intro hv2 ?_
  conv => whnf
  refine g2 _ ?_
  conv => whnf
  refine ⟨fun _ => ?_, fun z => absurd rfl z⟩
  exact lm_Go.sub (hk F g3) (kk_cons rfl (kk_cons rfl (kk_cons rfl (kk_cons rfl kk_nil))))
set_option maxHeartbeats 1000000 in
set_option maxRecDepth 20000 in
theorem lc_set {L : Nat} {xs : Nat → Int32} {q i : Nat} {S : lm_S} {sp : Nat → lm_Sp} (h : jc (sp 18) (sp 21) [.ref 0, .int (xs (nI i + 1).toNatClampNeg), .int (xs (nI i + 2).toNatClampNeg)] [.ref 16, .int (xs (nI i + 1).toNatClampNeg), .int (xs (nI i + 2).toNatClampNeg)] q S) (hv1 : vp_in (nI i + 1) L) (hv2 : vp_in (nI i + 2) L) (hk : ∀ F, IV (q + 1) F → lm_Go YF (g_L L xs) (ca_V sp) po_L 502 (L_L i) [] F) : lm_Go YF (g_L L xs) (ca_V sp) po_L 145 (L_L i) [] S := by
  obtain ⟨x, D, F, g1, g2, g3, -, -⟩ := h
  refine lm_to 502 60 ?_
  conv => whnf
  refine And.intro hv1 ?_
  conv => whnf
  refine And.intro hv2 ?_
  conv => whnf
  refine g1 _ ?_
  conv => whnf
  refine And.intro hv1 ?_
  conv => whnf
  refine And.intro hv2 ?_
  conv => whnf
  refine g2 _ ?_
  conv => whnf
  refine ⟨fun _ => ?_, fun z => absurd rfl z⟩
  exact lm_Go.sub (hk F g3) (kk_cons rfl (kk_cons rfl (kk_cons rfl (kk_cons rfl kk_nil))))
set_option maxHeartbeats 1000000 in
set_option maxRecDepth 20000 in
theorem lc_feed {L : Nat} {xs : Nat → Int32} {q i : Nat} {S : lm_S} {sp : Nat → lm_Sp} (h : jc (sp 22) (sp 26) [.ref 0, .int (xs (nI i + 1).toNatClampNeg)] [.ref 16, .int (xs (nI i + 1).toNatClampNeg)] q S) (hv1 : vp_in (nI i + 1) L) (hv2 : vp_in (nI i + 2) L) (hk : ∀ F, IV (q + 1) F → lm_Go YF (g_L L xs) (ca_V sp) po_L 502 (L_L i) [] F) : lm_Go YF (g_L L xs) (ca_V sp) po_L 178 (L_L i) [] S := by
  obtain ⟨x, D, F, g1, g2, g3, -, -⟩ := h
  refine lm_to 502 60 ?_
  conv => whnf
  refine And.intro hv1 ?_
  conv => whnf
  refine g1 _ ?_
  conv => whnf
  refine And.intro hv1 ?_
  conv => whnf
  refine g2 _ ?_
  conv => whnf
  refine ⟨fun _ => ?_, fun z => absurd rfl z⟩
  exact lm_Go.sub (hk F g3) (kk_cons rfl (kk_cons rfl (kk_cons rfl (kk_cons rfl kk_nil))))
set_option maxHeartbeats 1000000 in
set_option maxRecDepth 20000 in
theorem lc_run {L : Nat} {xs : Nat → Int32} {q i : Nat} {S : lm_S} {sp : Nat → lm_Sp} (h : jc (sp 27) (sp 31) [.ref 0, .int (xs (nI i + 1).toNatClampNeg)] [.ref 16, .int (xs (nI i + 1).toNatClampNeg)] q S) (hv1 : vp_in (nI i + 1) L) (hv2 : vp_in (nI i + 2) L) (hk : ∀ F, IV (q + 1) F → lm_Go YF (g_L L xs) (ca_V sp) po_L 502 (L_L i) [] F) : lm_Go YF (g_L L xs) (ca_V sp) po_L 201 (L_L i) [] S := by
  obtain ⟨x, D, F, g1, g2, g3, -, -⟩ := h
  refine lm_to 502 60 ?_
  conv => whnf
  refine And.intro hv1 ?_
  conv => whnf
  refine g1 _ ?_
  conv => whnf
  refine And.intro hv1 ?_
  conv => whnf
  refine g2 _ ?_
  conv => whnf
  refine ⟨fun _ => ?_, fun z => absurd rfl z⟩
  exact lm_Go.sub (hk F g3) (kk_cons rfl (kk_cons rfl (kk_cons rfl (kk_cons rfl kk_nil))))
set_option maxHeartbeats 1000000 in
set_option maxRecDepth 20000 in
theorem lc_go {L : Nat} {xs : Nat → Int32} {q i : Nat} {S : lm_S} {sp : Nat → lm_Sp} (h : jc (sp 32) (sp 35) [.ref 0, .int (xs (nI i + 1).toNatClampNeg)] [.ref 16, .int (xs (nI i + 1).toNatClampNeg)] q S) (hv1 : vp_in (nI i + 1) L) (hv2 : vp_in (nI i + 2) L) (hk : ∀ F, IV (q + 1) F → lm_Go YF (g_L L xs) (ca_V sp) po_L 502 (L_L i) [] F) : lm_Go YF (g_L L xs) (ca_V sp) po_L 224 (L_L i) [] S := by
  obtain ⟨x, D, F, g1, g2, g3, -, -⟩ := h
  refine lm_to 502 60 ?_
  conv => whnf
  refine And.intro hv1 ?_
  conv => whnf
  refine g1 _ ?_
  conv => whnf
  refine And.intro hv1 ?_
  conv => whnf
  refine g2 _ ?_
  conv => whnf
  refine ⟨fun _ => ?_, fun z => absurd rfl z⟩
  exact lm_Go.sub (hk F g3) (kk_cons rfl (kk_cons rfl (kk_cons rfl (kk_cons rfl kk_nil))))
set_option maxHeartbeats 1000000 in
set_option maxRecDepth 20000 in
theorem lc_seek {L : Nat} {xs : Nat → Int32} {q i : Nat} {S : lm_S} {sp : Nat → lm_Sp} (h : jc (sp 36) (sp 40) [.ref 0] [.ref 16] q S) (hv1 : vp_in (nI i + 1) L) (hv2 : vp_in (nI i + 2) L) (hk : ∀ F, IV (q + 1) F → lm_Go YF (g_L L xs) (ca_V sp) po_L 502 (L_L i) [] F) : lm_Go YF (g_L L xs) (ca_V sp) po_L 247 (L_L i) [] S := by
  obtain ⟨x, D, F, g1, g2, g3, -, -⟩ := h
  refine lm_to 502 60 ?_
  conv => whnf
  refine g1 _ ?_
  conv => whnf
  refine g2 _ ?_
  conv => whnf
  refine ⟨fun _ => ?_, fun z => absurd rfl z⟩
  exact lm_Go.sub (hk F g3) (kk_cons rfl (kk_cons rfl (kk_cons rfl (kk_cons rfl kk_nil))))
set_option maxHeartbeats 1000000 in
set_option maxRecDepth 20000 in
theorem lc_time {L : Nat} {xs : Nat → Int32} {q i : Nat} {S : lm_S} {sp : Nat → lm_Sp} (h : jc (sp 41) (sp 44) [.ref 0] [.ref 16] q S) (hv1 : vp_in (nI i + 1) L) (hv2 : vp_in (nI i + 2) L) (hk : ∀ F, IV (q + 1) F → lm_Go YF (g_L L xs) (ca_V sp) po_L 502 (L_L i) [] F) : lm_Go YF (g_L L xs) (ca_V sp) po_L 260 (L_L i) [] S := by
  obtain ⟨x, D, F, g1, g2, g3, -, -⟩ := h
  refine lm_to 502 60 ?_
  conv => whnf
  refine g1 _ ?_
  conv => whnf
  refine g2 _ ?_
  conv => whnf
  refine ⟨fun _ => ?_, fun z => absurd rfl z⟩
  exact lm_Go.sub (hk F g3) (kk_cons rfl (kk_cons rfl (kk_cons rfl (kk_cons rfl kk_nil))))
set_option maxHeartbeats 1000000 in
set_option maxRecDepth 20000 in
theorem lc_last {L : Nat} {xs : Nat → Int32} {q i : Nat} {S : lm_S} {sp : Nat → lm_Sp} (h : jc (sp 45) (sp 48) [.ref 0] [.ref 16] q S) (hv1 : vp_in (nI i + 1) L) (hv2 : vp_in (nI i + 2) L) (hk : ∀ F, IV (q + 1) F → lm_Go YF (g_L L xs) (ca_V sp) po_L 502 (L_L i) [] F) : lm_Go YF (g_L L xs) (ca_V sp) po_L 273 (L_L i) [] S := by
  obtain ⟨x, D, F, g1, g2, g3, -, -⟩ := h
  refine lm_to 502 60 ?_
  conv => whnf
  refine g1 _ ?_
  conv => whnf
  refine g2 _ ?_
  conv => whnf
  refine ⟨fun _ => ?_, fun z => absurd rfl z⟩
  exact lm_Go.sub (hk F g3) (kk_cons rfl (kk_cons rfl (kk_cons rfl (kk_cons rfl kk_nil))))
set_option maxHeartbeats 1000000 in
set_option maxRecDepth 20000 in
theorem lc_stop {L : Nat} {xs : Nat → Int32} {q i : Nat} {S : lm_S} {sp : Nat → lm_Sp} (h : jc (sp 49) (sp 53) [.ref 0, .int (xs (nI i + 1).toNatClampNeg), .int (if (xs (nI i + 2).toNatClampNeg) = 0 then 0 else 1)] [.ref 16, .int (xs (nI i + 1).toNatClampNeg), .int (if (xs (nI i + 2).toNatClampNeg) = 0 then 0 else 1)] q S) (hv1 : vp_in (nI i + 1) L) (hv2 : vp_in (nI i + 2) L) (hk : ∀ F, IV (q + 1) F → lm_Go YF (g_L L xs) (ca_V sp) po_L 502 (L_L i) [] F) : lm_Go YF (g_L L xs) (ca_V sp) po_L 286 (L_L i) [] S := by
  by_cases hz : (xs (nI i + 2).toNatClampNeg) = 0
  · rw [if_pos hz] at h
    obtain ⟨x, D, F, g1, g2, g3, -, -⟩ := h
    refine lm_to 502 60 ?_
    conv => whnf
    refine And.intro hv1 ?_
    conv => whnf
    refine And.intro hv2 ?_
    conv => whnf
    refine ⟨fun _ => ?_, fun z => absurd hz z⟩
    conv => whnf
    refine g1 _ ?_
    conv => whnf
    refine And.intro hv1 ?_
    conv => whnf
    refine And.intro hv2 ?_
    conv => whnf
    refine ⟨fun _ => ?_, fun z => absurd hz z⟩
    conv => whnf
    refine g2 _ ?_
    conv => whnf
    refine ⟨fun _ => ?_, fun z => absurd rfl z⟩
    exact lm_Go.sub (hk F g3) (kk_cons rfl (kk_cons rfl (kk_cons rfl (kk_cons rfl kk_nil))))
  · rw [if_neg hz] at h
    obtain ⟨x, D, F, g1, g2, g3, -, -⟩ := h
    refine lm_to 502 60 ?_
    conv => whnf
    refine And.intro hv1 ?_
    conv => whnf
    refine And.intro hv2 ?_
    conv => whnf
    refine ⟨fun z => absurd z hz, fun _ => ?_⟩
    conv => whnf
    refine g1 _ ?_
    conv => whnf
    refine And.intro hv1 ?_
    conv => whnf
    refine And.intro hv2 ?_
    conv => whnf
    refine ⟨fun z => absurd z hz, fun _ => ?_⟩
    conv => whnf
    refine g2 _ ?_
    conv => whnf
    refine ⟨fun _ => ?_, fun z => absurd rfl z⟩
    exact lm_Go.sub (hk F g3) (kk_cons rfl (kk_cons rfl (kk_cons rfl (kk_cons rfl kk_nil))))
set_option maxHeartbeats 1000000 in
set_option maxRecDepth 20000 in
theorem lc_watch {L : Nat} {xs : Nat → Int32} {q i : Nat} {S : lm_S} {sp : Nat → lm_Sp} (h : jc (sp 54) (sp 57) [.ref 0, .int (xs (nI i + 1).toNatClampNeg), .int (if (xs (nI i + 2).toNatClampNeg) = 0 then 0 else 1)] [.ref 16, .int (xs (nI i + 1).toNatClampNeg), .int (if (xs (nI i + 2).toNatClampNeg) = 0 then 0 else 1)] q S) (hv1 : vp_in (nI i + 1) L) (hv2 : vp_in (nI i + 2) L) (hk : ∀ F, IV (q + 1) F → lm_Go YF (g_L L xs) (ca_V sp) po_L 502 (L_L i) [] F) : lm_Go YF (g_L L xs) (ca_V sp) po_L 335 (L_L i) [] S := by
  by_cases hz : (xs (nI i + 2).toNatClampNeg) = 0
  · rw [if_pos hz] at h
    obtain ⟨x, D, F, g1, g2, g3, -, -⟩ := h
    refine lm_to 502 60 ?_
    conv => whnf
    refine And.intro hv1 ?_
    conv => whnf
    refine And.intro hv2 ?_
    conv => whnf
    refine ⟨fun _ => ?_, fun z => absurd hz z⟩
    conv => whnf
    refine g1 _ ?_
    conv => whnf
    refine And.intro hv1 ?_
    conv => whnf
    refine And.intro hv2 ?_
    conv => whnf
    refine ⟨fun _ => ?_, fun z => absurd hz z⟩
    conv => whnf
    refine g2 _ ?_
    conv => whnf
    refine ⟨fun _ => ?_, fun z => absurd rfl z⟩
    exact lm_Go.sub (hk F g3) (kk_cons rfl (kk_cons rfl (kk_cons rfl (kk_cons rfl kk_nil))))
  · rw [if_neg hz] at h
    obtain ⟨x, D, F, g1, g2, g3, -, -⟩ := h
    refine lm_to 502 60 ?_
    conv => whnf
    refine And.intro hv1 ?_
    conv => whnf
    refine And.intro hv2 ?_
    conv => whnf
    refine ⟨fun z => absurd z hz, fun _ => ?_⟩
    conv => whnf
    refine g1 _ ?_
    conv => whnf
    refine And.intro hv1 ?_
    conv => whnf
    refine And.intro hv2 ?_
    conv => whnf
    refine ⟨fun z => absurd z hz, fun _ => ?_⟩
    conv => whnf
    refine g2 _ ?_
    conv => whnf
    refine ⟨fun _ => ?_, fun z => absurd rfl z⟩
    exact lm_Go.sub (hk F g3) (kk_cons rfl (kk_cons rfl (kk_cons rfl (kk_cons rfl kk_nil))))
set_option maxHeartbeats 1000000 in
set_option maxRecDepth 20000 in
theorem lc_cell {L : Nat} {xs : Nat → Int32} {q i : Nat} {S : lm_S} {sp : Nat → lm_Sp} (h : jc (sp 58) (sp 61) [.ref 0, .int (xs (nI i + 1).toNatClampNeg)] [.ref 16, .int (xs (nI i + 1).toNatClampNeg)] q S) (hv1 : vp_in (nI i + 1) L) (hv2 : vp_in (nI i + 2) L) (hk : ∀ F, IV (q + 1) F → lm_Go YF (g_L L xs) (ca_V sp) po_L 502 (L_L i) [] F) : lm_Go YF (g_L L xs) (ca_V sp) po_L 384 (L_L i) [] S := by
  obtain ⟨x, D, F, g1, g2, g3, -, -⟩ := h
  refine lm_to 502 60 ?_
  conv => whnf
  refine And.intro hv1 ?_
  conv => whnf
  refine g1 _ ?_
  conv => whnf
  refine And.intro hv1 ?_
  conv => whnf
  refine g2 _ ?_
  conv => whnf
  refine ⟨fun _ => ?_, fun z => absurd rfl z⟩
  exact lm_Go.sub (hk F g3) (kk_cons rfl (kk_cons rfl (kk_cons rfl (kk_cons rfl kk_nil))))
set_option maxHeartbeats 1000000 in
set_option maxRecDepth 20000 in
theorem lc_register {L : Nat} {xs : Nat → Int32} {q i : Nat} {S : lm_S} {sp : Nat → lm_Sp} (h : jc (sp 62) (sp 65) [.ref 0, .int (xs (nI i + 1).toNatClampNeg)] [.ref 16, .int (xs (nI i + 1).toNatClampNeg)] q S) (hv1 : vp_in (nI i + 1) L) (hv2 : vp_in (nI i + 2) L) (hk : ∀ F, IV (q + 1) F → lm_Go YF (g_L L xs) (ca_V sp) po_L 502 (L_L i) [] F) : lm_Go YF (g_L L xs) (ca_V sp) po_L 407 (L_L i) [] S := by
  obtain ⟨x, D, F, g1, g2, g3, -, -⟩ := h
  refine lm_to 502 60 ?_
  conv => whnf
  refine And.intro hv1 ?_
  conv => whnf
  refine g1 _ ?_
  conv => whnf
  refine And.intro hv1 ?_
  conv => whnf
  refine g2 _ ?_
  conv => whnf
  refine ⟨fun _ => ?_, fun z => absurd rfl z⟩
  exact lm_Go.sub (hk F g3) (kk_cons rfl (kk_cons rfl (kk_cons rfl (kk_cons rfl kk_nil))))
set_option maxHeartbeats 1000000 in
set_option maxRecDepth 20000 in
theorem lc_waiting {L : Nat} {xs : Nat → Int32} {q i : Nat} {S : lm_S} {sp : Nat → lm_Sp} (h : jc (sp 66) (sp 69) [.ref 0] [.ref 16] q S) (hv1 : vp_in (nI i + 1) L) (hv2 : vp_in (nI i + 2) L) (hk : ∀ F, IV (q + 1) F → lm_Go YF (g_L L xs) (ca_V sp) po_L 502 (L_L i) [] F) : lm_Go YF (g_L L xs) (ca_V sp) po_L 430 (L_L i) [] S := by
  obtain ⟨x, D, F, g1, g2, g3, -, -⟩ := h
  refine lm_to 502 60 ?_
  conv => whnf
  refine g1 _ ?_
  conv => whnf
  refine g2 _ ?_
  conv => whnf
  refine ⟨fun _ => ?_, fun z => absurd rfl z⟩
  exact lm_Go.sub (hk F g3) (kk_cons rfl (kk_cons rfl (kk_cons rfl (kk_cons rfl kk_nil))))
set_option maxHeartbeats 1000000 in
set_option maxRecDepth 20000 in
theorem lc_puts {L : Nat} {xs : Nat → Int32} {q i : Nat} {S : lm_S} {sp : Nat → lm_Sp} (h : jc (sp 70) (sp 73) [.ref 0] [.ref 16] q S) (hv1 : vp_in (nI i + 1) L) (hv2 : vp_in (nI i + 2) L) (hk : ∀ F, IV (q + 1) F → lm_Go YF (g_L L xs) (ca_V sp) po_L 502 (L_L i) [] F) : lm_Go YF (g_L L xs) (ca_V sp) po_L 443 (L_L i) [] S := by
  obtain ⟨x, D, F, g1, g2, g3, -, -⟩ := h
  refine lm_to 502 60 ?_
  conv => whnf
  refine g1 _ ?_
  conv => whnf
  refine g2 _ ?_
  conv => whnf
  refine ⟨fun _ => ?_, fun z => absurd rfl z⟩
  exact lm_Go.sub (hk F g3) (kk_cons rfl (kk_cons rfl (kk_cons rfl (kk_cons rfl kk_nil))))
set_option maxHeartbeats 1000000 in
set_option maxRecDepth 20000 in
theorem lc_output {L : Nat} {xs : Nat → Int32} {q i : Nat} {S : lm_S} {sp : Nat → lm_Sp} (h : jc (sp 74) (sp 77) [.ref 0, .int (xs (nI i + 1).toNatClampNeg)] [.ref 16, .int (xs (nI i + 1).toNatClampNeg)] q S) (hv1 : vp_in (nI i + 1) L) (hv2 : vp_in (nI i + 2) L) (hk : ∀ F, IV (q + 1) F → lm_Go YF (g_L L xs) (ca_V sp) po_L 502 (L_L i) [] F) : lm_Go YF (g_L L xs) (ca_V sp) po_L 456 (L_L i) [] S := by
  obtain ⟨x, D, F, g1, g2, g3, -, -⟩ := h
  refine lm_to 502 60 ?_
  conv => whnf
  refine And.intro hv1 ?_
  conv => whnf
  refine g1 _ ?_
  conv => whnf
  refine And.intro hv1 ?_
  conv => whnf
  refine g2 _ ?_
  conv => whnf
  refine ⟨fun _ => ?_, fun z => absurd rfl z⟩
  exact lm_Go.sub (hk F g3) (kk_cons rfl (kk_cons rfl (kk_cons rfl (kk_cons rfl kk_nil))))
set_option maxHeartbeats 1000000 in
set_option maxRecDepth 20000 in
theorem lc_wrote {L : Nat} {xs : Nat → Int32} {q i : Nat} {S : lm_S} {sp : Nat → lm_Sp} (h : jc (sp 78) (sp 81) [.ref 0, .int (xs (nI i + 1).toNatClampNeg)] [.ref 16, .int (xs (nI i + 1).toNatClampNeg)] q S) (hv1 : vp_in (nI i + 1) L) (hv2 : vp_in (nI i + 2) L) (hk : ∀ F, IV (q + 1) F → lm_Go YF (g_L L xs) (ca_V sp) po_L 502 (L_L i) [] F) : lm_Go YF (g_L L xs) (ca_V sp) po_L 479 (L_L i) [] S := by
  obtain ⟨x, D, F, g1, g2, g3, -, -⟩ := h
  refine lm_to 502 60 ?_
  conv => whnf
  refine And.intro hv1 ?_
  conv => whnf
  refine g1 _ ?_
  conv => whnf
  refine And.intro hv1 ?_
  conv => whnf
  refine g2 _ ?_
  conv => whnf
  refine ⟨fun _ => ?_, fun z => absurd rfl z⟩
  exact lm_Go.sub (hk F g3) (kk_cons rfl (kk_cons rfl (kk_cons rfl (kk_cons rfl kk_nil))))
end
section
/-! the law's loop -/
theorem lw_cmp {L a : Nat} (hL : L ≤ 1536) (ha : a ≤ 2000) : Int32.ofNat L - 3 < nI a ↔ L < a + 3 := by
  rw [Int32.lt_iff_toInt_lt, show Int32.ofNat L - 3 = nI L - nI 3 from rfl, pk_sub_toInt (by omega) (by omega), nI_toInt (by omega)]
  omega
set_option maxHeartbeats 1000000 in
set_option maxRecDepth 20000 in
theorem lw_turn {L : Nat} {xs : Nat → Int32} (hL : L ≤ 1536) (q : Nat) (S : lm_S) (hx : 3 * q + 3 ≤ L) (h : IV q S) (ih : ∀ F, IV (q + 1) F → lm_Go YF (g_L L xs) ca_L po_L 18 (L_L (3 * (q + 1))) [] F) : lm_Go YF (g_L L xs) ca_L po_L 18 (L_L (3 * q)) [] S := by
  have hv0 : vp_in (nI (3 * q)) L := vp_in_nI (by omega) (by omega)
  have hv1 : vp_in (nI (3 * q) + 1) L := by rw [nI_1]; exact vp_in_nI (by omega) (by omega)
  have hv2 : vp_in (nI (3 * q) + 2) L := by rw [show nI (3 * q) + 2 = nI (3 * q + 2) from nI_add _ 2]; exact vp_in_nI (by omega) (by omega)
  have hk : ∀ F, IV (q + 1) F → lm_Go YF (g_L L xs) ca_L po_L 502 (L_L (3 * q)) [] F := fun F hF => by
    refine lm_to 18 10 ?_
    refine lm_Go.sub (ih F hF) (kk_cons rfl (kk_cons rfl (kk_cons rfl (kk_cons ?_ kk_nil))))
    show some (Value.int (nI (3 * q) + 3)) = some (Value.int (nI (3 * (q + 1))))
    rw [show nI (3 * q) + 3 = nI (3 * q + 3) from nI_add _ 3, show 3 * q + 3 = 3 * (q + 1) by omega]
  have ss : ∀ i, lm_sub (L_L i) (L_L i) := fun i => kk_cons rfl (kk_cons rfl (kk_cons rfl (kk_cons rfl kk_nil)))
  have hc : ¬ Int32.ofNat L - 3 < nI (3 * q) := fun z => by
    have := (lw_cmp hL (by omega)).mp z
    omega
  refine lm_tos (fun p => Nat.beq p 112 || Nat.beq p 145 || Nat.beq p 178 || Nat.beq p 201 || Nat.beq p 224 || Nat.beq p 247 || Nat.beq p 260 || Nat.beq p 273 || Nat.beq p 286 || Nat.beq p 335 || Nat.beq p 384 || Nat.beq p 407 || Nat.beq p 430 || Nat.beq p 443 || Nat.beq p 456 || Nat.beq p 479 || Nat.beq p 502) 20 ?_
  conv => whnf
  refine ⟨fun z => absurd z hc, fun _ => ?_⟩
  conv => whnf
  refine And.intro hv0 ?_
  conv => whnf
  refine ⟨fun _ => lc_poke (jc_poke h _ _) hv1 hv2 hk, fun _ => ?_⟩
  conv => whnf
  refine ⟨fun _ => lc_set (jc_set h _ _) hv1 hv2 hk, fun _ => ?_⟩
  conv => whnf
  refine ⟨fun _ => lc_feed (jc_feed h _) hv1 hv2 hk, fun _ => ?_⟩
  conv => whnf
  refine ⟨fun _ => lc_run (jc_run h _) hv1 hv2 hk, fun _ => ?_⟩
  conv => whnf
  refine ⟨fun _ => lc_go (jc_go h _) hv1 hv2 hk, fun _ => ?_⟩
  conv => whnf
  refine ⟨fun _ => lc_seek (jc_seek h) hv1 hv2 hk, fun _ => ?_⟩
  conv => whnf
  refine ⟨fun _ => lc_time (jc_time h) hv1 hv2 hk, fun _ => ?_⟩
  conv => whnf
  refine ⟨fun _ => lc_last (jc_last h) hv1 hv2 hk, fun _ => ?_⟩
  conv => whnf
  refine ⟨fun _ => lc_stop (jc_stop h _ _ (by split; exact Or.inl rfl; exact Or.inr rfl)) hv1 hv2 hk, fun _ => ?_⟩
  conv => whnf
  refine ⟨fun _ => lc_watch (jc_watch h _ _ (by split; exact Or.inl rfl; exact Or.inr rfl)) hv1 hv2 hk, fun _ => ?_⟩
  conv => whnf
  refine ⟨fun _ => lc_cell (jc_cell h _) hv1 hv2 hk, fun _ => ?_⟩
  conv => whnf
  refine ⟨fun _ => lc_register (jc_register h _) hv1 hv2 hk, fun _ => ?_⟩
  conv => whnf
  refine ⟨fun _ => lc_waiting (jc_waiting h) hv1 hv2 hk, fun _ => ?_⟩
  conv => whnf
  refine ⟨fun _ => lc_puts (jc_puts h) hv1 hv2 hk, fun _ => ?_⟩
  conv => whnf
  refine ⟨fun _ => lc_output (jc_output h (by omega) _) hv1 hv2 hk, fun _ => ?_⟩
  conv => whnf
  refine ⟨fun _ => lc_wrote (jc_wrote h _) hv1 hv2 hk, fun _ => ?_⟩
  exact hk S (h.up (by omega))
set_option maxRecDepth 20000 in
theorem lw_loop {L : Nat} {xs : Nat → Int32} (hL : L ≤ 1536) : ∀ (r q : Nat) (S : lm_S), L < 3 * (q + r) + 3 → q ≤ 600 → IV q S → lm_Go YF (g_L L xs) ca_L po_L 18 (L_L (3 * q)) [] S := by
  have hend : ∀ (q : Nat) (S : lm_S), L < 3 * q + 3 → q ≤ 600 → lm_Go YF (g_L L xs) ca_L po_L 18 (L_L (3 * q)) [] S := by
    intro q S hx hq
    refine lm_run 20 ?_
    conv => whnf
    refine ⟨fun _ => ?_, fun z => absurd ((lw_cmp hL (by omega)).mpr hx) z⟩
    exact ⟨by decide, rfl⟩
  intro r
  induction r with
  | zero => exact fun q S hr hq h => hend q S (by omega) hq
  | succ r ih =>
    intro q S hr hq h
    by_cases hx : L < 3 * q + 3
    · exact hend q S hx hq
    · exact lw_turn hL q S (by omega) h (fun F hF => ih (q + 1) F (by omega) (by omega) hF)
end
section
/-! the state behind the constructors -/
def zS : lm_S := fun i k => if i = 6 then (if k = 3 then 255 else 0) else if i = 18 then (if k = 515 then 255 else 0) else 0
theorem zS_6 (k : Nat) : zS 6 k = if k = 3 then 255 else 0 := rfl
theorem zS_18 (k : Nat) : zS 18 k = if k = 515 then 255 else 0 := rfl
theorem zS_o (i k : Nat) (h6 : i ≠ 6) (h18 : i ≠ 18) : zS i k = 0 := by
  unfold zS
  rw [if_neg h6, if_neg h18]
theorem zS_rs : rs zS zS := by
  have n0 : (0 : Int32) = nI 0 := rfl
  refine ⟨fun a ha => ?_, fun k hk => ?_, ⟨fun a ha => ?_, fun k hk => ?_, ?_⟩, 0, 0, 0, 0, rfl, rfl, by omega, by omega, rfl, fun k hk => by omega, rfl, rfl, rfl, fun k _ hk => by omega, fun _ => rfl, by omega⟩
  · rw [zS_o 5 a (by omega) (by omega), zS_18, if_neg (by omega)]
  · rw [zS_6, zS_18]
    by_cases e : k = 3
    · rw [if_pos e, if_pos (by omega)]
    · rw [if_neg e, if_neg (by omega)]
  · rw [zS_18, if_neg (by omega)]
    exact kb_0
  · rw [zS_18]
    split
    · exact ⟨255, by omega, rfl⟩
    · exact kb_0
  · exact lm_vc (by decide)
theorem zS_mk (l f m s : Nat) (hm : m ≠ 6) (hm2 : m ≠ 18) (hs : s ≠ 6) (hs2 : s ≠ 18) : mk l f m s 0 zS := ⟨by omega, zS_o 16 f (by omega) (by omega), zS_o s 1 hs hs2, fun k hk => by omega, fun i j hi => by omega, fun p hp => Or.inr ⟨zS_o m p hm hm2, fun k hk => by omega⟩⟩
theorem IV_0 : IV 0 (km_an (kd_begin zS)) := by
  have r9 : rs zS (ns_S (zS 18)) := zS_rs.cong (fun _ _ => rfl) (fun _ _ => rfl) rfl rfl rfl rfl
  have e18 : (kd_begin zS) 18 = zS 18 := do_begin zS 18 (by omega)
  refine IV.both (dr := 0) (zS_mk 19 6 14 3 (by omega) (by omega) (by omega) (by omega)) (zS_mk 20 7 15 4 (by omega) (by omega) (by omega) (by omega)) (HD.begin r9 ⟨0, by omega, rfl⟩) (do_begin zS) (mo_an _) ⟨?_, ?_, ?_, ?_⟩ ?_ (by omega)
  · unfold km_an
    rw [ls_o _ (by omega), ls_o _ (by omega), va_up_self]
    exact e18
  · unfold km_an
    rw [ls_o _ (by omega), ls_o _ (by omega), va_up_ne _ _ (by omega)]
    exact e18
  · unfold km_an
    rw [ls_n _ _ (by omega), ls_i]
    rfl
  · unfold km_an
    rw [ls_i]
    rfl
  · have e : (kd_begin zS) 1 = zS 1 := by
      unfold kd_begin kd_keep
      rw [va_up_ne _ _ (by omega), ls_o _ (by omega), ls_o _ (by omega)]
    rw [e]
    rfl
end
section
/-! begin in the desk's own shape, anew in the reference's own: no static tables -/
abbrev kk_Z (sh : List lm_Sh) : lm_Y := (kk_cl, sh, [], kk_nw, kk_ws)
theorem kk_fokZ {sh : List lm_Sh} {own : String} {fl : List (Nat × Nat × Nat)} (h : ∀ q ∈ fl, kk_fr own q) : lm_fok (kk_Z sh) own fl := fun idx ci k hq => h (idx, ci, k) (kk_lk hq)
theorem kk_nosok {sh : List lm_Sh} {own : String} : lm_sok (kk_Z sh) own [] := fun idx j hq => by cases hq
theorem kk_sokZ {sh : List lm_Sh} {own : String} {sl : List (Nat × Nat)} (h : sl = []) : lm_sok (kk_Z sh) own sl := by
  subst h
  exact kk_nosok
theorem kk_okZ {sh : List lm_Sh} (h : lm_Yok (kk_Y sh)) : lm_Yok (kk_Z sh) := ⟨h.1, h.2.1, h.2.2⟩
theorem kk_okZD : lm_Yok (kk_Z kk_shD) := kk_okZ kk_okD
theorem kk_okZR : lm_Yok (kk_Z kk_shR) := kk_okZ kk_okR
def kk_crZ (l : Launch) (sh : List lm_Sh) (own : String) (fr lo : Nat) (q : Nat × Nat × Option Nat × lm_Sp) : Prop := ∃ (y : MethodName) (b : ByteArray) (mL : Nat) (rt : Option FieldType) (f1 lo1 : Nat), lm_I l (kk_Z sh) y b mL rt f1 lo1 q.2.2.2 ∧ (f1 + 1 ≤ fr ∧ 8 + (mL + 11) + lo1 ≤ lo) ∧ kk_yw y b mL rt q.2.1 q.2.2.1 ∧ kk_li own q.1 y
theorem kk_cokZ {l : Launch} {sh : List lm_Sh} {own : String} {fr lo : Nat} {cal : lm_Ca} (h : ∀ q ∈ cal, kk_crZ l sh own fr lo q) : lm_cok l (kk_Z sh) own fr lo cal := by
  intro idx n vi sp hq
  obtain ⟨y, b, mL, rt, f1, lo1, h1, h2, ⟨h3, h4, h5, h6⟩, h7⟩ := h (idx, n, vi, sp) (kk_lk hq)
  exact ⟨y, b, mL, rt, f1, lo1, h1, h2, h3, h4, h5, h7, h6⟩
theorem po_HZ (sh : List lm_Sh) {fr lo : Nat} (h1 : 1 ≤ fr) (h2 : 26 ≤ lo) : lm_pok (kk_Z sh) R_H fr lo 48 := by
  rcases po_H sh h1 h2 with h | h
  · exact Or.inl h
  · exact Or.inr h
abbrev s_H_keepPresent_0 : lm_Sp := s_H_keepPresent
abbrev ca_H_keepPresent_0 : lm_Ca := []
theorem cok_H_keepPresent_0 (l : Launch) : lm_cok l (kk_Z kk_shD) R_H 1 26 ca_H_keepPresent_0 := kk_cokZ (kk_nil)
set_option maxHeartbeats 1000000 in
set_option maxRecDepth 20000 in
theorem I_H_keepPresent_0 (l : Launch) : lm_I l (kk_Z kk_shD) y_H_keepPresent b_H_keepPresent 2 (none) 1 26 s_H_keepPresent_0 := by
  refine lm_impl g_H_keepPresent ca_H_keepPresent_0 (by decide +kernel) kk_okZD ck_H_keepPresent (kk_fokZ fl_H_ok) (kk_sokZ rfl) (po_HZ _ (by decide) (by decide)) (cok_H_keepPresent_0 l) rfl (by decide) ?_
  rintro av S post ⟨rfl, hk, h⟩
  have hw : ¬ (0 : Int32) < 0 ∧ ¬ S 2 3 * 9 < 0 ∧ ¬ (9 : Int32) < 0 ∧ (0 : Int32).toNatClampNeg + (9 : Int32).toNatClampNeg ≤ 9 ∧ (S 2 3 * 9).toNatClampNeg + (9 : Int32).toNatClampNeg ≤ 2709 := by
    obtain ⟨t, h1, h2, h3⟩ := kd_m9 hk
    rw [h3, nI_clamp (by omega)]
    exact ⟨by decide, nI_pos (by omega), by decide, by decide, by rw [show (9 : Int32).toNatClampNeg = 9 from by decide]; omega⟩
  refine ⟨Nat.le_of_ble_eq_true rfl, lm_run 60 ?_⟩
  unfold kd_keep at h
  (try (conv => whnf))
  repeat' first
    | (refine ⟨_, rfl, ?_⟩; conv => whnf)
    | (refine ⟨_, _, rfl, ?_⟩; conv => whnf)
    | (refine ⟨_, _, _, rfl, ?_⟩; conv => whnf)
    | (refine ⟨_, _, _, _, rfl, ?_⟩; conv => whnf)
    | (refine And.intro rfl ?_; conv => whnf)
    | (refine And.intro (lm_vc (by decide)) ?_; conv => whnf)
    | (refine And.intro (by decide) ?_; conv => whnf)
    | (refine ⟨fun hx => absurd hx (by decide), fun _ => ?_⟩; conv => whnf)
    | (refine ⟨fun _ => ?_, fun hx => absurd hx (by decide)⟩; conv => whnf)
    | (refine And.intro (hw hx) ?_; conv => whnf)
    | (refine And.intro hw ?_; conv => whnf)
    | (refine And.intro hw2 ?_; conv => whnf)
    | (refine And.intro hw3 ?_; conv => whnf)
    | (refine And.intro hw4 ?_; conv => whnf)
    | (refine And.intro hw5 ?_; conv => whnf)
    | (refine And.intro hw6 ?_; conv => whnf)
    | (refine And.intro hw7 ?_; conv => whnf)
    | (refine And.intro (hv1 (by assumption)) ?_; conv => whnf)
    | (refine And.intro (hv2 (by assumption) (by assumption)) ?_; conv => whnf)
    | (refine And.intro (hv3 (by assumption) (by assumption)) ?_; conv => whnf)
    | (refine And.intro (lm_v511 _) ?_; conv => whnf)
    | (refine And.intro (lm_v7 _) ?_; conv => whnf)
    | (refine ⟨fun hx => ?_, fun hx => ?_⟩ <;> conv => whnf)
    | (split at h)
    | contradiction
    | exact h
abbrev s_H_begin_0 : lm_Sp := s_H_begin
abbrev ca_H_begin_0 : lm_Ca := [(28, 1, (some 2), s_H_keepPresent_0)]
theorem cok_H_begin_0 (l : Launch) : lm_cok l (kk_Z kk_shD) R_H 2 47 ca_H_begin_0 := kk_cokZ (kk_cons ⟨y_H_keepPresent, b_H_keepPresent, 2, none, 1, 26, I_H_keepPresent_0 l, ⟨by decide, by decide⟩, yw_H_keepPresent, li_H_28⟩ <| kk_nil)
set_option maxHeartbeats 1000000 in
set_option maxRecDepth 20000 in
theorem I_H_begin_0 (l : Launch) : lm_I l (kk_Z kk_shD) y_H_begin b_H_begin 2 (none) 2 47 s_H_begin_0 := by
  refine lm_impl g_H_begin ca_H_begin_0 (by decide +kernel) kk_okZD ck_H_begin (kk_fokZ fl_H_ok) (kk_sokZ rfl) (Or.inl rfl) (cok_H_begin_0 l) rfl (by decide) ?_
  rintro av S post ⟨rfl, h⟩
  have hw : kd_300 0 := ⟨0, by omega, rfl⟩
  refine ⟨Nat.le_of_ble_eq_true rfl, lm_run 60 ?_⟩
  unfold kd_begin at h
  (try (conv => whnf))
  repeat' first
    | (refine ⟨_, rfl, ?_⟩; conv => whnf)
    | (refine ⟨_, _, rfl, ?_⟩; conv => whnf)
    | (refine ⟨_, _, _, rfl, ?_⟩; conv => whnf)
    | (refine ⟨_, _, _, _, rfl, ?_⟩; conv => whnf)
    | (refine And.intro rfl ?_; conv => whnf)
    | (refine And.intro (lm_vc (by decide)) ?_; conv => whnf)
    | (refine And.intro (by decide) ?_; conv => whnf)
    | (refine ⟨fun hx => absurd hx (by decide), fun _ => ?_⟩; conv => whnf)
    | (refine ⟨fun _ => ?_, fun hx => absurd hx (by decide)⟩; conv => whnf)
    | (refine And.intro (hw hx) ?_; conv => whnf)
    | (refine And.intro hw ?_; conv => whnf)
    | (refine And.intro hw2 ?_; conv => whnf)
    | (refine And.intro hw3 ?_; conv => whnf)
    | (refine And.intro hw4 ?_; conv => whnf)
    | (refine And.intro hw5 ?_; conv => whnf)
    | (refine And.intro hw6 ?_; conv => whnf)
    | (refine And.intro hw7 ?_; conv => whnf)
    | (refine And.intro (hv1 (by assumption)) ?_; conv => whnf)
    | (refine And.intro (hv2 (by assumption) (by assumption)) ?_; conv => whnf)
    | (refine And.intro (hv3 (by assumption) (by assumption)) ?_; conv => whnf)
    | (refine And.intro (lm_v511 _) ?_; conv => whnf)
    | (refine And.intro (lm_v7 _) ?_; conv => whnf)
    | (refine ⟨fun hx => ?_, fun hx => ?_⟩ <;> conv => whnf)
    | (split at h)
    | contradiction
    | exact h
def km_an0 (S : lm_S) : lm_S := lm_set (lm_set (va_up S 1 (S 2)) 0 2 0) 0 3 0
theorem lm_eq_upR (S : lm_S) (i n : Nat) {ty : FieldType} (hs : kk_shR[i]? = some (.inl (ty, n))) {f g : Nat → Int32} (h : ∀ k, k < n → f k = g k) : lm_eq (kk_Z kk_shR) (va_up S i f) (va_up S i g) := by
  refine ⟨fun j ty2 n2 hj k hk => ?_, fun j ci gl hj k hk => ?_⟩
  · by_cases e : j = i
    · subst e
      have hj2 : kk_shR[j]? = some (.inl (ty2, n2)) := hj
      rw [hs] at hj2
      cases hj2
      rw [va_up_self, va_up_self]
      exact h k hk
    · rw [va_up_ne _ _ e, va_up_ne _ _ e]
  · have e : j ≠ i := fun q => by
      subst q
      have hj2 : kk_shR[j]? = some (.inr (ci, gl)) := hj
      rw [hs] at hj2
      cases hj2
    rw [va_up_ne _ _ e, va_up_ne _ _ e]
theorem an_loop0 {post : Option Value → lm_S → Prop} (S : lm_S) (h : post none (km_an0 S)) : ∀ (m i : Nat), i + m = 569 → lm_Go (kk_Z kk_shR) g_R_anew [] post 2 [(0, .ref 0), (1, .int (nI i))] [] (va_up S 1 (kk_cp i (S 2) (S 1)))
  | 0, i, hi => by
    have e : i = 569 := by omega
    subst e
    refine lm_Go.to (L1 := [(0, .ref 0), (1, .int (nI 569))]) ?_ (kk_cons rfl (kk_cons rfl kk_nil)) (lm_eq_upR S 1 569 (ty := .int) rfl (f := S 2) (fun k hk => by simp [kk_cp, hk]))
    refine lm_run 30 ?_
    conv => whnf
    refine ⟨fun _ => ?_, fun hy => absurd (show (569 : Int32) ≤ nI 569 by decide) hy⟩
    exact h
  | m + 1, i, hi => by
    refine lm_to 2 30 ?_
    conv => whnf
    refine ⟨fun hy => absurd hy (nI_ge (b := 569) (show i < 569 by omega) (by omega)), fun _ => ?_⟩
    conv => whnf
    refine ⟨vp_in_nI (by omega) (by decide), ?_⟩
    conv => whnf
    refine ⟨vp_in_nI (by omega) (by decide), ?_⟩
    have e1 : lm_set (va_up S 1 (kk_cp i (S 2) (S 1))) 1 (nI i).toNatClampNeg ((va_up S 1 (kk_cp i (S 2) (S 1))) 2 (nI i).toNatClampNeg) = va_up S 1 (kk_cp (i + 1) (S 2) (S 1)) := by
      rw [nI_clamp (by omega), va_up_ne _ _ (by omega), lm_set_up, kk_cp_s]
    show lm_Go (kk_Z kk_shR) g_R_anew [] post 2 _ [] (lm_set (va_up S 1 (kk_cp i (S 2) (S 1))) 1 (nI i).toNatClampNeg ((va_up S 1 (kk_cp i (S 2) (S 1))) 2 (nI i).toNatClampNeg))
    rw [e1]
    refine lm_Go.sub (an_loop0 S h m (i + 1) (by omega)) (kk_cons rfl (kk_cons ?_ kk_nil))
    show some (Value.int (nI i + 1)) = some (Value.int (nI (i + 1)))
    rw [nI_1]
def s_R_anew_0 : lm_Sp := fun av S post => av = [.ref 0] ∧ post none (km_an0 S)
abbrev ca_R_anew_0 : lm_Ca := []
theorem cok_R_anew_0 (l : Launch) : lm_cok l (kk_Z kk_shR) R_R 0 0 ca_R_anew_0 := kk_cokZ (kk_nil)
set_option maxHeartbeats 1000000 in
set_option maxRecDepth 20000 in
theorem I_R_anew_0 (l : Launch) : lm_I l (kk_Z kk_shR) y_R_anew b_R_anew 2 (none) 0 0 s_R_anew_0 := by
  refine lm_impl g_R_anew ca_R_anew_0 (by decide +kernel) kk_okZR ck_R_anew (kk_fokZ fl_R_ok) (kk_sokZ rfl) (Or.inl rfl) (cok_R_anew_0 l) rfl (by decide) ?_
  rintro av S post ⟨rfl, h⟩
  refine ⟨Nat.le_of_ble_eq_true rfl, lm_to 2 20 ?_⟩
  have h0 := an_loop0 S h 569 0 (by omega)
  rw [kk_cp_0, va_up_id] at h0
  exact lm_Go.sub h0 (kk_cons rfl (kk_cons rfl kk_nil))
end
section
/-! constructors: a walk over worlds that grow -/
/-- the walk: from any heap that holds the world -/
def cW (p : Program) (l : Launch) (e : Env) (R : Room) (s : State) (m : MethodId) (args : Array Value) (below : List Frame) (meth : Method) (c : Code) (Q : State → Prop) (D : va_G) (A : Nat → Prop) (ls : Array Slot) (pc : Nat) (st : List Value) (ws : va_W) (tys : List (ClassId × FieldType)) (k n : Nat) : Prop :=
  ∀ (H : Heap) (locs : List Loc), va_P D kk_cl ws H → va_D A ws → va_K D kk_cl tys s → va_S A s.heap H locs → W p l e R s m args below meth c H locs k n Q (F0 m pc ls st)
/-- what stays -/
def cX (p : Program) (s : State) (m : MethodId) (args : Array Value) (c : Code) (cc : ByteArray) (nL : Nat) (own : String) (A : Nat → Prop) : Prop :=
  p.tables.exec = Jvm.exec ∧ c.code = cc ∧ c.maxLocals = nL ∧ s.vm.findClass own = some m.cls ∧ (∀ w ∈ kk_ws, w.before args s = true) ∧ ∀ q : Nat, s.heap.size ≤ q → A q
/-- the arrays' classes of a shape -/
def lm_te (cA : Nat → ClassId) (i : Nat) (x : lm_Sh) : Option (ClassId × FieldType) := match x with
  | .inl a => some (cA i, a.1)
  | .inr _ => none
def lm_ty (sh : List lm_Sh) (cA : Nat → ClassId) : List (ClassId × FieldType) := (sh.mapIdx (fun i x => lm_te cA i x)).filterMap id
def lm_tyr (cA : Nat → ClassId) : Nat → List lm_Sh → List (ClassId × FieldType)
  | _, [] => []
  | i, .inl a :: r => (cA i, a.1) :: lm_tyr cA (i + 1) r
  | i, .inr _ :: r => lm_tyr cA (i + 1) r
theorem lm_tyr_of (cA : Nat → ClassId) : ∀ (sh : List lm_Sh) (n : Nat), (sh.mapIdx (fun i x => lm_te cA (n + i) x)).filterMap id = lm_tyr cA n sh
  | [], n => rfl
  | x :: r, n => by
    have h := lm_tyr_of cA r (n + 1)
    have e : (fun (i : Nat) (x : lm_Sh) => lm_te cA (n + (i + 1)) x) = (fun (i : Nat) (x : lm_Sh) => lm_te cA (n + 1 + i) x) := by
      funext i x
      rw [show n + (i + 1) = n + 1 + i by omega]
    rw [List.mapIdx_cons]
    rw [← e] at h
    cases x with
    | inl a =>
      show (cA n, a.1) :: (r.mapIdx (fun (i : Nat) (x : lm_Sh) => lm_te cA (n + (i + 1)) x)).filterMap id = (cA n, a.1) :: lm_tyr cA (n + 1) r
      rw [h]
    | inr o =>
      show (r.mapIdx (fun (i : Nat) (x : lm_Sh) => lm_te cA (n + (i + 1)) x)).filterMap id = lm_tyr cA (n + 1) r
      exact h
theorem lm_ty_r (sh : List lm_Sh) (cA : Nat → ClassId) : lm_ty sh cA = lm_tyr cA 0 sh := by
  rw [← lm_tyr_of]
  simp only [lm_ty, Nat.zero_add]
theorem lm_ty_in {sh : List lm_Sh} {cA : Nat → ClassId} {i n : Nat} {ty : FieldType} (h : sh[i]? = some (.inl (ty, n))) : (cA i, ty) ∈ lm_ty sh cA := by
  refine List.mem_filterMap.mpr ⟨some (cA i, ty), List.mem_of_getElem? (i := i) ?_, rfl⟩
  rw [List.getElem?_mapIdx, h]
  rfl
theorem lm_len_W (sh : List lm_Sh) (ad : Nat → Nat) (cA : Nat → ClassId) (S : lm_S) : (lm_W sh ad cA S).length = sh.length := by
  simp [lm_W]
theorem lm_at_W {sh : List lm_Sh} {i : Nat} (ad : Nat → Nat) (cA : Nat → ClassId) (S : lm_S) (h : i < sh.length) : ∃ e, (lm_W sh ad cA S)[i]? = some (ad i, e) := by
  have h1 : sh[i]? = some sh[i] := List.getElem?_eq_getElem h
  exact ⟨_, lm_get h1⟩
theorem lm_ok_of {Y : lm_Y} {D : va_G} {ad : Nat → Nat} {cA : Nat → ClassId} {S : lm_S} {A : Nat → Prop} (hD : va_D A (lm_W Y.2.1 ad cA S)) : lm_ok Y (D, lm_ty Y.2.1 cA, ad, cA) := by
  refine ⟨fun i j hi hj hij => ?_, fun i ty n h => lm_ty_in h⟩
  obtain ⟨e1, h1⟩ := lm_at_W ad cA S hi
  obtain ⟨e2, h2⟩ := lm_at_W ad cA S hj
  exact hD.1 i j _ _ h1 h2 hij
theorem va_D1 {w : Nat × va_E} {sz : Nat} : va_D (va_A [w] sz) [w] := by
  refine ⟨fun i j p q hi hj _ => ?_, fun k q hk => va_A.in hk⟩
  have h1 : i < 1 := (List.getElem?_eq_some_iff.mp hi).1
  have h2 : j < 1 := (List.getElem?_eq_some_iff.mp hj).1
  omega
section CT
variable {p : Program} {l : Launch} {e : Env} {R : Room} {s : State} {m : MethodId} {args : Array Value} {below : List Frame} {meth : Method} {c : Code} {Q : State → Prop} {D : va_G} {A : Nat → Prop} {ls : Array Slot} {cc : ByteArray} {nL : Nat} {own : String} {pc kc ns : Nat} {st : List Value} {ws : va_W} {tys : List (ClassId × FieldType)} {h0 : Nat}
theorem ct_aload (C : cX p s m args c cc nL own A) {j : Fin 4} (hl : ls[j.val]? = some (.val (.ref h0))) (hd : decode cc pc = .ok (.aload_n j, 1)) (k : cW p l e R s m args below meth c Q D A ls (pc + 1) (.ref h0 :: st) ws tys kc ns) : cW p l e R s m args below meth c Q D A ls pc st ws tys kc ns :=
  fun H locs hP hD hK hS => lv_aload_n C.1 C.2.1 hd rfl hl (k H locs hP hD hK hS)
theorem ct_i (C : cX p s m args c cc nL own A) {n : Int} {v : Int32} (hv : Int32.ofInt n = v) (hd : decode cc pc = .ok (.iconst n, 1)) (k : cW p l e R s m args below meth c Q D A ls (pc + 1) (.int v :: st) ws tys kc ns) : cW p l e R s m args below meth c Q D A ls pc st ws tys kc ns :=
  fun H locs hP hD hK hS => lv_iconst C.1 C.2.1 hd hv (k H locs hP hD hK hS)
theorem ct_b (C : cX p s m args c cc nL own A) {n : Int} {v : Int32} (hv : (Int8.ofInt n).toInt32 = v) (hd : decode cc pc = .ok (.bipush n, 2)) (k : cW p l e R s m args below meth c Q D A ls (pc + 2) (.int v :: st) ws tys kc ns) : cW p l e R s m args below meth c Q D A ls pc st ws tys kc ns :=
  fun H locs hP hD hK hS => lv_bipush C.1 C.2.1 hd hv (k H locs hP hD hK hS)
theorem ct_s (C : cX p s m args c cc nL own A) {n : Int} {v : Int32} (hv : (Int16.ofInt n).toInt32 = v) (hd : decode cc pc = .ok (.sipush n, 3)) (k : cW p l e R s m args below meth c Q D A ls (pc + 3) (.int v :: st) ws tys kc ns) : cW p l e R s m args below meth c Q D A ls pc st ws tys kc ns :=
  fun H locs hP hD hK hS => lv_sipush C.1 C.2.1 hd hv (k H locs hP hD hK hS)
theorem ct_dup (C : cX p s m args c cc nL own A) {a : Nat} (hd : decode cc pc = .ok (.dup, 1)) (k : cW p l e R s m args below meth c Q D A ls (pc + 1) (.ref a :: .ref a :: st) ws tys kc ns) : cW p l e R s m args below meth c Q D A ls pc (.ref a :: st) ws tys kc ns :=
  fun H locs hP hD hK hS => lv_dup C.1 C.2.1 hd rfl (k H locs hP hD hK hS)
theorem ct_obj (C : cX p s m args c cc nL own A) {idx a : Nat} (hs : ls.size = nL) (hlink : Cond.methodLink own idx objectInit ∈ kk_ws) (hi : Cond.instanceMethod objectInit ∈ kk_ws) (hc : Cond.code objectInit ⟨#[0xb1]⟩ 1 none ∈ kk_ws) (hf : 1 ≤ R.frames) (hlo : 12 ≤ R.locals) (hd : decode cc pc = .ok (.invokespecial idx, 3)) (k : cW p l e R s m args below meth c Q D A ls (pc + 3) [] ws tys kc ns) : cW p l e R s m args below meth c Q D A ls pc [.ref a] ws tys kc ns :=
  fun H locs hP hD hK hS => W.objInit C.1 C.2.1 C.2.2.2.1 (C.2.2.2.2.1 _ hlink) (C.2.2.2.2.1 _ hi) (C.2.2.2.2.1 _ hc) rfl (show ls.size = c.maxLocals by rw [hs, C.2.2.1]) (rest := []) rfl hd hf (Nat.le_trans (Nat.le_of_ble_eq_true rfl : _ ≤ 12) hlo) (k H locs hP hD hK hS)
/-- another order -/
theorem ct_perm {ws' : va_W} {tys' : List (ClassId × FieldType)} (is js : List Nat) (h1 : is.map (fun i => ws[i]?) = ws'.map some) (h2 : va_nd is = true) (h3 : js.filterMap (fun i => tys[i]?) = tys') (k : cW p l e R s m args below meth c Q D A ls pc st ws' tys' kc ns) : cW p l e R s m args below meth c Q D A ls pc st ws tys kc ns := by
  intro H locs hP hD hK hS
  refine k H locs (hP.sub is ?_) (hD.sub is h2 h1) (hK.sub js h3) hS
  have h4 : is.filterMap (fun i => ws[i]?) = (is.map (fun i => ws[i]?)).filterMap id := by rw [List.filterMap_map]; rfl
  rw [h4, h1, List.filterMap_map]
  exact List.filterMap_some
theorem ct_widen {kc2 ns2 : Nat} (h1 : kc ≤ kc2) (h2 : ns ≤ ns2) (k : cW p l e R s m args below meth c Q D A ls pc st ws tys kc2 ns2) : cW p l e R s m args below meth c Q D A ls pc st ws tys kc ns :=
  fun H locs hP hD hK hS => W.widen h1 h2 (k H locs hP hD hK hS)
/-- a new array into a field of the object: newarray, putfield -/
theorem ct_arr (C : cX p s m args c cc nL own A) (hin : meth.name = "<init>") {atype : ArrayType} {ty tf : FieldType} (harr : Cond.arrayClass ty ∈ kk_ws) (hty : newarray.typeOf atype = ty) (h00 : defaultValue ty = .int 0) {n : Int32} {N : Nat} (hn : ¬ n < 0) (hN : n.toNatClampNeg = N) (hbytes : N * componentBytes ty ≤ 536870912) (hc : kc + 1 ≤ R.cells) (hs : ns + N ≤ R.slots) (hd1 : decode cc pc = .ok (.newarray atype, 2))
    {T : u_T} {NF ci idx : Nat} {fs : List Value} {tl : va_W} (hcl : kk_cl[ci]? = some (own, T, NF)) (hu : ∀ w ∈ u_ws own T NF, w ∈ kk_ws) (ty0 : Nat → FieldType) (hty0 : ∀ k, k < NF → parseFieldDescriptor (T k).2.2.1 = some (ty0 k)) (hnm : ∀ a, a < NF → ∀ b, b < NF → a ≠ b → (T a).2.1 ≠ (T b).2.1) (k : Nat) (hk : k < NF) (hlink : Cond.fieldLink own idx own (T k).2.1 (T k).2.2.1 ∈ kk_ws) (hT : (T k).1 = own) (hfin : (T k).2.2.2 = true) (hpf : parseFieldDescriptor (T k).2.2.1 = some tf) (hnr : ∀ q : Nat, narrow tf (.ref q) = .ref q) (hft : ∀ q : Nat, fits tf (.ref q) = true) (hlen : k < fs.length) (hd2 : decode cc (pc + 2) = .ok (.putfield idx, 3))
    (kk : ∀ (q : Nat) (cA : ClassId), cW p l e R s m args below meth c Q D A ls (pc + 2 + 3) st ((h0, .inr (ci, fs.set k (.ref q))) :: (tl ++ [(q, .inl (cA, N, .inl (fun _ => 0)))])) (tys ++ [(cA, ty)]) (kc + 1) (ns + N)) : cW p l e R s m args below meth c Q D A ls pc (.int n :: .ref h0 :: st) ((h0, .inr (ci, fs)) :: tl) tys kc ns := by
  intro H locs hP hD hK hS
  refine va_newa (a0 := (N, .inl (fun _ => 0))) C.1 C.2.1 (by rw [hty]; exact C.2.2.2.2.1 _ harr) hty hK hP hD hS C.2.2.2.2.2 (fun cA => by rw [vp_cell_i, h00]) hn hN hbytes hc hs hd1 (fun q cA H1 hK1 hP1 hD1 hS1 => ?_)
  exact va_putF C.1 C.2.1 C.2.2.2.2.1 hu ty0 hty0 hnm C.2.2.2.1 hK1 hP1 hD1 hS1 0 rfl hcl k hk (C.2.2.2.2.1 _ hlink) (fun x h => by rw [hT] at h; exact h) hfin hin hT hpf (hnr q) (hft q) hlen hd2 (fun H2 locs2 hP2 hD2 hS2 => kk q cA H2 locs2 hP2 hD2 hK1 hS2)
/-- a reference into a field of the object -/
theorem ct_putF (C : cX p s m args c cc nL own A) (hin : meth.name = "<init>") {T : u_T} {NF ci idx q : Nat} {fs : List Value} {tl : va_W} {tf : FieldType} (hcl : kk_cl[ci]? = some (own, T, NF)) (hu : ∀ w ∈ u_ws own T NF, w ∈ kk_ws) (ty0 : Nat → FieldType) (hty0 : ∀ k, k < NF → parseFieldDescriptor (T k).2.2.1 = some (ty0 k)) (hnm : ∀ a, a < NF → ∀ b, b < NF → a ≠ b → (T a).2.1 ≠ (T b).2.1) (k : Nat) (hk : k < NF) (hlink : Cond.fieldLink own idx own (T k).2.1 (T k).2.2.1 ∈ kk_ws) (hT : (T k).1 = own) (hfin : (T k).2.2.2 = true) (hpf : parseFieldDescriptor (T k).2.2.1 = some tf) (hnr : narrow tf (.ref q) = .ref q) (hft : fits tf (.ref q) = true) (hlen : k < fs.length) (hd2 : decode cc pc = .ok (.putfield idx, 3))
    (kk : cW p l e R s m args below meth c Q D A ls (pc + 3) st ((h0, .inr (ci, fs.set k (.ref q))) :: tl) tys kc ns) : cW p l e R s m args below meth c Q D A ls pc (.ref q :: .ref h0 :: st) ((h0, .inr (ci, fs)) :: tl) tys kc ns := by
  intro H locs hP hD hK hS
  exact va_putF C.1 C.2.1 C.2.2.2.2.1 hu ty0 hty0 hnm C.2.2.2.1 hK hP hD hS 0 rfl hcl k hk (C.2.2.2.2.1 _ hlink) (fun x h => by rw [hT] at h; exact h) hfin hin hT hpf hnr hft hlen hd2 (fun H2 locs2 hP2 hD2 hS2 => kk H2 locs2 hP2 hD2 hK hS2)
theorem ct_get (C : cX p s m args c cc nL own A) {T : u_T} {NF ci idx a : Nat} {fs : List Value} {v : Value} (q0 : Nat) (he : ws[q0]? = some (a, .inr (ci, fs))) (hcl : kk_cl[ci]? = some (own, T, NF)) (hu : ∀ w ∈ u_ws own T NF, w ∈ kk_ws) (k : Nat) (hk : k < NF) (hlink : Cond.fieldLink own idx own (T k).2.1 (T k).2.2.1 ∈ kk_ws) (hT : (T k).1 = own) (hv : fs[k]? = some v) (hd : decode cc pc = .ok (.getfield idx, 3))
    (kk : cW p l e R s m args below meth c Q D A ls (pc + 3) (v :: st) ws tys kc ns) : cW p l e R s m args below meth c Q D A ls pc (.ref a :: st) ws tys kc ns :=
  fun H locs hP hD hK hS => va_get C.1 C.2.1 C.2.2.2.2.1 hu C.2.2.2.1 hK hP q0 he hcl k hk (C.2.2.2.2.1 _ hlink) (fun x h => by rw [hT] at h; exact h) hv hd (kk H locs hP hD hK hS)
theorem ct_iast (C : cX p s m args c cc nL own A) {a N : Nat} {cA : ClassId} {f g : Nat → Int32} {ws' : va_W} (q0 t0 : Nat) (he : ws[q0]? = some (a, .inl (cA, N, .inl f))) (ht : tys[t0]? = some (cA, .int)) {i x : Int32} (hin : vp_in i N) (hg : upd f i.toNatClampNeg x = g) (hw : ws.set q0 (a, .inl (cA, N, .inl g)) = ws') (hd : decode cc pc = .ok (.iastore, 1))
    (kk : cW p l e R s m args below meth c Q D A ls (pc + 1) st ws' tys kc ns) : cW p l e R s m args below meth c Q D A ls pc (.int x :: .int i :: .ref a :: st) ws tys kc ns := by
  subst hw
  subst hg
  exact fun H locs hP hD hK hS => va_iast C.1 C.2.1 hK hP hD hS q0 t0 he ht hin hd (fun H2 locs2 hP2 hD2 hS2 => kk H2 locs2 hP2 hD2 hK hS2)
theorem ct_new (C : cX p s m args c cc nL own A) {Cn : String} {T : u_T} {NF ci idx : Nat} {fs : List Value} (hcl : kk_cl[ci]? = some (Cn, T, NF)) (hu : ∀ w ∈ u_ws Cn T NF, w ∈ kk_ws) (ty0 : Nat → FieldType) (hty0 : ∀ k, k < NF → parseFieldDescriptor (T k).2.2.1 = some (ty0 k)) (hlk : Cond.classLink own idx Cn ∈ kk_ws) (hinst : Cond.instantiable Cn NF ∈ kk_ws) (hini : Cond.initialized Cn ∈ kk_ws) (hfs : ∀ j, j < NF → defaultValue (ty0 j) = vp_V fs j) (hc : kc + 1 ≤ R.cells) (hs : ns + NF ≤ R.slots) (hd : decode cc pc = .ok (.new idx, 3))
    (kk : ∀ q : Nat, cW p l e R s m args below meth c Q D A ls (pc + 3) (.ref q :: st) (ws ++ [(q, .inr (ci, fs))]) tys (kc + 1) (ns + NF)) : cW p l e R s m args below meth c Q D A ls pc st ws tys kc ns :=
  fun H locs hP hD hK hS => va_new C.1 C.2.1 C.2.2.2.2.1 hu ty0 hty0 C.2.2.2.1 (C.2.2.2.2.1 _ hlk) (C.2.2.2.2.1 _ hinst) (C.2.2.2.2.1 _ hini) hK hP hD hS C.2.2.2.2.2 hcl hfs hc hs hd (fun q H1 hP1 hD1 hS1 => kk q H1 locs hP1 hD1 hK hS1)
end CT
/-- a constructor's contract: from a new object to the cells of a shape -/
def CT (l : Launch) (y : MethodName) (b : ByteArray) (fr lo ci : Nat) (fs0 : List Value) (kc ns : Nat) (sh : List lm_Sh) (S : lm_S) : Prop := ∀ (D : va_G) (h0 sz : Nat),
  Met l y (Cond.code y b 1 none :: kk_ws) ({ frames := fr, cells := kc, slots := ns, locals := lo }) (va_Pc [.ref h0] (fun U => U.heap.size = sz ∧ va_P D kk_cl [(h0, .inr (ci, fs0))] U.heap ∧ va_K D kk_cl [] U ∧ ∀ w ∈ kk_nw, va_Nw w U))
    (va_Qv (fun _ : Unit => True) (fun _ t => ∃ (q : Nat → Nat) (c : Nat → ClassId), q 0 = h0 ∧ va_P D kk_cl (lm_W sh q c S) t.heap ∧ va_K D kk_cl (lm_ty sh c) t ∧ va_D (va_A [(h0, .inr (ci, fs0))] sz) (lm_W sh q c S)) (va_A [(h0, .inr (ci, fs0))] sz)) kc ns (va_A [(h0, .inr (ci, fs0))] sz)
set_option maxHeartbeats 1000000 in
theorem CT.of {l : Launch} {y : MethodName} {b : ByteArray} {fr lo ci : Nat} {fs0 : List Value} {kc ns : Nat} {sh : List lm_Sh} {S : lm_S} (hy : plainName y.cls = true) (hyn : y.name = "<init>")
    (body : ∀ (p : Program) (e : Env) (R : Room) (s : State) (m : MethodId) (args : Array Value) (below : List Frame) (meth : Method) (c : Code) (Q : State → Prop) (D : va_G) (A : Nat → Prop) (ls : Array Slot) (h0 : Nat), cX p s m args c b 1 y.cls A → meth.name = "<init>" → ls.size = 1 → ls[0]? = some (.val (.ref h0)) → R.cells = kc → R.slots = ns → R.frames = fr → R.locals = lo → (∀ w ∈ kk_nw, va_Nw w s) →
      (∀ (pc : Nat) (ws : va_W) (tys : List (ClassId × FieldType)) (q : Nat → Nat) (c1 : Nat → ClassId), q 0 = h0 → ws = lm_W sh q c1 S → tys = lm_ty sh c1 → decode b pc = .ok (.return_, 1) → cW p l e R s m args below meth c Q D A ls pc [] ws tys kc ns) →
      cW p l e R s m args below meth c Q D A ls 0 [] [(h0, .inr (ci, fs0))] [] 0 0) : CT l y b fr lo ci fs0 kc ns sh S := by
  intro D h0 sz
  refine Met.ofW (cc := b) (maxL := 1) (ret := none) hy rfl ?_
  intro p e s m args below meth c s₁ B hml hv
  obtain ⟨rfl, hsz, hP, hK, hN⟩ := hv
  have hx := B.exec
  have hb := B.bytes
  have hr := B.returns
  have hts0 := atoms_spec (ws := Cond.code y b 1 none :: kk_ws) B.pre
  have hown : s.vm.findClass y.cls = some m.cls := findClass_of_methodNamed B.named
  have hlocks := B.notSynchronized
  have hin : meth.name = "<init>" := (name_of_methodNamed B.named B.method).1.trans hyn
  subst hsz
  have hl := lv_entry ([.ref h0]) (n := 1) (Nat.le_of_ble_eq_true rfl)
  rw [lg_entry_eq]
  generalize (lg_sl ([.ref h0]) ++ List.replicate (1 - (lg_sl ([.ref h0])).length) Slot.unset).toArray = ls at hl ⊢
  have hl : lv_has ls 1 [(0, .ref h0)] := hl
  refine body p e _ s m _ below meth c _ D (va_A [(h0, .inr (ci, fs0))] s.heap.size) ls h0 ⟨hx, hb, hml, hown, fun w hw => hts0 w (List.mem_cons_of_mem _ hw), fun q h => Or.inr h⟩ hin hl.1 (lv_at hl 0 rfl) rfl rfl rfl rfl hN ?_ s.heap [] hP va_D1 hK va_S.rf
  intro pc ws tys q c1 h1 h2 h3 hd H locs hP hD hK hS
  subst h2
  subst h3
  exact W.vret hx hb hr (fun t ht hW => ⟨⟨(), rfl, trivial, q, c1, h1, by rw [ht]; exact hP, va_K.moved hW.alike hK, hD⟩, hS.F ht⟩) hS.2.2 hd
section CT2
variable {p : Program} {l : Launch} {e : Env} {R : Room} {s : State} {m : MethodId} {args : Array Value} {below : List Frame} {meth : Method} {c : Code} {Q : State → Prop} {D : va_G} {A : Nat → Prop} {ls : Array Slot} {cc : ByteArray} {nL : Nat} {own : String} {pc kc ns : Nat} {st : List Value} {ws : va_W} {tys : List (ClassId × FieldType)}
set_option maxHeartbeats 1000000 in
/-- a constructor's call -/
theorem ct_call {y : MethodName} {b : ByteArray} {fr lo ci k1 n1 : Nat} {fs0 : List Value} {sh : List lm_Sh} {S : lm_S} (hM : CT l y b fr lo ci fs0 k1 n1 sh S) (C : cX p s m args c cc nL own A) (hN : ∀ w ∈ kk_nw, va_Nw w s) (hsz : ls.size = nL) {idx q : Nat} {tl : va_W} (hyw : Cond.code y b 1 none ∈ kk_ws) (hyi : Cond.initialized y.cls ∈ kk_ws) (hym : Cond.instanceMethod y ∈ kk_ws) (hyn : y.name = "<init>") (hyd : y.cls ≠ "java/lang/invoke/MethodHandle" ∧ y.cls ≠ "java/lang/invoke/VarHandle" ∧ (parseMethodDescriptor y.desc).map (fun d => d.parameters.length) = some 0) (hlk : kk_li own idx y) (hR : fr + 1 ≤ R.frames ∧ 8 + (1 + 11) + lo ≤ R.locals) (hcat : lm_cat st ≤ 8) (hcs : kc + k1 ≤ R.cells ∧ ns + n1 ≤ R.slots) (isC isR : List Nat) (hC : isC.map (fun i => (tl ++ [(q, .inr (ci, fs0))])[i]?) = [(q, .inr (ci, fs0))].map some) (hI : isR.map (fun i => (tl ++ [(q, .inr (ci, fs0))])[i]?) = tl.map some) (hn1 : va_nd isC = true) (hn2 : va_nd isR = true) (hdis : ∀ i ∈ isR, i ∉ isC) (hd : decode cc pc = .ok (.invokespecial idx, 3))
    (kk : ∀ (qq : Nat → Nat) (c1 : Nat → ClassId), qq 0 = q → cW p l e R s m args below meth c Q D A ls (pc + 3) st (tl ++ lm_W sh qq c1 S) (tys ++ lm_ty sh c1) (kc + k1) (ns + n1)) : cW p l e R s m args below meth c Q D A ls pc (.ref q :: st) (tl ++ [(q, .inr (ci, fs0))]) tys kc ns := by
  intro H locs hP hD hK hS
  obtain ⟨hx, hb, hml, hown, hts, hA⟩ := C
  have hFc := va_free hD hS hA isC hC
  have hDc := hD.sub isC hn1 hC
  have hPc : va_P D kk_cl [(q, .inr (ci, fs0))] H := by
    intro k x hk
    have h1 : (isC.map (fun i => (tl ++ [(q, .inr (ci, fs0))])[i]?))[k]? = some (some x) := by rw [hC, List.getElem?_map, hk]; rfl
    rw [List.getElem?_map] at h1
    cases hi : isC[k]? with
    | none => rw [hi] at h1; cases h1
    | some i => rw [hi] at h1; exact hP i x (Option.some.inj h1)
  have hKc := hK.sub (tys' := []) [] rfl
  have hG : GoodIn kk_ws (Cond.code y b 1 none :: kk_ws) := lm_good kk_okZD hyw
  have hpre : PreS s H (va_Pc [.ref q] (fun U => U.heap.size = H.size ∧ va_P D kk_cl [(q, .inr (ci, fs0))] U.heap ∧ va_K D kk_cl [] U ∧ ∀ w ∈ kk_nw, va_Nw w U)) [.ref q] :=
    ⟨fun a U g mk h => by
      obtain ⟨g0, g1, g2, g3, g4⟩ := h
      exact ⟨g0, g1, g2, va_K.moved (u := U) (U := U.calling g mk a) (Vm.Alike.refl U.vm) g3, lm_nw_same kk_okZD (s := U) (U := U.calling g mk a) rfl g4⟩,
     fun U hU hW => ⟨rfl, by rw [hU], by rw [hU]; exact hPc, va_K.moved hW.alike hKc, lm_nw_warm kk_okZD hW hN⟩⟩
  have k2 : ∀ (u : Unit) (t : State) (H1 : Heap) (locs1 : List Loc), t.heap = H1 → s.vm.Alike t.vm → True → (∃ (qq : Nat → Nat) (c1 : Nat → ClassId), qq 0 = q ∧ va_P D kk_cl (lm_W sh qq c1 S) t.heap ∧ va_K D kk_cl (lm_ty sh c1) t ∧ va_D (va_A [(q, .inr (ci, fs0))] H.size) (lm_W sh qq c1 S)) → H.size ≤ H1.size → (∀ x : Nat, x < H.size → ¬ va_A [(q, .inr (ci, fs0))] H.size x → H1[x]? = H[x]?) → va_S A s.heap H1 locs1 → W p l e R s m args below meth c H1 locs1 (kc + k1) (ns + n1) Q (F0 m (pc + 3) ls st) := by
    intro u t H1 locs1 ht hvm _ hB hz1 hk1 hS1
    obtain ⟨qq, c1, h1, hP1, hK1, hD1⟩ := hB
    rw [ht] at hP1
    have hK1 := va_K.moved hvm.symm hK1
    obtain ⟨hP2, hD2⟩ := va_join hP hD isC isR hC hI hn2 hdis hk1 hFc hP1 hD1
    exact kk qq c1 h1 H1 locs1 hP2 hD2 (hK.app hK1) hS1
  rcases hlk with hlk | ⟨host, hlk⟩
  · exact va_callv (va_runI (As := []) (rest := st) ⟨hx, hb, hml, hown, hts⟩ (hM D q H.size) (cwI 0 hts hG rfl rfl rfl (hts _ hyi) (hts _ hlk) (hts _ hym) hyn hyd hR) hpre rfl rfl hsz rfl (lv_room hcat) hd hcs) hS (fun x _ h => hFc x h) hFc k2
  · exact va_callv (va_runIN (As := []) (rest := st) ⟨hx, hb, hml, hown, hts⟩ (hM D q H.size) ⟨va_cnB 0 hts hG rfl rfl rfl (hN _ hlk) (hts _ hyi) hyd hR, hyn, hts _ hym⟩ hpre rfl rfl hsz rfl (lv_room hcat) hd hcs) hS (fun x _ h => hFc x h) hFc k2
theorem ct_after {H : Heap} {locs : List Loc} {st0 rest : List Value} {a : Array Value} {Y : lm_Y} {X : lm_X} {post : Option Value → lm_S → Prop} (hr : va_Run p l e R s m args below meth c H locs kc ns 0 0 (F0 m pc ls st0) rest (lm_Qc Y X H.size post a) (lm_A Y.2.1.length X.2.2.1 H.size)) (hS : va_S A s.heap H locs) (hAll : ∀ q, lm_A Y.2.1.length X.2.2.1 H.size q → A q)
    (kk : ∀ (r : Option Value) (S1 : lm_S) (H1 : Heap) (locs1 : List Loc), post r S1 → va_P X.1 Y.1 (lm_W Y.2.1 X.2.2.1 X.2.2.2 S1) H1 → va_S A s.heap H1 locs1 → W p l e R s m args below meth c H1 locs1 kc ns Q (F0 m (pc + 3) ls ((r.map (lm_t X.2.2.1)).toList ++ rest))) : W p l e R s m args below meth c H locs kc ns Q (F0 m pc ls st0) := by
  intro T hT Xs
  obtain ⟨v, st0, t, T1, Ll, h0, X1, hL, e1, e2, ⟨r, S1, hv, hp, hP1, hz, hkp⟩, st⟩ := hr T hT Xs
  cases hv
  rw [h0] at hz hkp
  obtain ⟨t2, a1, b1⟩ := kk r S1 T1.heap (locs ++ Ll) hp (by rw [e1]; exact hP1)
    ⟨Nat.le_trans hS.1 (by rw [e1]; exact hz), fun q h1 h2 => by rw [e1, hkp q (Nat.lt_of_lt_of_le h1 hS.1) (fun z => h2 (hAll q z))]; exact hS.2.1 q h1 h2, fun q hq => by
      rcases List.mem_append.mp hq with h | h
      · exact hS.2.2 q h
      · exact hAll _ (hL q h)⟩ T1 rfl X1
  exact ⟨t2, st t2 a1, b1⟩
set_option maxHeartbeats 1000000 in
/-- a call of a light method, in a constructor -/
theorem ct_light {sh : List lm_Sh} {y : MethodName} {b : ByteArray} {mL f1 lo1 : Nat} {sp : lm_Sp} (I : lm_I l (kk_Z sh) y b mL none f1 lo1 sp) (hY : lm_Yok (kk_Z sh)) (C : cX p s m args c cc nL own A) (hN : ∀ w ∈ kk_nw, va_Nw w s) (hsz : ls.size = nL) {idx i n ci : Nat} {gl : List (Option Nat)} {ad : Nat → Nat} {cA : Nat → ClassId} {S S1 : lm_S} {as : List Value} (hgl : sh[i]? = some (.inr (ci, gl))) (has : as.length = n) (hyw : kk_yw y b mL none n (some ci)) (hlk : kk_li own idx y) (hR : f1 + 1 ≤ R.frames ∧ 8 + (mL + 11) + lo1 ≤ R.locals) (hcat : lm_cat st ≤ 8) (hcs : kc ≤ R.cells ∧ ns ≤ R.slots) (hsp : sp (.ref i :: as) S (fun r S2 => r = none ∧ S2 = S1)) {st0 : List Value} (hst : st0 = (as.map (lm_t ad)).reverse ++ .ref (ad i) :: st) (hd : decode cc pc = .ok (.invokevirtual idx, 3))
    (kk : cW p l e R s m args below meth c Q D A ls (pc + 3) st (lm_W sh ad cA S1) (lm_ty sh cA) kc ns) : cW p l e R s m args below meth c Q D A ls pc st0 (lm_W sh ad cA S) (lm_ty sh cA) kc ns := by
  intro H locs hP hD hK hS
  obtain ⟨hx, hb, hml, hown, hts, hA⟩ := C
  have hok : lm_ok (kk_Z sh) (D, lm_ty sh cA, ad, cA) := lm_ok_of (Y := kk_Z sh) hD
  have hM := I (D, lm_ty sh cA, ad, cA) H.size (.ref i :: as) S _ hok hsp
  obtain ⟨w1, w2, w3, w4⟩ := hyw
  obtain ⟨T, N, z1, z2, z3⟩ : ∃ T N, kk_cl[ci]? = some (y.cls, T, N) ∧ Cond.instanceMethod y ∈ kk_ws ∧ Cond.selects y.cls y y ∈ kk_ws := by
    rcases w4 with h | ⟨cj, T, N, h, h9⟩
    · cases h.1
    · cases h
      exact ⟨T, N, h9⟩
  have hG : GoodIn kk_ws (Cond.code y b mL none :: kk_ws) := lm_good kk_okZD w1
  have he : (lm_W sh ad cA S)[i]? = some (ad i, .inr (ci, gl.mapIdx (fun k r => lm_v ad (S i k) r))) := lm_get hgl
  have hAll : ∀ q, lm_A sh.length ad H.size q → A q := by
    intro q hq
    rcases hq with ⟨j, hj, rfl⟩ | hq
    · obtain ⟨e1, h1⟩ := lm_at_W ad cA S hj
      exact hD.2 j _ h1
    · exact hA q (Nat.le_trans hS.1 hq)
  have hpre : PreV s H y.cls (ad i) (va_Pc ((Value.ref i :: as).map (lm_t ad)) (lm_B (kk_Z sh) (D, lm_ty sh cA, ad, cA) H.size S)) (as.map (lm_t ad)) :=
    ⟨lm_blind hY, va_recv hK hP z1 he, fun U hU hW => ⟨rfl, by rw [hU], by rw [hU]; exact hP, va_K.moved hW.alike hK, lm_nw_warm hY hW hN, fun j C1 n1 vs hj => by cases hj⟩⟩
  have hlen : (as.map (lm_t ad)).length = n := by rw [List.length_map]; exact has
  have k2 : ∀ (r : Option Value) (S2 : lm_S) (H1 : Heap) (locs1 : List Loc), (r = none ∧ S2 = S1) → va_P D kk_cl (lm_W sh ad cA S2) H1 → va_S A s.heap H1 locs1 → W p l e R s m args below meth c H1 locs1 kc ns Q (F0 m (pc + 3) ls ((r.map (lm_t ad)).toList ++ st)) := by
    intro r S2 H1 locs1 hr hP1 hS1
    obtain ⟨rfl, rfl⟩ := hr
    refine kk H1 locs1 hP1 ⟨fun a b2 x z ha hb2 hab => ?_, fun k x hk => ?_⟩ hK hS1
    · obtain ⟨g1, g2⟩ := lm_inv ha
      obtain ⟨g3, g4⟩ := lm_inv hb2
      exact hok.1 a b2 g1 g3 (by show ad a = ad b2; rw [← g2, ← g4]; exact hab)
    · obtain ⟨g1, g2⟩ := lm_inv hk
      rw [g2]
      exact hAll _ (Or.inl ⟨k, g1, rfl⟩)
  rcases hlk with hlk | ⟨host, hlk⟩
  · exact ct_after (Y := kk_Z sh) (X := (D, lm_ty sh cA, ad, cA)) (va_runV ⟨hx, hb, hml, hown, hts⟩ hM ⟨callB_of n hts hG rfl rfl rfl (hts _ w2) (hts _ hlk) w3 hR, hts _ z2, hts _ z3⟩ hpre rfl hlen hsz hst (lv_room hcat) hd hcs) hS hAll k2
  · exact ct_after (Y := kk_Z sh) (X := (D, lm_ty sh cA, ad, cA)) (va_runVN ⟨hx, hb, hml, hown, hts⟩ hM ⟨va_cnB n hts hG rfl rfl rfl (hN _ hlk) (hts _ w2) w3 hR, hts _ z2, hts _ z3⟩ hpre rfl hlen hsz hst (lv_room hcat) hd hcs) hS hAll k2
end CT2
theorem ct_as {p : Program} {l : Launch} {e : Env} {R : Room} {s : State} {m : MethodId} {args : Array Value} {below : List Frame} {meth : Method} {c : Code} {Q : State → Prop} {D : va_G} {A : Nat → Prop} {ls : Array Slot} {pc kc ns : Nat} {st : List Value} {ws ws' : va_W} {tys tys' : List (ClassId × FieldType)} (h1 : ws = ws') (h2 : tys = tys') (k : cW p l e R s m args below meth c Q D A ls pc st ws' tys' kc ns) : cW p l e R s m args below meth c Q D A ls pc st ws tys kc ns := by
  subst h1
  subst h2
  exact k
theorem ct_astore {p : Program} {l : Launch} {e : Env} {R : Room} {s : State} {m : MethodId} {args : Array Value} {below : List Frame} {meth : Method} {c : Code} {Q : State → Prop} {D : va_G} {A : Nat → Prop} {ls : Array Slot} {cc : ByteArray} {nL : Nat} {own : String} {pc kc ns : Nat} {st : List Value} {ws : va_W} {tys : List (ClassId × FieldType)} (C : cX p s m args c cc nL own A) {j : Fin 4} {x : Nat} {L L1 : List (Nat × Value)} (hl : lv_has ls nL L) (hj : j.val < nL) (hL : (j.val, Value.ref x) :: L.filter (fun q => !(q.1 == j.val) && !(q.1 + 1 == j.val && q.2.category == 2)) = L1) (hd : decode cc pc = .ok (.astore_n j, 1))
    (kk : ∀ ls1 : Array Slot, lv_has ls1 nL L1 → cW p l e R s m args below meth c Q D A ls1 (pc + 1) st ws tys kc ns) : cW p l e R s m args below meth c Q D A ls pc (.ref x :: st) ws tys kc ns :=
  fun H locs hP hD hK hS => lv_astore_n C.1 C.2.1 hd rfl hl hj hL (fun ls1 hl1 => kk ls1 hl1 H locs hP hD hK hS)
theorem ct_iC (tl : va_W) (w : Nat × va_E) (n : Nat) (h : tl.length = n) : [n].map (fun i => (tl ++ [w])[i]?) = [w].map some := by
  subst h
  simp
theorem ct_iR (tl : va_W) (w : Nat × va_E) (n : Nat) (h : tl.length = n) : (List.range n).map (fun i => (tl ++ [w])[i]?) = tl.map some := by
  subst h
  apply List.ext_getElem?
  intro j
  by_cases hj : j < tl.length
  · have h1 : (List.range tl.length)[j]? = some j := List.getElem?_range hj
    rw [List.getElem?_map, List.getElem?_map, h1, List.getElem?_eq_getElem hj]
    simp only [Option.map_some]
    rw [List.getElem?_append_left hj, List.getElem?_eq_getElem hj]
  · have h1 : (List.range tl.length)[j]? = none := List.getElem?_eq_none (by rw [List.length_range]; omega)
    have h2 : tl[j]? = none := List.getElem?_eq_none (by omega)
    rw [List.getElem?_map, List.getElem?_map, h1, h2]
    rfl
end
section
/-! the constructors: written by wip/whole/gen45.py -/
abbrev sh_K : List lm_Sh := [.inr (3, [some 1, none]), .inl (.boolean, 512)]
abbrev sh_H : List lm_Sh := [.inr (2, [some 1, some 2, some 3, none, none]), .inl (.int, 2709), .inl (.int, 600), .inl (.int, 600)]
abbrev sh_M : List lm_Sh := [.inr (1, [some 1, some 2, some 3, none, some 4, none, some 5, some 6, none]), .inl (.int, 512), .inl (.int, 9), .inl (.int, 40), .inl (.int, 308), .inl (.int, 2), .inl (.int, 2)]
def oS : lm_S := fun _ _ => 0
def mS : lm_S := fun i k => if i = 2 then (if k = 3 then 255 else 0) else 0
def zR : lm_S := fun i k => if i = 2 then (if k = 515 then 255 else 0) else 0
theorem ow_i : Cond.instanceMethod objectInit ∈ kk_ws := (kk_tm 13 (by decide +kernel) (by decide +kernel))
theorem ow_c : Cond.code objectInit ⟨#[0xb1]⟩ 1 none ∈ kk_ws := (kk_tm 14 (by decide +kernel) (by decide +kernel))
set_option maxRecDepth 20000 in
theorem cw_D : Cond.code y_D_init b_D_init 1 none ∈ kk_ws := kk_tm 11 (by rfl) rfl
theorem ci_D : Cond.initialized R_D ∈ kk_ws := (kk_tm 1 (by decide +kernel) (by decide +kernel))
theorem cm_D : Cond.instanceMethod y_D_init ∈ kk_ws := (kk_tm 10 (by decide +kernel) (by decide +kernel))
theorem cn_D : Cond.instantiable R_D 4 ∈ kk_ws := (kk_tm 8 (by decide +kernel) (by decide +kernel))
set_option maxRecDepth 20000 in
theorem cw_M : Cond.code y_M_init b_M_init 1 none ∈ kk_ws := kk_tm 19 (by rfl) rfl
theorem ci_M : Cond.initialized R_M ∈ kk_ws := (kk_tm 2 (by decide +kernel) (by decide +kernel))
theorem cm_M : Cond.instanceMethod y_M_init ∈ kk_ws := (kk_tm 18 (by decide +kernel) (by decide +kernel))
theorem cn_M : Cond.instantiable R_M 9 ∈ kk_ws := (kk_tm 16 (by decide +kernel) (by decide +kernel))
set_option maxRecDepth 20000 in
theorem cw_H : Cond.code y_H_init b_H_init 1 none ∈ kk_ws := kk_tm 61 (by rfl) rfl
theorem ci_H : Cond.initialized R_H ∈ kk_ws := (kk_tm 3 (by decide +kernel) (by decide +kernel))
theorem cm_H : Cond.instanceMethod y_H_init ∈ kk_ws := (kk_tm 60 (by decide +kernel) (by decide +kernel))
theorem cn_H : Cond.instantiable R_H 5 ∈ kk_ws := (kk_tm 58 (by decide +kernel) (by decide +kernel))
set_option maxRecDepth 20000 in
theorem cw_K : Cond.code y_K_init b_K_init 1 none ∈ kk_ws := kk_tm 85 (by rfl) rfl
theorem ci_K : Cond.initialized R_K ∈ kk_ws := (kk_tm 4 (by decide +kernel) (by decide +kernel))
theorem cm_K : Cond.instanceMethod y_K_init ∈ kk_ws := (kk_tm 84 (by decide +kernel) (by decide +kernel))
theorem cn_K : Cond.instantiable R_K 2 ∈ kk_ws := (kk_tm 82 (by decide +kernel) (by decide +kernel))
set_option maxRecDepth 20000 in
theorem cw_R : Cond.code y_R_init b_R_init 1 none ∈ kk_ws := kk_tm 370 (by rfl) rfl
theorem ci_R : Cond.initialized R_R ∈ kk_ws := (kk_tm 6 (by decide +kernel) (by decide +kernel))
theorem cm_R : Cond.instanceMethod y_R_init ∈ kk_ws := (kk_tm 369 (by decide +kernel) (by decide +kernel))
theorem cn_R : Cond.instantiable R_R 10 ∈ kk_ws := (kk_tm 367 (by decide +kernel) (by decide +kernel))
theorem aw_int : Cond.arrayClass .int ∈ kk_ws := (kk_tm 56 (by decide +kernel) (by decide +kernel))
theorem aw_boolean : Cond.arrayClass .boolean ∈ kk_ws := (kk_tm 94 (by decide +kernel) (by decide +kernel))
theorem d_K_init_0 : decode b_K_init 0 = .ok (.aload_n 0, 1) := by decide +kernel
theorem d_K_init_1 : decode b_K_init 1 = .ok (.invokespecial 3, 3) := by decide +kernel
theorem d_K_init_4 : decode b_K_init 4 = .ok (.aload_n 0, 1) := by decide +kernel
theorem d_K_init_5 : decode b_K_init 5 = .ok (.sipush (512), 3) := by decide +kernel
theorem d_K_init_8 : decode b_K_init 8 = .ok (.newarray .boolean, 2) := by decide +kernel
theorem d_K_init_10 : decode b_K_init 10 = .ok (.putfield 9, 3) := by decide +kernel
theorem d_K_init_13 : decode b_K_init 13 = .ok (.return_, 1) := by decide +kernel
set_option maxHeartbeats 1000000 in
set_option maxRecDepth 20000 in
theorem c_K_init (l : Launch) : CT l y_K_init b_K_init 1 20 3 [.null, .int 0] 1 512 sh_K oS := by
  refine CT.of (by decide +kernel) rfl ?_
  intro p e R s m args below meth c Q D A ls h0 C hin hsz hl hRc hRs hRf hRl hN hret
  have C : cX p s m args c b_K_init 1 R_K A := C
  refine ct_aload C (j := 0) hl d_K_init_0 ?_
  refine ct_obj C hsz (kk_tm 86 (by decide +kernel) (by decide +kernel)) ow_i ow_c (by omega) (by omega) d_K_init_1 ?_
  refine ct_aload C (j := 0) hl d_K_init_4 ?_
  refine ct_s C (v := 512) (by decide) d_K_init_5 ?_
  refine ct_arr C hin (ty := .boolean) (tf := .array .boolean) (N := 512) (T := F_K) (NF := 2) (ci := 3) aw_boolean rfl rfl (by decide) (by decide) (by decide) (by omega) (by omega) d_K_init_8 rfl kk_uK t_K t_K_ok n_K 0 (by decide) (kk_tm 87 (by decide +kernel) (by decide +kernel)) rfl rfl (by decide +kernel) (fun _ => rfl) (fun _ => rfl) (Nat.le_of_ble_eq_true rfl) d_K_init_10 (fun q0 c0 => ?_)
  refine ct_widen (kc2 := 1) (ns2 := 512) (by omega) (by omega) ?_
  exact hret 13 _ _ (fun i => [h0, q0].getD i 0) (fun i => [0, c0].getD i 0) rfl rfl rfl d_K_init_13
theorem d_H_init_0 : decode b_H_init 0 = .ok (.aload_n 0, 1) := by decide +kernel
theorem d_H_init_1 : decode b_H_init 1 = .ok (.invokespecial 3, 3) := by decide +kernel
theorem d_H_init_4 : decode b_H_init 4 = .ok (.aload_n 0, 1) := by decide +kernel
theorem d_H_init_5 : decode b_H_init 5 = .ok (.sipush (2709), 3) := by decide +kernel
theorem d_H_init_8 : decode b_H_init 8 = .ok (.newarray .int, 2) := by decide +kernel
theorem d_H_init_10 : decode b_H_init 10 = .ok (.putfield 9, 3) := by decide +kernel
theorem d_H_init_13 : decode b_H_init 13 = .ok (.aload_n 0, 1) := by decide +kernel
theorem d_H_init_14 : decode b_H_init 14 = .ok (.sipush (600), 3) := by decide +kernel
theorem d_H_init_17 : decode b_H_init 17 = .ok (.newarray .int, 2) := by decide +kernel
theorem d_H_init_19 : decode b_H_init 19 = .ok (.putfield 15, 3) := by decide +kernel
theorem d_H_init_22 : decode b_H_init 22 = .ok (.aload_n 0, 1) := by decide +kernel
theorem d_H_init_23 : decode b_H_init 23 = .ok (.sipush (600), 3) := by decide +kernel
theorem d_H_init_26 : decode b_H_init 26 = .ok (.newarray .int, 2) := by decide +kernel
theorem d_H_init_28 : decode b_H_init 28 = .ok (.putfield 18, 3) := by decide +kernel
theorem d_H_init_31 : decode b_H_init 31 = .ok (.return_, 1) := by decide +kernel
set_option maxHeartbeats 1000000 in
set_option maxRecDepth 20000 in
theorem c_H_init (l : Launch) : CT l y_H_init b_H_init 1 20 2 [.null, .null, .null, .int 0, .int 0] 3 3909 sh_H oS := by
  refine CT.of (by decide +kernel) rfl ?_
  intro p e R s m args below meth c Q D A ls h0 C hin hsz hl hRc hRs hRf hRl hN hret
  have C : cX p s m args c b_H_init 1 R_H A := C
  refine ct_aload C (j := 0) hl d_H_init_0 ?_
  refine ct_obj C hsz (kk_tm 62 (by decide +kernel) (by decide +kernel)) ow_i ow_c (by omega) (by omega) d_H_init_1 ?_
  refine ct_aload C (j := 0) hl d_H_init_4 ?_
  refine ct_s C (v := 2709) (by decide) d_H_init_5 ?_
  refine ct_arr C hin (ty := .int) (tf := .array .int) (N := 2709) (T := F_H) (NF := 5) (ci := 2) aw_int rfl rfl (by decide) (by decide) (by decide) (by omega) (by omega) d_H_init_8 rfl kk_uH t_H t_H_ok n_H 0 (by decide) (kk_tm 63 (by decide +kernel) (by decide +kernel)) rfl rfl (by decide +kernel) (fun _ => rfl) (fun _ => rfl) (Nat.le_of_ble_eq_true rfl) d_H_init_10 (fun q0 c0 => ?_)
  refine ct_aload C (j := 0) hl d_H_init_13 ?_
  refine ct_s C (v := 600) (by decide) d_H_init_14 ?_
  refine ct_arr C hin (ty := .int) (tf := .array .int) (N := 600) (T := F_H) (NF := 5) (ci := 2) aw_int rfl rfl (by decide) (by decide) (by decide) (by omega) (by omega) d_H_init_17 rfl kk_uH t_H t_H_ok n_H 1 (by decide) (kk_tm 64 (by decide +kernel) (by decide +kernel)) rfl rfl (by decide +kernel) (fun _ => rfl) (fun _ => rfl) (Nat.le_of_ble_eq_true rfl) d_H_init_19 (fun q1 c1 => ?_)
  refine ct_aload C (j := 0) hl d_H_init_22 ?_
  refine ct_s C (v := 600) (by decide) d_H_init_23 ?_
  refine ct_arr C hin (ty := .int) (tf := .array .int) (N := 600) (T := F_H) (NF := 5) (ci := 2) aw_int rfl rfl (by decide) (by decide) (by decide) (by omega) (by omega) d_H_init_26 rfl kk_uH t_H t_H_ok n_H 2 (by decide) (kk_tm 65 (by decide +kernel) (by decide +kernel)) rfl rfl (by decide +kernel) (fun _ => rfl) (fun _ => rfl) (Nat.le_of_ble_eq_true rfl) d_H_init_28 (fun q2 c2 => ?_)
  refine ct_widen (kc2 := 3) (ns2 := 3909) (by omega) (by omega) ?_
  exact hret 31 _ _ (fun i => [h0, q0, q1, q2].getD i 0) (fun i => [0, c0, c1, c2].getD i 0) rfl rfl rfl d_H_init_31
theorem d_M_init_0 : decode b_M_init 0 = .ok (.aload_n 0, 1) := by decide +kernel
theorem d_M_init_1 : decode b_M_init 1 = .ok (.invokespecial 3, 3) := by decide +kernel
theorem d_M_init_4 : decode b_M_init 4 = .ok (.aload_n 0, 1) := by decide +kernel
theorem d_M_init_5 : decode b_M_init 5 = .ok (.sipush (512), 3) := by decide +kernel
theorem d_M_init_8 : decode b_M_init 8 = .ok (.newarray .int, 2) := by decide +kernel
theorem d_M_init_10 : decode b_M_init 10 = .ok (.putfield 9, 3) := by decide +kernel
theorem d_M_init_13 : decode b_M_init 13 = .ok (.aload_n 0, 1) := by decide +kernel
theorem d_M_init_14 : decode b_M_init 14 = .ok (.bipush (9), 2) := by decide +kernel
theorem d_M_init_16 : decode b_M_init 16 = .ok (.newarray .int, 2) := by decide +kernel
theorem d_M_init_18 : decode b_M_init 18 = .ok (.putfield 15, 3) := by decide +kernel
theorem d_M_init_21 : decode b_M_init 21 = .ok (.aload_n 0, 1) := by decide +kernel
theorem d_M_init_22 : decode b_M_init 22 = .ok (.bipush (40), 2) := by decide +kernel
theorem d_M_init_24 : decode b_M_init 24 = .ok (.newarray .int, 2) := by decide +kernel
theorem d_M_init_26 : decode b_M_init 26 = .ok (.putfield 18, 3) := by decide +kernel
theorem d_M_init_29 : decode b_M_init 29 = .ok (.aload_n 0, 1) := by decide +kernel
theorem d_M_init_30 : decode b_M_init 30 = .ok (.sipush (308), 3) := by decide +kernel
theorem d_M_init_33 : decode b_M_init 33 = .ok (.newarray .int, 2) := by decide +kernel
theorem d_M_init_35 : decode b_M_init 35 = .ok (.putfield 21, 3) := by decide +kernel
theorem d_M_init_38 : decode b_M_init 38 = .ok (.aload_n 0, 1) := by decide +kernel
theorem d_M_init_39 : decode b_M_init 39 = .ok (.iconst 2, 1) := by decide +kernel
theorem d_M_init_40 : decode b_M_init 40 = .ok (.newarray .int, 2) := by decide +kernel
theorem d_M_init_42 : decode b_M_init 42 = .ok (.putfield 24, 3) := by decide +kernel
theorem d_M_init_45 : decode b_M_init 45 = .ok (.aload_n 0, 1) := by decide +kernel
theorem d_M_init_46 : decode b_M_init 46 = .ok (.iconst 2, 1) := by decide +kernel
theorem d_M_init_47 : decode b_M_init 47 = .ok (.newarray .int, 2) := by decide +kernel
theorem d_M_init_49 : decode b_M_init 49 = .ok (.putfield 27, 3) := by decide +kernel
theorem d_M_init_52 : decode b_M_init 52 = .ok (.aload_n 0, 1) := by decide +kernel
theorem d_M_init_53 : decode b_M_init 53 = .ok (.getfield 15, 3) := by decide +kernel
theorem d_M_init_56 : decode b_M_init 56 = .ok (.iconst 3, 1) := by decide +kernel
theorem d_M_init_57 : decode b_M_init 57 = .ok (.sipush (255), 3) := by decide +kernel
theorem d_M_init_60 : decode b_M_init 60 = .ok (.iastore, 1) := by decide +kernel
theorem d_M_init_61 : decode b_M_init 61 = .ok (.return_, 1) := by decide +kernel
theorem mS_row : upd (fun _ => (0 : Int32)) (3 : Int32).toNatClampNeg 255 = mS 2 := by
  funext k
  rfl
set_option maxHeartbeats 1000000 in
set_option maxRecDepth 20000 in
theorem c_M_init (l : Launch) : CT l y_M_init b_M_init 1 20 1 [.null, .null, .null, .int 0, .null, .int 0, .null, .null, .int 0] 6 873 sh_M mS := by
  refine CT.of (by decide +kernel) rfl ?_
  intro p e R s m args below meth c Q D A ls h0 C hin hsz hl hRc hRs hRf hRl hN hret
  have C : cX p s m args c b_M_init 1 R_M A := C
  refine ct_aload C (j := 0) hl d_M_init_0 ?_
  refine ct_obj C hsz (kk_tm 20 (by decide +kernel) (by decide +kernel)) ow_i ow_c (by omega) (by omega) d_M_init_1 ?_
  refine ct_aload C (j := 0) hl d_M_init_4 ?_
  refine ct_s C (v := 512) (by decide) d_M_init_5 ?_
  refine ct_arr C hin (ty := .int) (tf := .array .int) (N := 512) (T := F_M) (NF := 9) (ci := 1) aw_int rfl rfl (by decide) (by decide) (by decide) (by omega) (by omega) d_M_init_8 rfl kk_uM t_M t_M_ok n_M 0 (by decide) (kk_tm 21 (by decide +kernel) (by decide +kernel)) rfl rfl (by decide +kernel) (fun _ => rfl) (fun _ => rfl) (Nat.le_of_ble_eq_true rfl) d_M_init_10 (fun q0 c0 => ?_)
  refine ct_aload C (j := 0) hl d_M_init_13 ?_
  refine ct_b C (v := 9) (by decide) d_M_init_14 ?_
  refine ct_arr C hin (ty := .int) (tf := .array .int) (N := 9) (T := F_M) (NF := 9) (ci := 1) aw_int rfl rfl (by decide) (by decide) (by decide) (by omega) (by omega) d_M_init_16 rfl kk_uM t_M t_M_ok n_M 1 (by decide) (kk_tm 24 (by decide +kernel) (by decide +kernel)) rfl rfl (by decide +kernel) (fun _ => rfl) (fun _ => rfl) (Nat.le_of_ble_eq_true rfl) d_M_init_18 (fun q1 c1 => ?_)
  refine ct_aload C (j := 0) hl d_M_init_21 ?_
  refine ct_b C (v := 40) (by decide) d_M_init_22 ?_
  refine ct_arr C hin (ty := .int) (tf := .array .int) (N := 40) (T := F_M) (NF := 9) (ci := 1) aw_int rfl rfl (by decide) (by decide) (by decide) (by omega) (by omega) d_M_init_24 rfl kk_uM t_M t_M_ok n_M 2 (by decide) (kk_tm 27 (by decide +kernel) (by decide +kernel)) rfl rfl (by decide +kernel) (fun _ => rfl) (fun _ => rfl) (Nat.le_of_ble_eq_true rfl) d_M_init_26 (fun q2 c2 => ?_)
  refine ct_aload C (j := 0) hl d_M_init_29 ?_
  refine ct_s C (v := 308) (by decide) d_M_init_30 ?_
  refine ct_arr C hin (ty := .int) (tf := .array .int) (N := 308) (T := F_M) (NF := 9) (ci := 1) aw_int rfl rfl (by decide) (by decide) (by decide) (by omega) (by omega) d_M_init_33 rfl kk_uM t_M t_M_ok n_M 4 (by decide) (kk_tm 29 (by decide +kernel) (by decide +kernel)) rfl rfl (by decide +kernel) (fun _ => rfl) (fun _ => rfl) (Nat.le_of_ble_eq_true rfl) d_M_init_35 (fun q3 c3 => ?_)
  refine ct_aload C (j := 0) hl d_M_init_38 ?_
  refine ct_i C (v := 2) (by decide) d_M_init_39 ?_
  refine ct_arr C hin (ty := .int) (tf := .array .int) (N := 2) (T := F_M) (NF := 9) (ci := 1) aw_int rfl rfl (by decide) (by decide) (by decide) (by omega) (by omega) d_M_init_40 rfl kk_uM t_M t_M_ok n_M 6 (by decide) (kk_tm 32 (by decide +kernel) (by decide +kernel)) rfl rfl (by decide +kernel) (fun _ => rfl) (fun _ => rfl) (Nat.le_of_ble_eq_true rfl) d_M_init_42 (fun q4 c4 => ?_)
  refine ct_aload C (j := 0) hl d_M_init_45 ?_
  refine ct_i C (v := 2) (by decide) d_M_init_46 ?_
  refine ct_arr C hin (ty := .int) (tf := .array .int) (N := 2) (T := F_M) (NF := 9) (ci := 1) aw_int rfl rfl (by decide) (by decide) (by decide) (by omega) (by omega) d_M_init_47 rfl kk_uM t_M t_M_ok n_M 7 (by decide) (kk_tm 34 (by decide +kernel) (by decide +kernel)) rfl rfl (by decide +kernel) (fun _ => rfl) (fun _ => rfl) (Nat.le_of_ble_eq_true rfl) d_M_init_49 (fun q5 c5 => ?_)
  refine ct_aload C (j := 0) hl d_M_init_52 ?_
  refine ct_get C (T := F_M) (NF := 9) (ci := 1) 0 rfl rfl kk_uM 1 (by decide) (kk_tm 24 (by decide +kernel) (by decide +kernel)) rfl rfl d_M_init_53 ?_
  refine ct_i C (v := 3) (by decide) d_M_init_56 ?_
  refine ct_s C (v := 255) (by decide) d_M_init_57 ?_
  refine ct_iast C 2 1 rfl rfl (lm_vc (by decide)) mS_row rfl d_M_init_60 ?_
  refine ct_widen (kc2 := 6) (ns2 := 873) (by omega) (by omega) ?_
  exact hret 61 _ _ (fun i => [h0, q0, q1, q2, q3, q4, q5].getD i 0) (fun i => [0, c0, c1, c2, c3, c4, c5].getD i 0) rfl rfl rfl d_M_init_61
end
section
/-! the constructors of the desk and of the reference: written by wip/whole/gen46.py -/
theorem fz_M : ∀ j, j < 9 → defaultValue (t_M j) = vp_V [.null, .null, .null, .int 0, .null, .int 0, .null, .null, .int 0] j := by
  intro j hj
  rcases j with _ | _ | _ | _ | _ | _ | _ | _ | _ | _ <;> first | rfl | omega
theorem fz_H : ∀ j, j < 5 → defaultValue (t_H j) = vp_V [.null, .null, .null, .int 0, .int 0] j := by
  intro j hj
  rcases j with _ | _ | _ | _ | _ | _ <;> first | rfl | omega
theorem fz_K : ∀ j, j < 2 → defaultValue (t_K j) = vp_V [.null, .int 0] j := by
  intro j hj
  rcases j with _ | _ | _ <;> first | rfl | omega
theorem fz_D : ∀ j, j < 4 → defaultValue (t_D j) = vp_V [.null, .null, .null, .null] j := by
  intro j hj
  rcases j with _ | _ | _ | _ | _ <;> first | rfl | omega
theorem fz_R : ∀ j, j < 10 → defaultValue (t_R j) = vp_V [.null, .null, .int 0, .int 0, .null, .null, .int 0, .int 0, .int 0, .int 0] j := by
  intro j hj
  rcases j with _ | _ | _ | _ | _ | _ | _ | _ | _ | _ | _ <;> first | rfl | omega
theorem d_R_init_0 : decode b_R_init 0 = .ok (.aload_n 0, 1) := by decide +kernel
theorem d_R_init_1 : decode b_R_init 1 = .ok (.invokespecial 1, 3) := by decide +kernel
theorem d_R_init_4 : decode b_R_init 4 = .ok (.aload_n 0, 1) := by decide +kernel
theorem d_R_init_5 : decode b_R_init 5 = .ok (.sipush (569), 3) := by decide +kernel
theorem d_R_init_8 : decode b_R_init 8 = .ok (.newarray .int, 2) := by decide +kernel
theorem d_R_init_10 : decode b_R_init 10 = .ok (.putfield 7, 3) := by decide +kernel
theorem d_R_init_13 : decode b_R_init 13 = .ok (.aload_n 0, 1) := by decide +kernel
theorem d_R_init_14 : decode b_R_init 14 = .ok (.sipush (569), 3) := by decide +kernel
theorem d_R_init_17 : decode b_R_init 17 = .ok (.newarray .int, 2) := by decide +kernel
theorem d_R_init_19 : decode b_R_init 19 = .ok (.putfield 13, 3) := by decide +kernel
theorem d_R_init_22 : decode b_R_init 22 = .ok (.aload_n 0, 1) := by decide +kernel
theorem d_R_init_23 : decode b_R_init 23 = .ok (.iconst 4, 1) := by decide +kernel
theorem d_R_init_24 : decode b_R_init 24 = .ok (.newarray .int, 2) := by decide +kernel
theorem d_R_init_26 : decode b_R_init 26 = .ok (.putfield 16, 3) := by decide +kernel
theorem d_R_init_29 : decode b_R_init 29 = .ok (.aload_n 0, 1) := by decide +kernel
theorem d_R_init_30 : decode b_R_init 30 = .ok (.iconst 4, 1) := by decide +kernel
theorem d_R_init_31 : decode b_R_init 31 = .ok (.newarray .int, 2) := by decide +kernel
theorem d_R_init_33 : decode b_R_init 33 = .ok (.putfield 19, 3) := by decide +kernel
theorem d_R_init_36 : decode b_R_init 36 = .ok (.aload_n 0, 1) := by decide +kernel
theorem d_R_init_37 : decode b_R_init 37 = .ok (.getfield 13, 3) := by decide +kernel
theorem d_R_init_40 : decode b_R_init 40 = .ok (.sipush (515), 3) := by decide +kernel
theorem d_R_init_43 : decode b_R_init 43 = .ok (.sipush (255), 3) := by decide +kernel
theorem d_R_init_46 : decode b_R_init 46 = .ok (.iastore, 1) := by decide +kernel
theorem d_R_init_47 : decode b_R_init 47 = .ok (.aload_n 0, 1) := by decide +kernel
theorem d_R_init_48 : decode b_R_init 48 = .ok (.invokevirtual 22, 3) := by decide +kernel
theorem d_R_init_51 : decode b_R_init 51 = .ok (.return_, 1) := by decide +kernel
theorem zR_row : upd (fun _ => (0 : Int32)) (515 : Int32).toNatClampNeg 255 = zR 2 := by
  rw [show (515 : Int32).toNatClampNeg = 515 from by decide]
  funext k
  rfl
set_option maxHeartbeats 1000000 in
set_option maxRecDepth 20000 in
theorem c_R_init (l : Launch) : CT l y_R_init b_R_init 1 21 4 [.null, .null, .int 0, .int 0, .null, .null, .int 0, .int 0, .int 0, .int 0] 4 1146 kk_shR (km_an0 zR) := by
  refine CT.of (by decide +kernel) rfl ?_
  intro p e R s m args below meth c Q D A ls h0 C hin hsz hl hRc hRs hRf hRl hN hret
  have C : cX p s m args c b_R_init 1 R_R A := C
  refine ct_aload C (j := 0) hl d_R_init_0 ?_
  refine ct_obj C hsz (kk_tm 371 (by decide +kernel) (by decide +kernel)) ow_i ow_c (by omega) (by omega) d_R_init_1 ?_
  refine ct_aload C (j := 0) hl d_R_init_4 ?_
  refine ct_s C (v := 569) (by decide) d_R_init_5 ?_
  refine ct_arr C hin (ty := .int) (tf := .array .int) (N := 569) (T := F_R) (NF := 10) (ci := 4) aw_int rfl rfl (by decide) (by decide) (by decide) (by omega) (by omega) d_R_init_8 rfl kk_uR t_R t_R_ok n_R 0 (by decide) (kk_tm 376 (by decide +kernel) (by decide +kernel)) rfl rfl (by decide +kernel) (fun _ => rfl) (fun _ => rfl) (Nat.le_of_ble_eq_true rfl) d_R_init_10 (fun q0 c0 => ?_)
  refine ct_aload C (j := 0) hl d_R_init_13 ?_
  refine ct_s C (v := 569) (by decide) d_R_init_14 ?_
  refine ct_arr C hin (ty := .int) (tf := .array .int) (N := 569) (T := F_R) (NF := 10) (ci := 4) aw_int rfl rfl (by decide) (by decide) (by decide) (by omega) (by omega) d_R_init_17 rfl kk_uR t_R t_R_ok n_R 1 (by decide) (kk_tm 377 (by decide +kernel) (by decide +kernel)) rfl rfl (by decide +kernel) (fun _ => rfl) (fun _ => rfl) (Nat.le_of_ble_eq_true rfl) d_R_init_19 (fun q1 c1 => ?_)
  refine ct_aload C (j := 0) hl d_R_init_22 ?_
  refine ct_i C (v := 4) (by decide) d_R_init_23 ?_
  refine ct_arr C hin (ty := .int) (tf := .array .int) (N := 4) (T := F_R) (NF := 10) (ci := 4) aw_int rfl rfl (by decide) (by decide) (by decide) (by omega) (by omega) d_R_init_24 rfl kk_uR t_R t_R_ok n_R 4 (by decide) (kk_tm 380 (by decide +kernel) (by decide +kernel)) rfl rfl (by decide +kernel) (fun _ => rfl) (fun _ => rfl) (Nat.le_of_ble_eq_true rfl) d_R_init_26 (fun q2 c2 => ?_)
  refine ct_aload C (j := 0) hl d_R_init_29 ?_
  refine ct_i C (v := 4) (by decide) d_R_init_30 ?_
  refine ct_arr C hin (ty := .int) (tf := .array .int) (N := 4) (T := F_R) (NF := 10) (ci := 4) aw_int rfl rfl (by decide) (by decide) (by decide) (by omega) (by omega) d_R_init_31 rfl kk_uR t_R t_R_ok n_R 5 (by decide) (kk_tm 381 (by decide +kernel) (by decide +kernel)) rfl rfl (by decide +kernel) (fun _ => rfl) (fun _ => rfl) (Nat.le_of_ble_eq_true rfl) d_R_init_33 (fun q3 c3 => ?_)
  refine ct_aload C (j := 0) hl d_R_init_36 ?_
  refine ct_get C (T := F_R) (NF := 10) (ci := 4) 0 rfl rfl kk_uR 1 (by decide) (kk_tm 377 (by decide +kernel) (by decide +kernel)) rfl rfl d_R_init_37 ?_
  refine ct_s C (v := 515) (by decide) d_R_init_40 ?_
  refine ct_s C (v := 255) (by decide) d_R_init_43 ?_
  refine ct_iast C 2 1 rfl rfl (lm_vc (by decide)) zR_row rfl d_R_init_46 ?_
  refine ct_widen (kc2 := 4) (ns2 := 1146) (by omega) (by omega) ?_
  refine ct_as (ws' := lm_W kk_shR (fun i => [h0, q0, q1, q2, q3].getD i 0) (fun i => [0, c0, c1, c2, c3].getD i 0) zR) (tys' := lm_ty kk_shR (fun i => [0, c0, c1, c2, c3].getD i 0)) rfl rfl ?_
  refine ct_aload C (j := 0) hl d_R_init_47 ?_
  refine ct_light (I_R_anew_0 l) kk_okZR C hN hsz (i := 0) (as := []) (S1 := km_an0 zR) rfl rfl yw_R_anew li_R_22 ⟨by omega, by omega⟩ (Nat.le_of_ble_eq_true rfl) ⟨by omega, by omega⟩ ⟨rfl, rfl, rfl⟩ rfl d_R_init_48 ?_
  exact hret 51 _ _ _ _ rfl rfl rfl d_R_init_51
def lm_Wr (ad : Nat → Nat) (cA : Nat → ClassId) (S : lm_S) : Nat → List lm_Sh → va_W
  | _, [] => []
  | i, x :: r => (ad i, lm_E ad cA i x (S i)) :: lm_Wr ad cA S (i + 1) r
theorem lm_Wr_get {ad : Nat → Nat} {cA : Nat → ClassId} {S : lm_S} : ∀ (sh : List lm_Sh) (i j : Nat), (lm_Wr ad cA S i sh)[j]? = (sh[j]?).map (fun x => (ad (i + j), lm_E ad cA (i + j) x (S (i + j))))
  | [], i, j => by simp [lm_Wr]
  | x :: r, i, 0 => by simp [lm_Wr]
  | x :: r, i, j + 1 => by
    simp only [lm_Wr, List.getElem?_cons_succ]
    rw [lm_Wr_get r (i + 1) j, show i + 1 + j = i + (j + 1) by omega]
theorem lm_W_r (sh : List lm_Sh) (ad : Nat → Nat) (cA : Nat → ClassId) (S : lm_S) : lm_W sh ad cA S = lm_Wr ad cA S 0 sh := by
  apply List.ext_getElem?
  intro j
  rw [lm_Wr_get, Nat.zero_add]
  simp only [lm_W, List.getElem?_mapIdx]
set_option maxRecDepth 20000 in
theorem wD_eq (ad : Nat → Nat) (cA : Nat → ClassId) (S : lm_S) : lm_W kk_shD ad cA S = [(ad 0, .inr (0, [.ref (ad 1), .ref (ad 2), .ref (ad 3), .ref (ad 4)])), (ad 1, .inr (1, [.ref (ad 5), .ref (ad 6), .ref (ad 7), .int (S 1 3), .ref (ad 8), .int (S 1 5), .ref (ad 9), .ref (ad 10), .int (S 1 8)])), (ad 2, .inr (2, [.ref (ad 11), .ref (ad 12), .ref (ad 13), .int (S 2 3), .int (S 2 4)])), (ad 3, .inr (3, [.ref (ad 14), .int (S 3 1)])), (ad 4, .inr (3, [.ref (ad 15), .int (S 4 1)])), (ad 5, .inl (cA 5, 512, .inl (S 5))), (ad 6, .inl (cA 6, 9, .inl (S 6))), (ad 7, .inl (cA 7, 40, .inl (S 7))), (ad 8, .inl (cA 8, 308, .inl (S 8))), (ad 9, .inl (cA 9, 2, .inl (S 9))), (ad 10, .inl (cA 10, 2, .inl (S 10))), (ad 11, .inl (cA 11, 2709, .inl (S 11))), (ad 12, .inl (cA 12, 600, .inl (S 12))), (ad 13, .inl (cA 13, 600, .inl (S 13))), (ad 14, .inl (cA 14, 512, .inl (S 14))), (ad 15, .inl (cA 15, 512, .inl (S 15)))] := by
  rw [lm_W_r]
  rfl
theorem tD_eq (cA : Nat → ClassId) : lm_ty kk_shD cA = [(cA 5, .int), (cA 6, .int), (cA 7, .int), (cA 8, .int), (cA 9, .int), (cA 10, .int), (cA 11, .int), (cA 12, .int), (cA 13, .int), (cA 14, .boolean), (cA 15, .boolean)] := by
  rw [lm_ty_r]
  rfl
theorem d_D_init_0 : decode b_D_init 0 = .ok (.aload_n 0, 1) := by decide +kernel
theorem d_D_init_1 : decode b_D_init 1 = .ok (.invokespecial 1, 3) := by decide +kernel
theorem d_D_init_4 : decode b_D_init 4 = .ok (.aload_n 0, 1) := by decide +kernel
theorem d_D_init_5 : decode b_D_init 5 = .ok (.new 7, 3) := by decide +kernel
theorem d_D_init_8 : decode b_D_init 8 = .ok (.dup, 1) := by decide +kernel
theorem d_D_init_9 : decode b_D_init 9 = .ok (.invokespecial 9, 3) := by decide +kernel
theorem d_D_init_12 : decode b_D_init 12 = .ok (.putfield 10, 3) := by decide +kernel
theorem d_D_init_15 : decode b_D_init 15 = .ok (.aload_n 0, 1) := by decide +kernel
theorem d_D_init_16 : decode b_D_init 16 = .ok (.new 16, 3) := by decide +kernel
theorem d_D_init_19 : decode b_D_init 19 = .ok (.dup, 1) := by decide +kernel
theorem d_D_init_20 : decode b_D_init 20 = .ok (.invokespecial 18, 3) := by decide +kernel
theorem d_D_init_23 : decode b_D_init 23 = .ok (.putfield 19, 3) := by decide +kernel
theorem d_D_init_26 : decode b_D_init 26 = .ok (.aload_n 0, 1) := by decide +kernel
theorem d_D_init_27 : decode b_D_init 27 = .ok (.new 23, 3) := by decide +kernel
theorem d_D_init_30 : decode b_D_init 30 = .ok (.dup, 1) := by decide +kernel
theorem d_D_init_31 : decode b_D_init 31 = .ok (.invokespecial 25, 3) := by decide +kernel
theorem d_D_init_34 : decode b_D_init 34 = .ok (.putfield 26, 3) := by decide +kernel
theorem d_D_init_37 : decode b_D_init 37 = .ok (.aload_n 0, 1) := by decide +kernel
theorem d_D_init_38 : decode b_D_init 38 = .ok (.new 23, 3) := by decide +kernel
theorem d_D_init_41 : decode b_D_init 41 = .ok (.dup, 1) := by decide +kernel
theorem d_D_init_42 : decode b_D_init 42 = .ok (.invokespecial 25, 3) := by decide +kernel
theorem d_D_init_45 : decode b_D_init 45 = .ok (.putfield 30, 3) := by decide +kernel
theorem d_D_init_48 : decode b_D_init 48 = .ok (.aload_n 0, 1) := by decide +kernel
theorem d_D_init_49 : decode b_D_init 49 = .ok (.getfield 19, 3) := by decide +kernel
theorem d_D_init_52 : decode b_D_init 52 = .ok (.aload_n 0, 1) := by decide +kernel
theorem d_D_init_53 : decode b_D_init 53 = .ok (.getfield 10, 3) := by decide +kernel
theorem d_D_init_56 : decode b_D_init 56 = .ok (.invokevirtual 33, 3) := by decide +kernel
theorem d_D_init_59 : decode b_D_init 59 = .ok (.return_, 1) := by decide +kernel
theorem li_D_9 : kk_li R_D 9 y_M_init := Or.inl (kk_tm 17 (by decide +kernel) (by decide +kernel))
theorem li_D_18 : kk_li R_D 18 y_H_init := Or.inr ⟨"ReplayDesk", kk_nm 7 (by decide +kernel)⟩
theorem li_D_25 : kk_li R_D 25 y_K_init := Or.inr ⟨"ReplayDesk", kk_nm 10 (by decide +kernel)⟩
set_option maxHeartbeats 1000000 in
set_option maxRecDepth 20000 in
theorem c_D_init (l : Launch) : CT l y_D_init b_D_init 3 68 0 [.null, .null, .null, .null] 15 5824 kk_shD (kd_begin zS) := by
  refine CT.of (by decide +kernel) rfl ?_
  intro p e R s m args below meth c Q D A ls h0 C hin hsz hl hRc hRs hRf hRl hN hret
  have C : cX p s m args c b_D_init 1 R_D A := C
  refine ct_aload C (j := 0) hl d_D_init_0 ?_
  refine ct_obj C hsz (kk_tm 12 (by decide +kernel) (by decide +kernel)) ow_i ow_c (by omega) (by omega) d_D_init_1 ?_
  refine ct_aload C (j := 0) hl d_D_init_4 ?_
  refine ct_new C (Cn := R_M) (T := F_M) (NF := 9) (ci := 1) (fs := [.null, .null, .null, .int 0, .null, .int 0, .null, .null, .int 0]) rfl kk_uM t_M t_M_ok (kk_tm 15 (by decide +kernel) (by decide +kernel)) cn_M ci_M fz_M (by omega) (by omega) d_D_init_5 (fun qm => ?_)
  refine ct_dup C d_D_init_8 ?_
  refine ct_call (c_M_init l) C hN hsz (tl := [(h0, .inr (0, [.null, .null, .null, .null]))]) cw_M ci_M cm_M rfl ⟨by decide, by decide, by decide +kernel⟩ li_D_9 ⟨by omega, by omega⟩ (Nat.le_of_ble_eq_true rfl) ⟨by omega, by omega⟩ [1] [0] rfl rfl rfl rfl (by decide) d_D_init_9 (fun qmm cm em => ?_)
  subst em
  refine ct_widen (kc2 := 7) (ns2 := 882) (by omega) (by omega) ?_
  refine ct_as (ws' := [(h0, .inr (0, [.null, .null, .null, .null])), (qmm 0, .inr (1, [.ref (qmm 1), .ref (qmm 2), .ref (qmm 3), .int 0, .ref (qmm 4), .int 0, .ref (qmm 5), .ref (qmm 6), .int 0])), (qmm 1, .inl (cm 1, 512, .inl (zS 5))), (qmm 2, .inl (cm 2, 9, .inl (zS 6))), (qmm 3, .inl (cm 3, 40, .inl (zS 7))), (qmm 4, .inl (cm 4, 308, .inl (zS 8))), (qmm 5, .inl (cm 5, 2, .inl (zS 9))), (qmm 6, .inl (cm 6, 2, .inl (zS 10)))]) (tys' := [(cm 1, .int), (cm 2, .int), (cm 3, .int), (cm 4, .int), (cm 5, .int), (cm 6, .int)]) rfl rfl ?_
  refine ct_putF C hin (T := F_D) (NF := 4) (ci := 0) (tf := .object "ReplayDesk$Machine") rfl kk_uD t_D t_D_ok n_D 0 (by decide) (kk_tm 106 (by decide +kernel) (by decide +kernel)) rfl rfl (by decide +kernel) rfl rfl (Nat.le_of_ble_eq_true rfl) d_D_init_12 ?_
  refine ct_as (ws' := [(h0, .inr (0, [.ref (qmm 0), .null, .null, .null])), (qmm 0, .inr (1, [.ref (qmm 1), .ref (qmm 2), .ref (qmm 3), .int 0, .ref (qmm 4), .int 0, .ref (qmm 5), .ref (qmm 6), .int 0])), (qmm 1, .inl (cm 1, 512, .inl (zS 5))), (qmm 2, .inl (cm 2, 9, .inl (zS 6))), (qmm 3, .inl (cm 3, 40, .inl (zS 7))), (qmm 4, .inl (cm 4, 308, .inl (zS 8))), (qmm 5, .inl (cm 5, 2, .inl (zS 9))), (qmm 6, .inl (cm 6, 2, .inl (zS 10)))]) rfl rfl ?_
  refine ct_aload C (j := 0) hl d_D_init_15 ?_
  refine ct_new C (Cn := R_H) (T := F_H) (NF := 5) (ci := 2) (fs := [.null, .null, .null, .int 0, .int 0]) rfl kk_uH t_H t_H_ok (kk_tm 57 (by decide +kernel) (by decide +kernel)) cn_H ci_H fz_H (by omega) (by omega) d_D_init_16 (fun qh => ?_)
  refine ct_dup C d_D_init_19 ?_
  refine ct_call (c_H_init l) C hN hsz (tl := [(h0, .inr (0, [.ref (qmm 0), .null, .null, .null])), (qmm 0, .inr (1, [.ref (qmm 1), .ref (qmm 2), .ref (qmm 3), .int 0, .ref (qmm 4), .int 0, .ref (qmm 5), .ref (qmm 6), .int 0])), (qmm 1, .inl (cm 1, 512, .inl (zS 5))), (qmm 2, .inl (cm 2, 9, .inl (zS 6))), (qmm 3, .inl (cm 3, 40, .inl (zS 7))), (qmm 4, .inl (cm 4, 308, .inl (zS 8))), (qmm 5, .inl (cm 5, 2, .inl (zS 9))), (qmm 6, .inl (cm 6, 2, .inl (zS 10)))]) cw_H ci_H cm_H rfl ⟨by decide, by decide, by decide +kernel⟩ li_D_18 ⟨by omega, by omega⟩ (Nat.le_of_ble_eq_true rfl) ⟨by omega, by omega⟩ [8] [0, 1, 2, 3, 4, 5, 6, 7] rfl rfl rfl rfl (by decide) d_D_init_20 (fun qhh ch eh => ?_)
  subst eh
  refine ct_widen (kc2 := 11) (ns2 := 4796) (by omega) (by omega) ?_
  refine ct_as (ws' := [(h0, .inr (0, [.ref (qmm 0), .null, .null, .null])), (qmm 0, .inr (1, [.ref (qmm 1), .ref (qmm 2), .ref (qmm 3), .int 0, .ref (qmm 4), .int 0, .ref (qmm 5), .ref (qmm 6), .int 0])), (qmm 1, .inl (cm 1, 512, .inl (zS 5))), (qmm 2, .inl (cm 2, 9, .inl (zS 6))), (qmm 3, .inl (cm 3, 40, .inl (zS 7))), (qmm 4, .inl (cm 4, 308, .inl (zS 8))), (qmm 5, .inl (cm 5, 2, .inl (zS 9))), (qmm 6, .inl (cm 6, 2, .inl (zS 10))), (qhh 0, .inr (2, [.ref (qhh 1), .ref (qhh 2), .ref (qhh 3), .int 0, .int 0])), (qhh 1, .inl (ch 1, 2709, .inl (zS 11))), (qhh 2, .inl (ch 2, 600, .inl (zS 12))), (qhh 3, .inl (ch 3, 600, .inl (zS 13)))]) (tys' := [(cm 1, .int), (cm 2, .int), (cm 3, .int), (cm 4, .int), (cm 5, .int), (cm 6, .int), (ch 1, .int), (ch 2, .int), (ch 3, .int)]) rfl rfl ?_
  refine ct_putF C hin (T := F_D) (NF := 4) (ci := 0) (tf := .object "ReplayDesk$History") rfl kk_uD t_D t_D_ok n_D 1 (by decide) (kk_tm 107 (by decide +kernel) (by decide +kernel)) rfl rfl (by decide +kernel) rfl rfl (Nat.le_of_ble_eq_true rfl) d_D_init_23 ?_
  refine ct_as (ws' := [(h0, .inr (0, [.ref (qmm 0), .ref (qhh 0), .null, .null])), (qmm 0, .inr (1, [.ref (qmm 1), .ref (qmm 2), .ref (qmm 3), .int 0, .ref (qmm 4), .int 0, .ref (qmm 5), .ref (qmm 6), .int 0])), (qmm 1, .inl (cm 1, 512, .inl (zS 5))), (qmm 2, .inl (cm 2, 9, .inl (zS 6))), (qmm 3, .inl (cm 3, 40, .inl (zS 7))), (qmm 4, .inl (cm 4, 308, .inl (zS 8))), (qmm 5, .inl (cm 5, 2, .inl (zS 9))), (qmm 6, .inl (cm 6, 2, .inl (zS 10))), (qhh 0, .inr (2, [.ref (qhh 1), .ref (qhh 2), .ref (qhh 3), .int 0, .int 0])), (qhh 1, .inl (ch 1, 2709, .inl (zS 11))), (qhh 2, .inl (ch 2, 600, .inl (zS 12))), (qhh 3, .inl (ch 3, 600, .inl (zS 13)))]) rfl rfl ?_
  refine ct_aload C (j := 0) hl d_D_init_26 ?_
  refine ct_new C (Cn := R_K) (T := F_K) (NF := 2) (ci := 3) (fs := [.null, .int 0]) rfl kk_uK t_K t_K_ok (kk_tm 81 (by decide +kernel) (by decide +kernel)) cn_K ci_K fz_K (by omega) (by omega) d_D_init_27 (fun qk => ?_)
  refine ct_dup C d_D_init_30 ?_
  refine ct_call (c_K_init l) C hN hsz (tl := [(h0, .inr (0, [.ref (qmm 0), .ref (qhh 0), .null, .null])), (qmm 0, .inr (1, [.ref (qmm 1), .ref (qmm 2), .ref (qmm 3), .int 0, .ref (qmm 4), .int 0, .ref (qmm 5), .ref (qmm 6), .int 0])), (qmm 1, .inl (cm 1, 512, .inl (zS 5))), (qmm 2, .inl (cm 2, 9, .inl (zS 6))), (qmm 3, .inl (cm 3, 40, .inl (zS 7))), (qmm 4, .inl (cm 4, 308, .inl (zS 8))), (qmm 5, .inl (cm 5, 2, .inl (zS 9))), (qmm 6, .inl (cm 6, 2, .inl (zS 10))), (qhh 0, .inr (2, [.ref (qhh 1), .ref (qhh 2), .ref (qhh 3), .int 0, .int 0])), (qhh 1, .inl (ch 1, 2709, .inl (zS 11))), (qhh 2, .inl (ch 2, 600, .inl (zS 12))), (qhh 3, .inl (ch 3, 600, .inl (zS 13)))]) cw_K ci_K cm_K rfl ⟨by decide, by decide, by decide +kernel⟩ li_D_25 ⟨by omega, by omega⟩ (Nat.le_of_ble_eq_true rfl) ⟨by omega, by omega⟩ [12] [0, 1, 2, 3, 4, 5, 6, 7, 8, 9, 10, 11] rfl rfl rfl rfl (by decide) d_D_init_31 (fun qkk ck ek => ?_)
  subst ek
  refine ct_widen (kc2 := 13) (ns2 := 5310) (by omega) (by omega) ?_
  refine ct_as (ws' := [(h0, .inr (0, [.ref (qmm 0), .ref (qhh 0), .null, .null])), (qmm 0, .inr (1, [.ref (qmm 1), .ref (qmm 2), .ref (qmm 3), .int 0, .ref (qmm 4), .int 0, .ref (qmm 5), .ref (qmm 6), .int 0])), (qmm 1, .inl (cm 1, 512, .inl (zS 5))), (qmm 2, .inl (cm 2, 9, .inl (zS 6))), (qmm 3, .inl (cm 3, 40, .inl (zS 7))), (qmm 4, .inl (cm 4, 308, .inl (zS 8))), (qmm 5, .inl (cm 5, 2, .inl (zS 9))), (qmm 6, .inl (cm 6, 2, .inl (zS 10))), (qhh 0, .inr (2, [.ref (qhh 1), .ref (qhh 2), .ref (qhh 3), .int 0, .int 0])), (qhh 1, .inl (ch 1, 2709, .inl (zS 11))), (qhh 2, .inl (ch 2, 600, .inl (zS 12))), (qhh 3, .inl (ch 3, 600, .inl (zS 13))), (qkk 0, .inr (3, [.ref (qkk 1), .int 0])), (qkk 1, .inl (ck 1, 512, .inl (zS 14)))]) (tys' := [(cm 1, .int), (cm 2, .int), (cm 3, .int), (cm 4, .int), (cm 5, .int), (cm 6, .int), (ch 1, .int), (ch 2, .int), (ch 3, .int), (ck 1, .boolean)]) rfl rfl ?_
  refine ct_putF C hin (T := F_D) (NF := 4) (ci := 0) (tf := .object "ReplayDesk$Marks") rfl kk_uD t_D t_D_ok n_D 2 (by decide) (kk_tm 108 (by decide +kernel) (by decide +kernel)) rfl rfl (by decide +kernel) rfl rfl (Nat.le_of_ble_eq_true rfl) d_D_init_34 ?_
  refine ct_as (ws' := [(h0, .inr (0, [.ref (qmm 0), .ref (qhh 0), .ref (qkk 0), .null])), (qmm 0, .inr (1, [.ref (qmm 1), .ref (qmm 2), .ref (qmm 3), .int 0, .ref (qmm 4), .int 0, .ref (qmm 5), .ref (qmm 6), .int 0])), (qmm 1, .inl (cm 1, 512, .inl (zS 5))), (qmm 2, .inl (cm 2, 9, .inl (zS 6))), (qmm 3, .inl (cm 3, 40, .inl (zS 7))), (qmm 4, .inl (cm 4, 308, .inl (zS 8))), (qmm 5, .inl (cm 5, 2, .inl (zS 9))), (qmm 6, .inl (cm 6, 2, .inl (zS 10))), (qhh 0, .inr (2, [.ref (qhh 1), .ref (qhh 2), .ref (qhh 3), .int 0, .int 0])), (qhh 1, .inl (ch 1, 2709, .inl (zS 11))), (qhh 2, .inl (ch 2, 600, .inl (zS 12))), (qhh 3, .inl (ch 3, 600, .inl (zS 13))), (qkk 0, .inr (3, [.ref (qkk 1), .int 0])), (qkk 1, .inl (ck 1, 512, .inl (zS 14)))]) rfl rfl ?_
  refine ct_aload C (j := 0) hl d_D_init_37 ?_
  refine ct_new C (Cn := R_K) (T := F_K) (NF := 2) (ci := 3) (fs := [.null, .int 0]) rfl kk_uK t_K t_K_ok (kk_tm 81 (by decide +kernel) (by decide +kernel)) cn_K ci_K fz_K (by omega) (by omega) d_D_init_38 (fun qj => ?_)
  refine ct_dup C d_D_init_41 ?_
  refine ct_call (c_K_init l) C hN hsz (tl := [(h0, .inr (0, [.ref (qmm 0), .ref (qhh 0), .ref (qkk 0), .null])), (qmm 0, .inr (1, [.ref (qmm 1), .ref (qmm 2), .ref (qmm 3), .int 0, .ref (qmm 4), .int 0, .ref (qmm 5), .ref (qmm 6), .int 0])), (qmm 1, .inl (cm 1, 512, .inl (zS 5))), (qmm 2, .inl (cm 2, 9, .inl (zS 6))), (qmm 3, .inl (cm 3, 40, .inl (zS 7))), (qmm 4, .inl (cm 4, 308, .inl (zS 8))), (qmm 5, .inl (cm 5, 2, .inl (zS 9))), (qmm 6, .inl (cm 6, 2, .inl (zS 10))), (qhh 0, .inr (2, [.ref (qhh 1), .ref (qhh 2), .ref (qhh 3), .int 0, .int 0])), (qhh 1, .inl (ch 1, 2709, .inl (zS 11))), (qhh 2, .inl (ch 2, 600, .inl (zS 12))), (qhh 3, .inl (ch 3, 600, .inl (zS 13))), (qkk 0, .inr (3, [.ref (qkk 1), .int 0])), (qkk 1, .inl (ck 1, 512, .inl (zS 14)))]) cw_K ci_K cm_K rfl ⟨by decide, by decide, by decide +kernel⟩ li_D_25 ⟨by omega, by omega⟩ (Nat.le_of_ble_eq_true rfl) ⟨by omega, by omega⟩ [14] [0, 1, 2, 3, 4, 5, 6, 7, 8, 9, 10, 11, 12, 13] rfl rfl rfl rfl (by decide) d_D_init_42 (fun qjj cj ej => ?_)
  subst ej
  refine ct_widen (kc2 := 15) (ns2 := 5824) (by omega) (by omega) ?_
  refine ct_as (ws' := [(h0, .inr (0, [.ref (qmm 0), .ref (qhh 0), .ref (qkk 0), .null])), (qmm 0, .inr (1, [.ref (qmm 1), .ref (qmm 2), .ref (qmm 3), .int 0, .ref (qmm 4), .int 0, .ref (qmm 5), .ref (qmm 6), .int 0])), (qmm 1, .inl (cm 1, 512, .inl (zS 5))), (qmm 2, .inl (cm 2, 9, .inl (zS 6))), (qmm 3, .inl (cm 3, 40, .inl (zS 7))), (qmm 4, .inl (cm 4, 308, .inl (zS 8))), (qmm 5, .inl (cm 5, 2, .inl (zS 9))), (qmm 6, .inl (cm 6, 2, .inl (zS 10))), (qhh 0, .inr (2, [.ref (qhh 1), .ref (qhh 2), .ref (qhh 3), .int 0, .int 0])), (qhh 1, .inl (ch 1, 2709, .inl (zS 11))), (qhh 2, .inl (ch 2, 600, .inl (zS 12))), (qhh 3, .inl (ch 3, 600, .inl (zS 13))), (qkk 0, .inr (3, [.ref (qkk 1), .int 0])), (qkk 1, .inl (ck 1, 512, .inl (zS 14))), (qjj 0, .inr (3, [.ref (qjj 1), .int 0])), (qjj 1, .inl (cj 1, 512, .inl (zS 15)))]) (tys' := [(cm 1, .int), (cm 2, .int), (cm 3, .int), (cm 4, .int), (cm 5, .int), (cm 6, .int), (ch 1, .int), (ch 2, .int), (ch 3, .int), (ck 1, .boolean), (cj 1, .boolean)]) rfl rfl ?_
  refine ct_putF C hin (T := F_D) (NF := 4) (ci := 0) (tf := .object "ReplayDesk$Marks") rfl kk_uD t_D t_D_ok n_D 3 (by decide) (kk_tm 109 (by decide +kernel) (by decide +kernel)) rfl rfl (by decide +kernel) rfl rfl (Nat.le_of_ble_eq_true rfl) d_D_init_45 ?_
  refine ct_as (ws' := [(h0, .inr (0, [.ref (qmm 0), .ref (qhh 0), .ref (qkk 0), .ref (qjj 0)])), (qmm 0, .inr (1, [.ref (qmm 1), .ref (qmm 2), .ref (qmm 3), .int 0, .ref (qmm 4), .int 0, .ref (qmm 5), .ref (qmm 6), .int 0])), (qmm 1, .inl (cm 1, 512, .inl (zS 5))), (qmm 2, .inl (cm 2, 9, .inl (zS 6))), (qmm 3, .inl (cm 3, 40, .inl (zS 7))), (qmm 4, .inl (cm 4, 308, .inl (zS 8))), (qmm 5, .inl (cm 5, 2, .inl (zS 9))), (qmm 6, .inl (cm 6, 2, .inl (zS 10))), (qhh 0, .inr (2, [.ref (qhh 1), .ref (qhh 2), .ref (qhh 3), .int 0, .int 0])), (qhh 1, .inl (ch 1, 2709, .inl (zS 11))), (qhh 2, .inl (ch 2, 600, .inl (zS 12))), (qhh 3, .inl (ch 3, 600, .inl (zS 13))), (qkk 0, .inr (3, [.ref (qkk 1), .int 0])), (qkk 1, .inl (ck 1, 512, .inl (zS 14))), (qjj 0, .inr (3, [.ref (qjj 1), .int 0])), (qjj 1, .inl (cj 1, 512, .inl (zS 15)))]) rfl rfl ?_
  refine ct_aload C (j := 0) hl d_D_init_48 ?_
  refine ct_get C (T := F_D) (NF := 4) (ci := 0) 0 rfl rfl kk_uD 1 (by decide) (kk_tm 107 (by decide +kernel) (by decide +kernel)) rfl rfl d_D_init_49 ?_
  refine ct_aload C (j := 0) hl d_D_init_52 ?_
  refine ct_get C (T := F_D) (NF := 4) (ci := 0) 0 rfl rfl kk_uD 0 (by decide) (kk_tm 106 (by decide +kernel) (by decide +kernel)) rfl rfl d_D_init_53 ?_
  refine ct_perm (ws' := lm_W kk_shD (fun i => [h0, qmm 0, qhh 0, qkk 0, qjj 0, qmm 1, qmm 2, qmm 3, qmm 4, qmm 5, qmm 6, qhh 1, qhh 2, qhh 3, qkk 1, qjj 1].getD i 0) (fun i => [0, 0, 0, 0, 0, cm 1, cm 2, cm 3, cm 4, cm 5, cm 6, ch 1, ch 2, ch 3, ck 1, cj 1].getD i 0) zS) (tys' := lm_ty kk_shD (fun i => [0, 0, 0, 0, 0, cm 1, cm 2, cm 3, cm 4, cm 5, cm 6, ch 1, ch 2, ch 3, ck 1, cj 1].getD i 0)) [0, 1, 8, 12, 14, 2, 3, 4, 5, 6, 7, 9, 10, 11, 13, 15] [0, 1, 2, 3, 4, 5, 6, 7, 8, 9, 10] (by rw [wD_eq]; rfl) rfl (by rw [tD_eq]; rfl) ?_
  refine ct_light (I_H_begin_0 l) kk_okZD C hN hsz (i := 2) (as := [.ref 1]) (S1 := kd_begin zS) rfl rfl yw_H_begin li_D_33 ⟨by omega, by omega⟩ (Nat.le_of_ble_eq_true rfl) ⟨by omega, by omega⟩ ⟨rfl, rfl, rfl⟩ rfl d_D_init_56 ?_
  exact hret 59 _ _ _ _ rfl rfl rfl d_D_init_59
end
section
/-! the law from its entry: two constructors, then the loop: written by wip/whole/gen47.py -/
theorem d_L_0 : decode code 0 = .ok (.new 7, 3) := by decide +kernel
theorem d_L_3 : decode code 3 = .ok (.dup, 1) := by decide +kernel
theorem d_L_4 : decode code 4 = .ok (.invokespecial 9, 3) := by decide +kernel
theorem d_L_7 : decode code 7 = .ok (.astore_n 1, 1) := by decide +kernel
theorem d_L_8 : decode code 8 = .ok (.new 10, 3) := by decide +kernel
theorem d_L_11 : decode code 11 = .ok (.dup, 1) := by decide +kernel
theorem d_L_12 : decode code 12 = .ok (.invokespecial 12, 3) := by decide +kernel
theorem d_L_15 : decode code 15 = .ok (.astore_n 2, 1) := by decide +kernel
theorem li_L_9 : kk_li R_L 9 y_D_init := Or.inl (kk_tm 9 (by decide +kernel) (by decide +kernel))
theorem li_L_12 : kk_li R_L 12 y_R_init := Or.inl (kk_tm 368 (by decide +kernel) (by decide +kernel))
theorem lk_L_7 : Cond.classLink R_L 7 R_D ∈ kk_ws := (kk_tm 7 (by decide +kernel) (by decide +kernel))
theorem lk_L_10 : Cond.classLink R_L 10 R_R ∈ kk_ws := (kk_tm 366 (by decide +kernel) (by decide +kernel))
theorem wR_eq (ad : Nat → Nat) (cA : Nat → ClassId) (S : lm_S) : lm_W kk_shR ad cA S = [(ad 0, .inr (4, [.ref (ad 1), .ref (ad 2), .int (S 0 2), .int (S 0 3), .ref (ad 3), .ref (ad 4), .int (S 0 6), .int (S 0 7), .int (S 0 8), .int (S 0 9)])), (ad 1, .inl (cA 1, 569, .inl (S 1))), (ad 2, .inl (cA 2, 569, .inl (S 2))), (ad 3, .inl (cA 3, 4, .inl (S 3))), (ad 4, .inl (cA 4, 4, .inl (S 4)))] := by
  rw [lm_W_r]
  rfl
set_option maxRecDepth 20000 in
theorem wF_eq (ad : Nat → Nat) (cA : Nat → ClassId) (S : lm_S) : lm_W kk_shF ad cA S = [(ad 0, .inr (0, [.ref (ad 1), .ref (ad 2), .ref (ad 3), .ref (ad 4)])), (ad 1, .inr (1, [.ref (ad 5), .ref (ad 6), .ref (ad 7), .int (S 1 3), .ref (ad 8), .int (S 1 5), .ref (ad 9), .ref (ad 10), .int (S 1 8)])), (ad 2, .inr (2, [.ref (ad 11), .ref (ad 12), .ref (ad 13), .int (S 2 3), .int (S 2 4)])), (ad 3, .inr (3, [.ref (ad 14), .int (S 3 1)])), (ad 4, .inr (3, [.ref (ad 15), .int (S 4 1)])), (ad 5, .inl (cA 5, 512, .inl (S 5))), (ad 6, .inl (cA 6, 9, .inl (S 6))), (ad 7, .inl (cA 7, 40, .inl (S 7))), (ad 8, .inl (cA 8, 308, .inl (S 8))), (ad 9, .inl (cA 9, 2, .inl (S 9))), (ad 10, .inl (cA 10, 2, .inl (S 10))), (ad 11, .inl (cA 11, 2709, .inl (S 11))), (ad 12, .inl (cA 12, 600, .inl (S 12))), (ad 13, .inl (cA 13, 600, .inl (S 13))), (ad 14, .inl (cA 14, 512, .inl (S 14))), (ad 15, .inl (cA 15, 512, .inl (S 15))), (ad 16, .inr (4, [.ref (ad 17), .ref (ad 18), .int (S 16 2), .int (S 16 3), .ref (ad 19), .ref (ad 20), .int (S 16 6), .int (S 16 7), .int (S 16 8), .int (S 16 9)])), (ad 17, .inl (cA 17, 569, .inl (S 17))), (ad 18, .inl (cA 18, 569, .inl (S 18))), (ad 19, .inl (cA 19, 4, .inl (S 19))), (ad 20, .inl (cA 20, 4, .inl (S 20)))] := by
  rw [lm_W_r]
  rfl
theorem tR_eq (cA : Nat → ClassId) : lm_ty kk_shR cA = [(cA 1, .int), (cA 2, .int), (cA 3, .int), (cA 4, .int)] := by
  rw [lm_ty_r]
  rfl
theorem tF_eq (cA : Nat → ClassId) : lm_ty kk_shF cA = [(cA 5, .int), (cA 6, .int), (cA 7, .int), (cA 8, .int), (cA 9, .int), (cA 10, .int), (cA 11, .int), (cA 12, .int), (cA 13, .int), (cA 14, .boolean), (cA 15, .boolean), (cA 17, .int), (cA 18, .int), (cA 19, .int), (cA 20, .int)] := by
  rw [lm_ty_r]
  rfl
def lw_ad (q1 q2 : Nat → Nat) (b : Nat) (tb : Nat → Nat) : Nat → Nat := fun i => [q1 0, q1 1, q1 2, q1 3, q1 4, q1 5, q1 6, q1 7, q1 8, q1 9, q1 10, q1 11, q1 12, q1 13, q1 14, q1 15, q2 0, q2 1, q2 2, q2 3, q2 4].getD i (if i = 999 then b else tb (i - 1000))
def lw_cA (c1 c2 : Nat → ClassId) : Nat → ClassId := fun i => [c1 0, c1 1, c1 2, c1 3, c1 4, c1 5, c1 6, c1 7, c1 8, c1 9, c1 10, c1 11, c1 12, c1 13, c1 14, c1 15, c2 0, c2 1, c2 2, c2 3, c2 4].getD i 0
def lw_S (S1 S2 : lm_S) : lm_S := fun i => [S1 0, S1 1, S1 2, S1 3, S1 4, S1 5, S1 6, S1 7, S1 8, S1 9, S1 10, S1 11, S1 12, S1 13, S1 14, S1 15, S2 0, S2 1, S2 2, S2 3, S2 4].getD i (S2 0)
set_option maxRecDepth 20000 in
theorem lw_world (q1 q2 : Nat → Nat) (b : Nat) (tb : Nat → Nat) (c1 c2 : Nat → ClassId) (S1 S2 : lm_S) : lm_W kk_shD q1 c1 S1 ++ lm_W kk_shR q2 c2 S2 = lm_W kk_shF (lw_ad q1 q2 b tb) (lw_cA c1 c2) (lw_S S1 S2) := by
  rw [wD_eq, wR_eq, wF_eq]
  rfl
theorem lw_tys (c1 c2 : Nat → ClassId) : lm_ty kk_shD c1 ++ lm_ty kk_shR c2 = lm_ty kk_shF (lw_cA c1 c2) := by
  rw [tD_eq, tR_eq, tF_eq]
  rfl
theorem lw_S_lo (S1 S2 : lm_S) : ∀ i, i < 16 → lw_S S1 S2 i = S1 i := by
  intro i hi
  rcases i with _ | _ | _ | _ | _ | _ | _ | _ | _ | _ | _ | _ | _ | _ | _ | _ | i <;> first | rfl | omega
theorem lw_same : ∀ i, i < 21 → km_an (kd_begin zS) i = lw_S (kd_begin zS) (km_an0 zR) i := by
  intro i hi
  have e : ∀ j, 14 ≤ j → kd_begin zS j = zS j := fun j hj => do_begin zS j (Or.inr (Or.inr hj))
  by_cases h : i < 16
  · rw [(mo_an (kd_begin zS)).1 i (Or.inl h)]
    rw [lw_S_lo _ _ i h]
  · have h2 : i = 16 ∨ i = 17 ∨ i = 18 ∨ i = 19 ∨ i = 20 := by omega
    have e16 : zS 16 = zR 0 := rfl
    have e18 : zS 18 = zR 2 := rfl
    have e19 : zS 19 = zR 3 := rfl
    have e20 : zS 20 = zR 4 := rfl
    rcases h2 with rfl | rfl | rfl | rfl | rfl
    · show _ = km_an0 zR 0
      simp [km_an, km_an0, lm_set, va_up, e, e16]
    · show _ = km_an0 zR 1
      simp [km_an, km_an0, lm_set, va_up, e, e18]
    · show _ = km_an0 zR 2
      simp [km_an, km_an0, lm_set, va_up, e, e18]
    · show _ = km_an0 zR 3
      simp [km_an, km_an0, lm_set, va_up, e, e19]
    · show _ = km_an0 zR 4
      simp [km_an, km_an0, lm_set, va_up, e, e20]
theorem lw_eqS : lm_eq YF (km_an (kd_begin zS)) (lw_S (kd_begin zS) (km_an0 zR)) := by
  refine ⟨fun i ty n h k _ => ?_, fun i ci gl h k _ => ?_⟩
  · have h1 : i < kk_shF.length := (List.getElem?_eq_some_iff.mp h).1
    rw [lw_same i h1]
  · have h1 : i < kk_shF.length := (List.getElem?_eq_some_iff.mp h).1
    rw [lw_same i h1]
theorem lw_go {L : Nat} {xs : Nat → Int32} (hL : L ≤ 1536) : lm_Go YF (g_L L xs) ca_L po_L 16 [(0, .ref 999), (1, .ref 0), (2, .ref 16)] [] (lw_S (kd_begin zS) (km_an0 zR)) := by
  refine lm_to 18 5 ?_
  exact (lw_loop hL L 0 _ (by omega) (by omega) IV_0).to (kk_cons rfl (kk_cons rfl (kk_cons rfl (kk_cons rfl kk_nil)))) lw_eqS
theorem lw_ad_tb (q1 q2 : Nat → Nat) (b : Nat) (tb : Nat → Nat) (j : Nat) : lw_ad q1 q2 b tb (1000 + j) = tb (1000 + j - 1000) := by
  unfold lw_ad
  rw [List.getD_eq_getElem?_getD, List.getElem?_eq_none (by simp only [List.length_cons, List.length_nil]; omega), Option.getD_none, if_neg (by omega)]
set_option maxHeartbeats 1000000 in
/-- the light walk from a world of new cells alone -/
theorem lw_end {p : Program} {l : Launch} {e : Env} {R : Room} {s : State} {m : MethodId} {args : Array Value} {below : List Frame} {meth : Method} {c : Code} {Q : State → Prop} {D : va_G} {ls : Array Slot} {L nL nc ns pc0 : Nat} {xs : Nat → Int32} {cc : ByteArray} {own : String} {sh : List lm_Sh} {ad : Nat → Nat} {cA : Nat → ClassId} {S : lm_S} {G : lm_G} {cal : lm_Ca} {L0 : lm_L} {post : Option Value → lm_S → Prop} (hY : lm_Yok (kk_Y sh)) (C : cX p s m args c cc nL own (fun q => s.heap.size ≤ q)) (hN : ∀ w ∈ kk_nw, va_Nw w s) (hK : va_K D kk_cl (lm_ty sh cA) s) (hD : va_D (fun q => s.heap.size ≤ q) (lm_W sh ad cA S)) (hZ : lm_Z kk_tb ad (fun q => s.heap.size ≤ q) s s.heap) (hX : va_X (ad 999) L xs s s.heap) (hb : ad 999 < s.heap.size) (hcs : nc ≤ R.cells ∧ ns ≤ R.slots)
    (hcode : ∀ pc r, G.1.lookup pc = some r → lm_ck cc nL pc r = true) (hfok : lm_fok (kk_Y sh) own G.2.1) (hsok : lm_sok (kk_Y sh) own G.2.2.1) (hpok : lm_pok (kk_Y sh) own R.frames R.locals G.2.2.2.1) (hcok : lm_cok l (kk_Y sh) own R.frames R.locals cal) (hG1 : G.2.2.2.2.1 = 2) (hG2 : G.2.2.2.2.2 = some (L, xs)) (hpost : ∀ x S1, post (some (.int x)) S1 → x = 1) (hgo : lm_Go (kk_Y sh) G cal post pc0 L0 [] S) {H : Heap} {locs : List Loc} (hP : va_P D kk_cl (lm_W sh ad cA S) H) (hS : va_S (fun q => s.heap.size ≤ q) s.heap H locs) (hl : lv_has ls nL (L0.map (fun q => (q.1, lm_t ad q.2))))
    (hret : ∀ (pc : Nat) (H : Heap) (ls : Array Slot), decode cc pc = .ok (.ireturn, 1) → W p l e R s m args below meth c H [] nc ns Q (F0 m pc ls [.int 1])) : W p l e R s m args below meth c H locs nc ns Q (F0 m pc0 ls []) := by
  have hok : lm_ok (kk_Y sh) (D, lm_ty sh cA, ad, cA) := lm_ok_of (Y := kk_Y sh) hD
  have hA : ∀ q, lm_A sh.length ad s.heap.size q → s.heap.size ≤ q := by
    intro q hq
    rcases hq with ⟨j, hj, rfl⟩ | hq
    · obtain ⟨e1, g1⟩ := lm_at_W ad cA S hj
      exact hD.2 j _ g1
    · exact hq
  have hZ2 : lm_Z kk_tb ad (lm_A sh.length ad s.heap.size) s s.heap := fun j C1 n vs hj => ⟨(hZ j C1 n vs hj).1.narrow hA, (hZ j C1 n vs hj).2.narrow hA⟩
  have hCx : lm_Cx p s m args c (kk_Y sh) (D, lm_ty sh cA, ad, cA) nL cc own := ⟨C.1, C.2.1, C.2.2.1, C.2.2.2.1, C.2.2.2.2.1, hK, hN, hZ2, hok⟩
  have hcl := lm_closed (nc := nc) (ns := ns) (l := l) (e := e) (R := R) (below := below) (meth := meth) (Q := Q) (G := G) (cal := cal) (post := post) hcs hY hCx hcode hfok hsok hpok hcok
    (fun n xs2 h => by
      rw [hG2] at h
      cases h
      exact ⟨hX, hb, fun h9 => absurd (hA _ h9) (Nat.not_le.mpr hb)⟩)
    (fun pc L1 x S1 hd _ h2 H1 locs1 ls1 hP1 hS1 _ => by
      have e1 := hpost x S1 h2
      subst e1
      exact va_forget (fun q hq => hA _ (hS1.2.2 q hq)) (hret pc H1 ls1 hd))
    (fun pc L1 S1 hd h2 _ => by rw [hG1] at h2; cases h2)
  exact hgo _ hcl H locs ls hP ⟨hS.1, fun q g1 g2 => hS.2.1 q g1 (fun z => g2 (Or.inr z)), fun q hq => Or.inr (hS.2.2 q hq)⟩ hl
set_option maxHeartbeats 2000000 in
set_option maxRecDepth 20000 in
theorem lw_law {p : Program} {l : Launch} {e : Env} {R : Room} {s : State} {m : MethodId} {args : Array Value} {below : List Frame} {meth : Method} {c : Code} {Q : State → Prop} {D : va_G} {ls : Array Slot} {b L : Nat} {xs : Nat → Int32} (tb : Nat → Nat) (hL : L ≤ 1536) (C : cX p s m args c code 4 R_L (fun q => s.heap.size ≤ q)) (hN : ∀ w ∈ kk_nw, va_Nw w s) (hK : va_K D kk_cl [] s) (hZ : lm_Z kk_tb (fun i => tb (i - 1000)) (fun q => s.heap.size ≤ q) s s.heap) (hX : va_X b L xs s s.heap) (hb : b < s.heap.size) (hRc : R.cells = 21) (hRs : R.slots = 6984) (hRf : R.frames = 9) (hRl : R.locals = 326) (hl : lv_has ls 4 [(0, .ref b)])
    (hret : ∀ (pc : Nat) (H : Heap) (ls : Array Slot), decode code pc = .ok (.ireturn, 1) → W p l e R s m args below meth c H [] 21 6984 Q (F0 m pc ls [.int 1])) : W p l e R s m args below meth c s.heap [] 0 0 Q (F0 m 0 ls []) := by
  have h1 : cW p l e R s m args below meth c Q D (fun q => s.heap.size ≤ q) ls 0 [] [] [] 0 0 := by
    refine ct_new C (Cn := R_D) (T := F_D) (NF := 4) (ci := 0) (fs := [.null, .null, .null, .null]) rfl kk_uD t_D t_D_ok lk_L_7 cn_D ci_D fz_D (by omega) (by omega) d_L_0 (fun qd => ?_)
    refine ct_dup C d_L_3 ?_
    refine ct_call (c_D_init l) C hN hl.1 (tl := []) cw_D ci_D cm_D rfl ⟨by decide, by decide, by decide +kernel⟩ li_L_9 ⟨by omega, by omega⟩ (Nat.le_of_ble_eq_true rfl) ⟨by omega, by omega⟩ [0] [] rfl rfl rfl rfl (by decide) d_L_4 (fun q1 c1 e1 => ?_)
    subst e1
    refine ct_astore C (j := 1) hl (L1 := [(1, .ref (q1 0)), (0, .ref b)]) (by decide) rfl d_L_7 (fun ls hl => ?_)
    refine ct_widen (kc2 := 16) (ns2 := 5828) (by omega) (by omega) ?_
    refine ct_as (ws' := lm_W kk_shD q1 c1 (kd_begin zS)) (tys' := lm_ty kk_shD c1) (List.nil_append _) (List.nil_append _) ?_
    refine ct_new C (Cn := R_R) (T := F_R) (NF := 10) (ci := 4) (fs := [.null, .null, .int 0, .int 0, .null, .null, .int 0, .int 0, .int 0, .int 0]) rfl kk_uR t_R t_R_ok lk_L_10 cn_R ci_R fz_R (by omega) (by omega) d_L_8 (fun qr => ?_)
    refine ct_dup C d_L_11 ?_
    refine ct_call (c_R_init l) C hN hl.1 (tl := lm_W kk_shD q1 c1 (kd_begin zS)) cw_R ci_R cm_R rfl ⟨by decide, by decide, by decide +kernel⟩ li_L_12 ⟨by omega, by omega⟩ (Nat.le_of_ble_eq_true rfl) ⟨by omega, by omega⟩ [16] (List.range 16) (ct_iC _ _ 16 (lm_len_W _ _ _ _)) (ct_iR _ _ 16 (lm_len_W _ _ _ _)) rfl rfl (by decide) d_L_12 (fun q2 c2 e2 => ?_)
    subst e2
    refine ct_astore C (j := 2) hl (L1 := [(2, .ref (q2 0)), (1, .ref (q1 0)), (0, .ref b)]) (by decide) rfl d_L_15 (fun ls hl => ?_)
    refine ct_widen (kc2 := 21) (ns2 := 6984) (by omega) (by omega) ?_
    refine ct_as (lw_world q1 q2 b tb c1 c2 _ _) (lw_tys c1 c2) ?_
    intro H locs hP hD hK1 hS
    have hZ2 : lm_Z kk_tb (lw_ad q1 q2 b tb) (fun q => s.heap.size ≤ q) s s.heap := by
      intro j C1 n vs hj
      rw [lw_ad_tb]
      exact hZ j C1 n vs hj
    refine lw_end (G := g_L L xs) (L0 := [(0, .ref 999), (1, .ref 0), (2, .ref 16)]) (post := po_L) kk_okF C hN hK1 hD hZ2 hX hb ⟨by omega, by omega⟩ ck_L (fun idx ci k h => by cases h) (fun idx j h => by cases h) (Or.inl rfl) (by rw [hRf, hRl]; exact cok_L l) rfl rfl (fun x S1 h => by cases h; rfl) (lw_go hL) hP hS ⟨hl.1, hl.2.1, ?_⟩ hret
    exact kk_cons (hl.2.2 _ (List.mem_of_getElem? (i := 2) rfl)) (kk_cons (hl.2.2 _ (List.mem_of_getElem? (i := 1) rfl)) (kk_cons (hl.2.2 _ (List.mem_of_getElem? (i := 0) rfl)) kk_nil))
  exact h1 s.heap [] (fun k q h => by simp at h) ⟨fun i j p q h => by simp at h, fun k q h => by simp at h⟩ hK va_S.rf
end
section
/-! the static tables and the classes at the law's entry: written by wip/whole/gen48.py -/
theorem lw_tab {args : Array Value} {s : State} {A : Nat → Prop} (C n : String) (vs : List Int32) (hlen : vs.length < 2 ^ 31) (hw1 : (Cond.laysStatic C n "[I").before args s = true) (hini : (Cond.initialized C).before args s = true) (harr : (Cond.arrayOf (.static C n "[I") .int).before args s = true) (hl : (Cond.eq (.length (.static C n "[I")) (.int (Int32.ofNat vs.length))).before args s = true) (hel : ∀ j, j < vs.length → (Cond.eq (.elem (.static C n "[I") (.int (Int32.ofNat j))) (.int (vs.getD j 0))).before args s = true) (hA : ∀ a : Nat, a < s.heap.size → ¬ A a) : ∃ t : Nat, va_Z C n "[I" (.ref t) A s s.heap ∧ va_T .int t vs.length (fun k => .int (vs.getD k 0)) A s s.heap := by
  obtain ⟨t, h1, h2⟩ := va_Tof hlen harr (va_eqt hl) (fun j hj => va_eqt (hel j hj)) hA
  exact ⟨t, va_Zof hw1 hini h1 hA, h2⟩
set_option maxRecDepth 20000 in
theorem lw_m0 : ∀ j, j < 6 → Cond.eq (.elem (.static "ReplayDesk" "REGISTER_BITS" "[I") (.int (Int32.ofNat j))) (.int (([255, 255, 255, 255, 195, 511] : List Int32).getD j 0)) ∈ flatC (Jvm.Cond.and given_1 narrow_1) := by decide +kernel
theorem lw_t0 {args : Array Value} {s : State} {A : Nat → Prop} (hts : ∀ w ∈ lw_tbl, w.before args s = true) (hg : (Jvm.Cond.and given_1 narrow_1).before args s = true) (hA : ∀ a : Nat, a < s.heap.size → ¬ A a) : ∃ t : Nat, va_Z "ReplayDesk" "REGISTER_BITS" "[I" (.ref t) A s s.heap ∧ va_T .int t ([255, 255, 255, 255, 195, 511] : List Int32).length (fun k => .int (([255, 255, 255, 255, 195, 511] : List Int32).getD k 0)) A s s.heap :=
  lw_tab "ReplayDesk" "REGISTER_BITS" [255, 255, 255, 255, 195, 511] (by decide) (hts _ (List.mem_append_right _ (List.mem_of_getElem? (i := 142) (by decide +kernel)))) (hts _ (List.mem_append_right _ (List.mem_of_getElem? (i := 1) (by decide +kernel)))) (flat_of_before _ hg _ (by decide +kernel)) (flat_of_before _ hg _ (by decide +kernel)) (fun j hj => flat_of_before _ hg _ (lw_m0 j hj)) hA
set_option maxRecDepth 20000 in
theorem lw_m1 : ∀ j, j < 8 → Cond.eq (.elem (.static "ReplayDesk" "LENGTH_BY_MODE" "[I") (.int (Int32.ofNat j))) (.int (([2, 2, 2, 3, 3, 3, 2, 1] : List Int32).getD j 0)) ∈ flatC (Jvm.Cond.and given_1 narrow_1) := by decide +kernel
theorem lw_t1 {args : Array Value} {s : State} {A : Nat → Prop} (hts : ∀ w ∈ lw_tbl, w.before args s = true) (hg : (Jvm.Cond.and given_1 narrow_1).before args s = true) (hA : ∀ a : Nat, a < s.heap.size → ¬ A a) : ∃ t : Nat, va_Z "ReplayDesk" "LENGTH_BY_MODE" "[I" (.ref t) A s s.heap ∧ va_T .int t ([2, 2, 2, 3, 3, 3, 2, 1] : List Int32).length (fun k => .int (([2, 2, 2, 3, 3, 3, 2, 1] : List Int32).getD k 0)) A s s.heap :=
  lw_tab "ReplayDesk" "LENGTH_BY_MODE" [2, 2, 2, 3, 3, 3, 2, 1] (by decide) (hts _ (List.mem_append_right _ (List.mem_of_getElem? (i := 202) (by decide +kernel)))) (hts _ (List.mem_append_right _ (List.mem_of_getElem? (i := 1) (by decide +kernel)))) (flat_of_before _ hg _ (by decide +kernel)) (flat_of_before _ hg _ (by decide +kernel)) (fun j hj => flat_of_before _ hg _ (lw_m1 j hj)) hA
set_option maxRecDepth 20000 in
theorem lw_m2 : ∀ j, j < 4 → Cond.eq (.elem (.static "ReplayDesk" "BRANCH_FLAGS" "[I") (.int (Int32.ofNat j))) (.int (([128, 64, 1, 2] : List Int32).getD j 0)) ∈ flatC (Jvm.Cond.and given_1 narrow_1) := by decide +kernel
theorem lw_t2 {args : Array Value} {s : State} {A : Nat → Prop} (hts : ∀ w ∈ lw_tbl, w.before args s = true) (hg : (Jvm.Cond.and given_1 narrow_1).before args s = true) (hA : ∀ a : Nat, a < s.heap.size → ¬ A a) : ∃ t : Nat, va_Z "ReplayDesk" "BRANCH_FLAGS" "[I" (.ref t) A s s.heap ∧ va_T .int t ([128, 64, 1, 2] : List Int32).length (fun k => .int (([128, 64, 1, 2] : List Int32).getD k 0)) A s s.heap :=
  lw_tab "ReplayDesk" "BRANCH_FLAGS" [128, 64, 1, 2] (by decide) (hts _ (List.mem_append_right _ (List.mem_of_getElem? (i := 288) (by decide +kernel)))) (hts _ (List.mem_append_right _ (List.mem_of_getElem? (i := 1) (by decide +kernel)))) (flat_of_before _ hg _ (by decide +kernel)) (flat_of_before _ hg _ (by decide +kernel)) (fun j hj => flat_of_before _ hg _ (lw_m2 j hj)) hA
theorem lw_tables {args : Array Value} {s : State} {A : Nat → Prop} (hts : ∀ w ∈ lw_tbl, w.before args s = true) (hg : (Jvm.Cond.and given_1 narrow_1).before args s = true) (hA : ∀ a : Nat, a < s.heap.size → ¬ A a) : ∃ tb : Nat → Nat, lm_Z kk_tb (fun i => tb (i - 1000)) A s s.heap := by
  obtain ⟨t0, z0, a0⟩ := lw_t0 (A := A) hts hg hA
  obtain ⟨t1, z1, a1⟩ := lw_t1 (A := A) hts hg hA
  obtain ⟨t2, z2, a2⟩ := lw_t2 (A := A) hts hg hA
  refine ⟨fun i => [t0, t1, t2].getD i 0, fun j C n vs hj => ?_⟩
  unfold kk_tb at hj
  rcases j with _ | _ | _ | j
  · cases hj
    exact ⟨z0, a0⟩
  · cases hj
    exact ⟨z1, a1⟩
  · cases hj
    exact ⟨z2, a2⟩
  · simp at hj
theorem lw_classes {args : Array Value} {s : State} (hts : ∀ w ∈ kk_ws, w.before args s = true) : ∃ D : va_G, va_K D kk_cl [] s := by
  obtain ⟨c0, i0, k0⟩ := u_known hts kk_uD (hts _ cn_D)
  obtain ⟨c1, i1, k1⟩ := u_known hts kk_uM (hts _ cn_M)
  obtain ⟨c2, i2, k2⟩ := u_known hts kk_uH (hts _ cn_H)
  obtain ⟨c3, i3, k3⟩ := u_known hts kk_uK (hts _ cn_K)
  obtain ⟨c4, i4, k4⟩ := u_known hts kk_uR (hts _ cn_R)
  refine ⟨(fun i => [c0, c1, c2, c3, c4].getD i 0, fun i => [i0, i1, i2, i3, i4].getD i i0), fun c q hq => ?_, fun k q hk => by simp at hk⟩
  rcases c with _ | _ | _ | _ | _ | c
  · cases hq
    exact k0
  · cases hq
    exact k1
  · cases hq
    exact k2
  · cases hq
    exact k3
  · cases hq
    exact k4
  · simp at hq
end
section
/-! THE CLAIM OUT OF ONE WALK OF THE LAW'S BODY. Your part is whole_start (and what it stands on); all else here is the same for every law, but numbers. -/
def R_law : String := "ReplayDeskLaw"
def lw_P (b : Addr) (xs : List Int32) (args : Array Value) (s : State) : Prop := args = #[.ref b] ∧ s.IntsAt b xs ∧ xs.length ≤ 1536 ∧ (Jvm.Cond.and given_1 narrow_1).before args s = true
def lw_Q (_ : Array Value) (s : State) (o : Outcome) (t : State) : Prop := o = .returned (some (.int 1)) ∧ Framed s o t [] 21 6984
def lw_Z (below : List Frame) (a : Array Value) (s : State) : State → Prop := fun t => ∃ o, t.status = .running ∧ Ended t below o ∧ lw_Q a s o t
/-- the law's own end, with 1 on the stack, nothing written that was there before, its room as the claim has it -/
theorem lw_ret {p : Program} {l : Launch} {e : Env} {s : State} {m : MethodId} {below : List Frame} {meth : Method} {c : Code} {b : Nat} (hx : p.tables.exec = Jvm.exec) (hb : c.code = code) (hr : meth.sig.returnType = ret) (hlocks : meth.locks = false) {pc : Nat} {H : Heap} {ls : Array Slot} (hdg : decode code pc = .ok (.ireturn, 1)) : W p l e room_1 s m #[Value.ref b] below meth c H [] 21 6984 (lw_Z below #[Value.ref b] s) (F0 m pc ls [.int 1]) := by
  intro T hT X
  obtain ⟨fs, hret, hrun, hended, hW, hframe⟩ := X.leave (v := some (.int 1)) (hlocks := hlocks) (fun h => by rw [hr] at h; cases h)
  have hmeth' : T.vm.method? m = some meth := X.method'
  refine ⟨T.setFrames fs, ?_, .returned (some (.int 1)), hrun, hended, rfl, ⟨_, rfl⟩, hW, hframe⟩
  jvm_step X.here [X.here.top, hx, hb, hdg, hmeth', hr, ret, narrow_b1]
  (try refine ⟨rfl, ?_⟩); (try refine ⟨rfl, ?_⟩)
  first | (intro acts; rw [hret _ acts rfl rfl rfl]) | rw [hret _ _ rfl rfl rfl]
  exact Steps.refl _
/-- what holds at the law's entry: the machine, the code, the tables' words (any of lw_tbl by 'hts w (by decide +kernel)'), the script of L ints xs at the cell b, what the Statement gives of the start (any of its parts by flat_of_before) -/
def lw_At (p : Program) (s : State) (m : MethodId) (meth : Method) (c : Code) (b L : Nat) (xs : Nat → Int32) : Prop :=
  p.tables.exec = Jvm.exec ∧ c.code = code ∧ meth.sig.returnType = ret ∧ c.maxLocals = 4 ∧ s.vm.findClass R_law = some m.cls ∧ (∀ w ∈ lw_tbl, w.before #[Value.ref b] s = true) ∧ va_X b L xs s s.heap ∧ b < s.heap.size ∧ meth.locks = false ∧ (Jvm.Cond.and given_1 narrow_1).before #[Value.ref b] s = true
-- ===== YOUR PART BEGINS =====
/-- YOUR PART: from the entry, for every script of at most 1536 ints, the law comes to its end with true -/
theorem whole_start {p : Program} {e : Env} {s : State} {m : MethodId} {below : List Frame} {meth : Method} {c : Code} (l : Launch) {b L : Nat} {xs : Nat → Int32} (hL : L ≤ 1536) (C0 : lw_At p s m meth c b L xs) : W p l e room_1 s m #[Value.ref b] below meth c s.heap [] 0 0 (lw_Z below #[Value.ref b] s) (entryFrame m ([Value.ref b] : List Value).toArray 4) := by
  obtain ⟨hx, hb, hr, hml, hown, hts, hX, hbl, hlocks, hg⟩ := C0
  have hws : ∀ w ∈ kk_ws, w.before #[Value.ref b] s = true := fun w hw => hts w (List.mem_filter.mp hw).1
  obtain ⟨D, hK⟩ := lw_classes hws
  obtain ⟨tb, hZ⟩ := lw_tables (A := fun q => s.heap.size ≤ q) hts hg (fun a ha h9 => Nat.not_le.mpr ha h9)
  have hN : ∀ w ∈ kk_nw, va_Nw w s := fun w hw => by
    have h1 := hts w (List.mem_append_right _ (kk_nt w hw))
    rcases kk_nk w hw with ⟨a1, a2, a3, a4, a5, a6, rfl⟩ | ⟨a1, a2, a3, a4, rfl⟩
    · exact va_Nw.of rfl h1
    · exact va_Nw.of rfl h1
  rw [lg_entry_eq]
  have hl := lv_entry ([.ref b]) (n := 4) (Nat.le_of_ble_eq_true rfl)
  exact lw_law tb hL ⟨hx, hb, hml, hown, hws, fun q h => h⟩ hN hK hZ hX hbl rfl rfl rfl rfl hl (fun pc H ls hd => lw_ret hx hb hr hlocks hd)
-- ===== YOUR PART ENDS =====
set_option maxHeartbeats 4000000 in
theorem lw_walk (l : Launch) (b : Addr) (xs : List Int32) : MetFree l x (headSpec (Jvm.Cond.code x code maxLocals ret :: tables_1) room_1) (lw_P b xs) (fun _ _ _ _ _ => True) lw_Q := by
  refine MetFree.of_bodyS (code := code) (maxLocals := maxLocals) (ret := ret) (by decide) ?_ ?_
  · intro args s m h hn
    obtain ⟨meth, c, h1, h2, h3, h4, h5, h6, -, -⟩ := Cond.code_spec hn (atoms_spec (ws := Jvm.Cond.code x code maxLocals ret :: tables_1) h _ List.mem_cons_self)
    exact ⟨meth, c, h1, h2, h3, h4, h5, h6⟩
  · intro p e s m args below meth c s₁ B hml0 hP _
    obtain ⟨rfl, hx, hbd, hgv⟩ := hP
    obtain ⟨scr, harrAt, hlist, hof, hsmall⟩ := hx
    obtain ⟨hcb, hkn, -, -⟩ := State.arrayAt?_spec harrAt
    have hown : s.vm.findClass R_law = some m.cls := findClass_of_methodNamed B.named
    have hts0 : ∀ c ∈ (Jvm.Cond.code x code maxLocals ret :: tables_1), c.before #[Value.ref b] s = true := atoms_spec (ws := Jvm.Cond.code x code maxLocals ret :: tables_1) B.pre
    have hts : ∀ w ∈ lw_tbl, w.before #[Value.ref b] s = true := k2_hts_sels lw_privs (fun w hw => hts0 w (List.mem_cons_of_mem _ hw)) lw_privs_ok
    have hml : c.maxLocals = 4 := B.maxLocals_eq (hts0 _ List.mem_cons_self)
    have X₀ : Stand p l e room_1 s m #[Value.ref b] below meth c s₁ [] 0 0 := Stand.of_body B
    have hh0 : s₁.heap = s.heap := by rw [B.state]; rfl
    have hsz : scr.slots.size = xs.length := by rw [← Array.length_toList, hlist, List.length_map]
    have hval : ∀ j : Nat, j < xs.length → scr.slots[j]? = some (.int (xs.getD j 0)) := fun j hj => by
      rw [← Array.getElem?_toList, hlist]
      simp [hj]
    have hbl : b < s.heap.size := (Array.getElem?_eq_some_iff.mp hcb).1
    have hX : va_X b xs.length (fun j => xs.getD j 0) s s.heap := ⟨scr, hcb, hof, hkn, hsz, hval⟩
    have K : W p l e room_1 s m #[Value.ref b] below meth c s₁.heap [] 0 0 (lw_Z below #[Value.ref b] s) (entryFrame m ([Value.ref b] : List Value).toArray 4) := by
      rw [hh0]
      exact whole_start l hbd ⟨B.exec, B.bytes, B.returns, hml, hown, hts, hX, hbl, B.notSynchronized, hgv⟩
    obtain ⟨t, a1, o, b1, b2, b3⟩ := K s₁ rfl X₀
    exact ⟨t, o, a1, b1, b2, b3⟩
theorem lw_pre_spec {args : Array Value} {s : State} (h : (Jvm.Cond.and given_1 narrow_1).before args s = true) (hr : rest_1_c.before args s = true) : ∃ (b : Addr) (xs : List Int32), lw_P b xs args s := by
  have hs := flat_of_before _ h
  have hq := flat_of_before _ hr
  have hc : (Cond.count 1).before args s = true := hs _ (by decide +kernel)
  have harr : (Cond.arrayOf (.arg 0) .int).before args s = true := hs _ (by decide +kernel)
  have hle : (Cond.le (.length (.arg 0)) (.int 1536)).before args s = true := hs _ (by decide +kernel)
  have hlen : (Cond.isInt (.length (.arg 0))).before args s = true := hq _ (by decide +kernel)
  have hall : (Cond.all (.arg 0) (.isInt (.elem (.arg 0) (.index 0)))).before args s = true := hq _ (by decide +kernel)
  obtain ⟨b, xs, hb, hx⟩ := State.ints_of_pre rfl harr hlen hall
  have hsm : xs.length < 2 ^ 31 := hx.choose_spec.2.2.2
  have hev : (Term.length (.arg 0)).eval args s none [] s = some (.int xs.length.toInt32) := hx.length_eval hb
  have hv := Cond.le_ints hev (show (Term.int 1536).eval args s none [] s = some (.int 1536) from rfl)
  have hd : xs.length.toInt32 ≤ 1536 := by
    simpa [Cond.before, Cond.holds, hv] using hle
  have hN : xs.length ≤ 1536 := (Int32.ofNat_le_ofNat hsm (by decide)).mp (show Int32.ofNat xs.length ≤ Int32.ofNat 1536 from hd)
  exact ⟨b, xs, Cond.one_arg hc (show args[0]? = some (.ref b) from hb), hx, hN, h⟩
theorem lw_comes (l : Launch) : Comes l x (Jvm.Cond.code x code maxLocals ret :: tables_1) room_1 (fun tb e args s => Calls_1 tb e args s ∧ rest_1 tb e args s ∧ Pre_1 tb e args s)
    (fun _ _ args s o t => lw_Q args s o t) := by
  intro p e ha hc hk s m args below hf hfit hheap happ hpre
  obtain ⟨b, xs, hP⟩ := lw_pre_spec hpre.2.2 hpre.2.1
  obtain ⟨k, o, h1, h2, h3, hQ⟩ := lw_walk l b xs p e ha hc hk s m args below hf ((Spec.applies_iff_loose hf).mp happ).1 hP trivial
  exact ⟨k, o, h1, h2, h3, hQ⟩
theorem lw_frame {s t : State} {o : Outcome} {args : Array Value} (h : Framed s o t [] 21 6984) :
    Framed s o t (fieldLocs frame_1_writes args s ++ arrayLocs frame_1_arrays args s ++ staticLocs frame_1_statics s) 21 6984 := h
theorem lw_limb (L : Cond) (hL : ∀ (args : Array Value) (s t : State), L.after args s (.returned (some (.int 1))) t = true) :
    ArmFor flags0 classFile x code maxLocals ret World_1 tables_1 room_1 Calls_1 rest_1 Pre_1
      (fun tb e a s o t => postC L tb e a s o t ∧ Framed s o t (fieldLocs frame_1_writes a s ++ arrayLocs frame_1_arrays a s ++ staticLocs frame_1_statics s) 21 6984) := by
  intro l _ _ _ p e ha hc hk s m args below hf hfit hheap happ hpre
  obtain ⟨k, o, h1, h2, h3, rfl, hF⟩ := lw_comes l p e ha hc hk s m args below hf hfit hheap happ hpre
  exact ⟨k, _, h1, h2, h3, hL args s _, lw_frame hF⟩
theorem i_vc : Claimed_1_1 ∧ Claimed_1_2 := ⟨lw_limb limb_1_1 (fun args s t => by simp [limb_1_1, Cond.after, Cond.holds, Cond.value]), lw_limb limb_1_2 (fun args s t => Cond.after_iff.mpr (by
  first | (rw [show limb_1_2 = Cond.eq .result (.int 1) from rfl, Cond.eq_ints (x := 1) (y := 1) rfl rfl]; simp; done) | (simp [limb_1_2, Cond.value, Term.eval]; done)))⟩
end
