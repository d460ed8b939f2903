section
-- ===== PART A: goes FIRST, ahead of the names: the tables' words, and 'selects' of the private methods out of them =====
/-- a private method of a class that the tables say can be made, by its rows of tables_1 -/
def lw_okq (q : MethodName × Nat) : Prop := (q.1.cls ≠ "java/lang/invoke/MethodHandle" ∧ q.1.cls ≠ "java/lang/invoke/VarHandle") ∧ Cond.instantiable q.1.cls q.2 ∈ tables_1 ∧ Cond.privateMethod q.1 ∈ tables_1 ∧ Cond.instanceMethod q.1 ∈ tables_1
theorem lw_p0 : lw_okq (⟨"ReplayDesk$History", "keepPresent", "(LReplayDesk$Machine;)V"⟩, 5) := ⟨⟨by decide +kernel, by decide +kernel⟩, List.mem_of_getElem? (i := 58) (by decide +kernel), List.mem_of_getElem? (i := 100) (by decide +kernel), List.mem_of_getElem? (i := 101) (by decide +kernel)⟩
theorem lw_p1 : lw_okq (⟨"ReplayDesk", "beginAnew", "()V"⟩, 4) := ⟨⟨by decide +kernel, by decide +kernel⟩, List.mem_of_getElem? (i := 8) (by decide +kernel), List.mem_of_getElem? (i := 127) (by decide +kernel), List.mem_of_getElem? (i := 128) (by decide +kernel)⟩
theorem lw_p2 : lw_okq (⟨"ReplayDesk", "stepOn", "()Z"⟩, 4) := ⟨⟨by decide +kernel, by decide +kernel⟩, List.mem_of_getElem? (i := 8) (by decide +kernel), List.mem_of_getElem? (i := 166) (by decide +kernel), List.mem_of_getElem? (i := 167) (by decide +kernel)⟩
theorem lw_p3 : lw_okq (⟨"ReplayDesk$History", "swapByte", "(I[I)V"⟩, 5) := ⟨⟨by decide +kernel, by decide +kernel⟩, List.mem_of_getElem? (i := 58) (by decide +kernel), List.mem_of_getElem? (i := 174) (by decide +kernel), List.mem_of_getElem? (i := 175) (by decide +kernel)⟩
theorem lw_p4 : lw_okq (⟨"ReplayDesk$Machine", "forgetWrites", "()V"⟩, 9) := ⟨⟨by decide +kernel, by decide +kernel⟩, List.mem_of_getElem? (i := 16) (by decide +kernel), List.mem_of_getElem? (i := 183) (by decide +kernel), List.mem_of_getElem? (i := 184) (by decide +kernel)⟩
theorem lw_p5 : lw_okq (⟨"ReplayDesk$Machine", "cellAt", "(I)I"⟩, 9) := ⟨⟨by decide +kernel, by decide +kernel⟩, List.mem_of_getElem? (i := 16) (by decide +kernel), List.mem_of_getElem? (i := 187) (by decide +kernel), List.mem_of_getElem? (i := 188) (by decide +kernel)⟩
theorem lw_p6 : lw_okq (⟨"ReplayDesk$Machine", "placeOf", "(II)I"⟩, 9) := ⟨⟨by decide +kernel, by decide +kernel⟩, List.mem_of_getElem? (i := 16) (by decide +kernel), List.mem_of_getElem? (i := 191) (by decide +kernel), List.mem_of_getElem? (i := 192) (by decide +kernel)⟩
theorem lw_p7 : lw_okq (⟨"ReplayDesk$Machine", "pointerAt", "(I)I"⟩, 9) := ⟨⟨by decide +kernel, by decide +kernel⟩, List.mem_of_getElem? (i := 16) (by decide +kernel), List.mem_of_getElem? (i := 195) (by decide +kernel), List.mem_of_getElem? (i := 196) (by decide +kernel)⟩
theorem lw_p8 : lw_okq (⟨"ReplayDesk$Machine", "workOnPlace", "(II)V"⟩, 9) := ⟨⟨by decide +kernel, by decide +kernel⟩, List.mem_of_getElem? (i := 16) (by decide +kernel), List.mem_of_getElem? (i := 204) (by decide +kernel), List.mem_of_getElem? (i := 205) (by decide +kernel)⟩
theorem lw_p9 : lw_okq (⟨"ReplayDesk$Machine", "load", "(II)V"⟩, 9) := ⟨⟨by decide +kernel, by decide +kernel⟩, List.mem_of_getElem? (i := 16) (by decide +kernel), List.mem_of_getElem? (i := 208) (by decide +kernel), List.mem_of_getElem? (i := 209) (by decide +kernel)⟩
theorem lw_p10 : lw_okq (⟨"ReplayDesk$Machine", "noteResult", "(I)V"⟩, 9) := ⟨⟨by decide +kernel, by decide +kernel⟩, List.mem_of_getElem? (i := 16) (by decide +kernel), List.mem_of_getElem? (i := 212) (by decide +kernel), List.mem_of_getElem? (i := 213) (by decide +kernel)⟩
theorem lw_p11 : lw_okq (⟨"ReplayDesk$Machine", "writePlace", "(II)V"⟩, 9) := ⟨⟨by decide +kernel, by decide +kernel⟩, List.mem_of_getElem? (i := 16) (by decide +kernel), List.mem_of_getElem? (i := 216) (by decide +kernel), List.mem_of_getElem? (i := 217) (by decide +kernel)⟩
theorem lw_p12 : lw_okq (⟨"ReplayDesk$Machine", "writeCell", "(II)V"⟩, 9) := ⟨⟨by decide +kernel, by decide +kernel⟩, List.mem_of_getElem? (i := 16) (by decide +kernel), List.mem_of_getElem? (i := 220) (by decide +kernel), List.mem_of_getElem? (i := 221) (by decide +kernel)⟩
theorem lw_p13 : lw_okq (⟨"ReplayDesk$Machine", "addToA", "(I)V"⟩, 9) := ⟨⟨by decide +kernel, by decide +kernel⟩, List.mem_of_getElem? (i := 16) (by decide +kernel), List.mem_of_getElem? (i := 224) (by decide +kernel), List.mem_of_getElem? (i := 225) (by decide +kernel)⟩
theorem lw_p14 : lw_okq (⟨"ReplayDesk$Machine", "putFlag", "(IZ)V"⟩, 9) := ⟨⟨by decide +kernel, by decide +kernel⟩, List.mem_of_getElem? (i := 16) (by decide +kernel), List.mem_of_getElem? (i := 228) (by decide +kernel), List.mem_of_getElem? (i := 229) (by decide +kernel)⟩
theorem lw_p15 : lw_okq (⟨"ReplayDesk$Machine", "bitsWithA", "(II)I"⟩, 9) := ⟨⟨by decide +kernel, by decide +kernel⟩, List.mem_of_getElem? (i := 16) (by decide +kernel), List.mem_of_getElem? (i := 232) (by decide +kernel), List.mem_of_getElem? (i := 233) (by decide +kernel)⟩
def lw_privs_1 : List (MethodName × Nat) := [(⟨"ReplayDesk$History", "keepPresent", "(LReplayDesk$Machine;)V"⟩, 5), (⟨"ReplayDesk", "beginAnew", "()V"⟩, 4), (⟨"ReplayDesk", "stepOn", "()Z"⟩, 4), (⟨"ReplayDesk$History", "swapByte", "(I[I)V"⟩, 5), (⟨"ReplayDesk$Machine", "forgetWrites", "()V"⟩, 9), (⟨"ReplayDesk$Machine", "cellAt", "(I)I"⟩, 9), (⟨"ReplayDesk$Machine", "placeOf", "(II)I"⟩, 9), (⟨"ReplayDesk$Machine", "pointerAt", "(I)I"⟩, 9), (⟨"ReplayDesk$Machine", "workOnPlace", "(II)V"⟩, 9), (⟨"ReplayDesk$Machine", "load", "(II)V"⟩, 9), (⟨"ReplayDesk$Machine", "noteResult", "(I)V"⟩, 9), (⟨"ReplayDesk$Machine", "writePlace", "(II)V"⟩, 9), (⟨"ReplayDesk$Machine", "writeCell", "(II)V"⟩, 9), (⟨"ReplayDesk$Machine", "addToA", "(I)V"⟩, 9), (⟨"ReplayDesk$Machine", "putFlag", "(IZ)V"⟩, 9), (⟨"ReplayDesk$Machine", "bitsWithA", "(II)I"⟩, 9)]
theorem lw_r1 : ∀ q ∈ lw_privs_1, lw_okq q := List.forall_mem_cons.mpr ⟨lw_p0, List.forall_mem_cons.mpr ⟨lw_p1, List.forall_mem_cons.mpr ⟨lw_p2, List.forall_mem_cons.mpr ⟨lw_p3, List.forall_mem_cons.mpr ⟨lw_p4, List.forall_mem_cons.mpr ⟨lw_p5, List.forall_mem_cons.mpr ⟨lw_p6, List.forall_mem_cons.mpr ⟨lw_p7, List.forall_mem_cons.mpr ⟨lw_p8, List.forall_mem_cons.mpr ⟨lw_p9, List.forall_mem_cons.mpr ⟨lw_p10, List.forall_mem_cons.mpr ⟨lw_p11, List.forall_mem_cons.mpr ⟨lw_p12, List.forall_mem_cons.mpr ⟨lw_p13, List.forall_mem_cons.mpr ⟨lw_p14, List.forall_mem_cons.mpr ⟨lw_p15, fun _ h => absurd h List.not_mem_nil⟩⟩⟩⟩⟩⟩⟩⟩⟩⟩⟩⟩⟩⟩⟩⟩
theorem lw_p16 : lw_okq (⟨"ReplayDesk$Machine", "compare", "(II)V"⟩, 9) := ⟨⟨by decide +kernel, by decide +kernel⟩, List.mem_of_getElem? (i := 16) (by decide +kernel), List.mem_of_getElem? (i := 236) (by decide +kernel), List.mem_of_getElem? (i := 237) (by decide +kernel)⟩
theorem lw_p17 : lw_okq (⟨"ReplayDesk$Machine", "testBits", "(I)V"⟩, 9) := ⟨⟨by decide +kernel, by decide +kernel⟩, List.mem_of_getElem? (i := 16) (by decide +kernel), List.mem_of_getElem? (i := 240) (by decide +kernel), List.mem_of_getElem? (i := 241) (by decide +kernel)⟩
theorem lw_p18 : lw_okq (⟨"ReplayDesk$Machine", "alterPlace", "(III)V"⟩, 9) := ⟨⟨by decide +kernel, by decide +kernel⟩, List.mem_of_getElem? (i := 16) (by decide +kernel), List.mem_of_getElem? (i := 244) (by decide +kernel), List.mem_of_getElem? (i := 245) (by decide +kernel)⟩
theorem lw_p19 : lw_okq (⟨"ReplayDesk$Machine", "alteredByte", "(II)I"⟩, 9) := ⟨⟨by decide +kernel, by decide +kernel⟩, List.mem_of_getElem? (i := 16) (by decide +kernel), List.mem_of_getElem? (i := 248) (by decide +kernel), List.mem_of_getElem? (i := 249) (by decide +kernel)⟩
theorem lw_p20 : lw_okq (⟨"ReplayDesk$Machine", "jump", "(ZII)V"⟩, 9) := ⟨⟨by decide +kernel, by decide +kernel⟩, List.mem_of_getElem? (i := 16) (by decide +kernel), List.mem_of_getElem? (i := 252) (by decide +kernel), List.mem_of_getElem? (i := 253) (by decide +kernel)⟩
theorem lw_p21 : lw_okq (⟨"ReplayDesk$Machine", "push", "(I)V"⟩, 9) := ⟨⟨by decide +kernel, by decide +kernel⟩, List.mem_of_getElem? (i := 16) (by decide +kernel), List.mem_of_getElem? (i := 256) (by decide +kernel), List.mem_of_getElem? (i := 257) (by decide +kernel)⟩
theorem lw_p22 : lw_okq (⟨"ReplayDesk$Machine", "useStackOrPort", "(I)V"⟩, 9) := ⟨⟨by decide +kernel, by decide +kernel⟩, List.mem_of_getElem? (i := 16) (by decide +kernel), List.mem_of_getElem? (i := 260) (by decide +kernel), List.mem_of_getElem? (i := 261) (by decide +kernel)⟩
theorem lw_p23 : lw_okq (⟨"ReplayDesk$Machine", "takeByte", "()I"⟩, 9) := ⟨⟨by decide +kernel, by decide +kernel⟩, List.mem_of_getElem? (i := 16) (by decide +kernel), List.mem_of_getElem? (i := 264) (by decide +kernel), List.mem_of_getElem? (i := 265) (by decide +kernel)⟩
theorem lw_p24 : lw_okq (⟨"ReplayDesk$Machine", "takeInput", "()V"⟩, 9) := ⟨⟨by decide +kernel, by decide +kernel⟩, List.mem_of_getElem? (i := 16) (by decide +kernel), List.mem_of_getElem? (i := 268) (by decide +kernel), List.mem_of_getElem? (i := 269) (by decide +kernel)⟩
theorem lw_p25 : lw_okq (⟨"ReplayDesk$Machine", "putOut", "()V"⟩, 9) := ⟨⟨by decide +kernel, by decide +kernel⟩, List.mem_of_getElem? (i := 16) (by decide +kernel), List.mem_of_getElem? (i := 272) (by decide +kernel), List.mem_of_getElem? (i := 273) (by decide +kernel)⟩
theorem lw_p26 : lw_okq (⟨"ReplayDesk$Machine", "moveRegister", "(I)V"⟩, 9) := ⟨⟨by decide +kernel, by decide +kernel⟩, List.mem_of_getElem? (i := 16) (by decide +kernel), List.mem_of_getElem? (i := 276) (by decide +kernel), List.mem_of_getElem? (i := 277) (by decide +kernel)⟩
theorem lw_p27 : lw_okq (⟨"ReplayDesk$Machine", "changeYOrFlag", "(I)V"⟩, 9) := ⟨⟨by decide +kernel, by decide +kernel⟩, List.mem_of_getElem? (i := 16) (by decide +kernel), List.mem_of_getElem? (i := 280) (by decide +kernel), List.mem_of_getElem? (i := 281) (by decide +kernel)⟩
theorem lw_p28 : lw_okq (⟨"ReplayDesk$Machine", "branch", "(II)V"⟩, 9) := ⟨⟨by decide +kernel, by decide +kernel⟩, List.mem_of_getElem? (i := 16) (by decide +kernel), List.mem_of_getElem? (i := 284) (by decide +kernel), List.mem_of_getElem? (i := 285) (by decide +kernel)⟩
theorem lw_p29 : lw_okq (⟨"ReplayDesk", "isMet", "(I)Z"⟩, 4) := ⟨⟨by decide +kernel, by decide +kernel⟩, List.mem_of_getElem? (i := 8) (by decide +kernel), List.mem_of_getElem? (i := 302) (by decide +kernel), List.mem_of_getElem? (i := 303) (by decide +kernel)⟩
theorem lw_p30 : lw_okq (⟨"ReplayDeskModel", "anew", "()V"⟩, 10) := ⟨⟨by decide +kernel, by decide +kernel⟩, List.mem_of_getElem? (i := 367) (by decide +kernel), List.mem_of_getElem? (i := 373) (by decide +kernel), List.mem_of_getElem? (i := 374) (by decide +kernel)⟩
theorem lw_p31 : lw_okq (⟨"ReplayDeskModel", "step", "()V"⟩, 10) := ⟨⟨by decide +kernel, by decide +kernel⟩, List.mem_of_getElem? (i := 367) (by decide +kernel), List.mem_of_getElem? (i := 430) (by decide +kernel), List.mem_of_getElem? (i := 431) (by decide +kernel)⟩
def lw_privs_2 : List (MethodName × Nat) := [(⟨"ReplayDesk$Machine", "compare", "(II)V"⟩, 9), (⟨"ReplayDesk$Machine", "testBits", "(I)V"⟩, 9), (⟨"ReplayDesk$Machine", "alterPlace", "(III)V"⟩, 9), (⟨"ReplayDesk$Machine", "alteredByte", "(II)I"⟩, 9), (⟨"ReplayDesk$Machine", "jump", "(ZII)V"⟩, 9), (⟨"ReplayDesk$Machine", "push", "(I)V"⟩, 9), (⟨"ReplayDesk$Machine", "useStackOrPort", "(I)V"⟩, 9), (⟨"ReplayDesk$Machine", "takeByte", "()I"⟩, 9), (⟨"ReplayDesk$Machine", "takeInput", "()V"⟩, 9), (⟨"ReplayDesk$Machine", "putOut", "()V"⟩, 9), (⟨"ReplayDesk$Machine", "moveRegister", "(I)V"⟩, 9), (⟨"ReplayDesk$Machine", "changeYOrFlag", "(I)V"⟩, 9), (⟨"ReplayDesk$Machine", "branch", "(II)V"⟩, 9), (⟨"ReplayDesk", "isMet", "(I)Z"⟩, 4), (⟨"ReplayDeskModel", "anew", "()V"⟩, 10), (⟨"ReplayDeskModel", "step", "()V"⟩, 10)]
theorem lw_r2 : ∀ q ∈ lw_privs_2, lw_okq q := List.forall_mem_cons.mpr ⟨lw_p16, List.forall_mem_cons.mpr ⟨lw_p17, List.forall_mem_cons.mpr ⟨lw_p18, List.forall_mem_cons.mpr ⟨lw_p19, List.forall_mem_cons.mpr ⟨lw_p20, List.forall_mem_cons.mpr ⟨lw_p21, List.forall_mem_cons.mpr ⟨lw_p22, List.forall_mem_cons.mpr ⟨lw_p23, List.forall_mem_cons.mpr ⟨lw_p24, List.forall_mem_cons.mpr ⟨lw_p25, List.forall_mem_cons.mpr ⟨lw_p26, List.forall_mem_cons.mpr ⟨lw_p27, List.forall_mem_cons.mpr ⟨lw_p28, List.forall_mem_cons.mpr ⟨lw_p29, List.forall_mem_cons.mpr ⟨lw_p30, List.forall_mem_cons.mpr ⟨lw_p31, fun _ h => absurd h List.not_mem_nil⟩⟩⟩⟩⟩⟩⟩⟩⟩⟩⟩⟩⟩⟩⟩⟩
theorem lw_p32 : lw_okq (⟨"ReplayDeskModel", "place", "(IIII)I"⟩, 10) := ⟨⟨by decide +kernel, by decide +kernel⟩, List.mem_of_getElem? (i := 367) (by decide +kernel), List.mem_of_getElem? (i := 437) (by decide +kernel), List.mem_of_getElem? (i := 438) (by decide +kernel)⟩
theorem lw_p33 : lw_okq (⟨"ReplayDeskModel", "work", "(II)V"⟩, 10) := ⟨⟨by decide +kernel, by decide +kernel⟩, List.mem_of_getElem? (i := 367) (by decide +kernel), List.mem_of_getElem? (i := 441) (by decide +kernel), List.mem_of_getElem? (i := 442) (by decide +kernel)⟩
theorem lw_p34 : lw_okq (⟨"ReplayDeskModel", "marked", "(I)I"⟩, 10) := ⟨⟨by decide +kernel, by decide +kernel⟩, List.mem_of_getElem? (i := 367) (by decide +kernel), List.mem_of_getElem? (i := 445) (by decide +kernel), List.mem_of_getElem? (i := 446) (by decide +kernel)⟩
theorem lw_p35 : lw_okq (⟨"ReplayDeskModel", "flag", "(IZ)V"⟩, 10) := ⟨⟨by decide +kernel, by decide +kernel⟩, List.mem_of_getElem? (i := 367) (by decide +kernel), List.mem_of_getElem? (i := 449) (by decide +kernel), List.mem_of_getElem? (i := 450) (by decide +kernel)⟩
theorem lw_p36 : lw_okq (⟨"ReplayDeskModel", "change", "(II)V"⟩, 10) := ⟨⟨by decide +kernel, by decide +kernel⟩, List.mem_of_getElem? (i := 367) (by decide +kernel), List.mem_of_getElem? (i := 453) (by decide +kernel), List.mem_of_getElem? (i := 454) (by decide +kernel)⟩
theorem lw_p37 : lw_okq (⟨"ReplayDeskModel", "write", "(II)V"⟩, 10) := ⟨⟨by decide +kernel, by decide +kernel⟩, List.mem_of_getElem? (i := 367) (by decide +kernel), List.mem_of_getElem? (i := 457) (by decide +kernel), List.mem_of_getElem? (i := 458) (by decide +kernel)⟩
theorem lw_p38 : lw_okq (⟨"ReplayDeskModel", "add", "(I)V"⟩, 10) := ⟨⟨by decide +kernel, by decide +kernel⟩, List.mem_of_getElem? (i := 367) (by decide +kernel), List.mem_of_getElem? (i := 461) (by decide +kernel), List.mem_of_getElem? (i := 462) (by decide +kernel)⟩
theorem lw_p39 : lw_okq (⟨"ReplayDeskModel", "compare", "(II)V"⟩, 10) := ⟨⟨by decide +kernel, by decide +kernel⟩, List.mem_of_getElem? (i := 367) (by decide +kernel), List.mem_of_getElem? (i := 465) (by decide +kernel), List.mem_of_getElem? (i := 466) (by decide +kernel)⟩
theorem lw_p40 : lw_okq (⟨"ReplayDeskModel", "push", "(I)V"⟩, 10) := ⟨⟨by decide +kernel, by decide +kernel⟩, List.mem_of_getElem? (i := 367) (by decide +kernel), List.mem_of_getElem? (i := 469) (by decide +kernel), List.mem_of_getElem? (i := 470) (by decide +kernel)⟩
theorem lw_p41 : lw_okq (⟨"ReplayDeskModel", "stack", "(I)V"⟩, 10) := ⟨⟨by decide +kernel, by decide +kernel⟩, List.mem_of_getElem? (i := 367) (by decide +kernel), List.mem_of_getElem? (i := 473) (by decide +kernel), List.mem_of_getElem? (i := 474) (by decide +kernel)⟩
theorem lw_p42 : lw_okq (⟨"ReplayDeskModel", "pull", "()I"⟩, 10) := ⟨⟨by decide +kernel, by decide +kernel⟩, List.mem_of_getElem? (i := 367) (by decide +kernel), List.mem_of_getElem? (i := 477) (by decide +kernel), List.mem_of_getElem? (i := 478) (by decide +kernel)⟩
theorem lw_p43 : lw_okq (⟨"ReplayDeskModel", "transfer", "(I)V"⟩, 10) := ⟨⟨by decide +kernel, by decide +kernel⟩, List.mem_of_getElem? (i := 367) (by decide +kernel), List.mem_of_getElem? (i := 481) (by decide +kernel), List.mem_of_getElem? (i := 482) (by decide +kernel)⟩
theorem lw_p44 : lw_okq (⟨"ReplayDeskModel", "small", "(I)V"⟩, 10) := ⟨⟨by decide +kernel, by decide +kernel⟩, List.mem_of_getElem? (i := 367) (by decide +kernel), List.mem_of_getElem? (i := 485) (by decide +kernel), List.mem_of_getElem? (i := 486) (by decide +kernel)⟩
theorem lw_p45 : lw_okq (⟨"ReplayDeskModel", "branch", "(II)V"⟩, 10) := ⟨⟨by decide +kernel, by decide +kernel⟩, List.mem_of_getElem? (i := 367) (by decide +kernel), List.mem_of_getElem? (i := 489) (by decide +kernel), List.mem_of_getElem? (i := 490) (by decide +kernel)⟩
theorem lw_p46 : lw_okq (⟨"ReplayDeskModel", "come", "(I)V"⟩, 10) := ⟨⟨by decide +kernel, by decide +kernel⟩, List.mem_of_getElem? (i := 367) (by decide +kernel), List.mem_of_getElem? (i := 497) (by decide +kernel), List.mem_of_getElem? (i := 498) (by decide +kernel)⟩
def lw_privs_3 : List (MethodName × Nat) := [(⟨"ReplayDeskModel", "place", "(IIII)I"⟩, 10), (⟨"ReplayDeskModel", "work", "(II)V"⟩, 10), (⟨"ReplayDeskModel", "marked", "(I)I"⟩, 10), (⟨"ReplayDeskModel", "flag", "(IZ)V"⟩, 10), (⟨"ReplayDeskModel", "change", "(II)V"⟩, 10), (⟨"ReplayDeskModel", "write", "(II)V"⟩, 10), (⟨"ReplayDeskModel", "add", "(I)V"⟩, 10), (⟨"ReplayDeskModel", "compare", "(II)V"⟩, 10), (⟨"ReplayDeskModel", "push", "(I)V"⟩, 10), (⟨"ReplayDeskModel", "stack", "(I)V"⟩, 10), (⟨"ReplayDeskModel", "pull", "()I"⟩, 10), (⟨"ReplayDeskModel", "transfer", "(I)V"⟩, 10), (⟨"ReplayDeskModel", "small", "(I)V"⟩, 10), (⟨"ReplayDeskModel", "branch", "(II)V"⟩, 10), (⟨"ReplayDeskModel", "come", "(I)V"⟩, 10)]
theorem lw_r3 : ∀ q ∈ lw_privs_3, lw_okq q := List.forall_mem_cons.mpr ⟨lw_p32, List.forall_mem_cons.mpr ⟨lw_p33, List.forall_mem_cons.mpr ⟨lw_p34, List.forall_mem_cons.mpr ⟨lw_p35, List.forall_mem_cons.mpr ⟨lw_p36, List.forall_mem_cons.mpr ⟨lw_p37, List.forall_mem_cons.mpr ⟨lw_p38, List.forall_mem_cons.mpr ⟨lw_p39, List.forall_mem_cons.mpr ⟨lw_p40, List.forall_mem_cons.mpr ⟨lw_p41, List.forall_mem_cons.mpr ⟨lw_p42, List.forall_mem_cons.mpr ⟨lw_p43, List.forall_mem_cons.mpr ⟨lw_p44, List.forall_mem_cons.mpr ⟨lw_p45, List.forall_mem_cons.mpr ⟨lw_p46, fun _ h => absurd h List.not_mem_nil⟩⟩⟩⟩⟩⟩⟩⟩⟩⟩⟩⟩⟩⟩⟩
def lw_privs : List (MethodName × Nat) := lw_privs_1 ++ (lw_privs_2 ++ (lw_privs_3))
def lw_tbl : List Cond := k2_sels lw_privs ++ tables_1
theorem lw_privs_ok : ∀ q ∈ lw_privs, lw_okq q := by
  show ∀ q ∈ lw_privs_1 ++ (lw_privs_2 ++ (lw_privs_3)), lw_okq q
  exact List.forall_mem_append.mpr ⟨lw_r1, List.forall_mem_append.mpr ⟨lw_r2, lw_r3⟩⟩
end
section
/-! THE LIGHT MACHINE: a small machine over cells of one fixed shape. A reference is the number of its cell; the state is, for each cell, its numbers.
    lm_st is one instruction as a predicate transformer; lm_Go: the walk from here comes to an end with the postcondition; lm_closed: then the machine does. -/
abbrev lm_Sh : Type := (FieldType × Nat) ⊕ (Nat × List (Option Nat))
abbrev lm_S : Type := Nat → Nat → Int32
abbrev lm_L : Type := List (Nat × Value)
abbrev lm_Tb : Type := List (String × String × List Int32)
/-- a system: its classes, its shape, its static tables, the words of its nest, its words -/
abbrev lm_Y : Type := List vw_C × List lm_Sh × lm_Tb × List Cond × List Cond
/-- where it lies: the tables' numbers, the arrays' classes, the addresses, the class of each array -/
abbrev lm_X : Type := va_G × List (ClassId × FieldType) × (Nat → Nat) × (Nat → ClassId)
/-- an instruction, the next pc, its constant, its target -/
abbrev lm_R : Type := Instr × Nat × Int32 × Nat
/-- what a call does: arguments, state, postcondition -/
abbrev lm_Sp : Type := List Value → lm_S → (Option Value → lm_S → Prop) → Prop
/-- a method: code, fields by pool number (class, place), static tables by pool number, arraycopy's pool number, its answer (0 none, 1 an int, 2 a boolean), the law's script -/
abbrev lm_G : Type := List (Nat × lm_R) × List (Nat × Nat × Nat) × List (Nat × Nat) × Nat × Nat × Option (Nat × (Nat → Int32))
/-- calls by pool number: how many arguments, the receiver's class (none: static), what it does -/
abbrev lm_Ca : Type := List (Nat × Nat × Option Nat × lm_Sp)
def lm_t (ad : Nat → Nat) (v : Value) : Value := match v with
  | .ref i => .ref (ad i)
  | .int x => .int x
  | v => v
theorem lm_tcat (ad : Nat → Nat) (v : Value) : (lm_t ad v).category = v.category := by cases v <;> rfl
def lm_v (ad : Nat → Nat) (x : Int32) (o : Option Nat) : Value := match o with
  | none => .int x
  | some j => .ref (ad j)
def lm_E (ad : Nat → Nat) (cA : Nat → ClassId) (i : Nat) (c : lm_Sh) (g : Nat → Int32) : va_E := match c with
  | .inl a => .inl (cA i, a.2, .inl g)
  | .inr o => .inr (o.1, o.2.mapIdx (fun k r => lm_v ad (g k) r))
def lm_W (sh : List lm_Sh) (ad : Nat → Nat) (cA : Nat → ClassId) (S : lm_S) : va_W := sh.mapIdx (fun i c => (ad i, lm_E ad cA i c (S i)))
def lm_set (S : lm_S) (i k : Nat) (x : Int32) : lm_S := va_up S i (upd (S i) k x)
def lm_A (n : Nat) (ad : Nat → Nat) (sz : Nat) : Nat → Prop := fun q => (∃ i, i < n ∧ q = ad i) ∨ sz ≤ q
theorem lm_get {sh : List lm_Sh} {ad : Nat → Nat} {cA : Nat → ClassId} {S : lm_S} {i : Nat} {c : lm_Sh} (h : sh[i]? = some c) : (lm_W sh ad cA S)[i]? = some (ad i, lm_E ad cA i c (S i)) := by
  simp [lm_W, List.getElem?_mapIdx, h]
theorem lm_inv {sh : List lm_Sh} {ad : Nat → Nat} {cA : Nat → ClassId} {S : lm_S} {k : Nat} {q : Nat × va_E} (h : (lm_W sh ad cA S)[k]? = some q) : k < sh.length ∧ q.1 = ad k := by
  simp only [lm_W, List.getElem?_mapIdx] at h
  cases hs : sh[k]? with
  | none => rw [hs] at h; cases h
  | some c =>
    rw [hs] at h
    have h2 := Option.some.inj h
    exact ⟨(List.getElem?_eq_some_iff.mp hs).1, by rw [← h2]⟩
theorem lm_setA {sh : List lm_Sh} {ad : Nat → Nat} {cA : Nat → ClassId} {S : lm_S} {i n : Nat} {ty : FieldType} (h : sh[i]? = some (.inl (ty, n))) (f : Nat → Int32) : (lm_W sh ad cA S).set i (ad i, .inl (cA i, n, .inl f)) = lm_W sh ad cA (va_up S i f) := by
  apply List.ext_getElem?
  intro j
  by_cases hj : j = i
  · subst hj
    have hl : j < (lm_W sh ad cA S).length := (List.getElem?_eq_some_iff.mp (lm_get (ad := ad) (cA := cA) (S := S) h)).1
    rw [List.getElem?_set_self hl, lm_get h]
    simp [lm_E, va_up]
  · rw [List.getElem?_set_ne (Ne.symm hj)]
    simp only [lm_W, List.getElem?_mapIdx]
    cases sh[j]? with
    | none => rfl
    | some c => simp [va_up, hj]
theorem lm_setF {fl : List (Option Nat)} {k : Nat} (h : fl[k]? = some none) (ad : Nat → Nat) (g : Nat → Int32) (x : Int32) : (fl.mapIdx (fun k r => lm_v ad (g k) r)).set k (.int x) = fl.mapIdx (fun j r => lm_v ad (upd g k x j) r) := by
  apply List.ext_getElem?
  intro j
  by_cases hj : j = k
  · subst hj
    have hl : j < (fl.mapIdx (fun k r => lm_v ad (g k) r)).length := by
      rw [List.length_mapIdx]
      exact (List.getElem?_eq_some_iff.mp h).1
    rw [List.getElem?_set_self hl, List.getElem?_mapIdx, h]
    simp [lm_v, upd]
  · rw [List.getElem?_set_ne (Ne.symm hj), List.getElem?_mapIdx, List.getElem?_mapIdx]
    simp [upd, hj]
theorem lm_setO {sh : List lm_Sh} {ad : Nat → Nat} {cA : Nat → ClassId} {S : lm_S} {i ci k : Nat} {fl : List (Option Nat)} (h : sh[i]? = some (.inr (ci, fl))) (hk : fl[k]? = some none) (x : Int32) : (lm_W sh ad cA S).set i (ad i, .inr (ci, (fl.mapIdx (fun k r => lm_v ad (S i k) r)).set k (.int x))) = lm_W sh ad cA (lm_set S i k x) := by
  apply List.ext_getElem?
  intro j
  by_cases hj : j = i
  · subst hj
    have hl : j < (lm_W sh ad cA S).length := (List.getElem?_eq_some_iff.mp (lm_get (ad := ad) (cA := cA) (S := S) h)).1
    rw [List.getElem?_set_self hl, lm_get h, lm_setF hk ad (S j) x]
    simp [lm_E, lm_set, va_up]
  · rw [List.getElem?_set_ne (Ne.symm hj)]
    simp only [lm_W, List.getElem?_mapIdx]
    cases sh[j]? with
    | none => rfl
    | some c => simp [lm_set, va_up, hj]
/-- static tables -/
def lm_Z (tb : lm_Tb) (ad : Nat → Nat) (A : Nat → Prop) (U : State) (H : Heap) : Prop := ∀ (j : Nat) (C n : String) (vs : List Int32), tb[j]? = some (C, n, vs) → va_Z C n "[I" (.ref (ad (1000 + j))) A U H ∧ va_T .int (ad (1000 + j)) vs.length (fun k => .int (vs.getD k 0)) A U H
/-- the addresses are apart, the arrays' classes are known -/
def lm_ok (Y : lm_Y) (X : lm_X) : Prop := (∀ i j, i < Y.2.1.length → j < Y.2.1.length → X.2.2.1 i = X.2.2.1 j → i = j) ∧ ∀ (i : Nat) (ty : FieldType) (n : Nat), Y.2.1[i]? = some (.inl (ty, n)) → (X.2.2.2 i, ty) ∈ X.2.1
/-- what a system's words must be -/
def lm_Yok (Y : lm_Y) : Prop := (∀ w ∈ Y.2.2.2.2, goodWord w = true) ∧ (∀ w ∈ Y.2.2.2.1, (∃ a i b n d h, w = Cond.fieldLinkNest a i b n d h) ∨ ∃ a i x h, w = Cond.methodLinkNest a i x h) ∧ ∀ (ci : Nat) (C : String) (T : u_T) (N : Nat), Y.1[ci]? = some (C, T, N) → ∃ ty0 : Nat → FieldType, (∀ k, k < N → parseFieldDescriptor (T k).2.2.1 = some (ty0 k)) ∧ (∀ a, a < N → ∀ b, b < N → a ≠ b → (T a).2.1 ≠ (T b).2.1) ∧ (∀ w ∈ u_ws C T N, w ∈ Y.2.2.2.2) ∧ ∀ (i k : Nat) (gl : List (Option Nat)), Y.2.1[i]? = some (.inr (ci, gl)) → gl[k]? = some none → (T k).2.2.2 = false ∧ parseFieldDescriptor (T k).2.2.1 = some .int
/-- the world -/
def lm_B (Y : lm_Y) (X : lm_X) (sz : Nat) (S : lm_S) (U : State) : Prop := U.heap.size = sz ∧ va_P X.1 Y.1 (lm_W Y.2.1 X.2.2.1 X.2.2.2 S) U.heap ∧ va_K X.1 Y.1 X.2.1 U ∧ (∀ w ∈ Y.2.2.2.1, va_Nw w U) ∧ lm_Z Y.2.2.1 X.2.2.1 (lm_A Y.2.1.length X.2.2.1 sz) U U.heap
def lm_Qc (Y : lm_Y) (X : lm_X) (sz : Nat) (post : Option Value → lm_S → Prop) : Array Value → State → Outcome → State → Prop := fun _ st oc t =>
  ∃ (r : Option Value) (S : lm_S), oc = .returned (r.map (lm_t X.2.2.1)) ∧ post r S ∧ va_P X.1 Y.1 (lm_W Y.2.1 X.2.2.1 X.2.2.2 S) t.heap ∧ va_F (lm_A Y.2.1.length X.2.2.1 sz) st t
abbrev lm_rm (f lo : Nat) : Room := { frames := f, cells := 0, slots := 0, locals := lo }
/-- a method does what sp says -/
def lm_I (l : Launch) (Y : lm_Y) (y : MethodName) (b : ByteArray) (mL : Nat) (rt : Option FieldType) (f lo : Nat) (sp : lm_Sp) : Prop := ∀ (X : lm_X) (sz : Nat) (av : List Value) (S : lm_S) (post : Option Value → lm_S → Prop), lm_ok Y X → sp av S post →
  Met l y (Cond.code y b mL rt :: Y.2.2.2.2) (lm_rm f lo) (va_Pc (av.map (lm_t X.2.2.1)) (lm_B Y X sz S)) (lm_Qc Y X sz post) 0 0 (lm_A Y.2.1.length X.2.2.1 sz)
theorem lm_Dof {Y : lm_Y} {X : lm_X} {S : lm_S} {sz : Nat} (h : lm_ok Y X) : va_D (lm_A Y.2.1.length X.2.2.1 sz) (lm_W Y.2.1 X.2.2.1 X.2.2.2 S) := by
  refine ⟨fun i j p q hi hj hpq => ?_, fun k q hk => ?_⟩
  · obtain ⟨h1, h2⟩ := lm_inv hi
    obtain ⟨h3, h4⟩ := lm_inv hj
    exact h.1 i j h1 h3 (by rw [← h2, ← h4]; exact hpq)
  · obtain ⟨h1, h2⟩ := lm_inv hk
    exact Or.inl ⟨k, h1, h2⟩
theorem lm_A_le {n : Nat} {ad : Nat → Nat} {a b : Nat} (h : a ≤ b) : ∀ q, lm_A n ad b q → lm_A n ad a q := by
  intro q hq
  rcases hq with hq | hq
  · exact Or.inl hq
  · exact Or.inr (Nat.le_trans h hq)
theorem lm_Z_to {tb : lm_Tb} {ad : Nat → Nat} {A B : Nat → Prop} {s U : State} {H : Heap} (h : lm_Z tb ad A s s.heap) (hvm : s.vm.Alike U.vm) (hk : ∀ q : Nat, q < s.heap.size → ¬ A q → H[q]? = s.heap[q]?) (hAB : ∀ q, B q → A q) : lm_Z tb ad B U H :=
  fun j C n vs hj => ⟨(((h j C n vs hj).1.kept hk).moved hvm).narrow hAB, (((h j C n vs hj).2.kept hk).moved hvm).narrow hAB⟩
theorem lm_nw_warm {Y : lm_Y} (hY : lm_Yok Y) {s U : State} (hW : s.WarmedH U.vm) (h : ∀ w ∈ Y.2.2.2.1, va_Nw w s) : ∀ w ∈ Y.2.2.2.1, va_Nw w U := by
  intro w hw
  have h0 := h w hw
  rcases hY.2.1 w hw with ⟨a, i, b, n, d, hh, rfl⟩ | ⟨a, i, x, hh, rfl⟩
  · exact va_Nw.warmF hW h0
  · exact va_Nw.warmM hW h0
theorem lm_nw_same {Y : lm_Y} (hY : lm_Yok Y) {s U : State} (hW : s.vm = U.vm) (h : ∀ w ∈ Y.2.2.2.1, va_Nw w s) : ∀ w ∈ Y.2.2.2.1, va_Nw w U := by
  intro w hw
  have h0 := h w hw
  rcases hY.2.1 w hw with ⟨a, i, b, n, d, hh, rfl⟩ | ⟨a, i, x, hh, rfl⟩
  · exact va_Nw.same rfl hW h0
  · exact va_Nw.same rfl hW h0
/-! one instruction -/
def lm_pi (st : List Value) (k : Int32 → List Value → Prop) : Prop := match st with
  | .int x :: r => k x r
  | _ => False
def lm_pr (st : List Value) (k : Nat → List Value → Prop) : Prop := match st with
  | .ref x :: r => k x r
  | _ => False
def lm_pv (st : List Value) (k : Value → List Value → Prop) : Prop := match st with
  | .int x :: r => k (.int x) r
  | .ref x :: r => k (.ref x) r
  | _ => False
def lm_li (L : lm_L) (j : Nat) (k : Int32 → Prop) : Prop := match L.lookup j with
  | some (.int x) => k x
  | _ => False
def lm_lr (L : lm_L) (j : Nat) (k : Nat → Prop) : Prop := match L.lookup j with
  | some (.ref x) => k x
  | _ => False
def lm_up (L : lm_L) (i : Nat) (v : Value) : lm_L := (i, v) :: L.filter (fun q => !(q.1 == i) && !(q.1 + 1 == i && q.2.category == 2))
theorem lm_pi_of {st : List Value} {k : Int32 → List Value → Prop} (h : lm_pi st k) : ∃ x r, st = .int x :: r ∧ k x r := by
  unfold lm_pi at h
  split at h
  · exact ⟨_, _, rfl, h⟩
  · exact h.elim
theorem lm_pr_of {st : List Value} {k : Nat → List Value → Prop} (h : lm_pr st k) : ∃ x r, st = .ref x :: r ∧ k x r := by
  unfold lm_pr at h
  split at h
  · exact ⟨_, _, rfl, h⟩
  · exact h.elim
theorem lm_pv_of {st : List Value} {k : Value → List Value → Prop} (h : lm_pv st k) : ∃ x r, st = x :: r ∧ x.category = 1 ∧ k x r := by
  unfold lm_pv at h
  split at h
  · exact ⟨_, _, rfl, rfl, h⟩
  · exact ⟨_, _, rfl, rfl, h⟩
  · exact h.elim
theorem lm_lk {L : lm_L} {j : Nat} {v : Value} (h : L.lookup j = some v) : (j, v) ∈ L := by
  induction L with
  | nil => cases h
  | cons q L ih =>
    obtain ⟨a, b⟩ := q
    rw [List.lookup_cons] at h
    split at h
    · rename_i hb
      have e1 : j = a := by simpa using hb
      have e2 := Option.some.inj h
      subst e1
      subst e2
      exact List.mem_cons_self
    · exact List.mem_cons_of_mem _ (ih h)
theorem lm_li_of {L : lm_L} {j : Nat} {k : Int32 → Prop} (h : lm_li L j k) : ∃ x, (j, Value.int x) ∈ L ∧ k x := by
  unfold lm_li at h
  split at h
  · rename_i x hx
    exact ⟨x, lm_lk hx, h⟩
  · exact h.elim
theorem lm_lr_of {L : lm_L} {j : Nat} {k : Nat → Prop} (h : lm_lr L j k) : ∃ x, (j, Value.ref x) ∈ L ∧ k x := by
  unfold lm_lr at h
  split at h
  · rename_i x hx
    exact ⟨x, lm_lk hx, h⟩
  · exact h.elim
/-- a field -/
def lm_fd (Y : lm_Y) (fl : List (Nat × Nat × Nat)) (i idx : Nat) (kk : Nat → Option Nat → Prop) : Prop := match fl.lookup idx with
  | some (ci, k) => match Y.2.1[i]? with
    | some (.inr (cj, gl)) => match Nat.beq ci cj with
      | true => match gl[k]? with
        | some o => kk k o
        | none => False
      | false => False
    | _ => False
  | none => False
theorem lm_fd_of {Y : lm_Y} {fl : List (Nat × Nat × Nat)} {i idx : Nat} {kk : Nat → Option Nat → Prop} (h : lm_fd Y fl i idx kk) : ∃ ci k gl o, fl.lookup idx = some (ci, k) ∧ Y.2.1[i]? = some (.inr (ci, gl)) ∧ gl[k]? = some o ∧ kk k o := by
  unfold lm_fd at h
  split at h
  · rename_i ci k h1
    split at h
    · rename_i cj gl h2
      split at h
      · rename_i h3
        split at h
        · rename_i o h4
          have e : ci = cj := Nat.eq_of_beq_eq_true h3
          subst e
          exact ⟨ci, k, gl, o, h1, h2, h4, h⟩
        · exact h.elim
      · exact h.elim
    · exact h.elim
  · exact h.elim
/-- an int read from an array: the system's own, a static table, the law's script (999) -/
def lm_ld (Y : lm_Y) (sc : Option (Nat × (Nat → Int32))) (S : lm_S) (i : Nat) (j : Int32) (k : Int32 → Prop) : Prop := match Y.2.1[i]? with
  | some (.inl (.int, n)) => vp_in j n ∧ k (S i j.toNatClampNeg)
  | some _ => False
  | none => match Nat.ble 1000 i with
    | true => match Y.2.2.1[i - 1000]? with
      | some (_, _, vs) => vp_in j vs.length ∧ k (vs.getD j.toNatClampNeg 0)
      | none => False
    | false => match Nat.beq i 999 with
      | true => match sc with
        | some (n, xs) => vp_in j n ∧ k (xs j.toNatClampNeg)
        | none => False
      | false => False
theorem lm_ld_of {Y : lm_Y} {sc : Option (Nat × (Nat → Int32))} {S : lm_S} {i : Nat} {j : Int32} {k : Int32 → Prop} (h : lm_ld Y sc S i j k) :
    (∃ n, Y.2.1[i]? = some (.inl (.int, n)) ∧ vp_in j n ∧ k (S i j.toNatClampNeg)) ∨ (∃ q C nm vs, i = 1000 + q ∧ Y.2.2.1[q]? = some (C, nm, vs) ∧ vp_in j vs.length ∧ k (vs.getD j.toNatClampNeg 0)) ∨ ∃ n xs, i = 999 ∧ sc = some (n, xs) ∧ vp_in j n ∧ k (xs j.toNatClampNeg) := by
  unfold lm_ld at h
  split at h
  · rename_i n h1
    exact Or.inl ⟨n, h1, h⟩
  · exact h.elim
  · split at h
    · rename_i h2
      split at h
      · rename_i C nm vs h3
        have h4 := Nat.le_of_ble_eq_true h2
        exact Or.inr (Or.inl ⟨i - 1000, C, nm, vs, by omega, h3, h⟩)
      · exact h.elim
    · split at h
      · rename_i h3
        cases sc with
        | none => exact h.elim
        | some q =>
          obtain ⟨n, xs⟩ := q
          exact Or.inr (Or.inr ⟨n, xs, Nat.eq_of_beq_eq_true h3, rfl, h⟩)
      · exact h.elim
def lm_ai (Y : lm_Y) (i : Nat) (k : Nat → Prop) : Prop := match Y.2.1[i]? with
  | some (.inl (.int, n)) => k n
  | _ => False
theorem lm_ai_of {Y : lm_Y} {i : Nat} {k : Nat → Prop} (h : lm_ai Y i k) : ∃ n, Y.2.1[i]? = some (.inl (.int, n)) ∧ k n := by
  unfold lm_ai at h
  split at h
  · rename_i n h1
    exact ⟨n, h1, h⟩
  · exact h.elim
def lm_az (Y : lm_Y) (i : Nat) (k : Nat → Prop) : Prop := match Y.2.1[i]? with
  | some (.inl (.boolean, n)) => k n
  | _ => False
theorem lm_az_of {Y : lm_Y} {i : Nat} {k : Nat → Prop} (h : lm_az Y i k) : ∃ n, Y.2.1[i]? = some (.inl (.boolean, n)) ∧ k n := by
  unfold lm_az at h
  split at h
  · rename_i n h1
    exact ⟨n, h1, h⟩
  · exact h.elim
/-- tableswitch from lo on -/
def lm_sw (pc : Nat) (x : Int32) (d : Int) (k : Nat → Prop) : Int → List Int → Prop
  | _, [] => k ((pc : Int) + d).toNat
  | lo, o :: os => (x.toInt = lo → k ((pc : Int) + o).toNat) ∧ (¬ x.toInt = lo → lm_sw pc x d k (lo + 1) os)
def lm_lw (pc : Nat) (x : Int32) (d : Int) (k : Nat → Prop) : List (Int × Int) → Prop
  | [] => k ((pc : Int) + d).toNat
  | (a, o) :: r => (x.toInt = a → k ((pc : Int) + o).toNat) ∧ (¬ x.toInt = a → lm_lw pc x d k r)
/-- a call: the arguments off the stack -/
def lm_cat (st : List Value) : Nat := (st.map fun v => v.category).sum
def lm_cs (cal : lm_Ca) (idx : Nat) (st : List Value) (S : lm_S) (k : List Value → lm_S → Prop) : Prop := match cal.lookup idx with
  | some (n, none, sp) => match Nat.ble n st.length && Nat.ble (lm_cat (st.drop n)) 8 with
    | true => sp (st.take n).reverse S (fun r S1 => k (r.toList ++ st.drop n) S1)
    | false => False
  | _ => False
def lm_cv (Y : lm_Y) (cal : lm_Ca) (idx : Nat) (st : List Value) (S : lm_S) (k : List Value → lm_S → Prop) : Prop := match cal.lookup idx with
  | some (n, some ci, sp) => match Nat.ble n st.length with
    | true => match st.drop n with
      | .ref i :: rest => match Y.2.1[i]? with
        | some (.inr (cj, _)) => match Nat.beq ci cj && Nat.ble (lm_cat rest) 8 with
          | true => sp (.ref i :: (st.take n).reverse) S (fun r S1 => k (r.toList ++ rest) S1)
          | false => False
        | _ => False
      | _ => False
    | false => False
  | _ => False
theorem lm_cs_of {cal : lm_Ca} {idx : Nat} {st : List Value} {S : lm_S} {k : List Value → lm_S → Prop} (h : lm_cs cal idx st S k) : ∃ n sp as rest, cal.lookup idx = some (n, none, sp) ∧ st = as.reverse ++ rest ∧ as.length = n ∧ lm_cat rest ≤ 8 ∧ sp as S (fun r S1 => k (r.toList ++ rest) S1) := by
  unfold lm_cs at h
  split at h
  · rename_i n sp h1
    split at h
    · rename_i h2
      rw [Bool.and_eq_true] at h2
      refine ⟨n, sp, (st.take n).reverse, st.drop n, h1, ?_, ?_, Nat.le_of_ble_eq_true h2.2, h⟩
      · rw [List.reverse_reverse, List.take_append_drop]
      · rw [List.length_reverse, List.length_take]
        exact Nat.min_eq_left (Nat.le_of_ble_eq_true h2.1)
    · exact h.elim
  · exact h.elim
theorem lm_cv_of {Y : lm_Y} {cal : lm_Ca} {idx : Nat} {st : List Value} {S : lm_S} {k : List Value → lm_S → Prop} (h : lm_cv Y cal idx st S k) : ∃ n ci sp as i gl rest, cal.lookup idx = some (n, some ci, sp) ∧ st = as.reverse ++ Value.ref i :: rest ∧ as.length = n ∧ lm_cat rest ≤ 8 ∧ Y.2.1[i]? = some (.inr (ci, gl)) ∧ sp (.ref i :: as) S (fun r S1 => k (r.toList ++ rest) S1) := by
  unfold lm_cv at h
  split at h
  · rename_i n ci sp h1
    split at h
    · rename_i h2
      split at h
      · rename_i i rest h3
        split at h
        · rename_i cj gl h4
          split at h
          · rename_i h5
            rw [Bool.and_eq_true] at h5
            have e : ci = cj := Nat.eq_of_beq_eq_true h5.1
            subst e
            refine ⟨n, ci, sp, (st.take n).reverse, i, gl, rest, h1, ?_, ?_, Nat.le_of_ble_eq_true h5.2, h4, h⟩
            · rw [List.reverse_reverse, ← h3, List.take_append_drop]
            · rw [List.length_reverse, List.length_take]
              exact Nat.min_eq_left (Nat.le_of_ble_eq_true h2)
          · exact h.elim
        · exact h.elim
      · exact h.elim
    · exact h.elim
  · exact h.elim
/-- System.arraycopy -/
def lm_cp (Y : lm_Y) (st : List Value) (S : lm_S) (k : List Value → lm_S → Prop) : Prop :=
  lm_pi st fun n t => lm_pi t fun dp t => lm_pr t fun b t => lm_pi t fun sp t => lm_pr t fun a t => lm_ai Y a fun n0 => lm_ai Y b fun n1 =>
    match Nat.ble (lm_cat t) 8 with
    | true => (¬ sp < 0 ∧ ¬ dp < 0 ∧ ¬ n < 0 ∧ sp.toNatClampNeg + n.toNatClampNeg ≤ n0 ∧ dp.toNatClampNeg + n.toNatClampNeg ≤ n1) ∧ k t (va_up S b (va_cpy (S a) (S b) sp.toNatClampNeg dp.toNatClampNeg n.toNatClampNeg))
    | false => False
def lm_st (Y : lm_Y) (G : lm_G) (cal : lm_Ca) (post : Option Value → lm_S → Prop) (pc : Nat) (r : lm_R) (L : lm_L) (st : List Value) (S : lm_S) (k : Nat → lm_L → List Value → lm_S → Prop) : Prop :=
  match r.1 with
  | .iconst _ => k r.2.1 L (.int r.2.2.1 :: st) S
  | .bipush _ => k r.2.1 L (.int r.2.2.1 :: st) S
  | .sipush _ => k r.2.1 L (.int r.2.2.1 :: st) S
  | .iload_n j => lm_li L j.val fun x => k r.2.1 L (.int x :: st) S
  | .iload j => lm_li L j fun x => k r.2.1 L (.int x :: st) S
  | .aload_n j => lm_lr L j.val fun x => k r.2.1 L (.ref x :: st) S
  | .aload j => lm_lr L j fun x => k r.2.1 L (.ref x :: st) S
  | .istore_n j => lm_pi st fun x t => k r.2.1 (lm_up L j.val (.int x)) t S
  | .istore j => lm_pi st fun x t => k r.2.1 (lm_up L j (.int x)) t S
  | .astore_n j => lm_pr st fun x t => k r.2.1 (lm_up L j.val (.ref x)) t S
  | .astore j => lm_pr st fun x t => k r.2.1 (lm_up L j (.ref x)) t S
  | .iinc j _ => lm_li L j fun x => k r.2.1 (lm_up L j (.int (x + r.2.2.1))) st S
  | .iadd => lm_pi st fun y t => lm_pi t fun x t => k r.2.1 L (.int (x + y) :: t) S
  | .isub => lm_pi st fun y t => lm_pi t fun x t => k r.2.1 L (.int (x - y) :: t) S
  | .imul => lm_pi st fun y t => lm_pi t fun x t => k r.2.1 L (.int (x * y) :: t) S
  | .iand => lm_pi st fun y t => lm_pi t fun x t => k r.2.1 L (.int (x &&& y) :: t) S
  | .ior => lm_pi st fun y t => lm_pi t fun x t => k r.2.1 L (.int (x ||| y) :: t) S
  | .ixor => lm_pi st fun y t => lm_pi t fun x t => k r.2.1 L (.int (x ^^^ y) :: t) S
  | .ishl => lm_pi st fun y t => lm_pi t fun x t => k r.2.1 L (.int (x <<< (y &&& 31)) :: t) S
  | .ishr => lm_pi st fun y t => lm_pi t fun x t => k r.2.1 L (.int (x >>> (y &&& 31)) :: t) S
  | .idiv => lm_pi st fun y t => lm_pi t fun x t => (¬ y = 0) ∧ k r.2.1 L (.int (x / y) :: t) S
  | .irem => lm_pi st fun y t => lm_pi t fun x t => (¬ y = 0) ∧ k r.2.1 L (.int (x - x / y * y) :: t) S
  | .dup => lm_pv st fun a t => k r.2.1 L (a :: a :: t) S
  | .pop => lm_pv st fun _ t => k r.2.1 L t S
  | .dup2 => lm_pv st fun a t => lm_pv t fun b t => k r.2.1 L (a :: b :: a :: b :: t) S
  | .dup_x1 => lm_pv st fun a t => lm_pv t fun b t => k r.2.1 L (a :: b :: a :: t) S
  | .dup_x2 => lm_pv st fun a t => lm_pv t fun b t => lm_pv t fun d t => k r.2.1 L (a :: b :: d :: a :: t) S
  | .ifCond c _ => lm_pi st fun x t => match c with
    | .eq => (x = 0 → k r.2.2.2 L t S) ∧ (¬ x = 0 → k r.2.1 L t S)
    | .ne => (¬ x = 0 → k r.2.2.2 L t S) ∧ (x = 0 → k r.2.1 L t S)
    | .lt => (x < 0 → k r.2.2.2 L t S) ∧ (¬ x < 0 → k r.2.1 L t S)
    | .ge => (0 ≤ x → k r.2.2.2 L t S) ∧ (¬ 0 ≤ x → k r.2.1 L t S)
    | .gt => (0 < x → k r.2.2.2 L t S) ∧ (¬ 0 < x → k r.2.1 L t S)
    | .le => (x ≤ 0 → k r.2.2.2 L t S) ∧ (¬ x ≤ 0 → k r.2.1 L t S)
  | .if_icmp c _ => lm_pi st fun y t => lm_pi t fun x t => match c with
    | .eq => (x = y → k r.2.2.2 L t S) ∧ (¬ x = y → k r.2.1 L t S)
    | .ne => (¬ x = y → k r.2.2.2 L t S) ∧ (x = y → k r.2.1 L t S)
    | .lt => (x < y → k r.2.2.2 L t S) ∧ (¬ x < y → k r.2.1 L t S)
    | .ge => (y ≤ x → k r.2.2.2 L t S) ∧ (¬ y ≤ x → k r.2.1 L t S)
    | .gt => (y < x → k r.2.2.2 L t S) ∧ (¬ y < x → k r.2.1 L t S)
    | .le => (x ≤ y → k r.2.2.2 L t S) ∧ (¬ x ≤ y → k r.2.1 L t S)
  | .goto _ => k r.2.2.2 L st S
  | .tableswitch d lo _ offs => lm_pi st fun x t => lm_sw pc x d (fun p => k p L t S) lo offs.toList
  | .lookupswitch d ps => lm_pi st fun x t => lm_lw pc x d (fun p => k p L t S) ps.toList
  | .getfield i => lm_pr st fun a t => lm_fd Y G.2.1 a i fun f o => match o with
    | none => k r.2.1 L (.int (S a f) :: t) S
    | some b => k r.2.1 L (.ref b :: t) S
  | .putfield i => lm_pi st fun x t => lm_pr t fun a t => lm_fd Y G.2.1 a i fun f o => match o with
    | none => k r.2.1 L t (lm_set S a f x)
    | some _ => False
  | .getstatic i => match G.2.2.1.lookup i with
    | some j => k r.2.1 L (.ref (1000 + j) :: st) S
    | none => False
  | .arraylength => lm_pr st fun a t => match Nat.beq a 999 with
    | true => match G.2.2.2.2.2 with
      | some (n, _) => k r.2.1 L (.int (Int32.ofNat n) :: t) S
      | none => False
    | false => False
  | .iaload => lm_pi st fun j t => lm_pr t fun a t => lm_ld Y G.2.2.2.2.2 S a j fun x => k r.2.1 L (.int x :: t) S
  | .baload => lm_pi st fun j t => lm_pr t fun a t => lm_az Y a fun n => vp_in j n ∧ k r.2.1 L (.int (S a j.toNatClampNeg) :: t) S
  | .iastore => lm_pi st fun x t => lm_pi t fun j t => lm_pr t fun a t => lm_ai Y a fun n => vp_in j n ∧ k r.2.1 L t (lm_set S a j.toNatClampNeg x)
  | .bastore => lm_pi st fun x t => lm_pi t fun j t => lm_pr t fun a t => lm_az Y a fun n => vp_in j n ∧ k r.2.1 L t (lm_set S a j.toNatClampNeg (x &&& 1))
  | .invokestatic i => match Nat.beq i G.2.2.2.1 with
    | true => lm_cp Y st S (fun t S1 => k r.2.1 L t S1)
    | false => lm_cs cal i st S (fun t S1 => k r.2.1 L t S1)
  | .invokevirtual i => lm_cv Y cal i st S (fun t S1 => k r.2.1 L t S1)
  | .ireturn => lm_pi st fun x t => match t with
    | [] => match G.2.2.2.2.1 with
      | 1 => post (some (.int x)) S
      | 2 => x &&& 1 = x ∧ post (some (.int x)) S
      | _ => False
    | _ => False
  | .return_ => match st with
    | [] => match G.2.2.2.2.1 with
      | 0 => post none S
      | _ => False
    | _ => False
  | _ => False
def lm_len (i : Instr) : Nat := match i with
  | .bipush _ => 2
  | .iload _ => 2
  | .istore _ => 2
  | .aload _ => 2
  | .astore _ => 2
  | .sipush _ => 3
  | .iinc _ _ => 3
  | .ifCond _ _ => 3
  | .if_icmp _ _ => 3
  | .goto _ => 3
  | .getfield _ => 3
  | .putfield _ => 3
  | .getstatic _ => 3
  | .invokestatic _ => 3
  | .invokevirtual _ => 3
  | _ => 1
/-- a row of the table says what the bytes say -/
def lm_ck (b : ByteArray) (nL pc : Nat) (r : lm_R) : Bool :=
  match r.1 with
  | .tableswitch d lo hi offs => (match decode b pc with
    | .ok x => decide (x.1 = r.1)
    | _ => false) && decide ((offs.size : Int) = hi - lo + 1) && decide (0 ≤ (pc : Int) + d) && offs.toList.all (fun o => decide (0 ≤ (pc : Int) + o))
  | .lookupswitch d ps => (match decode b pc with
    | .ok x => decide (x.1 = r.1)
    | _ => false) && decide (0 ≤ (pc : Int) + d) && ps.toList.all (fun o => decide (0 ≤ (pc : Int) + o.2)) && (ps.toList.zip (ps.toList.drop 1)).all (fun (a, next) => decide (a.1 < next.1))
  | i => (match decode b pc with
    | .ok x => decide (x = (i, lm_len i))
    | _ => false) && decide (r.2.1 = pc + lm_len i) && (match i with
    | .iconst n => decide (Int32.ofInt n = r.2.2.1)
    | .bipush n => decide ((Int8.ofInt n).toInt32 = r.2.2.1)
    | .sipush n => decide ((Int16.ofInt n).toInt32 = r.2.2.1)
    | .iinc j n => decide (Int32.ofInt n = r.2.2.1) && decide (j < nL)
    | .ifCond _ o => decide ((pc : Int) + o = (r.2.2.2 : Int))
    | .if_icmp _ o => decide ((pc : Int) + o = (r.2.2.2 : Int))
    | .goto o => decide ((pc : Int) + o = (r.2.2.2 : Int))
    | .istore_n j => decide (j.val < nL)
    | .astore_n j => decide (j.val < nL)
    | .istore j => decide (j < nL)
    | .astore j => decide (j < nL)
    | .invokestatic j => decide (0 < j)
    | _ => true)
/-- L1's values are among L's -/
def lm_sub (L1 L : lm_L) : Prop := ∀ q ∈ L1, L.lookup q.1 = some q.2
/-- the same where the cells are -/
def lm_eq (Y : lm_Y) (S1 S : lm_S) : Prop := (∀ (i : Nat) (ty : FieldType) (n : Nat), Y.2.1[i]? = some (.inl (ty, n)) → ∀ k, k < n → S1 i k = S i k) ∧ ∀ (i ci : Nat) (gl : List (Option Nat)), Y.2.1[i]? = some (.inr (ci, gl)) → ∀ k : Nat, gl[k]? = some none → S1 i k = S i k
theorem lm_P_eq {Y : lm_Y} {D : va_G} {ad : Nat → Nat} {cA : Nat → ClassId} {S1 S : lm_S} {H : Heap} (he : lm_eq Y S1 S) (hP : va_P D Y.1 (lm_W Y.2.1 ad cA S) H) : va_P D Y.1 (lm_W Y.2.1 ad cA S1) H := by
  intro k q hk
  have hk0 := hk
  simp only [lm_W, List.getElem?_mapIdx] at hk
  cases hs : Y.2.1[k]? with
  | none => rw [hs] at hk; cases hk
  | some c =>
    rw [lm_get hs] at hk0
    have hq := Option.some.inj hk0
    subst hq
    have h0 := hP k _ (lm_get (ad := ad) (cA := cA) (S := S) hs)
    cases c with
    | inl a =>
      obtain ⟨ty, n⟩ := a
      have h1 : H[ad k]? = some (vp_cell (cA k) (n, .inl (S k))) := h0
      show H[ad k]? = some (vp_cell (cA k) (n, .inl (S1 k)))
      rw [h1]
      have e : ∀ j : Fin n, S k j.val = S1 k j.val := fun j => (he.1 k ty n hs j.val j.isLt).symm
      simp only [vp_cell, arrV, e]
    | inr o =>
      obtain ⟨ci, gl⟩ := o
      have e : gl.mapIdx (fun j r => lm_v ad (S1 k j) r) = gl.mapIdx (fun j r => lm_v ad (S k j) r) := by
        apply List.ext_getElem?
        intro j
        rw [List.getElem?_mapIdx, List.getElem?_mapIdx]
        cases hj : gl[j]? with
        | none => rfl
        | some r =>
          cases r with
          | none => simp only [Option.map_some, lm_v, he.2 k ci gl hs j hj]
          | some b => rfl
      have h1 : va_at D Y.1 (ad k, .inr (ci, gl.mapIdx (fun j r => lm_v ad (S k j) r))) H := h0
      show va_at D Y.1 (ad k, .inr (ci, gl.mapIdx (fun j r => lm_v ad (S1 k j) r))) H
      rw [e]
      exact h1
/-- closed under the machine -/
def lm_Cl (Y : lm_Y) (G : lm_G) (cal : lm_Ca) (post : Option Value → lm_S → Prop) (Z : Nat → lm_L → List Value → lm_S → Prop) : Prop :=
  (∀ (pc : Nat) (r : lm_R), G.1.lookup pc = some r → ∀ (L : lm_L) (st : List Value) (S : lm_S) (k : Nat → lm_L → List Value → lm_S → Prop), (∀ pc L st S, k pc L st S → Z pc L st S) → lm_st Y G cal post pc r L st S k → Z pc L st S) ∧ ∀ pc L1 L st S1 S, lm_sub L1 L → lm_eq Y S1 S → Z pc L1 st S1 → Z pc L st S
def lm_Go (Y : lm_Y) (G : lm_G) (cal : lm_Ca) (post : Option Value → lm_S → Prop) (pc : Nat) (L : lm_L) (st : List Value) (S : lm_S) : Prop := ∀ Z, lm_Cl Y G cal post Z → Z pc L st S
/-- n steps, up to the cuts -/
def lm_wp (Y : lm_Y) (G : lm_G) (cal : lm_Ca) (post : Option Value → lm_S → Prop) (cut : Nat → Bool) (K : Nat → lm_L → List Value → lm_S → Prop) : Nat → Nat → lm_L → List Value → lm_S → Prop
  | 0, _, _, _, _ => False
  | n + 1, pc, L, st, S => match G.1.lookup pc with
    | some r => lm_st Y G cal post pc r L st S (fun pc1 L1 st1 S1 => match cut pc1 with
      | true => K pc1 L1 st1 S1
      | false => lm_wp Y G cal post cut K n pc1 L1 st1 S1)
    | none => False
theorem lm_wp_go {Y : lm_Y} {G : lm_G} {cal : lm_Ca} {post : Option Value → lm_S → Prop} {cut : Nat → Bool} {K : Nat → lm_L → List Value → lm_S → Prop} (hK : ∀ pc L st S, cut pc = true → K pc L st S → lm_Go Y G cal post pc L st S) : ∀ (n pc : Nat) (L : lm_L) (st : List Value) (S : lm_S), lm_wp Y G cal post cut K n pc L st S → lm_Go Y G cal post pc L st S
  | 0, _, _, _, _, h => h.elim
  | n + 1, pc, L, st, S, h => by
    intro Z hZ
    unfold lm_wp at h
    split at h
    · rename_i r hr
      refine hZ.1 pc r hr L st S _ (fun pc1 L1 st1 S1 h1 => ?_) h
      split at h1
      · rename_i hc
        exact hK pc1 L1 st1 S1 hc h1 Z hZ
      · exact lm_wp_go hK n pc1 L1 st1 S1 h1 Z hZ
    · exact h.elim
theorem lm_Go.sub {Y : lm_Y} {G : lm_G} {cal : lm_Ca} {post : Option Value → lm_S → Prop} {pc : Nat} {L1 L : lm_L} {st : List Value} {S : lm_S} (h : lm_Go Y G cal post pc L1 st S) (hs : lm_sub L1 L) : lm_Go Y G cal post pc L st S :=
  fun Z hZ => hZ.2 pc L1 L st S S hs ⟨fun _ _ _ _ _ _ => rfl, fun _ _ _ _ _ _ => rfl⟩ (h Z hZ)
theorem lm_Go.to {Y : lm_Y} {G : lm_G} {cal : lm_Ca} {post : Option Value → lm_S → Prop} {pc : Nat} {L1 L : lm_L} {st : List Value} {S1 S : lm_S} (h : lm_Go Y G cal post pc L1 st S1) (hs : lm_sub L1 L) (he : lm_eq Y S1 S) : lm_Go Y G cal post pc L st S :=
  fun Z hZ => hZ.2 pc L1 L st S1 S hs he (h Z hZ)
/-- a walk without loops -/
theorem lm_run {Y : lm_Y} {G : lm_G} {cal : lm_Ca} {post : Option Value → lm_S → Prop} (n : Nat) {pc : Nat} {L : lm_L} {st : List Value} {S : lm_S} (h : lm_wp Y G cal post (fun _ => false) (fun _ _ _ _ => False) n pc L st S) : lm_Go Y G cal post pc L st S :=
  lm_wp_go (fun _ _ _ _ h _ => by cases h) n pc L st S h
/-- a walk up to the head of a loop -/
theorem lm_to {Y : lm_Y} {G : lm_G} {cal : lm_Ca} {post : Option Value → lm_S → Prop} (pc0 n : Nat) {pc : Nat} {L : lm_L} {st : List Value} {S : lm_S} (h : lm_wp Y G cal post (fun q => Nat.beq q pc0) (fun _ L st S => lm_Go Y G cal post pc0 L st S) n pc L st S) : lm_Go Y G cal post pc L st S := by
  refine lm_wp_go (fun q L st S hq hk => ?_) n pc L st S h
  have e : q = pc0 := Nat.eq_of_beq_eq_true hq
  subst e
  exact hk
/-- a loop: I by a measure; the body comes back to the head with less, or ends -/
theorem lm_loop {Y : lm_Y} {G : lm_G} {cal : lm_Ca} {post : Option Value → lm_S → Prop} (pc0 n : Nat) (I : Nat → lm_L → lm_S → Prop)
    (hs : ∀ k L S, I k L S → lm_wp Y G cal post (fun q => Nat.beq q pc0) (fun _ L1 st1 S1 => st1 = [] ∧ ∃ k1 L2 S2, k1 < k ∧ lm_sub L2 L1 ∧ lm_eq Y S2 S1 ∧ I k1 L2 S2) n pc0 L [] S) : ∀ k L S, I k L S → lm_Go Y G cal post pc0 L [] S := by
  intro k
  induction k using Nat.strongRecOn with
  | _ k ih =>
    intro L S h
    refine lm_wp_go (fun q L1 st1 S1 hq hk => ?_) n pc0 L [] S (hs k L S h)
    have e : q = pc0 := Nat.eq_of_beq_eq_true hq
    subst e
    obtain ⟨rfl, k1, L2, S2, hlt, hsub, he, hI⟩ := hk
    exact (ih k1 hlt L2 S2 hI).to hsub he
end
section
/-! the light machine is the machine -/
def lm_LW (p : Program) (l : Launch) (e : Env) (R : Room) (s : State) (m : MethodId) (args : Array Value) (below : List Frame) (meth : Method) (c : Code) (Y : lm_Y) (X : lm_X) (nL : Nat) (Q : State → Prop) (pc : Nat) (L : lm_L) (st : List Value) (S : lm_S) : Prop :=
  ∀ (H : Heap) (locs : List Loc) (ls : Array Slot), va_P X.1 Y.1 (lm_W Y.2.1 X.2.2.1 X.2.2.2 S) H → va_S (lm_A Y.2.1.length X.2.2.1 s.heap.size) s.heap H locs → lv_has ls nL (L.map (fun q => (q.1, lm_t X.2.2.1 q.2))) → W p l e R s m args below meth c H locs 0 0 Q (F0 m pc ls (st.map (lm_t X.2.2.1)))
def lm_Cx (p : Program) (s : State) (m : MethodId) (args : Array Value) (c : Code) (Y : lm_Y) (X : lm_X) (nL : Nat) (cc : ByteArray) (own : String) : Prop :=
  p.tables.exec = Jvm.exec ∧ c.code = cc ∧ c.maxLocals = nL ∧ s.vm.findClass own = some m.cls ∧ (∀ w ∈ Y.2.2.2.2, w.before args s = true) ∧ va_K X.1 Y.1 X.2.1 s ∧ (∀ w ∈ Y.2.2.2.1, va_Nw w s) ∧ lm_Z Y.2.2.1 X.2.2.1 (lm_A Y.2.1.length X.2.2.1 s.heap.size) s s.heap ∧ lm_ok Y X
/-- the fields' pool numbers -/
def lm_fok (Y : lm_Y) (own : String) (fl : List (Nat × Nat × Nat)) : Prop := ∀ idx ci k, fl.lookup idx = some (ci, k) → ∃ (C : String) (T : u_T) (N : Nat), Y.1[ci]? = some (C, T, N) ∧ k < N ∧ (T k).1 = C ∧ (Cond.fieldLink own idx C (T k).2.1 (T k).2.2.1 ∈ Y.2.2.2.2 ∨ ∃ host, Cond.fieldLinkNest own idx C (T k).2.1 (T k).2.2.1 host ∈ Y.2.2.2.1)
/-- the static tables' pool numbers -/
def lm_sok (Y : lm_Y) (own : String) (sl : List (Nat × Nat)) : Prop := ∀ idx j, sl.lookup idx = some j → ∃ (C n : String) (vs : List Int32), Y.2.2.1[j]? = some (C, n, vs) ∧ (Cond.fieldLink own idx C n "[I" ∈ Y.2.2.2.2 ∨ ∃ host, Cond.fieldLinkNest own idx C n "[I" host ∈ Y.2.2.2.1)
/-- the calls' pool numbers -/
def lm_cok (l : Launch) (Y : lm_Y) (own : String) (fr lo : Nat) (cal : lm_Ca) : Prop := ∀ idx n vi sp, cal.lookup idx = some (n, vi, sp) → ∃ (y : MethodName) (b : ByteArray) (mL : Nat) (rt : Option FieldType) (f1 lo1 : Nat), lm_I l Y y b mL rt f1 lo1 sp ∧ (f1 + 1 ≤ fr ∧ 8 + (mL + 11) + lo1 ≤ lo) ∧ Cond.code y b mL rt ∈ Y.2.2.2.2 ∧ Cond.initialized y.cls ∈ Y.2.2.2.2 ∧ (y.cls ≠ "java/lang/invoke/MethodHandle" ∧ y.cls ≠ "java/lang/invoke/VarHandle" ∧ (parseMethodDescriptor y.desc).map (fun d => d.parameters.length) = some n) ∧
  (Cond.methodLink own idx y ∈ Y.2.2.2.2 ∨ ∃ host, Cond.methodLinkNest own idx y host ∈ Y.2.2.2.1) ∧ ((vi = none ∧ Cond.static y ∈ Y.2.2.2.2) ∨ ∃ ci T N, vi = some ci ∧ Y.1[ci]? = some (y.cls, T, N) ∧ Cond.instanceMethod y ∈ Y.2.2.2.2 ∧ Cond.selects y.cls y y ∈ Y.2.2.2.2)
/-- arraycopy's pool number -/
def lm_pok (Y : lm_Y) (own : String) (fr lo idx : Nat) : Prop := idx = 0 ∨ (1 ≤ fr ∧ 26 ≤ lo ∧ Cond.methodLink own idx arraycopyName ∈ Y.2.2.2.2 ∧ Cond.native arraycopyName ∈ Y.2.2.2.2 ∧ Cond.static arraycopyName ∈ Y.2.2.2.2 ∧ Cond.initialized "java/lang/System" ∈ Y.2.2.2.2)
theorem lm_ckN {b : ByteArray} {pc nx : Nat} {i : Instr} {q : Bool} (h : ((match decode b pc with
    | .ok x => decide (x = (i, lm_len i))
    | _ => false) && decide (nx = pc + lm_len i) && q) = true) : decode b pc = .ok (i, lm_len i) ∧ nx = pc + lm_len i ∧ q = true := by
  rw [Bool.and_eq_true, Bool.and_eq_true] at h
  obtain ⟨⟨h1, h2⟩, h3⟩ := h
  refine ⟨?_, of_decide_eq_true h2, h3⟩
  split at h1
  · rename_i x hx
    rw [hx, of_decide_eq_true h1]
  · cases h1
theorem lm_ckS {b : ByteArray} {pc : Nat} {i : Instr} (h : (match decode b pc with
    | .ok x => decide (x.1 = i)
    | _ => false) = true) : ∃ n, decode b pc = .ok (i, n) := by
  split at h
  · rename_i x hx
    exact ⟨x.2, by rw [hx, ← of_decide_eq_true h]⟩
  · cases h
theorem lm_sw_of {pc : Nat} {x : Int32} {d : Int} {k : Nat → Prop} : ∀ {os : List Int} {lo : Int}, lm_sw pc x d k lo os → (∃ (j : Nat) (o : Int), os[j]? = some o ∧ x.toInt = lo + j ∧ k ((pc : Int) + o).toNat) ∨ ((x.toInt < lo ∨ lo + os.length ≤ x.toInt) ∧ k ((pc : Int) + d).toNat)
  | [], lo, h => Or.inr ⟨by simp only [List.length_nil]; omega, h⟩
  | o :: os, lo, h => by
    by_cases hx : x.toInt = lo
    · exact Or.inl ⟨0, o, rfl, by omega, h.1 hx⟩
    · rcases lm_sw_of (h.2 hx) with ⟨j, o1, h1, h2, h3⟩ | ⟨h1, h2⟩
      · exact Or.inl ⟨j + 1, o1, h1, by omega, h3⟩
      · exact Or.inr ⟨by simp only [List.length_cons]; omega, h2⟩
theorem lm_lw_of {pc : Nat} {x : Int32} {d : Int} {k : Nat → Prop} (hd : 0 ≤ (pc : Int) + d) : ∀ {l : List (Int × Int)}, (∀ q ∈ l, 0 ≤ (pc : Int) + q.2) → lm_lw pc x d k l → ∃ t : Nat, (pc : Int) + Op.lookupswitch.offset l d x.toInt = (t : Int) ∧ k t
  | [], _, h => ⟨((pc : Int) + d).toNat, by rw [Op.lookupswitch.offset_nil]; omega, h⟩
  | (a, o) :: r, hn, h => by
    by_cases hx : x.toInt = a
    · have h0 := hn (a, o) List.mem_cons_self
      exact ⟨((pc : Int) + o).toNat, by rw [Op.lookupswitch.offset_cons, if_pos hx.symm]; simp only at h0; omega, h.1 hx⟩
    · obtain ⟨t, h1, h2⟩ := lm_lw_of hd (fun q hq => hn q (List.mem_cons_of_mem _ hq)) (h.2 hx)
      exact ⟨t, by rw [Op.lookupswitch.offset_cons, if_neg (fun q => hx q.symm)]; exact h1, h2⟩
theorem lm_upmap (ad : Nat → Nat) (L : lm_L) (i : Nat) (v : Value) : (i, lm_t ad v) :: (L.map (fun q => (q.1, lm_t ad q.2))).filter (fun q => !(q.1 == i) && !(q.1 + 1 == i && q.2.category == 2)) = (lm_up L i v).map (fun q => (q.1, lm_t ad q.2)) := by
  simp only [lm_up, List.map_cons, List.filter_map, Function.comp_def, lm_tcat]
theorem lm_cat_map (ad : Nat → Nat) (st : List Value) : ((st.map (lm_t ad)).map fun v => v.category).sum = lm_cat st := by
  simp only [lm_cat, List.map_map, Function.comp_def, lm_tcat]
section LMS
variable {p : Program} {l : Launch} {e : Env} {R : Room} {s : State} {m : MethodId} {args : Array Value} {below : List Frame} {meth : Method} {c : Code} {Q : State → Prop} {Y : lm_Y} {X : lm_X} {nL : Nat} {cc : ByteArray} {own : String} {pc : Nat}
/-- behind a call -/
theorem lm_after {H : Heap} {locs : List Loc} {ls : Array Slot} {st0 rest : List Value} {a : Array Value} {post : Option Value → lm_S → Prop} (hr : va_Run p l e R s m args below meth c H locs 0 0 0 0 (F0 m pc ls st0) rest (lm_Qc Y X H.size post a) (lm_A Y.2.1.length X.2.2.1 H.size)) (hS : va_S (lm_A Y.2.1.length X.2.2.1 s.heap.size) s.heap H locs)
    (kk : ∀ (r : Option Value) (S1 : lm_S) (H1 : Heap) (locs1 : List Loc), post r S1 → va_P X.1 Y.1 (lm_W Y.2.1 X.2.2.1 X.2.2.2 S1) H1 → va_S (lm_A Y.2.1.length X.2.2.1 s.heap.size) s.heap H1 locs1 → W p l e R s m args below meth c H1 locs1 0 0 Q (F0 m (pc + 3) ls ((r.map (lm_t X.2.2.1)).toList ++ rest))) : W p l e R s m args below meth c H locs 0 0 Q (F0 m pc ls st0) := by
  intro T hT Xs
  obtain ⟨v, st0, t, T1, Ll, h0, X1, hL, e1, e2, ⟨r, S1, hv, hp, hP1, hz, hkp⟩, st⟩ := hr T hT Xs
  cases hv
  rw [h0] at hz hkp
  obtain ⟨t2, a1, b1⟩ := kk r S1 T1.heap (locs ++ Ll) hp (by rw [e1]; exact hP1)
    ⟨Nat.le_trans hS.1 (by rw [e1]; exact hz), fun q h1 h2 => by rw [e1, hkp q (Nat.lt_of_lt_of_le h1 hS.1) (fun z => h2 (lm_A_le hS.1 q z))]; exact hS.2.1 q h1 h2, fun q hq => by
      rcases List.mem_append.mp hq with h | h
      · exact hS.2.2 q h
      · exact lm_A_le hS.1 _ (hL q h)⟩ T1 rfl X1
  exact ⟨t2, st t2 a1, b1⟩
theorem lm_good (hY : lm_Yok Y) {w : Cond} (h : w ∈ Y.2.2.2.2) : GoodIn Y.2.2.2.2 (w :: Y.2.2.2.2) := by
  intro x hx
  have hx2 : x ∈ Y.2.2.2.2 := by
    rcases List.mem_cons.mp hx with h1 | h1
    · rw [h1]; exact h
    · exact h1
  exact ⟨hx2, good_of_word (hY.1 x hx2)⟩
theorem lm_blind (hY : lm_Yok Y) {av : List Value} {sz : Nat} {S : lm_S} : FrameBlind (va_Pc av (lm_B Y X sz S)) := by
  intro a U g mk q
  obtain ⟨q0, q1, q2, q3, q4, q5⟩ := q
  exact ⟨q0, q1, q2, va_K.moved (u := U) (U := U.calling g mk a) (Vm.Alike.refl U.vm) q3, lm_nw_same hY (s := U) (U := U.calling g mk a) rfl q4, fun j C n vs hj => ⟨(q5 j C n vs hj).1.moved (U := U.calling g mk a) (Vm.Alike.refl U.vm), (q5 j C n vs hj).2.moved (U := U.calling g mk a) (Vm.Alike.refl U.vm)⟩⟩
theorem lm_pre (hY : lm_Yok Y) (C : lm_Cx p s m args c Y X nL cc own) {H : Heap} {locs : List Loc} {S : lm_S} (hP : va_P X.1 Y.1 (lm_W Y.2.1 X.2.2.1 X.2.2.2 S) H) (hS : va_S (lm_A Y.2.1.length X.2.2.1 s.heap.size) s.heap H locs) (av : List Value) :
    PreS s H (va_Pc av (lm_B Y X H.size S)) av := by
  obtain ⟨hx, hb, hml, hown, hts, hK, hN, hZ, hok⟩ := C
  exact ⟨lm_blind hY, fun U hU hW => ⟨rfl, by rw [hU], by rw [hU]; exact hP, va_K.moved hW.alike hK, lm_nw_warm hY hW hN, by rw [hU]; exact lm_Z_to hZ hW.alike hS.2.1 (lm_A_le hS.1)⟩⟩
set_option maxHeartbeats 4000000 in
theorem lm_closed {G : lm_G} {cal : lm_Ca} {post : Option Value → lm_S → Prop} (hY : lm_Yok Y) (C : lm_Cx p s m args c Y X nL cc own) (hcode : ∀ pc r, G.1.lookup pc = some r → lm_ck cc nL pc r = true) (hfok : lm_fok Y own G.2.1) (hsok : lm_sok Y own G.2.2.1) (hpok : lm_pok Y own R.frames R.locals G.2.2.2.1) (hcok : lm_cok l Y own R.frames R.locals cal)
    (hscr : ∀ n xs, G.2.2.2.2.2 = some (n, xs) → va_X (X.2.2.1 999) n xs s s.heap ∧ X.2.2.1 999 < s.heap.size ∧ ¬ lm_A Y.2.1.length X.2.2.1 s.heap.size (X.2.2.1 999))
    (hri : ∀ pc L x S, decode cc pc = .ok (.ireturn, 1) → (G.2.2.2.2.1 = 1 ∨ (G.2.2.2.2.1 = 2 ∧ x &&& 1 = x)) → post (some (.int x)) S → lm_LW p l e R s m args below meth c Y X nL Q pc L [.int x] S)
    (hrv : ∀ pc L S, decode cc pc = .ok (.return_, 1) → G.2.2.2.2.1 = 0 → post none S → lm_LW p l e R s m args below meth c Y X nL Q pc L [] S) :
    lm_Cl Y G cal post (lm_LW p l e R s m args below meth c Y X nL Q) := by
  refine ⟨fun pc r hr L st S k hk h => ?_, fun pc L1 L st S1 S hs he hz => ?_⟩
  · have hck := hcode pc r hr
    have hC := C
    obtain ⟨i, nx, a, tg⟩ := r
    intro H locs ls hP hS hl
    obtain ⟨hx, hb, hml, hown, hts, hK, hN, hZ, hok⟩ := C
    have hD := lm_Dof (sz := s.heap.size) (S := S) hok
    have hat : ∀ {j : Nat} {v : Value}, (j, v) ∈ L → ls[j]? = some (.val (lm_t X.2.2.1 v)) := fun {j v} hj => hl.2.2 (j, lm_t X.2.2.1 v) (List.mem_map.mpr ⟨(j, v), hj, rfl⟩)
    cases i with
    | iconst n =>
      obtain ⟨hd, rfl, hc⟩ := lm_ckN (i := .iconst n) hck
      exact lv_iconst hx hb hd (of_decide_eq_true hc) (hk _ _ _ _ h H locs ls hP hS hl)
    | bipush n =>
      obtain ⟨hd, rfl, hc⟩ := lm_ckN (i := .bipush n) hck
      exact lv_bipush hx hb hd (of_decide_eq_true hc) (hk _ _ _ _ h H locs ls hP hS hl)
    | sipush n =>
      obtain ⟨hd, rfl, hc⟩ := lm_ckN (i := .sipush n) hck
      exact lv_sipush hx hb hd (of_decide_eq_true hc) (hk _ _ _ _ h H locs ls hP hS hl)
    | iload_n j =>
      obtain ⟨hd, rfl, -⟩ := lm_ckN (i := .iload_n j) hck
      replace h := lm_li_of h
      obtain ⟨x, hm, h⟩ := h
      exact lv_iload_n hx hb hd rfl (hat hm) (hk _ _ _ _ h H locs ls hP hS hl)
    | iload j =>
      obtain ⟨hd, rfl, -⟩ := lm_ckN (i := .iload j) hck
      replace h := lm_li_of h
      obtain ⟨x, hm, h⟩ := h
      exact lv_iload hx hb hd (hat hm) (hk _ _ _ _ h H locs ls hP hS hl)
    | aload_n j =>
      obtain ⟨hd, rfl, -⟩ := lm_ckN (i := .aload_n j) hck
      replace h := lm_lr_of h
      obtain ⟨x, hm, h⟩ := h
      exact lv_aload_n hx hb hd rfl (hat hm) (hk _ _ _ _ h H locs ls hP hS hl)
    | aload j =>
      obtain ⟨hd, rfl, -⟩ := lm_ckN (i := .aload j) hck
      replace h := lm_lr_of h
      obtain ⟨x, hm, h⟩ := h
      exact lv_aload hx hb hd (hat hm) (hk _ _ _ _ h H locs ls hP hS hl)
    | istore_n j =>
      obtain ⟨hd, rfl, hc⟩ := lm_ckN (i := .istore_n j) hck
      replace h := lm_pi_of h
      obtain ⟨x, t, rfl, h⟩ := h
      exact lv_istore_n hx hb hd rfl hl (of_decide_eq_true hc) (lm_upmap X.2.2.1 L j.val (.int x)) (fun ls1 hl1 => hk _ _ _ _ h H locs ls1 hP hS hl1)
    | istore j =>
      obtain ⟨hd, rfl, hc⟩ := lm_ckN (i := .istore j) hck
      replace h := lm_pi_of h
      obtain ⟨x, t, rfl, h⟩ := h
      exact lv_istore hx hb hd hl (of_decide_eq_true hc) (lm_upmap X.2.2.1 L j (.int x)) (fun ls1 hl1 => hk _ _ _ _ h H locs ls1 hP hS hl1)
    | astore_n j =>
      obtain ⟨hd, rfl, hc⟩ := lm_ckN (i := .astore_n j) hck
      replace h := lm_pr_of h
      obtain ⟨x, t, rfl, h⟩ := h
      exact lv_astore_n hx hb hd rfl hl (of_decide_eq_true hc) (lm_upmap X.2.2.1 L j.val (.ref x)) (fun ls1 hl1 => hk _ _ _ _ h H locs ls1 hP hS hl1)
    | astore j =>
      obtain ⟨hd, rfl, hc⟩ := lm_ckN (i := .astore j) hck
      replace h := lm_pr_of h
      obtain ⟨x, t, rfl, h⟩ := h
      exact lv_astore hx hb hd hl (of_decide_eq_true hc) (lm_upmap X.2.2.1 L j (.ref x)) (fun ls1 hl1 => hk _ _ _ _ h H locs ls1 hP hS hl1)
    | iinc j n =>
      obtain ⟨hd, rfl, hc⟩ := lm_ckN (i := .iinc j n) hck
      rw [Bool.and_eq_true] at hc
      replace h := lm_li_of h
      obtain ⟨x, hm, h⟩ := h
      have hm2 : (j, Value.int x) ∈ L.map (fun q => (q.1, lm_t X.2.2.1 q.2)) := List.mem_map.mpr ⟨(j, .int x), hm, rfl⟩
      obtain ⟨kx, hkx⟩ := List.getElem?_of_mem hm2
      exact lv_iinc hx hb hd hl hkx (by rw [of_decide_eq_true hc.1]) (of_decide_eq_true hc.2) (lm_upmap X.2.2.1 L j (.int (x + a))) (fun ls1 hl1 => hk _ _ _ _ h H locs ls1 hP hS hl1)
    | iadd =>
      obtain ⟨hd, rfl, -⟩ := lm_ckN (i := .iadd) hck
      replace h := lm_pi_of h
      obtain ⟨y, t, rfl, h⟩ := h
      replace h := lm_pi_of h
      obtain ⟨x, t, rfl, h⟩ := h
      exact lv_iadd hx hb hd (hk _ _ _ _ h H locs ls hP hS hl)
    | isub =>
      obtain ⟨hd, rfl, -⟩ := lm_ckN (i := .isub) hck
      replace h := lm_pi_of h
      obtain ⟨y, t, rfl, h⟩ := h
      replace h := lm_pi_of h
      obtain ⟨x, t, rfl, h⟩ := h
      exact lv_isub hx hb hd (hk _ _ _ _ h H locs ls hP hS hl)
    | imul =>
      obtain ⟨hd, rfl, -⟩ := lm_ckN (i := .imul) hck
      replace h := lm_pi_of h
      obtain ⟨y, t, rfl, h⟩ := h
      replace h := lm_pi_of h
      obtain ⟨x, t, rfl, h⟩ := h
      exact lv_imul hx hb hd (hk _ _ _ _ h H locs ls hP hS hl)
    | iand =>
      obtain ⟨hd, rfl, -⟩ := lm_ckN (i := .iand) hck
      replace h := lm_pi_of h
      obtain ⟨y, t, rfl, h⟩ := h
      replace h := lm_pi_of h
      obtain ⟨x, t, rfl, h⟩ := h
      exact lv_iand hx hb hd (hk _ _ _ _ h H locs ls hP hS hl)
    | ior =>
      obtain ⟨hd, rfl, -⟩ := lm_ckN (i := .ior) hck
      replace h := lm_pi_of h
      obtain ⟨y, t, rfl, h⟩ := h
      replace h := lm_pi_of h
      obtain ⟨x, t, rfl, h⟩ := h
      exact lv_ior hx hb hd (hk _ _ _ _ h H locs ls hP hS hl)
    | ixor =>
      obtain ⟨hd, rfl, -⟩ := lm_ckN (i := .ixor) hck
      replace h := lm_pi_of h
      obtain ⟨y, t, rfl, h⟩ := h
      replace h := lm_pi_of h
      obtain ⟨x, t, rfl, h⟩ := h
      exact lv_ixor hx hb hd (hk _ _ _ _ h H locs ls hP hS hl)
    | ishl =>
      obtain ⟨hd, rfl, -⟩ := lm_ckN (i := .ishl) hck
      replace h := lm_pi_of h
      obtain ⟨y, t, rfl, h⟩ := h
      replace h := lm_pi_of h
      obtain ⟨x, t, rfl, h⟩ := h
      exact lv_ishl hx hb hd (hk _ _ _ _ h H locs ls hP hS hl)
    | ishr =>
      obtain ⟨hd, rfl, -⟩ := lm_ckN (i := .ishr) hck
      replace h := lm_pi_of h
      obtain ⟨y, t, rfl, h⟩ := h
      replace h := lm_pi_of h
      obtain ⟨x, t, rfl, h⟩ := h
      exact lv_ishr hx hb hd (hk _ _ _ _ h H locs ls hP hS hl)
    | idiv =>
      obtain ⟨hd, rfl, -⟩ := lm_ckN (i := .idiv) hck
      replace h := lm_pi_of h
      obtain ⟨y, t, rfl, h⟩ := h
      replace h := lm_pi_of h
      obtain ⟨x, t, rfl, h⟩ := h
      exact lv_idiv hx hb hd h.1 (hk _ _ _ _ h.2 H locs ls hP hS hl)
    | irem =>
      obtain ⟨hd, rfl, -⟩ := lm_ckN (i := .irem) hck
      replace h := lm_pi_of h
      obtain ⟨y, t, rfl, h⟩ := h
      replace h := lm_pi_of h
      obtain ⟨x, t, rfl, h⟩ := h
      exact lv_irem hx hb hd h.1 (hk _ _ _ _ h.2 H locs ls hP hS hl)
    | dup =>
      obtain ⟨hd, rfl, -⟩ := lm_ckN (i := .dup) hck
      replace h : lm_pv st (fun a t => k (pc + lm_len .dup) L (a :: a :: t) S) := h
      replace h := lm_pv_of h
      obtain ⟨x, t, rfl, hc, h⟩ := h
      exact lv_dup hx hb hd (by rw [lm_tcat]; exact hc) (hk _ _ _ _ h H locs ls hP hS hl)
    | pop =>
      obtain ⟨hd, rfl, -⟩ := lm_ckN (i := .pop) hck
      replace h : lm_pv st (fun _ t => k (pc + lm_len .pop) L t S) := h
      replace h := lm_pv_of h
      obtain ⟨x, t, rfl, hc, h⟩ := h
      exact lv_pop hx hb hd (by rw [lm_tcat]; exact hc) (hk _ _ _ _ h H locs ls hP hS hl)
    | dup2 =>
      obtain ⟨hd, rfl, -⟩ := lm_ckN (i := .dup2) hck
      replace h : lm_pv st (fun a t => lm_pv t (fun b t => k (pc + lm_len .dup2) L (a :: b :: a :: b :: t) S)) := h
      replace h := lm_pv_of h
      obtain ⟨x, t, rfl, hc, h⟩ := h
      replace h := lm_pv_of h
      obtain ⟨y, t, rfl, hc2, h⟩ := h
      exact lv_dup2_11 hx hb hd (by rw [lm_tcat]; exact hc) (by rw [lm_tcat]; exact hc2) (hk _ _ _ _ h H locs ls hP hS hl)
    | dup_x1 =>
      obtain ⟨hd, rfl, -⟩ := lm_ckN (i := .dup_x1) hck
      replace h : lm_pv st (fun a t => lm_pv t (fun b t => k (pc + lm_len .dup_x1) L (a :: b :: a :: t) S)) := h
      replace h := lm_pv_of h
      obtain ⟨x, t, rfl, hc, h⟩ := h
      replace h := lm_pv_of h
      obtain ⟨y, t, rfl, hc2, h⟩ := h
      exact lv_dup_x1 hx hb hd (by rw [lm_tcat]; exact hc) (by rw [lm_tcat]; exact hc2) (hk _ _ _ _ h H locs ls hP hS hl)
    | dup_x2 =>
      obtain ⟨hd, rfl, -⟩ := lm_ckN (i := .dup_x2) hck
      replace h : lm_pv st (fun a t => lm_pv t (fun b t => lm_pv t (fun d t => k (pc + lm_len .dup_x2) L (a :: b :: d :: a :: t) S))) := h
      replace h := lm_pv_of h
      obtain ⟨x, t, rfl, hc, h⟩ := h
      replace h := lm_pv_of h
      obtain ⟨y, t, rfl, hc2, h⟩ := h
      replace h := lm_pv_of h
      obtain ⟨z, t, rfl, hc3, h⟩ := h
      exact lv_dup_x2 hx hb hd (by rw [lm_tcat]; exact hc) (by rw [lm_tcat]; exact hc2) (by rw [lm_tcat]; exact hc3) (hk _ _ _ _ h H locs ls hP hS hl)
    | ifCond q o =>
      obtain ⟨hd, rfl, hc⟩ := lm_ckN (i := .ifCond q o) hck
      have ht : (pc : Int) + o = (tg : Int) := of_decide_eq_true hc
      replace h := lm_pi_of h
      obtain ⟨x, t, rfl, h⟩ := h
      cases q with
      | eq => exact lv_if_eq hx hb hd ht (fun z => hk _ _ _ _ (h.1 z) H locs ls hP hS hl) (fun z => hk _ _ _ _ (h.2 z) H locs ls hP hS hl)
      | ne => exact lv_if_ne hx hb hd ht (fun z => hk _ _ _ _ (h.1 z) H locs ls hP hS hl) (fun z => hk _ _ _ _ (h.2 z) H locs ls hP hS hl)
      | lt => exact lv_if_lt hx hb hd ht (fun z => hk _ _ _ _ (h.1 z) H locs ls hP hS hl) (fun z => hk _ _ _ _ (h.2 z) H locs ls hP hS hl)
      | ge => exact lv_if_ge hx hb hd ht (fun z => hk _ _ _ _ (h.1 z) H locs ls hP hS hl) (fun z => hk _ _ _ _ (h.2 z) H locs ls hP hS hl)
      | gt => exact lv_if_gt hx hb hd ht (fun z => hk _ _ _ _ (h.1 z) H locs ls hP hS hl) (fun z => hk _ _ _ _ (h.2 z) H locs ls hP hS hl)
      | le => exact lv_if_le hx hb hd ht (fun z => hk _ _ _ _ (h.1 z) H locs ls hP hS hl) (fun z => hk _ _ _ _ (h.2 z) H locs ls hP hS hl)
    | if_icmp q o =>
      obtain ⟨hd, rfl, hc⟩ := lm_ckN (i := .if_icmp q o) hck
      have ht : (pc : Int) + o = (tg : Int) := of_decide_eq_true hc
      replace h := lm_pi_of h
      obtain ⟨y, t, rfl, h⟩ := h
      replace h := lm_pi_of h
      obtain ⟨x, t, rfl, h⟩ := h
      cases q with
      | eq => exact lv_icmp_eq hx hb hd ht (fun z => hk _ _ _ _ (h.1 z) H locs ls hP hS hl) (fun z => hk _ _ _ _ (h.2 z) H locs ls hP hS hl)
      | ne => exact lv_icmp_ne hx hb hd ht (fun z => hk _ _ _ _ (h.1 z) H locs ls hP hS hl) (fun z => hk _ _ _ _ (h.2 z) H locs ls hP hS hl)
      | lt => exact lv_icmp_lt hx hb hd ht (fun z => hk _ _ _ _ (h.1 z) H locs ls hP hS hl) (fun z => hk _ _ _ _ (h.2 z) H locs ls hP hS hl)
      | ge => exact lv_icmp_ge hx hb hd ht (fun z => hk _ _ _ _ (h.1 z) H locs ls hP hS hl) (fun z => hk _ _ _ _ (h.2 z) H locs ls hP hS hl)
      | gt => exact lv_icmp_gt hx hb hd ht (fun z => hk _ _ _ _ (h.1 z) H locs ls hP hS hl) (fun z => hk _ _ _ _ (h.2 z) H locs ls hP hS hl)
      | le => exact lv_icmp_le hx hb hd ht (fun z => hk _ _ _ _ (h.1 z) H locs ls hP hS hl) (fun z => hk _ _ _ _ (h.2 z) H locs ls hP hS hl)
    | goto o =>
      obtain ⟨hd, rfl, hc⟩ := lm_ckN (i := .goto o) hck
      exact lv_goto hx hb hd (of_decide_eq_true hc) (hk _ _ _ _ h H locs ls hP hS hl)
    | tableswitch d lo hi offs =>
      have hq : ((match decode cc pc with
        | .ok x => decide (x.1 = Instr.tableswitch d lo hi offs)
        | _ => false) && decide ((offs.size : Int) = hi - lo + 1) && decide (0 ≤ (pc : Int) + d) && offs.toList.all (fun o => decide (0 ≤ (pc : Int) + o))) = true := hck
      rw [Bool.and_eq_true, Bool.and_eq_true, Bool.and_eq_true] at hq
      obtain ⟨⟨⟨h1, h2⟩, h3⟩, h4⟩ := hq
      obtain ⟨n, hd⟩ := lm_ckS h1
      have h2 := of_decide_eq_true h2
      have h3 := of_decide_eq_true h3
      replace h := lm_pi_of h
      obtain ⟨x, t, rfl, h⟩ := h
      replace h := lm_sw_of h
      rcases h with ⟨j, o, g1, g2, g3⟩ | ⟨g1, g2⟩
      · have g4 : j < offs.size := by
          have := (List.getElem?_eq_some_iff.mp g1).1
          simpa using this
        have g5 := of_decide_eq_true (List.all_eq_true.mp h4 o (List.mem_of_getElem? g1))
        exact lv_tableIn hx hb hd (by omega) (by omega) (off := o) (by rw [show (x.toInt - lo).toNat = j by omega, ← Array.getElem?_toList]; exact g1) (tgt := ((pc : Int) + o).toNat) (by omega) (hk _ _ _ _ g3 H locs ls hP hS hl)
      · exact lv_tableOut hx hb hd (by rw [Array.length_toList] at g1; omega) (tgt := ((pc : Int) + d).toNat) (by omega) (hk _ _ _ _ g2 H locs ls hP hS hl)
    | lookupswitch d ps =>
      have hq : ((match decode cc pc with
        | .ok x => decide (x.1 = Instr.lookupswitch d ps)
        | _ => false) && decide (0 ≤ (pc : Int) + d) && ps.toList.all (fun o => decide (0 ≤ (pc : Int) + o.2)) && (ps.toList.zip (ps.toList.drop 1)).all (fun (a, next) => decide (a.1 < next.1))) = true := hck
      rw [Bool.and_eq_true, Bool.and_eq_true, Bool.and_eq_true] at hq
      obtain ⟨⟨⟨h1, h2⟩, h3⟩, h4⟩ := hq
      obtain ⟨n, hd⟩ := lm_ckS h1
      replace h := lm_pi_of h
      obtain ⟨x, t, rfl, h⟩ := h
      obtain ⟨tgt, g1, g2⟩ := lm_lw_of (of_decide_eq_true h2) (fun q hq => of_decide_eq_true (List.all_eq_true.mp h3 q hq)) h
      exact lv_lookup hx hb hd h4 rfl g1 (hk _ _ _ _ g2 H locs ls hP hS hl)
    | getfield idx =>
      obtain ⟨hd, rfl, -⟩ := lm_ckN (i := .getfield idx) hck
      replace h := lm_pr_of h
      obtain ⟨x, t, rfl, h⟩ := h
      replace h := lm_fd_of h
      obtain ⟨ci, f, gl, o, h1, h2, h3, h⟩ := h
      obtain ⟨C1, T, N, g1, g2, g3, g4⟩ := hfok idx ci f h1
      obtain ⟨ty0, y1, y2, y3, y4⟩ := hY.2.2 ci C1 T N g1
      have he : (lm_W Y.2.1 X.2.2.1 X.2.2.2 S)[x]? = some (X.2.2.1 x, .inr (ci, gl.mapIdx (fun k r => lm_v X.2.2.1 (S x k) r))) := lm_get h2
      have hv : (gl.mapIdx (fun k r => lm_v X.2.2.1 (S x k) r))[f]? = some (lm_v X.2.2.1 (S x f) o) := by rw [List.getElem?_mapIdx, h3]; rfl
      have kk : W p l e R s m args below meth c H locs 0 0 Q (F0 m (pc + 3) ls (lm_v X.2.2.1 (S x f) o :: t.map (lm_t X.2.2.1))) := by
        cases o with
        | none => exact hk _ _ _ _ h H locs ls hP hS hl
        | some b => exact hk _ _ _ _ h H locs ls hP hS hl
      rcases g4 with g4 | ⟨host, g4⟩
      · exact va_get hx hb hts y3 hown hK hP x he g1 f g2 (hts _ g4) (fun z hz => by rw [g3] at hz; exact hz) hv hd kk
      · exact va_getN hx hb hts y3 hown hK hP x he g1 f g2 (va_Nw.use rfl (hN _ g4)) (fun z hz => by rw [g3] at hz; exact hz) hv hd kk
    | putfield idx =>
      obtain ⟨hd, rfl, -⟩ := lm_ckN (i := .putfield idx) hck
      replace h := lm_pi_of h
      obtain ⟨v, t, rfl, h⟩ := h
      replace h := lm_pr_of h
      obtain ⟨x, t, rfl, h⟩ := h
      replace h := lm_fd_of h
      obtain ⟨ci, f, gl, o, h1, h2, h3, h⟩ := h
      obtain ⟨C1, T, N, g1, g2, g3, g4⟩ := hfok idx ci f h1
      obtain ⟨ty0, y1, y2, y3, y4⟩ := hY.2.2 ci C1 T N g1
      cases o with
      | some b => exact h.elim
      | none =>
        obtain ⟨z1, z2⟩ := y4 x f gl h2 h3
        have he : (lm_W Y.2.1 X.2.2.1 X.2.2.2 S)[x]? = some (X.2.2.1 x, .inr (ci, gl.mapIdx (fun k r => lm_v X.2.2.1 (S x k) r))) := lm_get h2
        have hlen : f < (gl.mapIdx (fun k r => lm_v X.2.2.1 (S x k) r)).length := by
          rw [List.length_mapIdx]
          exact (List.getElem?_eq_some_iff.mp h3).1
        rcases g4 with g4 | ⟨host, g4⟩
        · exact va_put hx hb hts y3 ty0 y1 y2 hown hK hP hD hS x he g1 f g2 (hts _ g4) (fun z hz => by rw [g3] at hz; exact hz) z1 z2 rfl rfl hlen hd (fun H1 locs1 hP1 _ hS1 => hk _ _ _ _ h H1 locs1 ls (by
            have hP2 : va_P X.1 Y.1 ((lm_W Y.2.1 X.2.2.1 X.2.2.2 S).set x (X.2.2.1 x, .inr (ci, (gl.mapIdx (fun k r => lm_v X.2.2.1 (S x k) r)).set f (.int v)))) H1 := hP1
            rw [lm_setO h2 h3 v] at hP2
            exact hP2) hS1 hl)
        · exact va_putN hx hb hts y3 ty0 y1 y2 hown hK hP hD hS x he g1 f g2 (va_Nw.use rfl (hN _ g4)) (fun z hz => by rw [g3] at hz; exact hz) z1 z2 rfl rfl hlen hd (fun H1 locs1 hP1 _ hS1 => hk _ _ _ _ h H1 locs1 ls (by
            have hP2 : va_P X.1 Y.1 ((lm_W Y.2.1 X.2.2.1 X.2.2.2 S).set x (X.2.2.1 x, .inr (ci, (gl.mapIdx (fun k r => lm_v X.2.2.1 (S x k) r)).set f (.int v)))) H1 := hP1
            rw [lm_setO h2 h3 v] at hP2
            exact hP2) hS1 hl)
    | getstatic idx =>
      obtain ⟨hd, rfl, -⟩ := lm_ckN (i := .getstatic idx) hck
      replace h : (match G.2.2.1.lookup idx with
        | some j => k (pc + lm_len (.getstatic idx)) L (.ref (1000 + j) :: st) S
        | none => False) := h
      split at h
      · rename_i j hj
        obtain ⟨C1, n, vs, g1, g2⟩ := hsok idx j hj
        have z := (hZ j C1 n vs g1).1
        rcases g2 with g2 | ⟨host, g2⟩
        · exact va_gets hx hb z hS hown (hts _ g2) (fun _ h9 => h9) hd (hk _ _ _ _ h H locs ls hP hS hl)
        · exact va_getsN hx hb z hS hown (va_Nw.use rfl (hN _ g2)) (fun _ h9 => h9) hd (hk _ _ _ _ h H locs ls hP hS hl)
      · exact h.elim
    | arraylength =>
      obtain ⟨hd, rfl, -⟩ := lm_ckN (i := .arraylength) hck
      replace h := lm_pr_of h
      obtain ⟨x, t, rfl, h⟩ := h
      replace h : (match Nat.beq x 999 with
        | true => match G.2.2.2.2.2 with
          | some (n, _) => k (pc + lm_len .arraylength) L (.int (Int32.ofNat n) :: t) S
          | none => False
        | false => False) := h
      split at h
      · rename_i h1
        split at h
        · rename_i n xs h2
          have e1 : x = 999 := Nat.eq_of_beq_eq_true h1
          subst e1
          obtain ⟨g1, g2, g3⟩ := hscr n xs h2
          exact va_slen hx hb g1 g2 g3 hS hd (hk _ _ _ _ h H locs ls hP hS hl)
        · exact h.elim
      · exact h.elim
    | iaload =>
      obtain ⟨hd, rfl, -⟩ := lm_ckN (i := .iaload) hck
      replace h := lm_pi_of h
      obtain ⟨j, t, rfl, h⟩ := h
      replace h := lm_pr_of h
      obtain ⟨x, t, rfl, h⟩ := h
      replace h := lm_ld_of h
      rcases h with ⟨n, h1, h2, h3⟩ | ⟨q, C1, nm, vs, rfl, h1, h2, h3⟩ | ⟨n, xs, rfl, h1, h2, h3⟩
      · have he : (lm_W Y.2.1 X.2.2.1 X.2.2.2 S)[x]? = some (X.2.2.1 x, .inl (X.2.2.2 x, n, .inl (S x))) := lm_get h1
        obtain ⟨t0, ht0⟩ := List.getElem?_of_mem (hok.2 x .int n h1)
        exact va_iald hx hb hK hP x t0 he ht0 h2 hd (hk _ _ _ _ h3 H locs ls hP hS hl)
      · exact va_ti hx hb (hZ q C1 nm vs h1).2 hS h2 rfl hd (hk _ _ _ _ h3 H locs ls hP hS hl)
      · obtain ⟨g1, g2, g3⟩ := hscr n xs h1
        exact va_sld hx hb g1 g2 g3 hS h2 hd (hk _ _ _ _ h3 H locs ls hP hS hl)
    | baload =>
      obtain ⟨hd, rfl, -⟩ := lm_ckN (i := .baload) hck
      replace h := lm_pi_of h
      obtain ⟨j, t, rfl, h⟩ := h
      replace h := lm_pr_of h
      obtain ⟨x, t, rfl, h⟩ := h
      obtain ⟨n, h1, h2, h3⟩ := lm_az_of h
      have he : (lm_W Y.2.1 X.2.2.1 X.2.2.2 S)[x]? = some (X.2.2.1 x, .inl (X.2.2.2 x, n, .inl (S x))) := lm_get h1
      obtain ⟨t0, ht0⟩ := List.getElem?_of_mem (hok.2 x .boolean n h1)
      exact va_zald hx hb hK hP x t0 he ht0 h2 hd (hk _ _ _ _ h3 H locs ls hP hS hl)
    | iastore =>
      obtain ⟨hd, rfl, -⟩ := lm_ckN (i := .iastore) hck
      replace h := lm_pi_of h
      obtain ⟨v, t, rfl, h⟩ := h
      replace h := lm_pi_of h
      obtain ⟨j, t, rfl, h⟩ := h
      replace h := lm_pr_of h
      obtain ⟨x, t, rfl, h⟩ := h
      obtain ⟨n, h1, h2, h3⟩ := lm_ai_of h
      have he : (lm_W Y.2.1 X.2.2.1 X.2.2.2 S)[x]? = some (X.2.2.1 x, .inl (X.2.2.2 x, n, .inl (S x))) := lm_get h1
      obtain ⟨t0, ht0⟩ := List.getElem?_of_mem (hok.2 x .int n h1)
      exact va_iast hx hb hK hP hD hS x t0 he ht0 h2 hd (fun H1 locs1 hP1 _ hS1 => hk _ _ _ _ h3 H1 locs1 ls (by rw [lm_setA h1] at hP1; exact hP1) hS1 hl)
    | bastore =>
      obtain ⟨hd, rfl, -⟩ := lm_ckN (i := .bastore) hck
      replace h := lm_pi_of h
      obtain ⟨v, t, rfl, h⟩ := h
      replace h := lm_pi_of h
      obtain ⟨j, t, rfl, h⟩ := h
      replace h := lm_pr_of h
      obtain ⟨x, t, rfl, h⟩ := h
      obtain ⟨n, h1, h2, h3⟩ := lm_az_of h
      have he : (lm_W Y.2.1 X.2.2.1 X.2.2.2 S)[x]? = some (X.2.2.1 x, .inl (X.2.2.2 x, n, .inl (S x))) := lm_get h1
      obtain ⟨t0, ht0⟩ := List.getElem?_of_mem (hok.2 x .boolean n h1)
      exact va_zast hx hb hK hP hD hS x t0 he ht0 h2 hd (fun H1 locs1 hP1 _ hS1 => hk _ _ _ _ h3 H1 locs1 ls (by rw [lm_setA h1] at hP1; exact hP1) hS1 hl)
    | invokestatic idx =>
      obtain ⟨hd, rfl, hc⟩ := lm_ckN (i := .invokestatic idx) hck
      have hpos : 0 < idx := of_decide_eq_true hc
      replace h : (match Nat.beq idx G.2.2.2.1 with
        | true => lm_cp Y st S (fun t S1 => k (pc + lm_len (.invokestatic idx)) L t S1)
        | false => lm_cs cal idx st S (fun t S1 => k (pc + lm_len (.invokestatic idx)) L t S1)) := h
      split at h
      · rename_i h1
        have e1 : idx = G.2.2.2.1 := Nat.eq_of_beq_eq_true h1
        rcases hpok with h0 | ⟨f1, f2, f3, f4, f5, f6⟩
        · omega
        rw [← e1] at f3
        replace h := lm_pi_of h
        obtain ⟨n, t, rfl, h⟩ := h
        replace h := lm_pi_of h
        obtain ⟨dp, t, rfl, h⟩ := h
        replace h := lm_pr_of h
        obtain ⟨xb, t, rfl, h⟩ := h
        replace h := lm_pi_of h
        obtain ⟨sp, t, rfl, h⟩ := h
        replace h := lm_pr_of h
        obtain ⟨xa, t, rfl, h⟩ := h
        replace h := lm_ai_of h
        obtain ⟨n0, q0, h⟩ := h
        replace h := lm_ai_of h
        obtain ⟨n1, q1, h⟩ := h
        split at h
        · rename_i hcat
          obtain ⟨⟨c1, c2, c3, c4, c5⟩, h⟩ := h
          have he0 : (lm_W Y.2.1 X.2.2.1 X.2.2.2 S)[xa]? = some (X.2.2.1 xa, .inl (X.2.2.2 xa, n0, .inl (S xa))) := lm_get q0
          have he1 : (lm_W Y.2.1 X.2.2.1 X.2.2.2 S)[xb]? = some (X.2.2.1 xb, .inl (X.2.2.2 xb, n1, .inl (S xb))) := lm_get q1
          obtain ⟨t0, ht0⟩ := List.getElem?_of_mem (hok.2 xa .int n0 q0)
          obtain ⟨t1, ht1⟩ := List.getElem?_of_mem (hok.2 xb .int n1 q1)
          exact va_copyi hx hb (by rw [hml, hl.1]) hown (hts _ f3) (hts _ f4) (hts _ f5) (hts _ f6) hK hP hD hS xa xb t0 t1 he0 he1 ht0 ht1 rfl c1 c2 c3 c4 c5 (fun _ _ => rfl) f1 (by
            rw [lm_cat_map]
            have := Nat.le_of_ble_eq_true hcat
            have e9 : nativeFrameWords "java/lang/System" "arraycopy" 5 = 7 := by decide
            omega) hd (fun H1 locs1 hP1 _ hS1 => hk _ _ _ _ h H1 locs1 ls (by rw [lm_setA q1] at hP1; exact hP1) hS1 hl)
        · exact h.elim
      · replace h := lm_cs_of h
        obtain ⟨n, sp, as, rest, g1, rfl, g3, g4, g5⟩ := h
        obtain ⟨y, b, mL, rt, f1, lo1, i1, ⟨i2, i3⟩, i4, i5, i6, i7, i8⟩ := hcok idx n none sp g1
        have hstat : Cond.static y ∈ Y.2.2.2.2 := by
          rcases i8 with i8 | ⟨ci, T, N, i8, -⟩
          · exact i8.2
          · cases i8
        have hM := i1 X H.size as S _ hok g5
        have hpre := lm_pre hY hC hP hS (as.map (lm_t X.2.2.1))
        have hst : (as.reverse ++ rest).map (lm_t X.2.2.1) = (as.map (lm_t X.2.2.1)).reverse ++ rest.map (lm_t X.2.2.1) := by rw [List.map_append, List.map_reverse]
        have hrm : 2 * (F0 m pc ls ((as.reverse ++ rest).map (lm_t X.2.2.1))).monitorRoom + ((rest.map (lm_t X.2.2.1)).map fun v => v.category).sum ≤ 8 := lv_room (by rw [lm_cat_map]; exact g4)
        have hlen : (as.map (lm_t X.2.2.1)).length = n := by rw [List.length_map]; exact g3
        have kk : ∀ (r : Option Value) (S1 : lm_S) (H1 : Heap) (locs1 : List Loc), k (pc + lm_len (.invokestatic idx)) L (r.toList ++ rest) S1 → va_P X.1 Y.1 (lm_W Y.2.1 X.2.2.1 X.2.2.2 S1) H1 → va_S (lm_A Y.2.1.length X.2.2.1 s.heap.size) s.heap H1 locs1 → W p l e R s m args below meth c H1 locs1 0 0 Q (F0 m (pc + 3) ls ((r.map (lm_t X.2.2.1)).toList ++ rest.map (lm_t X.2.2.1))) := by
          intro r S1 H1 locs1 h1 h2 h3
          have h4 := hk _ _ _ _ h1 H1 locs1 ls h2 h3 hl
          cases r with
          | none => exact h4
          | some v => exact h4
        rcases i7 with i7 | ⟨host, i7⟩
        · exact lm_after (va_runS ⟨hx, hb, hml, hown, hts⟩ hM ⟨callB_of n hts (lm_good hY i4) rfl rfl rfl (hts _ i5) (hts _ i7) i6 ⟨i2, i3⟩, hts _ hstat⟩ hpre rfl hlen hl.1 hst hrm hd ⟨Nat.zero_le _, Nat.zero_le _⟩) hS kk
        · exact lm_after (va_runSN ⟨hx, hb, hml, hown, hts⟩ hM ⟨va_cnB n hts (lm_good hY i4) rfl rfl rfl (hN _ i7) (hts _ i5) i6 ⟨i2, i3⟩, hts _ hstat, trivial⟩ hpre rfl hlen hl.1 hst hrm hd ⟨Nat.zero_le _, Nat.zero_le _⟩) hS kk
    | invokevirtual idx =>
      obtain ⟨hd, rfl, -⟩ := lm_ckN (i := .invokevirtual idx) hck
      replace h := lm_cv_of h
      obtain ⟨n, ci, sp, as, x, gl, rest, g1, rfl, g3, g4, g6, g5⟩ := h
      obtain ⟨y, b, mL, rt, f1, lo1, i1, ⟨i2, i3⟩, i4, i5, i6, i7, i8⟩ := hcok idx n (some ci) sp g1
      obtain ⟨T, N, z1, z2, z3⟩ : ∃ T N, Y.1[ci]? = some (y.cls, T, N) ∧ Cond.instanceMethod y ∈ Y.2.2.2.2 ∧ Cond.selects y.cls y y ∈ Y.2.2.2.2 := by
        rcases i8 with i8 | ⟨cj, T, N, i8, i9⟩
        · cases i8.1
        · cases i8
          exact ⟨T, N, i9⟩
      have he : (lm_W Y.2.1 X.2.2.1 X.2.2.2 S)[x]? = some (X.2.2.1 x, .inr (ci, gl.mapIdx (fun k r => lm_v X.2.2.1 (S x k) r))) := lm_get g6
      have hM := i1 X H.size (.ref x :: as) S _ hok g5
      have hpre0 := lm_pre hY hC hP hS ((Value.ref x :: as).map (lm_t X.2.2.1))
      have hpre : PreV s H y.cls (X.2.2.1 x) (va_Pc ((Value.ref x :: as).map (lm_t X.2.2.1)) (lm_B Y X H.size S)) (as.map (lm_t X.2.2.1)) := ⟨hpre0.1, va_recv hK hP z1 he, hpre0.2⟩
      have hst : (as.reverse ++ Value.ref x :: rest).map (lm_t X.2.2.1) = (as.map (lm_t X.2.2.1)).reverse ++ Value.ref (X.2.2.1 x) :: rest.map (lm_t X.2.2.1) := by rw [List.map_append, List.map_reverse]; rfl
      have hrm : 2 * (F0 m pc ls ((as.reverse ++ Value.ref x :: rest).map (lm_t X.2.2.1))).monitorRoom + ((rest.map (lm_t X.2.2.1)).map fun v => v.category).sum ≤ 8 := lv_room (by rw [lm_cat_map]; exact g4)
      have hlen : (as.map (lm_t X.2.2.1)).length = n := by rw [List.length_map]; exact g3
      have kk : ∀ (r : Option Value) (S1 : lm_S) (H1 : Heap) (locs1 : List Loc), k (pc + lm_len (.invokevirtual idx)) L (r.toList ++ rest) S1 → va_P X.1 Y.1 (lm_W Y.2.1 X.2.2.1 X.2.2.2 S1) H1 → va_S (lm_A Y.2.1.length X.2.2.1 s.heap.size) s.heap H1 locs1 → W p l e R s m args below meth c H1 locs1 0 0 Q (F0 m (pc + 3) ls ((r.map (lm_t X.2.2.1)).toList ++ rest.map (lm_t X.2.2.1))) := by
        intro r S1 H1 locs1 h1 h2 h3
        have h4 := hk _ _ _ _ h1 H1 locs1 ls h2 h3 hl
        cases r with
        | none => exact h4
        | some v => exact h4
      rcases i7 with i7 | ⟨host, i7⟩
      · exact lm_after (va_runV ⟨hx, hb, hml, hown, hts⟩ hM ⟨callB_of n hts (lm_good hY i4) rfl rfl rfl (hts _ i5) (hts _ i7) i6 ⟨i2, i3⟩, hts _ z2, hts _ z3⟩ hpre rfl hlen hl.1 hst hrm hd ⟨Nat.zero_le _, Nat.zero_le _⟩) hS kk
      · exact lm_after (va_runVN ⟨hx, hb, hml, hown, hts⟩ hM ⟨va_cnB n hts (lm_good hY i4) rfl rfl rfl (hN _ i7) (hts _ i5) i6 ⟨i2, i3⟩, hts _ z2, hts _ z3⟩ hpre rfl hlen hl.1 hst hrm hd ⟨Nat.zero_le _, Nat.zero_le _⟩) hS kk
    | ireturn =>
      obtain ⟨hd, rfl, -⟩ := lm_ckN (i := .ireturn) hck
      replace h := lm_pi_of h
      obtain ⟨x, t, rfl, h⟩ := h
      cases t with
      | cons v t => exact h.elim
      | nil =>
        replace h : (match G.2.2.2.2.1 with
          | 1 => post (some (.int x)) S
          | 2 => x &&& 1 = x ∧ post (some (.int x)) S
          | _ => False) := h
        split at h
        · rename_i hq
          exact hri pc L x S hd (Or.inl hq) h H locs ls hP hS hl
        · rename_i hq
          exact hri pc L x S hd (Or.inr ⟨hq, h.1⟩) h.2 H locs ls hP hS hl
        · exact h.elim
    | return_ =>
      obtain ⟨hd, rfl, -⟩ := lm_ckN (i := .return_) hck
      cases st with
      | cons v t => exact h.elim
      | nil =>
        replace h : (match G.2.2.2.2.1 with
          | 0 => post none S
          | _ => False) := h
        split at h
        · rename_i hq
          exact hrv pc L S hd hq h H locs ls hP hS hl
        · exact h.elim
    | _ => exact False.elim h
  · intro H locs ls hP hS hl
    refine hz H locs ls (lm_P_eq he hP) hS ⟨hl.1, hl.2.1, fun q hq => ?_⟩
    obtain ⟨q0, h1, rfl⟩ := List.mem_map.mp hq
    exact hl.2.2 _ (List.mem_map.mpr ⟨q0, lm_lk (hs q0 h1), rfl⟩)
end LMS
theorem lm_args (ad : Nat → Nat) : ∀ (vs : List Value) (i : Nat), (lv_args i vs).map (fun q => (q.1, lm_t ad q.2)) = lv_args i (vs.map (lm_t ad))
  | [], _ => rfl
  | v :: vs, i => by
    simp only [lv_args, List.map_cons, lm_tcat]
    rw [lm_args ad vs]
theorem lm_sl (ad : Nat → Nat) (vs : List Value) : (lg_sl (vs.map (lm_t ad))).length = (lg_sl vs).length := by
  induction vs with
  | nil => rfl
  | cons v vs ih =>
    simp only [lg_sl, List.map_cons, List.flatMap_cons, List.length_append, lm_tcat] at *
    rw [ih]
    split <;> rfl
set_option maxHeartbeats 4000000 in
/-- a method: its light walk is its contract -/
theorem lm_impl {l : Launch} {Y : lm_Y} {y : MethodName} {b : ByteArray} {mL : Nat} {rt : Option FieldType} {f lo : Nat} {sp : lm_Sp} (G : lm_G) (cal : lm_Ca) (hy : plainName y.cls = true) (hY : lm_Yok Y) (hcode : ∀ pc r, G.1.lookup pc = some r → lm_ck b mL pc r = true) (hfok : lm_fok Y y.cls G.2.1) (hsok : lm_sok Y y.cls G.2.2.1) (hpok : lm_pok Y y.cls f lo G.2.2.2.1) (hcok : lm_cok l Y y.cls f lo cal)
    (hg : G.2.2.2.2.2 = none) (hrt : (rt = some .int ∧ G.2.2.2.2.1 = 1) ∨ (rt = some .boolean ∧ G.2.2.2.2.1 = 2) ∨ (rt = none ∧ G.2.2.2.2.1 = 0))
    (hb : ∀ av S post, sp av S post → (lg_sl av).length ≤ mL ∧ lm_Go Y G cal post 0 (lv_args 0 av) [] S) : lm_I l Y y b mL rt f lo sp := by
  intro X sz av S post hok hsp
  obtain ⟨hlen, hgo⟩ := hb av S post hsp
  refine Met.ofW (cc := b) (maxL := mL) (ret := rt) hy rfl ?_
  intro p e s m args below meth c s₁ B hml hv
  obtain ⟨rfl, hsz, hP, hK, hN, hZ⟩ := hv
  have hx := B.exec
  have hbb := B.bytes
  have hr := B.returns
  have hts0 := atoms_spec (ws := Cond.code y b mL rt :: Y.2.2.2.2) B.pre
  have hown : s.vm.findClass y.cls = some m.cls := findClass_of_methodNamed B.named
  have hlocks := B.notSynchronized
  subst hsz
  have C : lm_Cx p s m (av.map (lm_t X.2.2.1)).toArray c Y X mL b y.cls := ⟨hx, hbb, hml, hown, fun w hw => hts0 w (List.mem_cons_of_mem _ hw), hK, hN, hZ, hok⟩
  have hq : ∀ (r : Option Value) (S1 : lm_S) (H : Heap) (locs : List Loc), post r S1 → va_P X.1 Y.1 (lm_W Y.2.1 X.2.2.1 X.2.2.2 S1) H → va_S (lm_A Y.2.1.length X.2.2.1 s.heap.size) s.heap H locs → ∀ t : State, t.heap = H → s.WarmedH t.vm → lm_Qc Y X s.heap.size post (av.map (lm_t X.2.2.1)).toArray s (.returned (r.map (lm_t X.2.2.1))) t :=
    fun r S1 H locs h1 h2 h3 t ht _ => ⟨r, S1, rfl, h1, by rw [ht]; exact h2, h3.F ht⟩
  have hZc := hgo _ (lm_closed (p := p) (l := l) (e := e) (R := (headSpec (Cond.code y b mL rt :: Y.2.2.2.2) (lm_rm f lo)).room) (s := s) (m := m) (args := (av.map (lm_t X.2.2.1)).toArray) (below := below) (meth := meth) (c := c) (Q := MQ below (lm_Qc Y X s.heap.size post) (av.map (lm_t X.2.2.1)).toArray s 0 0 (lm_A Y.2.1.length X.2.2.1 s.heap.size)) (X := X) (cc := b) (own := y.cls) hY C hcode hfok hsok hpok hcok (fun n xs h => by rw [hg] at h; cases h) (fun pc L x S1 hd h1 h2 => ?_) (fun pc L S1 hd h1 h2 => ?_))
  · rw [lg_entry_eq]
    have hl := lv_entry (av.map (lm_t X.2.2.1)) (n := mL) (by rw [lm_sl]; exact hlen)
    rw [← lm_args] at hl
    exact hZc s.heap [] _ hP va_S.rf hl
  · intro H locs ls hP1 hS1 _
    rcases hrt with ⟨e1, e2⟩ | ⟨e1, e2⟩ | ⟨e1, e2⟩
    · subst e1
      exact W.iret hx hbb hr (hq (some (.int x)) S1 H locs h2 hP1 hS1) hS1.2.2 hd
    · subst e1
      exact W.zret hx hbb hr (by
        rcases h1 with h1 | ⟨_, h1⟩
        · rw [e2] at h1; cases h1
        · show Value.int (x &&& 1) = _
          rw [h1]) (hq (some (.int x)) S1 H locs h2 hP1 hS1) hS1.2.2 hd
    · rw [e2] at h1
      rcases h1 with h1 | ⟨h1, _⟩ <;> cases h1
  · intro H locs ls hP1 hS1 _
    rcases hrt with ⟨e1, e2⟩ | ⟨e1, e2⟩ | ⟨e1, e2⟩
    · rw [e2] at h1; cases h1
    · rw [e2] at h1; cases h1
    · subst e1
      exact W.vret hx hbb hr (hq none S1 H locs h2 hP1 hS1) hS1.2.2 hd
end
