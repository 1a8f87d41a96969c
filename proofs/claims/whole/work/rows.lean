section
-- ===== PART A: goes FIRST, ahead of the names: the tables' words, and 'selects' of the private methods out of them =====
/-- a private method of a class that the tables say can be made, by its rows of tables_1 -/
def lw_okq (q : MethodName × Nat) : Prop := (q.1.cls ≠ "java/lang/invoke/MethodHandle" ∧ q.1.cls ≠ "java/lang/invoke/VarHandle") ∧ Cond.instantiable q.1.cls q.2 ∈ tables_1 ∧ Cond.privateMethod q.1 ∈ tables_1 ∧ Cond.instanceMethod q.1 ∈ tables_1
theorem lw_p0 : lw_okq (⟨"PageMarriages$Story", "isAllowedDigit", "(II)Z"⟩, 2) := ⟨⟨by decide +kernel, by decide +kernel⟩, List.mem_of_getElem? (i := 24) (by decide +kernel), List.mem_of_getElem? (i := 144) (by decide +kernel), List.mem_of_getElem? (i := 145) (by decide +kernel)⟩
theorem lw_p1 : lw_okq (⟨"PageMarriages$Story", "highestDigit", "(II)I"⟩, 2) := ⟨⟨by decide +kernel, by decide +kernel⟩, List.mem_of_getElem? (i := 24) (by decide +kernel), List.mem_of_getElem? (i := 152) (by decide +kernel), List.mem_of_getElem? (i := 153) (by decide +kernel)⟩
theorem lw_p2 : lw_okq (⟨"PageMarriages$Memory", "isRunFree", "(I)Z"⟩, 10) := ⟨⟨by decide +kernel, by decide +kernel⟩, List.mem_of_getElem? (i := 38) (by decide +kernel), List.mem_of_getElem? (i := 181) (by decide +kernel), List.mem_of_getElem? (i := 182) (by decide +kernel)⟩
theorem lw_p3 : lw_okq (⟨"PageMarriages$Memory", "isShared", "(I)Z"⟩, 10) := ⟨⟨by decide +kernel, by decide +kernel⟩, List.mem_of_getElem? (i := 38) (by decide +kernel), List.mem_of_getElem? (i := 218) (by decide +kernel), List.mem_of_getElem? (i := 219) (by decide +kernel)⟩
theorem lw_p4 : lw_okq (⟨"PageMarriages$Memory", "isInPlace", "(II)Z"⟩, 10) := ⟨⟨by decide +kernel, by decide +kernel⟩, List.mem_of_getElem? (i := 38) (by decide +kernel), List.mem_of_getElem? (i := 222) (by decide +kernel), List.mem_of_getElem? (i := 223) (by decide +kernel)⟩
theorem lw_p5 : lw_okq (⟨"PageMarriages$Memory", "lowestFreeRun", "()I"⟩, 10) := ⟨⟨by decide +kernel, by decide +kernel⟩, List.mem_of_getElem? (i := 38) (by decide +kernel), List.mem_of_getElem? (i := 226) (by decide +kernel), List.mem_of_getElem? (i := 227) (by decide +kernel)⟩
theorem lw_p6 : lw_okq (⟨"PageMarriages$Memory", "moveTo", "(III)I"⟩, 10) := ⟨⟨by decide +kernel, by decide +kernel⟩, List.mem_of_getElem? (i := 38) (by decide +kernel), List.mem_of_getElem? (i := 238) (by decide +kernel), List.mem_of_getElem? (i := 239) (by decide +kernel)⟩
theorem lw_p7 : lw_okq (⟨"PageMarriages$Memory", "letGo", "(II)I"⟩, 10) := ⟨⟨by decide +kernel, by decide +kernel⟩, List.mem_of_getElem? (i := 38) (by decide +kernel), List.mem_of_getElem? (i := 246) (by decide +kernel), List.mem_of_getElem? (i := 247) (by decide +kernel)⟩
theorem lw_p8 : lw_okq (⟨"PageMarriages$Memory", "takeFrame", "(III)V"⟩, 10) := ⟨⟨by decide +kernel, by decide +kernel⟩, List.mem_of_getElem? (i := 38) (by decide +kernel), List.mem_of_getElem? (i := 250) (by decide +kernel), List.mem_of_getElem? (i := 251) (by decide +kernel)⟩
theorem lw_p9 : lw_okq (⟨"PageMarriages$Memory", "becomeBig", "(II)V"⟩, 10) := ⟨⟨by decide +kernel, by decide +kernel⟩, List.mem_of_getElem? (i := 38) (by decide +kernel), List.mem_of_getElem? (i := 254) (by decide +kernel), List.mem_of_getElem? (i := 255) (by decide +kernel)⟩
theorem lw_p10 : lw_okq (⟨"PageMarriages$Memory", "loseFirstPage", "()Z"⟩, 10) := ⟨⟨by decide +kernel, by decide +kernel⟩, List.mem_of_getElem? (i := 38) (by decide +kernel), List.mem_of_getElem? (i := 270) (by decide +kernel), List.mem_of_getElem? (i := 271) (by decide +kernel)⟩
theorem lw_p11 : lw_okq (⟨"PageMarriages$Memory", "tearEmptiestGroup", "()Z"⟩, 10) := ⟨⟨by decide +kernel, by decide +kernel⟩, List.mem_of_getElem? (i := 38) (by decide +kernel), List.mem_of_getElem? (i := 278) (by decide +kernel), List.mem_of_getElem? (i := 279) (by decide +kernel)⟩
theorem lw_p12 : lw_okq (⟨"PageMarriages$Memory", "pagesWithValueZero", "(II)I"⟩, 10) := ⟨⟨by decide +kernel, by decide +kernel⟩, List.mem_of_getElem? (i := 38) (by decide +kernel), List.mem_of_getElem? (i := 282) (by decide +kernel), List.mem_of_getElem? (i := 283) (by decide +kernel)⟩
theorem lw_p13 : lw_okq (⟨"PageMarriages$Memory", "becomeTorn", "(II)V"⟩, 10) := ⟨⟨by decide +kernel, by decide +kernel⟩, List.mem_of_getElem? (i := 38) (by decide +kernel), List.mem_of_getElem? (i := 286) (by decide +kernel), List.mem_of_getElem? (i := 287) (by decide +kernel)⟩
theorem lw_p14 : lw_okq (⟨"PageMarriages$Memory", "becomeSmall", "(II)V"⟩, 10) := ⟨⟨by decide +kernel, by decide +kernel⟩, List.mem_of_getElem? (i := 38) (by decide +kernel), List.mem_of_getElem? (i := 290) (by decide +kernel), List.mem_of_getElem? (i := 291) (by decide +kernel)⟩
theorem lw_p15 : lw_okq (⟨"java/lang/Throwable", "fillInStackTrace", "(I)Ljava/lang/Throwable;"⟩, 6) := ⟨⟨by decide +kernel, by decide +kernel⟩, List.mem_of_getElem? (i := 341) (by decide +kernel), List.mem_of_getElem? (i := 339) (by decide +kernel), List.mem_of_getElem? (i := 340) (by decide +kernel)⟩
def lw_privs_1 : List (MethodName × Nat) := [(⟨"PageMarriages$Story", "isAllowedDigit", "(II)Z"⟩, 2), (⟨"PageMarriages$Story", "highestDigit", "(II)I"⟩, 2), (⟨"PageMarriages$Memory", "isRunFree", "(I)Z"⟩, 10), (⟨"PageMarriages$Memory", "isShared", "(I)Z"⟩, 10), (⟨"PageMarriages$Memory", "isInPlace", "(II)Z"⟩, 10), (⟨"PageMarriages$Memory", "lowestFreeRun", "()I"⟩, 10), (⟨"PageMarriages$Memory", "moveTo", "(III)I"⟩, 10), (⟨"PageMarriages$Memory", "letGo", "(II)I"⟩, 10), (⟨"PageMarriages$Memory", "takeFrame", "(III)V"⟩, 10), (⟨"PageMarriages$Memory", "becomeBig", "(II)V"⟩, 10), (⟨"PageMarriages$Memory", "loseFirstPage", "()Z"⟩, 10), (⟨"PageMarriages$Memory", "tearEmptiestGroup", "()Z"⟩, 10), (⟨"PageMarriages$Memory", "pagesWithValueZero", "(II)I"⟩, 10), (⟨"PageMarriages$Memory", "becomeTorn", "(II)V"⟩, 10), (⟨"PageMarriages$Memory", "becomeSmall", "(II)V"⟩, 10), (⟨"java/lang/Throwable", "fillInStackTrace", "(I)Ljava/lang/Throwable;"⟩, 6)]
theorem lw_r1 : ∀ q ∈ lw_privs_1, lw_okq q := List.forall_mem_cons.mpr ⟨lw_p0, List.forall_mem_cons.mpr ⟨lw_p1, List.forall_mem_cons.mpr ⟨lw_p2, List.forall_mem_cons.mpr ⟨lw_p3, List.forall_mem_cons.mpr ⟨lw_p4, List.forall_mem_cons.mpr ⟨lw_p5, List.forall_mem_cons.mpr ⟨lw_p6, List.forall_mem_cons.mpr ⟨lw_p7, List.forall_mem_cons.mpr ⟨lw_p8, List.forall_mem_cons.mpr ⟨lw_p9, List.forall_mem_cons.mpr ⟨lw_p10, List.forall_mem_cons.mpr ⟨lw_p11, List.forall_mem_cons.mpr ⟨lw_p12, List.forall_mem_cons.mpr ⟨lw_p13, List.forall_mem_cons.mpr ⟨lw_p14, List.forall_mem_cons.mpr ⟨lw_p15, fun _ h => absurd h List.not_mem_nil⟩⟩⟩⟩⟩⟩⟩⟩⟩⟩⟩⟩⟩⟩⟩⟩
theorem lw_p16 : lw_okq (⟨"PageMarriages", "doCommandOfText", "(I)Z"⟩, 6) := ⟨⟨by decide +kernel, by decide +kernel⟩, List.mem_of_getElem? (i := 16) (by decide +kernel), List.mem_of_getElem? (i := 410) (by decide +kernel), List.mem_of_getElem? (i := 411) (by decide +kernel)⟩
theorem lw_p17 : lw_okq (⟨"PageMarriages$Memory", "bringIn", "(II)V"⟩, 10) := ⟨⟨by decide +kernel, by decide +kernel⟩, List.mem_of_getElem? (i := 38) (by decide +kernel), List.mem_of_getElem? (i := 431) (by decide +kernel), List.mem_of_getElem? (i := 432) (by decide +kernel)⟩
theorem lw_p18 : lw_okq (⟨"PageMarriages$Memory", "bringInWhole", "(III)V"⟩, 10) := ⟨⟨by decide +kernel, by decide +kernel⟩, List.mem_of_getElem? (i := 38) (by decide +kernel), List.mem_of_getElem? (i := 435) (by decide +kernel), List.mem_of_getElem? (i := 436) (by decide +kernel)⟩
theorem lw_p19 : lw_okq (⟨"PageMarriages$Memory", "takeSingleFrame", "(II)V"⟩, 10) := ⟨⟨by decide +kernel, by decide +kernel⟩, List.mem_of_getElem? (i := 38) (by decide +kernel), List.mem_of_getElem? (i := 439) (by decide +kernel), List.mem_of_getElem? (i := 440) (by decide +kernel)⟩
theorem lw_p20 : lw_okq (⟨"PageMarriages$Memory", "lowestSingleFrame", "()I"⟩, 10) := ⟨⟨by decide +kernel, by decide +kernel⟩, List.mem_of_getElem? (i := 38) (by decide +kernel), List.mem_of_getElem? (i := 443) (by decide +kernel), List.mem_of_getElem? (i := 444) (by decide +kernel)⟩
theorem lw_p21 : lw_okq (⟨"PageMarriages$Memory", "copyOut", "(II)V"⟩, 10) := ⟨⟨by decide +kernel, by decide +kernel⟩, List.mem_of_getElem? (i := 38) (by decide +kernel), List.mem_of_getElem? (i := 447) (by decide +kernel), List.mem_of_getElem? (i := 448) (by decide +kernel)⟩
theorem lw_p22 : lw_okq (⟨"PageMarriages$Memory", "lowestUnusedProcess", "()I"⟩, 10) := ⟨⟨by decide +kernel, by decide +kernel⟩, List.mem_of_getElem? (i := 38) (by decide +kernel), List.mem_of_getElem? (i := 455) (by decide +kernel), List.mem_of_getElem? (i := 456) (by decide +kernel)⟩
theorem lw_p23 : lw_okq (⟨"PageMarriages$Memory", "bigGroupsInRun", "(I)I"⟩, 10) := ⟨⟨by decide +kernel, by decide +kernel⟩, List.mem_of_getElem? (i := 38) (by decide +kernel), List.mem_of_getElem? (i := 502) (by decide +kernel), List.mem_of_getElem? (i := 503) (by decide +kernel)⟩
theorem lw_p24 : lw_okq (⟨"PageMarriages", "requirePage", "(II)V"⟩, 6) := ⟨⟨by decide +kernel, by decide +kernel⟩, List.mem_of_getElem? (i := 16) (by decide +kernel), List.mem_of_getElem? (i := 519) (by decide +kernel), List.mem_of_getElem? (i := 520) (by decide +kernel)⟩
theorem lw_p25 : lw_okq (⟨"PageMarriages", "requireGroup", "(II)V"⟩, 6) := ⟨⟨by decide +kernel, by decide +kernel⟩, List.mem_of_getElem? (i := 16) (by decide +kernel), List.mem_of_getElem? (i := 565) (by decide +kernel), List.mem_of_getElem? (i := 566) (by decide +kernel)⟩
theorem lw_p26 : lw_okq (⟨"PageMarriages", "requireProcess", "(I)V"⟩, 6) := ⟨⟨by decide +kernel, by decide +kernel⟩, List.mem_of_getElem? (i := 16) (by decide +kernel), List.mem_of_getElem? (i := 593) (by decide +kernel), List.mem_of_getElem? (i := 594) (by decide +kernel)⟩
theorem lw_p27 : lw_okq (⟨"PageMarriages", "doCommandOfScript", "(I)Z"⟩, 6) := ⟨⟨by decide +kernel, by decide +kernel⟩, List.mem_of_getElem? (i := 16) (by decide +kernel), List.mem_of_getElem? (i := 692) (by decide +kernel), List.mem_of_getElem? (i := 693) (by decide +kernel)⟩
theorem lw_p28 : lw_okq (⟨"PageMarriages", "doStep", "(I)V"⟩, 6) := ⟨⟨by decide +kernel, by decide +kernel⟩, List.mem_of_getElem? (i := 16) (by decide +kernel), List.mem_of_getElem? (i := 706) (by decide +kernel), List.mem_of_getElem? (i := 707) (by decide +kernel)⟩
theorem lw_p29 : lw_okq (⟨"PageMarriages", "requireSlot", "(I)V"⟩, 6) := ⟨⟨by decide +kernel, by decide +kernel⟩, List.mem_of_getElem? (i := 16) (by decide +kernel), List.mem_of_getElem? (i := 718) (by decide +kernel), List.mem_of_getElem? (i := 719) (by decide +kernel)⟩
theorem lw_p30 : lw_okq (⟨"PageMarriagesModel", "renew", "()V"⟩, 10) := ⟨⟨by decide +kernel, by decide +kernel⟩, List.mem_of_getElem? (i := 731) (by decide +kernel), List.mem_of_getElem? (i := 737) (by decide +kernel), List.mem_of_getElem? (i := 738) (by decide +kernel)⟩
theorem lw_p31 : lw_okq (⟨"PageMarriagesModel", "findError", "()I"⟩, 10) := ⟨⟨by decide +kernel, by decide +kernel⟩, List.mem_of_getElem? (i := 731) (by decide +kernel), List.mem_of_getElem? (i := 791) (by decide +kernel), List.mem_of_getElem? (i := 792) (by decide +kernel)⟩
def lw_privs_2 : List (MethodName × Nat) := [(⟨"PageMarriages", "doCommandOfText", "(I)Z"⟩, 6), (⟨"PageMarriages$Memory", "bringIn", "(II)V"⟩, 10), (⟨"PageMarriages$Memory", "bringInWhole", "(III)V"⟩, 10), (⟨"PageMarriages$Memory", "takeSingleFrame", "(II)V"⟩, 10), (⟨"PageMarriages$Memory", "lowestSingleFrame", "()I"⟩, 10), (⟨"PageMarriages$Memory", "copyOut", "(II)V"⟩, 10), (⟨"PageMarriages$Memory", "lowestUnusedProcess", "()I"⟩, 10), (⟨"PageMarriages$Memory", "bigGroupsInRun", "(I)I"⟩, 10), (⟨"PageMarriages", "requirePage", "(II)V"⟩, 6), (⟨"PageMarriages", "requireGroup", "(II)V"⟩, 6), (⟨"PageMarriages", "requireProcess", "(I)V"⟩, 6), (⟨"PageMarriages", "doCommandOfScript", "(I)Z"⟩, 6), (⟨"PageMarriages", "doStep", "(I)V"⟩, 6), (⟨"PageMarriages", "requireSlot", "(I)V"⟩, 6), (⟨"PageMarriagesModel", "renew", "()V"⟩, 10), (⟨"PageMarriagesModel", "findError", "()I"⟩, 10)]
theorem lw_r2 : ∀ q ∈ lw_privs_2, lw_okq q := List.forall_mem_cons.mpr ⟨lw_p16, List.forall_mem_cons.mpr ⟨lw_p17, List.forall_mem_cons.mpr ⟨lw_p18, List.forall_mem_cons.mpr ⟨lw_p19, List.forall_mem_cons.mpr ⟨lw_p20, List.forall_mem_cons.mpr ⟨lw_p21, List.forall_mem_cons.mpr ⟨lw_p22, List.forall_mem_cons.mpr ⟨lw_p23, List.forall_mem_cons.mpr ⟨lw_p24, List.forall_mem_cons.mpr ⟨lw_p25, List.forall_mem_cons.mpr ⟨lw_p26, List.forall_mem_cons.mpr ⟨lw_p27, List.forall_mem_cons.mpr ⟨lw_p28, List.forall_mem_cons.mpr ⟨lw_p29, List.forall_mem_cons.mpr ⟨lw_p30, List.forall_mem_cons.mpr ⟨lw_p31, fun _ h => absurd h List.not_mem_nil⟩⟩⟩⟩⟩⟩⟩⟩⟩⟩⟩⟩⟩⟩⟩⟩
theorem lw_p32 : lw_okq (⟨"PageMarriagesModel", "isLetter", "(I)Z"⟩, 10) := ⟨⟨by decide +kernel, by decide +kernel⟩, List.mem_of_getElem? (i := 731) (by decide +kernel), List.mem_of_getElem? (i := 795) (by decide +kernel), List.mem_of_getElem? (i := 796) (by decide +kernel)⟩
theorem lw_p33 : lw_okq (⟨"PageMarriagesModel", "mostAt", "(II)I"⟩, 10) := ⟨⟨by decide +kernel, by decide +kernel⟩, List.mem_of_getElem? (i := 731) (by decide +kernel), List.mem_of_getElem? (i := 799) (by decide +kernel), List.mem_of_getElem? (i := 800) (by decide +kernel)⟩
theorem lw_p34 : lw_okq (⟨"PageMarriagesModel", "digit", "(I)I"⟩, 10) := ⟨⟨by decide +kernel, by decide +kernel⟩, List.mem_of_getElem? (i := 731) (by decide +kernel), List.mem_of_getElem? (i := 803) (by decide +kernel), List.mem_of_getElem? (i := 804) (by decide +kernel)⟩
theorem lw_p35 : lw_okq (⟨"PageMarriagesModel", "lengthAt", "(I)I"⟩, 10) := ⟨⟨by decide +kernel, by decide +kernel⟩, List.mem_of_getElem? (i := 731) (by decide +kernel), List.mem_of_getElem? (i := 807) (by decide +kernel), List.mem_of_getElem? (i := 808) (by decide +kernel)⟩
theorem lw_p36 : lw_okq (⟨"PageMarriagesModel", "commandAt", "(I)Z"⟩, 10) := ⟨⟨by decide +kernel, by decide +kernel⟩, List.mem_of_getElem? (i := 731) (by decide +kernel), List.mem_of_getElem? (i := 815) (by decide +kernel), List.mem_of_getElem? (i := 816) (by decide +kernel)⟩
theorem lw_p37 : lw_okq (⟨"PageMarriagesModel", "tryWrite", "(III)Z"⟩, 10) := ⟨⟨by decide +kernel, by decide +kernel⟩, List.mem_of_getElem? (i := 731) (by decide +kernel), List.mem_of_getElem? (i := 819) (by decide +kernel), List.mem_of_getElem? (i := 820) (by decide +kernel)⟩
theorem lw_p38 : lw_okq (⟨"PageMarriagesModel", "isPage", "(II)Z"⟩, 10) := ⟨⟨by decide +kernel, by decide +kernel⟩, List.mem_of_getElem? (i := 731) (by decide +kernel), List.mem_of_getElem? (i := 823) (by decide +kernel), List.mem_of_getElem? (i := 824) (by decide +kernel)⟩
theorem lw_p39 : lw_okq (⟨"PageMarriagesModel", "isProcess", "(I)Z"⟩, 10) := ⟨⟨by decide +kernel, by decide +kernel⟩, List.mem_of_getElem? (i := 731) (by decide +kernel), List.mem_of_getElem? (i := 827) (by decide +kernel), List.mem_of_getElem? (i := 828) (by decide +kernel)⟩
theorem lw_p40 : lw_okq (⟨"PageMarriagesModel", "outcome", "(II)I"⟩, 10) := ⟨⟨by decide +kernel, by decide +kernel⟩, List.mem_of_getElem? (i := 731) (by decide +kernel), List.mem_of_getElem? (i := 831) (by decide +kernel), List.mem_of_getElem? (i := 832) (by decide +kernel)⟩
theorem lw_p41 : lw_okq (⟨"PageMarriagesModel", "frameOf", "(II)I"⟩, 10) := ⟨⟨by decide +kernel, by decide +kernel⟩, List.mem_of_getElem? (i := 731) (by decide +kernel), List.mem_of_getElem? (i := 835) (by decide +kernel), List.mem_of_getElem? (i := 836) (by decide +kernel)⟩
theorem lw_p42 : lw_okq (⟨"PageMarriagesModel", "isEagerFault", "(II)Z"⟩, 10) := ⟨⟨by decide +kernel, by decide +kernel⟩, List.mem_of_getElem? (i := 731) (by decide +kernel), List.mem_of_getElem? (i := 839) (by decide +kernel), List.mem_of_getElem? (i := 840) (by decide +kernel)⟩
theorem lw_p43 : lw_okq (⟨"PageMarriagesModel", "placedIn", "(II)I"⟩, 10) := ⟨⟨by decide +kernel, by decide +kernel⟩, List.mem_of_getElem? (i := 731) (by decide +kernel), List.mem_of_getElem? (i := 843) (by decide +kernel), List.mem_of_getElem? (i := 844) (by decide +kernel)⟩
theorem lw_p44 : lw_okq (⟨"PageMarriagesModel", "freeRun", "()I"⟩, 10) := ⟨⟨by decide +kernel, by decide +kernel⟩, List.mem_of_getElem? (i := 731) (by decide +kernel), List.mem_of_getElem? (i := 847) (by decide +kernel), List.mem_of_getElem? (i := 848) (by decide +kernel)⟩
theorem lw_p45 : lw_okq (⟨"PageMarriagesModel", "isFreeRun", "(I)Z"⟩, 10) := ⟨⟨by decide +kernel, by decide +kernel⟩, List.mem_of_getElem? (i := 731) (by decide +kernel), List.mem_of_getElem? (i := 851) (by decide +kernel), List.mem_of_getElem? (i := 852) (by decide +kernel)⟩
theorem lw_p46 : lw_okq (⟨"PageMarriagesModel", "uses", "(I)I"⟩, 10) := ⟨⟨by decide +kernel, by decide +kernel⟩, List.mem_of_getElem? (i := 731) (by decide +kernel), List.mem_of_getElem? (i := 855) (by decide +kernel), List.mem_of_getElem? (i := 856) (by decide +kernel)⟩
theorem lw_p47 : lw_okq (⟨"PageMarriagesModel", "singleFrame", "()I"⟩, 10) := ⟨⟨by decide +kernel, by decide +kernel⟩, List.mem_of_getElem? (i := 731) (by decide +kernel), List.mem_of_getElem? (i := 859) (by decide +kernel), List.mem_of_getElem? (i := 860) (by decide +kernel)⟩
def lw_privs_3 : List (MethodName × Nat) := [(⟨"PageMarriagesModel", "isLetter", "(I)Z"⟩, 10), (⟨"PageMarriagesModel", "mostAt", "(II)I"⟩, 10), (⟨"PageMarriagesModel", "digit", "(I)I"⟩, 10), (⟨"PageMarriagesModel", "lengthAt", "(I)I"⟩, 10), (⟨"PageMarriagesModel", "commandAt", "(I)Z"⟩, 10), (⟨"PageMarriagesModel", "tryWrite", "(III)Z"⟩, 10), (⟨"PageMarriagesModel", "isPage", "(II)Z"⟩, 10), (⟨"PageMarriagesModel", "isProcess", "(I)Z"⟩, 10), (⟨"PageMarriagesModel", "outcome", "(II)I"⟩, 10), (⟨"PageMarriagesModel", "frameOf", "(II)I"⟩, 10), (⟨"PageMarriagesModel", "isEagerFault", "(II)Z"⟩, 10), (⟨"PageMarriagesModel", "placedIn", "(II)I"⟩, 10), (⟨"PageMarriagesModel", "freeRun", "()I"⟩, 10), (⟨"PageMarriagesModel", "isFreeRun", "(I)Z"⟩, 10), (⟨"PageMarriagesModel", "uses", "(I)I"⟩, 10), (⟨"PageMarriagesModel", "singleFrame", "()I"⟩, 10)]
theorem lw_r3 : ∀ q ∈ lw_privs_3, lw_okq q := List.forall_mem_cons.mpr ⟨lw_p32, List.forall_mem_cons.mpr ⟨lw_p33, List.forall_mem_cons.mpr ⟨lw_p34, List.forall_mem_cons.mpr ⟨lw_p35, List.forall_mem_cons.mpr ⟨lw_p36, List.forall_mem_cons.mpr ⟨lw_p37, List.forall_mem_cons.mpr ⟨lw_p38, List.forall_mem_cons.mpr ⟨lw_p39, List.forall_mem_cons.mpr ⟨lw_p40, List.forall_mem_cons.mpr ⟨lw_p41, List.forall_mem_cons.mpr ⟨lw_p42, List.forall_mem_cons.mpr ⟨lw_p43, List.forall_mem_cons.mpr ⟨lw_p44, List.forall_mem_cons.mpr ⟨lw_p45, List.forall_mem_cons.mpr ⟨lw_p46, List.forall_mem_cons.mpr ⟨lw_p47, fun _ h => absurd h List.not_mem_nil⟩⟩⟩⟩⟩⟩⟩⟩⟩⟩⟩⟩⟩⟩⟩⟩
theorem lw_p48 : lw_okq (⟨"PageMarriagesModel", "isShared", "(I)Z"⟩, 10) := ⟨⟨by decide +kernel, by decide +kernel⟩, List.mem_of_getElem? (i := 731) (by decide +kernel), List.mem_of_getElem? (i := 863) (by decide +kernel), List.mem_of_getElem? (i := 864) (by decide +kernel)⟩
theorem lw_p49 : lw_okq (⟨"PageMarriagesModel", "isBig", "(II)Z"⟩, 10) := ⟨⟨by decide +kernel, by decide +kernel⟩, List.mem_of_getElem? (i := 731) (by decide +kernel), List.mem_of_getElem? (i := 867) (by decide +kernel), List.mem_of_getElem? (i := 868) (by decide +kernel)⟩
theorem lw_p50 : lw_okq (⟨"PageMarriagesModel", "written", "(III)I"⟩, 10) := ⟨⟨by decide +kernel, by decide +kernel⟩, List.mem_of_getElem? (i := 731) (by decide +kernel), List.mem_of_getElem? (i := 871) (by decide +kernel), List.mem_of_getElem? (i := 872) (by decide +kernel)⟩
theorem lw_p51 : lw_okq (⟨"PageMarriagesModel", "makeBig", "(II)V"⟩, 10) := ⟨⟨by decide +kernel, by decide +kernel⟩, List.mem_of_getElem? (i := 731) (by decide +kernel), List.mem_of_getElem? (i := 875) (by decide +kernel), List.mem_of_getElem? (i := 876) (by decide +kernel)⟩
theorem lw_p52 : lw_okq (⟨"PageMarriagesModel", "setFrame", "(III)V"⟩, 10) := ⟨⟨by decide +kernel, by decide +kernel⟩, List.mem_of_getElem? (i := 731) (by decide +kernel), List.mem_of_getElem? (i := 879) (by decide +kernel), List.mem_of_getElem? (i := 880) (by decide +kernel)⟩
theorem lw_p53 : lw_okq (⟨"PageMarriagesModel", "setBig", "(III)V"⟩, 10) := ⟨⟨by decide +kernel, by decide +kernel⟩, List.mem_of_getElem? (i := 731) (by decide +kernel), List.mem_of_getElem? (i := 883) (by decide +kernel), List.mem_of_getElem? (i := 884) (by decide +kernel)⟩
theorem lw_p54 : lw_okq (⟨"PageMarriagesModel", "tryFork", "(I)Z"⟩, 10) := ⟨⟨by decide +kernel, by decide +kernel⟩, List.mem_of_getElem? (i := 731) (by decide +kernel), List.mem_of_getElem? (i := 887) (by decide +kernel), List.mem_of_getElem? (i := 888) (by decide +kernel)⟩
theorem lw_p55 : lw_okq (⟨"PageMarriagesModel", "whyNotForked", "(I)I"⟩, 10) := ⟨⟨by decide +kernel, by decide +kernel⟩, List.mem_of_getElem? (i := 731) (by decide +kernel), List.mem_of_getElem? (i := 891) (by decide +kernel), List.mem_of_getElem? (i := 892) (by decide +kernel)⟩
theorem lw_p56 : lw_okq (⟨"PageMarriagesModel", "freeProcess", "()I"⟩, 10) := ⟨⟨by decide +kernel, by decide +kernel⟩, List.mem_of_getElem? (i := 731) (by decide +kernel), List.mem_of_getElem? (i := 895) (by decide +kernel), List.mem_of_getElem? (i := 896) (by decide +kernel)⟩
theorem lw_p57 : lw_okq (⟨"PageMarriagesModel", "forked", "(I)I"⟩, 10) := ⟨⟨by decide +kernel, by decide +kernel⟩, List.mem_of_getElem? (i := 731) (by decide +kernel), List.mem_of_getElem? (i := 899) (by decide +kernel), List.mem_of_getElem? (i := 900) (by decide +kernel)⟩
theorem lw_p58 : lw_okq (⟨"PageMarriagesModel", "tryExit", "(I)Z"⟩, 10) := ⟨⟨by decide +kernel, by decide +kernel⟩, List.mem_of_getElem? (i := 731) (by decide +kernel), List.mem_of_getElem? (i := 903) (by decide +kernel), List.mem_of_getElem? (i := 904) (by decide +kernel)⟩
theorem lw_p59 : lw_okq (⟨"PageMarriagesModel", "whyNotEnded", "(I)I"⟩, 10) := ⟨⟨by decide +kernel, by decide +kernel⟩, List.mem_of_getElem? (i := 731) (by decide +kernel), List.mem_of_getElem? (i := 907) (by decide +kernel), List.mem_of_getElem? (i := 908) (by decide +kernel)⟩
theorem lw_p60 : lw_okq (⟨"PageMarriagesModel", "processMany", "()I"⟩, 10) := ⟨⟨by decide +kernel, by decide +kernel⟩, List.mem_of_getElem? (i := 731) (by decide +kernel), List.mem_of_getElem? (i := 911) (by decide +kernel), List.mem_of_getElem? (i := 912) (by decide +kernel)⟩
theorem lw_p61 : lw_okq (⟨"PageMarriagesModel", "ended", "(I)I"⟩, 10) := ⟨⟨by decide +kernel, by decide +kernel⟩, List.mem_of_getElem? (i := 731) (by decide +kernel), List.mem_of_getElem? (i := 915) (by decide +kernel), List.mem_of_getElem? (i := 916) (by decide +kernel)⟩
theorem lw_p62 : lw_okq (⟨"PageMarriagesModel", "freeFrames", "()I"⟩, 10) := ⟨⟨by decide +kernel, by decide +kernel⟩, List.mem_of_getElem? (i := 731) (by decide +kernel), List.mem_of_getElem? (i := 919) (by decide +kernel), List.mem_of_getElem? (i := 920) (by decide +kernel)⟩
theorem lw_p63 : lw_okq (⟨"PageMarriagesModel", "tryMarry", "(II)Z"⟩, 10) := ⟨⟨by decide +kernel, by decide +kernel⟩, List.mem_of_getElem? (i := 731) (by decide +kernel), List.mem_of_getElem? (i := 923) (by decide +kernel), List.mem_of_getElem? (i := 924) (by decide +kernel)⟩
def lw_privs_4 : List (MethodName × Nat) := [(⟨"PageMarriagesModel", "isShared", "(I)Z"⟩, 10), (⟨"PageMarriagesModel", "isBig", "(II)Z"⟩, 10), (⟨"PageMarriagesModel", "written", "(III)I"⟩, 10), (⟨"PageMarriagesModel", "makeBig", "(II)V"⟩, 10), (⟨"PageMarriagesModel", "setFrame", "(III)V"⟩, 10), (⟨"PageMarriagesModel", "setBig", "(III)V"⟩, 10), (⟨"PageMarriagesModel", "tryFork", "(I)Z"⟩, 10), (⟨"PageMarriagesModel", "whyNotForked", "(I)I"⟩, 10), (⟨"PageMarriagesModel", "freeProcess", "()I"⟩, 10), (⟨"PageMarriagesModel", "forked", "(I)I"⟩, 10), (⟨"PageMarriagesModel", "tryExit", "(I)Z"⟩, 10), (⟨"PageMarriagesModel", "whyNotEnded", "(I)I"⟩, 10), (⟨"PageMarriagesModel", "processMany", "()I"⟩, 10), (⟨"PageMarriagesModel", "ended", "(I)I"⟩, 10), (⟨"PageMarriagesModel", "freeFrames", "()I"⟩, 10), (⟨"PageMarriagesModel", "tryMarry", "(II)Z"⟩, 10)]
theorem lw_r4 : ∀ q ∈ lw_privs_4, lw_okq q := List.forall_mem_cons.mpr ⟨lw_p48, List.forall_mem_cons.mpr ⟨lw_p49, List.forall_mem_cons.mpr ⟨lw_p50, List.forall_mem_cons.mpr ⟨lw_p51, List.forall_mem_cons.mpr ⟨lw_p52, List.forall_mem_cons.mpr ⟨lw_p53, List.forall_mem_cons.mpr ⟨lw_p54, List.forall_mem_cons.mpr ⟨lw_p55, List.forall_mem_cons.mpr ⟨lw_p56, List.forall_mem_cons.mpr ⟨lw_p57, List.forall_mem_cons.mpr ⟨lw_p58, List.forall_mem_cons.mpr ⟨lw_p59, List.forall_mem_cons.mpr ⟨lw_p60, List.forall_mem_cons.mpr ⟨lw_p61, List.forall_mem_cons.mpr ⟨lw_p62, List.forall_mem_cons.mpr ⟨lw_p63, fun _ h => absurd h List.not_mem_nil⟩⟩⟩⟩⟩⟩⟩⟩⟩⟩⟩⟩⟩⟩⟩⟩
theorem lw_p64 : lw_okq (⟨"PageMarriagesModel", "isGroup", "(II)Z"⟩, 10) := ⟨⟨by decide +kernel, by decide +kernel⟩, List.mem_of_getElem? (i := 731) (by decide +kernel), List.mem_of_getElem? (i := 927) (by decide +kernel), List.mem_of_getElem? (i := 928) (by decide +kernel)⟩
theorem lw_p65 : lw_okq (⟨"PageMarriagesModel", "whyNoMarriage", "(II)I"⟩, 10) := ⟨⟨by decide +kernel, by decide +kernel⟩, List.mem_of_getElem? (i := 731) (by decide +kernel), List.mem_of_getElem? (i := 931) (by decide +kernel), List.mem_of_getElem? (i := 932) (by decide +kernel)⟩
theorem lw_p66 : lw_okq (⟨"PageMarriagesModel", "sharedIn", "(II)I"⟩, 10) := ⟨⟨by decide +kernel, by decide +kernel⟩, List.mem_of_getElem? (i := 731) (by decide +kernel), List.mem_of_getElem? (i := 935) (by decide +kernel), List.mem_of_getElem? (i := 936) (by decide +kernel)⟩
theorem lw_p67 : lw_okq (⟨"PageMarriagesModel", "isInPlace", "(II)Z"⟩, 10) := ⟨⟨by decide +kernel, by decide +kernel⟩, List.mem_of_getElem? (i := 731) (by decide +kernel), List.mem_of_getElem? (i := 939) (by decide +kernel), List.mem_of_getElem? (i := 940) (by decide +kernel)⟩
theorem lw_p68 : lw_okq (⟨"PageMarriagesModel", "married", "(II)I"⟩, 10) := ⟨⟨by decide +kernel, by decide +kernel⟩, List.mem_of_getElem? (i := 731) (by decide +kernel), List.mem_of_getElem? (i := 943) (by decide +kernel), List.mem_of_getElem? (i := 944) (by decide +kernel)⟩
theorem lw_p69 : lw_okq (⟨"PageMarriagesModel", "valueOf", "(I)I"⟩, 10) := ⟨⟨by decide +kernel, by decide +kernel⟩, List.mem_of_getElem? (i := 731) (by decide +kernel), List.mem_of_getElem? (i := 947) (by decide +kernel), List.mem_of_getElem? (i := 948) (by decide +kernel)⟩
theorem lw_p70 : lw_okq (⟨"PageMarriagesModel", "isWidow", "(II)Z"⟩, 10) := ⟨⟨by decide +kernel, by decide +kernel⟩, List.mem_of_getElem? (i := 731) (by decide +kernel), List.mem_of_getElem? (i := 955) (by decide +kernel), List.mem_of_getElem? (i := 956) (by decide +kernel)⟩
theorem lw_p71 : lw_okq (⟨"PageMarriagesModel", "runOf", "(II)I"⟩, 10) := ⟨⟨by decide +kernel, by decide +kernel⟩, List.mem_of_getElem? (i := 731) (by decide +kernel), List.mem_of_getElem? (i := 959) (by decide +kernel), List.mem_of_getElem? (i := 960) (by decide +kernel)⟩
theorem lw_p72 : lw_okq (⟨"PageMarriagesModel", "freeRuns", "()I"⟩, 10) := ⟨⟨by decide +kernel, by decide +kernel⟩, List.mem_of_getElem? (i := 731) (by decide +kernel), List.mem_of_getElem? (i := 963) (by decide +kernel), List.mem_of_getElem? (i := 964) (by decide +kernel)⟩
theorem lw_p73 : lw_okq (⟨"PageMarriagesModel", "remember", "()V"⟩, 10) := ⟨⟨by decide +kernel, by decide +kernel⟩, List.mem_of_getElem? (i := 731) (by decide +kernel), List.mem_of_getElem? (i := 983) (by decide +kernel), List.mem_of_getElem? (i := 984) (by decide +kernel)⟩
theorem lw_p74 : lw_okq (⟨"PageMarriagesModel", "torn", "(II)I"⟩, 10) := ⟨⟨by decide +kernel, by decide +kernel⟩, List.mem_of_getElem? (i := 731) (by decide +kernel), List.mem_of_getElem? (i := 1006) (by decide +kernel), List.mem_of_getElem? (i := 1007) (by decide +kernel)⟩
theorem lw_p75 : lw_okq (⟨"PageMarriagesModel", "pressed", "(I)I"⟩, 10) := ⟨⟨by decide +kernel, by decide +kernel⟩, List.mem_of_getElem? (i := 731) (by decide +kernel), List.mem_of_getElem? (i := 1014) (by decide +kernel), List.mem_of_getElem? (i := 1015) (by decide +kernel)⟩
theorem lw_p76 : lw_okq (⟨"PageMarriagesModel", "firstLoser", "()I"⟩, 10) := ⟨⟨by decide +kernel, by decide +kernel⟩, List.mem_of_getElem? (i := 731) (by decide +kernel), List.mem_of_getElem? (i := 1018) (by decide +kernel), List.mem_of_getElem? (i := 1019) (by decide +kernel)⟩
theorem lw_p77 : lw_okq (⟨"PageMarriagesModel", "isEmpty", "(I)Z"⟩, 10) := ⟨⟨by decide +kernel, by decide +kernel⟩, List.mem_of_getElem? (i := 731) (by decide +kernel), List.mem_of_getElem? (i := 1022) (by decide +kernel), List.mem_of_getElem? (i := 1023) (by decide +kernel)⟩
theorem lw_p78 : lw_okq (⟨"PageMarriagesModel", "firstTorn", "()I"⟩, 10) := ⟨⟨by decide +kernel, by decide +kernel⟩, List.mem_of_getElem? (i := 731) (by decide +kernel), List.mem_of_getElem? (i := 1026) (by decide +kernel), List.mem_of_getElem? (i := 1027) (by decide +kernel)⟩
theorem lw_p79 : lw_okq (⟨"PageMarriagesModel", "firstToMarry", "(Z)I"⟩, 10) := ⟨⟨by decide +kernel, by decide +kernel⟩, List.mem_of_getElem? (i := 731) (by decide +kernel), List.mem_of_getElem? (i := 1050) (by decide +kernel), List.mem_of_getElem? (i := 1051) (by decide +kernel)⟩
def lw_privs_5 : List (MethodName × Nat) := [(⟨"PageMarriagesModel", "isGroup", "(II)Z"⟩, 10), (⟨"PageMarriagesModel", "whyNoMarriage", "(II)I"⟩, 10), (⟨"PageMarriagesModel", "sharedIn", "(II)I"⟩, 10), (⟨"PageMarriagesModel", "isInPlace", "(II)Z"⟩, 10), (⟨"PageMarriagesModel", "married", "(II)I"⟩, 10), (⟨"PageMarriagesModel", "valueOf", "(I)I"⟩, 10), (⟨"PageMarriagesModel", "isWidow", "(II)Z"⟩, 10), (⟨"PageMarriagesModel", "runOf", "(II)I"⟩, 10), (⟨"PageMarriagesModel", "freeRuns", "()I"⟩, 10), (⟨"PageMarriagesModel", "remember", "()V"⟩, 10), (⟨"PageMarriagesModel", "torn", "(II)I"⟩, 10), (⟨"PageMarriagesModel", "pressed", "(I)I"⟩, 10), (⟨"PageMarriagesModel", "firstLoser", "()I"⟩, 10), (⟨"PageMarriagesModel", "isEmpty", "(I)Z"⟩, 10), (⟨"PageMarriagesModel", "firstTorn", "()I"⟩, 10), (⟨"PageMarriagesModel", "firstToMarry", "(Z)I"⟩, 10)]
theorem lw_r5 : ∀ q ∈ lw_privs_5, lw_okq q := List.forall_mem_cons.mpr ⟨lw_p64, List.forall_mem_cons.mpr ⟨lw_p65, List.forall_mem_cons.mpr ⟨lw_p66, List.forall_mem_cons.mpr ⟨lw_p67, List.forall_mem_cons.mpr ⟨lw_p68, List.forall_mem_cons.mpr ⟨lw_p69, List.forall_mem_cons.mpr ⟨lw_p70, List.forall_mem_cons.mpr ⟨lw_p71, List.forall_mem_cons.mpr ⟨lw_p72, List.forall_mem_cons.mpr ⟨lw_p73, List.forall_mem_cons.mpr ⟨lw_p74, List.forall_mem_cons.mpr ⟨lw_p75, List.forall_mem_cons.mpr ⟨lw_p76, List.forall_mem_cons.mpr ⟨lw_p77, List.forall_mem_cons.mpr ⟨lw_p78, List.forall_mem_cons.mpr ⟨lw_p79, fun _ h => absurd h List.not_mem_nil⟩⟩⟩⟩⟩⟩⟩⟩⟩⟩⟩⟩⟩⟩⟩⟩
theorem lw_p80 : lw_okq (⟨"PageMarriagesModel", "commands", "(I)Z"⟩, 10) := ⟨⟨by decide +kernel, by decide +kernel⟩, List.mem_of_getElem? (i := 731) (by decide +kernel), List.mem_of_getElem? (i := 1069) (by decide +kernel), List.mem_of_getElem? (i := 1070) (by decide +kernel)⟩
theorem lw_p81 : lw_okq (⟨"PageMarriagesModel", "tryTear", "(II)Z"⟩, 10) := ⟨⟨by decide +kernel, by decide +kernel⟩, List.mem_of_getElem? (i := 731) (by decide +kernel), List.mem_of_getElem? (i := 1073) (by decide +kernel), List.mem_of_getElem? (i := 1074) (by decide +kernel)⟩
theorem lw_p82 : lw_okq (⟨"PageMarriagesModel", "tryPress", "(I)Z"⟩, 10) := ⟨⟨by decide +kernel, by decide +kernel⟩, List.mem_of_getElem? (i := 731) (by decide +kernel), List.mem_of_getElem? (i := 1077) (by decide +kernel), List.mem_of_getElem? (i := 1078) (by decide +kernel)⟩
theorem lw_p83 : lw_okq (⟨"PageMarriagesModel", "hasValue", "(III)Z"⟩, 10) := ⟨⟨by decide +kernel, by decide +kernel⟩, List.mem_of_getElem? (i := 731) (by decide +kernel), List.mem_of_getElem? (i := 1081) (by decide +kernel), List.mem_of_getElem? (i := 1082) (by decide +kernel)⟩
theorem lw_p84 : lw_okq (⟨"PageMarriagesModel", "step", "(II)V"⟩, 10) := ⟨⟨by decide +kernel, by decide +kernel⟩, List.mem_of_getElem? (i := 731) (by decide +kernel), List.mem_of_getElem? (i := 1091) (by decide +kernel), List.mem_of_getElem? (i := 1092) (by decide +kernel)⟩
def lw_privs_6 : List (MethodName × Nat) := [(⟨"PageMarriagesModel", "commands", "(I)Z"⟩, 10), (⟨"PageMarriagesModel", "tryTear", "(II)Z"⟩, 10), (⟨"PageMarriagesModel", "tryPress", "(I)Z"⟩, 10), (⟨"PageMarriagesModel", "hasValue", "(III)Z"⟩, 10), (⟨"PageMarriagesModel", "step", "(II)V"⟩, 10)]
theorem lw_r6 : ∀ q ∈ lw_privs_6, lw_okq q := List.forall_mem_cons.mpr ⟨lw_p80, List.forall_mem_cons.mpr ⟨lw_p81, List.forall_mem_cons.mpr ⟨lw_p82, List.forall_mem_cons.mpr ⟨lw_p83, List.forall_mem_cons.mpr ⟨lw_p84, fun _ h => absurd h List.not_mem_nil⟩⟩⟩⟩⟩
def lw_privs : List (MethodName × Nat) := lw_privs_1 ++ (lw_privs_2 ++ (lw_privs_3 ++ (lw_privs_4 ++ (lw_privs_5 ++ (lw_privs_6)))))
def lw_tbl : List Cond := k2_sels lw_privs ++ tables_1
theorem lw_privs_ok : ∀ q ∈ lw_privs, lw_okq q := by
  show ∀ q ∈ lw_privs_1 ++ (lw_privs_2 ++ (lw_privs_3 ++ (lw_privs_4 ++ (lw_privs_5 ++ (lw_privs_6))))), lw_okq q
  exact List.forall_mem_append.mpr ⟨lw_r1, List.forall_mem_append.mpr ⟨lw_r2, List.forall_mem_append.mpr ⟨lw_r3, List.forall_mem_append.mpr ⟨lw_r4, List.forall_mem_append.mpr ⟨lw_r5, lw_r6⟩⟩⟩⟩⟩
-- ===== end of PART A; then your names; then what follows =====
end
section
/-! ===== BEGIN words of one list among another's, by their places ===== -/
theorem goodIn_r {big : List Cond} (ws : List Cond) (ps : List Nat) (hp : ws = ps.filterMap (fun i => big[i]?)) (h : ws.all goodWord = true) : GoodIn big ws := by
  intro w hw
  have h1 := List.all_eq_true.mp h w hw
  rw [hp] at hw
  obtain ⟨i, -, hi⟩ := List.mem_filterMap.mp hw
  have hm : w ∈ big := by first | exact List.mem_of_getElem? hi | exact List.getElem?_mem hi
  exact ⟨hm, good_of_word h1⟩
theorem goodIn_app {big a b : List Cond} (ha : GoodIn big a) (hb : GoodIn big b) : GoodIn big (a ++ b) := fun w h => (List.mem_append.mp h).elim (ha w) (hb w)
theorem goodIn_ca {big a b : List Cond} {c : Cond} (ha : GoodIn big (c :: a)) (hb : GoodIn big b) : GoodIn big (c :: (a ++ b)) := fun w h => (List.mem_cons.mp h).elim (fun e => ha w (List.mem_cons.mpr (Or.inl e))) (fun h => (List.mem_append.mp h).elim (fun h => ha w (List.mem_cons.mpr (Or.inr h))) (hb w))
theorem goodIn_sub {big ws : List Cond} (hm : ∀ w ∈ ws, w ∈ big) (h : ws.all goodWord = true) : GoodIn big ws := fun w hw => ⟨hm w hw, good_of_word (List.all_eq_true.mp h w hw)⟩
/-! ===== END ===== -/

/-! ===== BEGIN exceptions that leave a method, and their catching by the caller (launches without stack traces) ===== -/
section VXA
/-! The laws vx_back, vx_callV, vx_callS, vx_callSW, vx_throw0, vx_throwS follow proofs of the library, with one case more: JvmDerived/Free/Laws.lean (Back.of_free), Shelf42/LK1.lean (callV, callS), Shelf/KitTraced.lean (throwNew0V, throwNewS). -/
/-- where a method has thrown q: the class by its name, the cell, what was written, the world -/
def vx_T (XC : String → State → State → Prop) (st : State) (q : Addr) (t : State) (mc ms : Nat) (free : Addr → Prop) : Prop :=
  ∃ (E : String) (ce : Cell) (L : List Loc), XC E st t ∧ t.heap[q]? = some ce ∧ ce.vm = .none ∧ st.vm.findClass E = some ce.cls ∧ st.WarmedH t.vm ∧ st.sameButNew ({ t with vm := st.vm } : State) L mc ms ∧ ∀ z ∈ L, free z.base
def vx_Q (Qc : Array Value → State → Outcome → State → Prop) (XC : String → State → State → Prop) (mc ms : Nat) (free : Addr → Prop) : Array Value → State → Outcome → State → Prop := fun a st o t =>
  (Qc a st o t ∧ ∃ L, FrameEnd st o t L mc ms ∧ ∀ q ∈ L, free q.base) ∨ ∃ q, o = .threw q ∧ vx_T XC st q t mc ms free
/-- a callee that returns or throws -/
def vx_Met (l : Launch) (y : MethodName) (ws : List Cond) (rm : Room) (Pc : Array Value → State → Prop) (Qc : Array Value → State → Outcome → State → Prop) (XC : String → State → State → Prop) (mc ms : Nat) (free : Addr → Prop) : Prop :=
  MetFree l y (headSpec ws rm) Pc (fun _ _ _ _ _ => True) (vx_Q Qc XC mc ms free)
def vx_Post (XC : String → State → State → Prop) (mc ms : Nat) (free : Addr → Prop) : Pt → Array Value → Addr → Pt → Prop := fun A a q B =>
  ∃ (g : JFrame) (mk : MethodId) (t : State) (L : List Loc) (E : String) (ce : Cell), B.U.heap = t.heap ∧ B.U.vm = t.vm ∧ XC E (A.U.calling g mk a) t ∧ t.heap[q]? = some ce ∧ ce.vm = .none ∧ A.U.vm.findClass E = some ce.cls ∧ B.locs = A.locs ++ L ∧ (∀ z ∈ L, free z.base) ∧ B.cells = A.cells + mc ∧ B.slots = A.slots + ms
def vx_Back (l : Launch) (R : Room) (p : Program) (e : Env) (below : List Frame) (s : State) (sargs : Array Value) (y : MethodName) (len W9 : Nat)
    (Pre : Pt → Array Value → Prop) (Post : Pt → Array Value → Option Value → Pt → Prop) (PostX : Pt → Array Value → Addr → Pt → Prop) : Prop :=
  ∀ (m : MethodId) (meth : Method) (c : Code) (A : Pt) (g : JFrame) (ig : Instr) (mk : MethodId) (a : Array Value),
    Stand p l e R s m sargs below meth c A.U A.locs A.cells A.slots → g.method = m → g.locals.size = c.maxLocals → decode c.code g.pc = .ok (ig, len) →
    2 * g.monitorRoom + (g.stack.map fun v => v.category).sum ≤ W9 → A.U.methodNamed? y = some mk → Pre A a →
    (∃ (v : Option Value) (B : Pt), Stand p l e R s m sargs below meth c B.U B.locs B.cells B.slots ∧ Post A a v B ∧
      Steps p.tables e below (doInvoke e (A.U.setTop g) [] mk a).1 (B.U.setTop { g with pc := g.pc + len, stack := v.toList ++ g.stack })) ∨
    (∃ (q : Addr) (B : Pt), Stand p l e R s m sargs below meth c B.U B.locs B.cells B.slots ∧ PostX A a q B ∧
      Steps p.tables e below (doInvoke e (A.U.setTop g) [] mk a).1 ((B.U.setTop g).pushFrame (.throwing q)))
section Payer
variable {l : Launch} {R : Room} {p : Program} {e : Env} {below : List Frame} {s : State} {sargs : Array Value} {y : MethodName} {len W9 : Nat}
theorem vx_back {ws : List Cond} {rm : Room} {Pc : Array Value → State → Prop} {Qc : Array Value → State → Outcome → State → Prop} {XC : String → State → State → Prop} {mc ms : Nat} {free : Addr → Prop} {bytes : ByteArray} {maxL : Nat} {ret : Option FieldType}
    (hM : vx_Met l y ws rm Pc Qc XC mc ms free) (hblind : FrameBlind Pc) (hrc : rm.cells = mc) (hrs : rm.slots = ms)
    (hframes : rm.frames + 1 ≤ R.frames) (hlocals : W9 + (maxL + 11) + rm.locals ≤ R.locals)
    (hws : ∀ w ∈ ws, ∀ a' U, s.WarmedH U.vm → w.before a' U = true) (hcode : Cond.code y bytes maxL ret ∈ ws) (hinit : ∀ a' U, s.WarmedH U.vm → (Cond.initialized y.cls).before a' U = true) :
    vx_Back l R p e below s sargs y len W9 (PreOf R mc ms Pc) (PostOf Qc mc ms free) (vx_Post XC mc ms free) := by
  intro m meth c A g ig mk a X hg hsize hdg hW hn hp
  have h1 : (headSpec ws rm).pre.before a A.U = true := atoms_intro fun w hw => hws w hw _ _ X.warmed
  have h2 : (Cond.code y bytes maxL ret).before a A.U = true := hws _ hcode _ _ X.warmed
  have h3 : (Cond.initialized y.cls).before a A.U = true := hinit _ _ X.warmed
  have h4 : A.cells + (headSpec ws rm).room.cells ≤ R.cells := by rw [show (headSpec ws rm).room.cells = mc from hrc]; exact hp.1
  have h5 : A.slots + (headSpec ws rm).room.slots ≤ R.slots := by rw [show (headSpec ws rm).room.slots = ms from hrs]; exact hp.2.1
  have hPc : Pc a (A.U.calling g mk a) := hblind _ _ _ _ hp.2.2
  obtain ⟨U, Ls, c0, s0⟩ := A
  dsimp only [Pt.U, Pt.locs, Pt.cells, Pt.slots] at h1 h2 h3 h4 h5 X hn hPc ⊢
  obtain ⟨methY, cY, hmY, hcY, -, hlY, -, -, -, -⟩ := Cond.code_spec hn h2
  obtain ⟨kY, hkY, -⟩ := className_of_methodNamed hn
  have hinitY : kY.init = .initialized := Cond.initialized_spec (findClass_of_methodNamed hn) hkY h3
  have h : At U g.method c below := by rw [hg]; exact X.here
  have hlocals9 : W9 + (maxL + 11) + (headSpec ws rm).room.locals ≤ R.locals := hlocals
  have happ : (headSpec ws rm).appliesLoose y e.platform (U.calling g mk a) = true :=
    Spec.appliesLoose_calling (g := g) h hdg hn hkY hinitY
      (X.room_calling (g := g) (R' := (headSpec ws rm).room) hsize hmY hcY hframes (by rw [hlY]; omega) h4 h5) h1
  obtain ⟨mid, hmid⟩ := h.above
  have hfr : (U.setTop g).frames = (.java g :: mid) ++ below := by rw [State.frames_setTop' g h.top, hmid]; rfl
  obtain ⟨o, s₂, hsteps, -, hend, hq⟩ := Steps.callFree hM p X.admits X.cas X.clock (acts := []) hfr happ hPc trivial
  have hq' : vx_Q Qc XC mc ms free a (U.calling g mk a) o s₂ := hq
  rw [State.frames_setTop' g h.top] at hend
  obtain ⟨g₀, hg0⟩ := Option.isSome_iff_exists.mp h.top
  obtain ⟨r, hr⟩ := State.topJava?_eq_some.mp hg0
  have hr' : (({ U with heap := s₂.heap, slotsUsed := s₂.slotsUsed } : State).setVm s₂.vm).frames = .java g₀ :: r := hr
  rcases hq' with ⟨hqc, L, hfe, hL⟩ | ⟨q, rfl, E, ce, L, hx, hce, hcv, hcl, hW₂, hsm, hL⟩
  · obtain ⟨⟨v, rfl⟩, hW₂, e2, q2, q3, q4, q5, q6⟩ := id hfe
    have e3 : s₂ = ({ (U.calling g mk a).setFrames s₂.frames with heap := s₂.heap, slotsUsed := s₂.slotsUsed } : State).setVm s₂.vm := by
      have : s₂ = ({ s₂ with vm := (U.calling g mk a).vm } : State).setVm s₂.vm := rfl
      rw [e2] at this
      exact this
    obtain ⟨c₂, i₂, len₂, hc₂, hd₂, hf₂⟩ := hend
    have hW' : U.WarmedH s₂.vm := hW₂
    have hcc : c₂ = c := by
      have h1 : s₂.code? g.method = U.code? g.method := by
        rw [State.code?_eq, State.code?_eq, hW'.alike.method?]
      exact Option.some.inj (hc₂.symm.trans (h1.trans h.code))
    subst hcc
    have hlen : len₂ = len := by rw [hdg] at hd₂; cases hd₂; rfl
    subst hlen
    have hs₂ : s₂ = (({ U with heap := s₂.heap, slotsUsed := s₂.slotsUsed } : State).setVm s₂.vm).setTop { g with pc := g.pc + len₂, stack := v.toList ++ g.stack } := by
      refine e3.trans ?_
      rw [hf₂, State.calling_eq h.top, State.setFrames_setFrames, State.setTop_of_frames _ hr', hr]
      rfl
    have hsame : U.sameButNew ({ U with heap := s₂.heap, slotsUsed := s₂.slotsUsed } : State) L mc ms := by
      refine ⟨?_, q2, q3, q4, q5, q6⟩
      obtain ⟨t, ht, -⟩ := State.frames_cons hr
      show ({ U with heap := s₂.heap, slotsUsed := s₂.slotsUsed } : State) = { U.setFrames U.frames with heap := s₂.heap, slotsUsed := s₂.slotsUsed }
      rw [State.setFrames_self ht]
    subst hg
    refine Or.inl ⟨v, ⟨(({ U with heap := s₂.heap, slotsUsed := s₂.slotsUsed } : State).setVm s₂.vm), Ls ++ L, c0 + mc, s0 + ms⟩,
      ⟨X.admits, X.cas, X.clock, X.frames, X.room, X.hears, X.method, X.code, (X.here.setHeapUsed s₂.heap s₂.slotsUsed).setVm hW'.alike, X.tail, State.WarmedH.trans X.warmed hW', X.limits, X.bytes, X.same.trans (hsame.setVm s.vm)⟩,
      ⟨g, mk, s₂, L, rfl, rfl, hqc, rfl, hL, rfl, rfl⟩, ?_⟩
    show Steps p.tables e below _ ((({ U with heap := s₂.heap, slotsUsed := s₂.slotsUsed } : State).setVm s₂.vm).setTop { g with pc := g.pc + len₂, stack := v.toList ++ g.stack })
    rw [← hs₂]
    exact hsteps
  · obtain ⟨e2, q2, q3, q4, q5, q6⟩ := id hsm
    have e3 : s₂ = ({ (U.calling g mk a).setFrames s₂.frames with heap := s₂.heap, slotsUsed := s₂.slotsUsed } : State).setVm s₂.vm := by
      have : s₂ = ({ s₂ with vm := (U.calling g mk a).vm } : State).setVm s₂.vm := rfl
      rw [e2] at this
      exact this
    have hf₂ : s₂.frames = .throwing q :: .java g :: U.frames.tail := hend
    have hW' : U.WarmedH s₂.vm := hW₂
    have hs₂ : s₂ = ((({ U with heap := s₂.heap, slotsUsed := s₂.slotsUsed } : State).setVm s₂.vm).setTop g).pushFrame (.throwing q) := by
      refine e3.trans ?_
      rw [hf₂, State.calling_eq h.top, State.setFrames_setFrames, State.pushFrame, State.frames_setTop _ hr', State.setTop_of_frames _ hr', State.setFrames_setFrames, hr]
      rfl
    have hsame : U.sameButNew ({ U with heap := s₂.heap, slotsUsed := s₂.slotsUsed } : State) L mc ms := by
      refine ⟨?_, q2, q3, q4, q5, q6⟩
      obtain ⟨t, ht, -⟩ := State.frames_cons hr
      show ({ U with heap := s₂.heap, slotsUsed := s₂.slotsUsed } : State) = { U.setFrames U.frames with heap := s₂.heap, slotsUsed := s₂.slotsUsed }
      rw [State.setFrames_self ht]
    subst hg
    refine Or.inr ⟨q, ⟨(({ U with heap := s₂.heap, slotsUsed := s₂.slotsUsed } : State).setVm s₂.vm), Ls ++ L, c0 + mc, s0 + ms⟩,
      ⟨X.admits, X.cas, X.clock, X.frames, X.room, X.hears, X.method, X.code, (X.here.setHeapUsed s₂.heap s₂.slotsUsed).setVm hW'.alike, X.tail, State.WarmedH.trans X.warmed hW', X.limits, X.bytes, X.same.trans (hsame.setVm s.vm)⟩,
      ⟨g, mk, s₂, L, E, ce, rfl, rfl, hx, hce, hcv, hcl, rfl, hL, rfl, rfl⟩, ?_⟩
    show Steps p.tables e below _ (((({ U with heap := s₂.heap, slotsUsed := s₂.slotsUsed } : State).setVm s₂.vm).setTop g).pushFrame (.throwing q))
    rw [← hs₂]
    exact hsteps
end Payer
section Calls
variable {p : Program} {l : Launch} {e : Env} {R : Room} {s : State} {m : MethodId} {args : Array Value} {below : List Frame} {meth : Method} {c : Code} {T : State} {locs : List Loc} {cells slots : Nat}
theorem vx_callV (X : Stand p l e R s m args below meth c T locs cells slots) (hexec : p.tables.exec = Jvm.exec) {own C : String} {index : Nat} {y : MethodName} {bytes : ByteArray} {maxL : Nat} {ret : Option FieldType}
    (hown : s.vm.findClass own = some m.cls) (hlink : (Cond.methodLink own index y).before args s = true) (hinst : (Cond.instanceMethod y).before args s = true) (hsel : (Cond.selects C y y).before args s = true)
    (hcode : (Cond.code y bytes maxL ret).before args s = true) (hy : y.cls ≠ "java/lang/invoke/MethodHandle" ∧ y.cls ≠ "java/lang/invoke/VarHandle")
    {W9 : Nat} {Pre : Pt → Array Value → Prop} {Post : Pt → Array Value → Option Value → Pt → Prop} {PostX : Pt → Array Value → Addr → Pt → Prop} (hK : vx_Back l R p e below s args y 3 W9 Pre Post PostX)
    {b : Addr} {cellB : Cell} (hcell : T.heap[b]? = some cellB) (hobj : cellB.vm.isStatics = false) (hcls : s.vm.findClass C = some cellB.cls)
    {g : JFrame} (hg : g.method = m) (hsize : g.locals.size = c.maxLocals) {argsL rest : List Value} (hlen : ∀ sig, parseMethodDescriptor y.desc = some sig → argsL.length = sig.parameters.length)
    (hstack : g.stack = argsL.reverse ++ .ref b :: rest) (hW : 2 * g.monitorRoom + (rest.map fun v => v.category).sum ≤ W9) (hdg : decode c.code g.pc = .ok (.invokevirtual index, 3))
    (hpre : ∀ vm₁, s.WarmedH vm₁ → Pre ⟨T.setVm vm₁, locs, cells, slots⟩ (Value.ref b :: argsL).toArray) :
    (∃ (v : Option Value) (vm₁ : Vm) (B : Pt), s.WarmedH vm₁ ∧ Stand p l e R s m args below meth c B.U B.locs B.cells B.slots ∧ Post ⟨T.setVm vm₁, locs, cells, slots⟩ (Value.ref b :: argsL).toArray v B ∧
      ∀ target, Steps p.tables e below (B.U.setTop { g with pc := g.pc + 3, stack := v.toList ++ rest }) target → Steps p.tables e below (T.setTop g) target) ∨
    (∃ (q : Addr) (vm₁ : Vm) (B : Pt), s.WarmedH vm₁ ∧ Stand p l e R s m args below meth c B.U B.locs B.cells B.slots ∧ PostX ⟨T.setVm vm₁, locs, cells, slots⟩ (Value.ref b :: argsL).toArray q B ∧
      Steps p.tables e below (T.setTop g) ((B.U.setTop { g with stack := rest }).pushFrame (.throwing q))) := by
  obtain ⟨mk, methM, hnamed, hmethM, hstM, habM⟩ := Cond.instanceMethod_spec hinst
  obtain ⟨methM', cM, hmethM', -, -, -, -, -, -, hsigM⟩ := Cond.code_spec hnamed hcode
  cases hmethM.symm.trans hmethM'
  obtain ⟨c2, r2, m2, q1, q2, q3, q4, kP, hkP, hkPi⟩ := Cond.selects_spec hsel
  cases hcls.symm.trans q1
  cases (State.methodFound?_of_named hnamed hy).symm.trans q2
  cases hnamed.symm.trans q3
  have hselP : selectMethod e.platform s.vm cellB.cls mk = .method mk := by rw [Launch.admits_selectMethod X.admits]; exact q4
  obtain ⟨vm₁, X₁, hstep₁⟩ := X.invokevirtual hexec hown hlink hnamed hmethM hstM hkP hkPi hy (a := b) (cell := cellB) hcell
    (fun z h => by rw [h] at hobj; cases hobj) hselP hmethM habM hkP hkPi (g := g) hg (argsL := argsL) (rest := rest) (hlen _ hsigM) hstack hdg
  rcases hK m meth c ⟨T.setVm vm₁, locs, cells, slots⟩ { g with stack := rest } (.invokevirtual index) mk (Value.ref b :: argsL).toArray X₁ hg hsize hdg hW (X₁.named hnamed) (hpre vm₁ X₁.warmed) with ⟨v, B, X', hpost, hsteps⟩ | ⟨q, B, X', hpost, hsteps⟩
  · exact Or.inl ⟨v, vm₁, B, X₁.warmed, X', hpost, fun target h => hstep₁ _ fun acts => by rw [doInvoke_state]; exact hsteps.trans h⟩
  · exact Or.inr ⟨q, vm₁, B, X₁.warmed, X', hpost, hstep₁ _ fun acts => by rw [doInvoke_state]; exact hsteps⟩
theorem vx_callS (X : Stand p l e R s m args below meth c T locs cells slots) (hexec : p.tables.exec = Jvm.exec) {own : String} {index : Nat} {y : MethodName} {bytes : ByteArray} {maxL : Nat} {ret : Option FieldType}
    (hown : s.vm.findClass own = some m.cls) (hlink : (Cond.methodLink own index y).before args s = true) (hstat : (Cond.static y).before args s = true) (hinit : (Cond.initialized y.cls).before args s = true)
    (hcode : (Cond.code y bytes maxL ret).before args s = true) (hy : y.cls ≠ "java/lang/invoke/MethodHandle" ∧ y.cls ≠ "java/lang/invoke/VarHandle")
    {W9 : Nat} {Pre : Pt → Array Value → Prop} {Post : Pt → Array Value → Option Value → Pt → Prop} {PostX : Pt → Array Value → Addr → Pt → Prop} (hK : vx_Back l R p e below s args y 3 W9 Pre Post PostX)
    {g : JFrame} (hg : g.method = m) (hsize : g.locals.size = c.maxLocals) {argsL rest : List Value} (hlen : ∀ sig, parseMethodDescriptor y.desc = some sig → argsL.length = sig.parameters.length)
    (hstack : g.stack = argsL.reverse ++ rest) (hW : 2 * g.monitorRoom + (rest.map fun v => v.category).sum ≤ W9) (hdg : decode c.code g.pc = .ok (.invokestatic index, 3))
    (hpre : ∀ vm₁, s.WarmedH vm₁ → Pre ⟨T.setVm vm₁, locs, cells, slots⟩ argsL.toArray) :
    (∃ (v : Option Value) (vm₁ : Vm) (B : Pt), s.WarmedH vm₁ ∧ Stand p l e R s m args below meth c B.U B.locs B.cells B.slots ∧ Post ⟨T.setVm vm₁, locs, cells, slots⟩ argsL.toArray v B ∧
      ∀ target, Steps p.tables e below (B.U.setTop { g with pc := g.pc + 3, stack := v.toList ++ rest }) target → Steps p.tables e below (T.setTop g) target) ∨
    (∃ (q : Addr) (vm₁ : Vm) (B : Pt), s.WarmedH vm₁ ∧ Stand p l e R s m args below meth c B.U B.locs B.cells B.slots ∧ PostX ⟨T.setVm vm₁, locs, cells, slots⟩ argsL.toArray q B ∧
      Steps p.tables e below (T.setTop g) ((B.U.setTop { g with stack := rest }).pushFrame (.throwing q))) := by
  obtain ⟨mk, hnamed⟩ := Cond.code_named hcode
  obtain ⟨methM, cM, hmethM, -, -, -, -, -, -, hsigM⟩ := Cond.code_spec hnamed hcode
  have hstatic : methM.isStatic = true := Cond.static_spec hnamed hmethM hstat
  obtain ⟨kP, hkP, -⟩ := className_of_methodNamed hnamed
  have hinitP : kP.init = .initialized := Cond.initialized_spec (findClass_of_methodNamed hnamed) hkP hinit
  obtain ⟨vm₁, X₁, hstep₁⟩ := X.invokestatic hexec hown hlink hnamed hmethM hstatic hkP hinitP hy (g := g) hg (argsL := argsL) (rest := rest) (hlen _ hsigM) hstack hdg
  rcases hK m meth c ⟨T.setVm vm₁, locs, cells, slots⟩ { g with stack := rest } (.invokestatic index) mk argsL.toArray X₁ hg hsize hdg hW (X₁.named hnamed) (hpre vm₁ X₁.warmed) with ⟨v, B, X', hpost, hsteps⟩ | ⟨q, B, X', hpost, hsteps⟩
  · exact Or.inl ⟨v, vm₁, B, X₁.warmed, X', hpost, fun target h => hstep₁ _ fun acts => by rw [doInvoke_state]; exact hsteps.trans h⟩
  · exact Or.inr ⟨q, vm₁, B, X₁.warmed, X', hpost, hstep₁ _ fun acts => by rw [doInvoke_state]; exact hsteps⟩
end Calls
theorem vx_cls {s : State} {T : State} {vm₁ : Vm} {E : String} {k : ClassId} (hW : s.WarmedH vm₁) (h : (T.setVm vm₁).vm.findClass E = some k) : s.vm.findClass E = some k := by
  have h1 : vm₁.findClass E = some k := h
  rw [hW.alike.findClass] at h1
  exact h1
/-- the method's frame g, with q thrown over it -/
def vx_W (p : Program) (l : Launch) (e : Env) (R : Room) (s : State) (m : MethodId) (args : Array Value) (below : List Frame) (meth : Method) (c : Code) (H : Heap) (locs : List Loc) (cells slots : Nat) (Q : State → Prop) (g : JFrame) (q : Addr) : Prop :=
  ∀ T : State, T.heap = H → Stand p l e R s m args below meth c T locs cells slots → ∃ t, Steps p.tables e below ((T.setTop g).pushFrame (.throwing q)) t ∧ Q t
def vx_Run (p : Program) (l : Launch) (e : Env) (R : Room) (s : State) (m : MethodId) (args : Array Value) (below : List Frame) (meth : Method) (c : Code) (H : Heap) (locs : List Loc) (cells slots mc ms : Nat) (g : JFrame) (rest : List Value) (Qa : State → Outcome → State → Prop) (XC : String → State → State → Prop) (free : Addr → Prop) : Prop :=
  ∀ T : State, T.heap = H → Stand p l e R s m args below meth c T locs cells slots →
    (∃ (v : Option Value) (st₀ t T' : State) (L : List Loc), st₀.heap = H ∧ Stand p l e R s m args below meth c T' (locs ++ L) (cells + mc) (slots + ms) ∧ (∀ q ∈ L, free q.base) ∧ T'.heap = t.heap ∧ T'.vm = t.vm ∧ Qa st₀ (.returned v) t ∧
      Goes p e below T g T' { g with pc := g.pc + 3, stack := v.toList ++ rest }) ∨
    (∃ (q : Addr) (st₀ t T' : State) (L : List Loc) (E : String) (ce : Cell), st₀.heap = H ∧ Stand p l e R s m args below meth c T' (locs ++ L) (cells + mc) (slots + ms) ∧ (∀ z ∈ L, free z.base) ∧ T'.heap = t.heap ∧ T'.vm = t.vm ∧ XC E st₀ t ∧ t.heap[q]? = some ce ∧ ce.vm = .none ∧ s.vm.findClass E = some ce.cls ∧
      Steps p.tables e below (T.setTop g) ((T'.setTop { g with stack := rest }).pushFrame (.throwing q)))
def vx_X {S : Type} (px : S → Prop) (B : String → S → State → Prop) (A : Nat → Prop) : String → State → State → Prop := fun E st t => ∃ u : S, px u ∧ B E u t ∧ va_F A st t
section Runs
variable {p : Program} {l : Launch} {e : Env} {R : Room} {s : State} {m : MethodId} {args : Array Value} {below : List Frame} {meth : Method} {c : Code} {H : Heap} {locs : List Loc} {cells slots : Nat}
variable {y : MethodName} {bytes cc : ByteArray} {maxL nL mc ms n index : Nat} {ret : Option FieldType} {ws : List Cond} {rm : Room} {Pc : Array Value → State → Prop} {Qc : Array Value → State → Outcome → State → Prop} {XC : String → State → State → Prop} {free : Addr → Prop} {Ts : List Cond} {own C : String} {b : Addr} {As rest : List Value} {g : JFrame}
theorem vx_callBack (cb : CallB R s args own index y bytes maxL ret ws rm mc ms n) (hM : vx_Met l y ws rm Pc Qc XC mc ms free) (hbl : FrameBlind Pc) : vx_Back l R p e below s args y 3 8 (PreOf R mc ms Pc) (PostOf Qc mc ms free) (vx_Post XC mc ms free) := by
  obtain ⟨hrc, hrs, hfr, hlo, hws, hcw, -, hini, -⟩ := cb
  exact vx_back (bytes := bytes) (maxL := maxL) (ret := ret) hM hbl hrc hrs hfr hlo hws hcw (fun a' U hW => word_at hW (Or.inl (by first | rfl | simp [Cond.onTables, Cond.keeps, Cond.steady])) hini)
theorem vx_runV (S : CallFix p m c cc nL s args Ts own) (hM : vx_Met l y ws rm Pc Qc XC mc ms free) (cw : CallW R s args own C index y bytes maxL ret ws rm mc ms n) (hp : PreV s H C b Pc As)
    (hg : g.method = m) (hn : As.length = n) (hsize : g.locals.size = nL) (hstack : g.stack = As.reverse ++ .ref b :: rest) (hW : 2 * g.monitorRoom + (rest.map fun v => v.category).sum ≤ 8) (hdg : decode cc g.pc = .ok (.invokevirtual index, 3)) (hf : cells + mc ≤ R.cells ∧ slots + ms ≤ R.slots) :
    vx_Run p l e R s m args below meth c H locs cells slots mc ms g rest (Qc (Value.ref b :: As).toArray) XC free := by
  have hK : vx_Back l R p e below s args y 3 8 (PreOf R mc ms Pc) (PostOf Qc mc ms free) (vx_Post XC mc ms free) := vx_callBack cw.1 hM hp.1
  obtain ⟨⟨-, -, -, -, -, -, hcode, -, hy, hlen, hl⟩, hin, hse⟩ := cw
  obtain ⟨hx, hb, hml, ho, -⟩ := S
  obtain ⟨-, ⟨cellB, hcB, hoB, hclB⟩, hPc⟩ := hp
  intro T hT X
  rcases vx_callV X hx (C := C) (bytes := bytes) (maxL := maxL) (ret := ret) ho hl hin hse hcode hy hK (by rw [hT]; exact hcB) hoB hclB hg (hsize.trans hml.symm) (argsL := As) (rest := rest) (fun sig h => hn.trans (hlen sig h)) hstack hW (by rw [hb]; exact hdg)
    (fun vm₁ hW₁ => ⟨hf.1, hf.2, hPc (T.setVm vm₁) hT hW₁⟩) with ⟨v, vm₁, ⟨U', l2, c2, s2⟩, hW₁, X', ⟨g', mk, t, L, e1, e2, hq, h1, hL, h2, h3⟩, st⟩ | ⟨q, vm₁, ⟨U', l2, c2, s2⟩, hW₁, X', ⟨g', mk, t, L, E, ce, e1, e2, hq, hce, hcv, hcl, h1, hL, h2, h3⟩, st⟩
  · dsimp only [Pt.U, Pt.locs, Pt.cells, Pt.slots] at X' e1 e2 h1 h2 h3 st
    subst h1; subst h2; subst h3
    exact Or.inl ⟨v, (T.setVm vm₁).calling g' mk (Value.ref b :: As).toArray, t, U', L, hT, X', hL, e1, e2, hq, st⟩
  · dsimp only [Pt.U, Pt.locs, Pt.cells, Pt.slots] at X' e1 e2 h1 h2 h3 st hcl
    subst h1; subst h2; subst h3
    exact Or.inr ⟨q, (T.setVm vm₁).calling g' mk (Value.ref b :: As).toArray, t, U', L, E, ce, hT, X', hL, e1, e2, hq, hce, hcv, vx_cls hW₁ hcl, st⟩
theorem vx_runS (S : CallFix p m c cc nL s args Ts own) (hM : vx_Met l y ws rm Pc Qc XC mc ms free) (cw : CallB R s args own index y bytes maxL ret ws rm mc ms n ∧ (Cond.static y).before args s = true) (hp : PreS s H Pc As)
    (hg : g.method = m) (hn : As.length = n) (hsize : g.locals.size = nL) (hstack : g.stack = As.reverse ++ rest) (hW : 2 * g.monitorRoom + (rest.map fun v => v.category).sum ≤ 8) (hdg : decode cc g.pc = .ok (.invokestatic index, 3)) (hf : cells + mc ≤ R.cells ∧ slots + ms ≤ R.slots) :
    vx_Run p l e R s m args below meth c H locs cells slots mc ms g rest (Qc As.toArray) XC free := by
  have hK : vx_Back l R p e below s args y 3 8 (PreOf R mc ms Pc) (PostOf Qc mc ms free) (vx_Post XC mc ms free) := vx_callBack cw.1 hM hp.1
  obtain ⟨⟨-, -, -, -, -, -, hcode, hini, hy, hlen, hl⟩, hstt⟩ := cw
  obtain ⟨hx, hb, hml, ho, -⟩ := S
  intro T hT X
  rcases vx_callS X hx (bytes := bytes) (maxL := maxL) (ret := ret) ho hl hstt hini hcode hy hK hg (hsize.trans hml.symm) (argsL := As) (rest := rest) (fun sig h => hn.trans (hlen sig h)) hstack hW (by rw [hb]; exact hdg)
    (fun vm₁ hW₁ => ⟨hf.1, hf.2, hp.2 (T.setVm vm₁) hT hW₁⟩) with ⟨v, vm₁, ⟨U', l2, c2, s2⟩, hW₁, X', ⟨g', mk, t, L, e1, e2, hq, h1, hL, h2, h3⟩, st⟩ | ⟨q, vm₁, ⟨U', l2, c2, s2⟩, hW₁, X', ⟨g', mk, t, L, E, ce, e1, e2, hq, hce, hcv, hcl, h1, hL, h2, h3⟩, st⟩
  · dsimp only [Pt.U, Pt.locs, Pt.cells, Pt.slots] at X' e1 e2 h1 h2 h3 st
    subst h1; subst h2; subst h3
    exact Or.inl ⟨v, (T.setVm vm₁).calling g' mk As.toArray, t, U', L, hT, X', hL, e1, e2, hq, st⟩
  · dsimp only [Pt.U, Pt.locs, Pt.cells, Pt.slots] at X' e1 e2 h1 h2 h3 st hcl
    subst h1; subst h2; subst h3
    exact Or.inr ⟨q, (T.setVm vm₁).calling g' mk As.toArray, t, U', L, E, ce, hT, X', hL, e1, e2, hq, hce, hcv, vx_cls hW₁ hcl, st⟩
end Runs
section Rows
variable {p : Program} {l : Launch} {e : Env} {R : Room} {s : State} {m : MethodId} {args : Array Value} {below : List Frame} {meth : Method} {c : Code} {H : Heap} {locs : List Loc} {cells slots : Nat} {Q : State → Prop}
variable {mc ms : Nat} {free : Addr → Prop} {A0 A1 : Nat → Prop} {H0 : Heap} {a : Array Value} {pc : Nat} {ls : Array Slot} {st0 rest : List Value}
theorem vx_keep {st₀ t T' : State} {L : List Loc} (h0 : st₀.heap = H) (e1 : T'.heap = t.heap) (hS : va_S A0 H0 H locs) (hA : ∀ q, q < H.size → A1 q → A0 q) (hf : ∀ q, free q → A0 q) (hL : ∀ q ∈ L, free q.base) (hF : va_F A1 st₀ t) :
    H.size ≤ T'.heap.size ∧ (∀ q : Nat, q < H.size → ¬ A1 q → T'.heap[q]? = H[q]?) ∧ va_S A0 H0 T'.heap (locs ++ L) := by
  obtain ⟨hz, hk⟩ := hF
  rw [h0] at hz hk
  exact ⟨by rw [e1]; exact hz, fun q h1 h2 => by rw [e1]; exact hk q h1 h2,
    ⟨Nat.le_trans hS.1 (by rw [e1]; exact hz), fun q h1 h2 => by rw [e1, hk q (Nat.lt_of_lt_of_le h1 hS.1) (fun z => h2 (hA q (Nat.lt_of_lt_of_le h1 hS.1) z))]; exact hS.2.1 q h1 h2, fun q hq => by
      rcases List.mem_append.mp hq with h | h
      · exact hS.2.2 q h
      · exact hf _ (hL q h)⟩⟩
theorem vx_calli {S SX : Type} {post : Int32 → S → Prop} {px : SX → Prop} {B : S → State → Prop} {BX : String → SX → State → Prop} {AX : Nat → Prop} (hr : vx_Run p l e R s m args below meth c H locs cells slots mc ms (F0 m pc ls st0) rest (va_Qi post B A1 a) (vx_X px BX AX) free) (hS : va_S A0 H0 H locs) (hA : ∀ q, q < H.size → A1 q → A0 q) (hf : ∀ q, free q → A0 q) (hAX : ∀ q, q < H.size → AX q → A0 q)
    (kx : ∀ (E : String) (ce : Cell) (q9 : Addr) (u : SX) (t : State) (H1 : Heap) (locs1 : List Loc), t.heap = H1 → s.vm.Alike t.vm → px u → BX E u t → H.size ≤ H1.size → (∀ q : Nat, q < H.size → ¬ AX q → H1[q]? = H[q]?) → va_S A0 H0 H1 locs1 → H1[q9]? = some ce → ce.vm = .none → s.vm.findClass E = some ce.cls → vx_W p l e R s m args below meth c H1 locs1 (cells + mc) (slots + ms) Q (F0 m pc ls rest) q9)
    (kk : ∀ (r : Int32) (u : S) (t : State) (H1 : Heap) (locs1 : List Loc), t.heap = H1 → s.vm.Alike t.vm → post r u → B u t → H.size ≤ H1.size → (∀ q : Nat, q < H.size → ¬ A1 q → H1[q]? = H[q]?) → va_S A0 H0 H1 locs1 → W p l e R s m args below meth c H1 locs1 (cells + mc) (slots + ms) Q (F0 m (pc + 3) ls (.int r :: rest))) : W p l e R s m args below meth c H locs cells slots Q (F0 m pc ls st0) := by
  intro T hT X
  rcases hr T hT X with ⟨v, st₀, t, T', L, h0, X', hL, e1, e2, ⟨⟨r, u, hv, hp, hb⟩, hF⟩, st⟩ | ⟨q, st₀, t, T', L, E, ce, h0, X', hL, e1, e2, ⟨u, hp, hb, hF⟩, hce, hcv, hcl, st⟩
  · cases hv
    obtain ⟨k1, k2, k3⟩ := vx_keep h0 e1 hS hA hf hL hF
    obtain ⟨t2, a1, b1⟩ := kk r u t T'.heap (locs ++ L) e1.symm (by rw [← e2]; exact X'.warmed.alike) hp hb k1 k2 k3 T' rfl X'
    exact ⟨t2, st t2 a1, b1⟩
  · obtain ⟨k1, k2, k3⟩ := vx_keep h0 e1 hS hAX hf hL hF
    obtain ⟨t2, a1, b1⟩ := kx E ce q u t T'.heap (locs ++ L) e1.symm (by rw [← e2]; exact X'.warmed.alike) hp hb k1 k2 k3 (by rw [e1]; exact hce) hcv hcl T' rfl X'
    exact ⟨t2, st.trans a1, b1⟩
theorem vx_calll {S SX : Type} {post : Int64 → S → Prop} {px : SX → Prop} {B : S → State → Prop} {BX : String → SX → State → Prop} {AX : Nat → Prop} (hr : vx_Run p l e R s m args below meth c H locs cells slots mc ms (F0 m pc ls st0) rest (va_Ql post B A1 a) (vx_X px BX AX) free) (hS : va_S A0 H0 H locs) (hA : ∀ q, q < H.size → A1 q → A0 q) (hf : ∀ q, free q → A0 q) (hAX : ∀ q, q < H.size → AX q → A0 q)
    (kx : ∀ (E : String) (ce : Cell) (q9 : Addr) (u : SX) (t : State) (H1 : Heap) (locs1 : List Loc), t.heap = H1 → s.vm.Alike t.vm → px u → BX E u t → H.size ≤ H1.size → (∀ q : Nat, q < H.size → ¬ AX q → H1[q]? = H[q]?) → va_S A0 H0 H1 locs1 → H1[q9]? = some ce → ce.vm = .none → s.vm.findClass E = some ce.cls → vx_W p l e R s m args below meth c H1 locs1 (cells + mc) (slots + ms) Q (F0 m pc ls rest) q9)
    (kk : ∀ (r : Int64) (u : S) (t : State) (H1 : Heap) (locs1 : List Loc), t.heap = H1 → s.vm.Alike t.vm → post r u → B u t → H.size ≤ H1.size → (∀ q : Nat, q < H.size → ¬ A1 q → H1[q]? = H[q]?) → va_S A0 H0 H1 locs1 → W p l e R s m args below meth c H1 locs1 (cells + mc) (slots + ms) Q (F0 m (pc + 3) ls (.long r :: rest))) : W p l e R s m args below meth c H locs cells slots Q (F0 m pc ls st0) := by
  intro T hT X
  rcases hr T hT X with ⟨v, st₀, t, T', L, h0, X', hL, e1, e2, ⟨⟨r, u, hv, hp, hb⟩, hF⟩, st⟩ | ⟨q, st₀, t, T', L, E, ce, h0, X', hL, e1, e2, ⟨u, hp, hb, hF⟩, hce, hcv, hcl, st⟩
  · cases hv
    obtain ⟨k1, k2, k3⟩ := vx_keep h0 e1 hS hA hf hL hF
    obtain ⟨t2, a1, b1⟩ := kk r u t T'.heap (locs ++ L) e1.symm (by rw [← e2]; exact X'.warmed.alike) hp hb k1 k2 k3 T' rfl X'
    exact ⟨t2, st t2 a1, b1⟩
  · obtain ⟨k1, k2, k3⟩ := vx_keep h0 e1 hS hAX hf hL hF
    obtain ⟨t2, a1, b1⟩ := kx E ce q u t T'.heap (locs ++ L) e1.symm (by rw [← e2]; exact X'.warmed.alike) hp hb k1 k2 k3 (by rw [e1]; exact hce) hcv hcl T' rfl X'
    exact ⟨t2, st.trans a1, b1⟩
theorem vx_callf {S SX : Type} {post : UInt32 → S → Prop} {px : SX → Prop} {B : S → State → Prop} {BX : String → SX → State → Prop} {AX : Nat → Prop} (hr : vx_Run p l e R s m args below meth c H locs cells slots mc ms (F0 m pc ls st0) rest (va_Qf post B A1 a) (vx_X px BX AX) free) (hS : va_S A0 H0 H locs) (hA : ∀ q, q < H.size → A1 q → A0 q) (hf : ∀ q, free q → A0 q) (hAX : ∀ q, q < H.size → AX q → A0 q)
    (kx : ∀ (E : String) (ce : Cell) (q9 : Addr) (u : SX) (t : State) (H1 : Heap) (locs1 : List Loc), t.heap = H1 → s.vm.Alike t.vm → px u → BX E u t → H.size ≤ H1.size → (∀ q : Nat, q < H.size → ¬ AX q → H1[q]? = H[q]?) → va_S A0 H0 H1 locs1 → H1[q9]? = some ce → ce.vm = .none → s.vm.findClass E = some ce.cls → vx_W p l e R s m args below meth c H1 locs1 (cells + mc) (slots + ms) Q (F0 m pc ls rest) q9)
    (kk : ∀ (r : UInt32) (u : S) (t : State) (H1 : Heap) (locs1 : List Loc), t.heap = H1 → s.vm.Alike t.vm → post r u → B u t → H.size ≤ H1.size → (∀ q : Nat, q < H.size → ¬ A1 q → H1[q]? = H[q]?) → va_S A0 H0 H1 locs1 → W p l e R s m args below meth c H1 locs1 (cells + mc) (slots + ms) Q (F0 m (pc + 3) ls (.float r :: rest))) : W p l e R s m args below meth c H locs cells slots Q (F0 m pc ls st0) := by
  intro T hT X
  rcases hr T hT X with ⟨v, st₀, t, T', L, h0, X', hL, e1, e2, ⟨⟨r, u, hv, hp, hb⟩, hF⟩, st⟩ | ⟨q, st₀, t, T', L, E, ce, h0, X', hL, e1, e2, ⟨u, hp, hb, hF⟩, hce, hcv, hcl, st⟩
  · cases hv
    obtain ⟨k1, k2, k3⟩ := vx_keep h0 e1 hS hA hf hL hF
    obtain ⟨t2, a1, b1⟩ := kk r u t T'.heap (locs ++ L) e1.symm (by rw [← e2]; exact X'.warmed.alike) hp hb k1 k2 k3 T' rfl X'
    exact ⟨t2, st t2 a1, b1⟩
  · obtain ⟨k1, k2, k3⟩ := vx_keep h0 e1 hS hAX hf hL hF
    obtain ⟨t2, a1, b1⟩ := kx E ce q u t T'.heap (locs ++ L) e1.symm (by rw [← e2]; exact X'.warmed.alike) hp hb k1 k2 k3 (by rw [e1]; exact hce) hcv hcl T' rfl X'
    exact ⟨t2, st.trans a1, b1⟩
theorem vx_calld {S SX : Type} {post : UInt64 → S → Prop} {px : SX → Prop} {B : S → State → Prop} {BX : String → SX → State → Prop} {AX : Nat → Prop} (hr : vx_Run p l e R s m args below meth c H locs cells slots mc ms (F0 m pc ls st0) rest (va_Qd post B A1 a) (vx_X px BX AX) free) (hS : va_S A0 H0 H locs) (hA : ∀ q, q < H.size → A1 q → A0 q) (hf : ∀ q, free q → A0 q) (hAX : ∀ q, q < H.size → AX q → A0 q)
    (kx : ∀ (E : String) (ce : Cell) (q9 : Addr) (u : SX) (t : State) (H1 : Heap) (locs1 : List Loc), t.heap = H1 → s.vm.Alike t.vm → px u → BX E u t → H.size ≤ H1.size → (∀ q : Nat, q < H.size → ¬ AX q → H1[q]? = H[q]?) → va_S A0 H0 H1 locs1 → H1[q9]? = some ce → ce.vm = .none → s.vm.findClass E = some ce.cls → vx_W p l e R s m args below meth c H1 locs1 (cells + mc) (slots + ms) Q (F0 m pc ls rest) q9)
    (kk : ∀ (r : UInt64) (u : S) (t : State) (H1 : Heap) (locs1 : List Loc), t.heap = H1 → s.vm.Alike t.vm → post r u → B u t → H.size ≤ H1.size → (∀ q : Nat, q < H.size → ¬ A1 q → H1[q]? = H[q]?) → va_S A0 H0 H1 locs1 → W p l e R s m args below meth c H1 locs1 (cells + mc) (slots + ms) Q (F0 m (pc + 3) ls (.double r :: rest))) : W p l e R s m args below meth c H locs cells slots Q (F0 m pc ls st0) := by
  intro T hT X
  rcases hr T hT X with ⟨v, st₀, t, T', L, h0, X', hL, e1, e2, ⟨⟨r, u, hv, hp, hb⟩, hF⟩, st⟩ | ⟨q, st₀, t, T', L, E, ce, h0, X', hL, e1, e2, ⟨u, hp, hb, hF⟩, hce, hcv, hcl, st⟩
  · cases hv
    obtain ⟨k1, k2, k3⟩ := vx_keep h0 e1 hS hA hf hL hF
    obtain ⟨t2, a1, b1⟩ := kk r u t T'.heap (locs ++ L) e1.symm (by rw [← e2]; exact X'.warmed.alike) hp hb k1 k2 k3 T' rfl X'
    exact ⟨t2, st t2 a1, b1⟩
  · obtain ⟨k1, k2, k3⟩ := vx_keep h0 e1 hS hAX hf hL hF
    obtain ⟨t2, a1, b1⟩ := kx E ce q u t T'.heap (locs ++ L) e1.symm (by rw [← e2]; exact X'.warmed.alike) hp hb k1 k2 k3 (by rw [e1]; exact hce) hcv hcl T' rfl X'
    exact ⟨t2, st.trans a1, b1⟩
theorem vx_callv {S SX : Type} {post : S → Prop} {px : SX → Prop} {B : S → State → Prop} {BX : String → SX → State → Prop} {AX : Nat → Prop} (hr : vx_Run p l e R s m args below meth c H locs cells slots mc ms (F0 m pc ls st0) rest (va_Qv post B A1 a) (vx_X px BX AX) free) (hS : va_S A0 H0 H locs) (hA : ∀ q, q < H.size → A1 q → A0 q) (hf : ∀ q, free q → A0 q) (hAX : ∀ q, q < H.size → AX q → A0 q)
    (kx : ∀ (E : String) (ce : Cell) (q9 : Addr) (u : SX) (t : State) (H1 : Heap) (locs1 : List Loc), t.heap = H1 → s.vm.Alike t.vm → px u → BX E u t → H.size ≤ H1.size → (∀ q : Nat, q < H.size → ¬ AX q → H1[q]? = H[q]?) → va_S A0 H0 H1 locs1 → H1[q9]? = some ce → ce.vm = .none → s.vm.findClass E = some ce.cls → vx_W p l e R s m args below meth c H1 locs1 (cells + mc) (slots + ms) Q (F0 m pc ls rest) q9)
    (kk : ∀ (u : S) (t : State) (H1 : Heap) (locs1 : List Loc), t.heap = H1 → s.vm.Alike t.vm → post u → B u t → H.size ≤ H1.size → (∀ q : Nat, q < H.size → ¬ A1 q → H1[q]? = H[q]?) → va_S A0 H0 H1 locs1 → W p l e R s m args below meth c H1 locs1 (cells + mc) (slots + ms) Q (F0 m (pc + 3) ls (rest))) : W p l e R s m args below meth c H locs cells slots Q (F0 m pc ls st0) := by
  intro T hT X
  rcases hr T hT X with ⟨v, st₀, t, T', L, h0, X', hL, e1, e2, ⟨⟨u, hv, hp, hb⟩, hF⟩, st⟩ | ⟨q, st₀, t, T', L, E, ce, h0, X', hL, e1, e2, ⟨u, hp, hb, hF⟩, hce, hcv, hcl, st⟩
  · cases hv
    obtain ⟨k1, k2, k3⟩ := vx_keep h0 e1 hS hA hf hL hF
    obtain ⟨t2, a1, b1⟩ := kk u t T'.heap (locs ++ L) e1.symm (by rw [← e2]; exact X'.warmed.alike) hp hb k1 k2 k3 T' rfl X'
    exact ⟨t2, st t2 a1, b1⟩
  · obtain ⟨k1, k2, k3⟩ := vx_keep h0 e1 hS hAX hf hL hF
    obtain ⟨t2, a1, b1⟩ := kx E ce q u t T'.heap (locs ++ L) e1.symm (by rw [← e2]; exact X'.warmed.alike) hp hb k1 k2 k3 (by rw [e1]; exact hce) hcv hcl T' rfl X'
    exact ⟨t2, st.trans a1, b1⟩
/-- caught by the row x of this method's table; the rows ahead don't take it -/
theorem vx_catch {own name : String} {E : String} {ce : Cell} {q : Addr} (hown : s.vm.findClass own = some m.cls) (pre : List ExceptionTableEntry) (x : ExceptionTableEntry) (suf : List ExceptionTableEntry) (hsplit : c.exceptionTable.toList = pre ++ x :: suf)
    (hpass : ∀ z ∈ pre, covers z pc = false ∨ (z.catchType ≠ 0 ∧ ∃ nm : String, (Cond.classLink own z.catchType nm).before args s = true ∧ va_Nc E nm s)) (hx : covers x pc = true) (h0 : x.catchType ≠ 0)
    (hlink : (Cond.classLink own x.catchType name).before args s = true) (hcast : (Cond.castable E name).before args s = true) (hcell : H[q]? = some ce) (hv : ce.vm = .none) (hcl : s.vm.findClass E = some ce.cls)
    (kk : W p l e R s m args below meth c H locs cells slots Q (F0 m x.handlerPc ls [.ref q])) : vx_W p l e R s m args below meth c H locs cells slots Q (F0 m pc ls rest) q := by
  intro T hT X
  have hpl : e.platform.magicAccessors = ({} : Platform).magicAccessors := by rw [X.admits.platform]
  obtain ⟨c3, c4, hc3, hc4, hasg⟩ := Cond.castable_spec hcast
  cases Option.some.inj (hc3.symm.trans hcl)
  obtain ⟨c5, hc5, hcl5⟩ := Cond.classLink_spec hown hlink e.platform hpl
  cases Option.some.inj (hc4.symm.trans hc5)
  obtain ⟨vm', X', st⟩ := X.thenCaughtThrough q (g := F0 m pc ls rest) rfl (Steps.refl _) (by rw [hT]; exact hcell) (by rw [hv]; rfl) (by obtain ⟨k9, h9, -⟩ := Vm.findClass_spec hcl; exact ⟨k9, h9⟩) pre x suf hsplit
    (fun z hz => by
      rcases hpass z hz with h | ⟨hz0, nm, hl1, hn1⟩
      · exact Or.inl h
      · obtain ⟨c6, hc6, hcl6⟩ := Cond.classLink_spec hown hl1 e.platform hpl
        obtain ⟨a8, b8, h1, h2, h3⟩ := hn1
        cases Option.some.inj (h1.symm.trans hcl)
        cases Option.some.inj (h2.symm.trans hc6)
        exact Or.inr ⟨hz0, _, hcl6, h3⟩) hx (Or.inr ⟨h0, c4, hcl5, hasg⟩)
  obtain ⟨t, a1, b1⟩ := kk (T.setVm vm') hT X'
  exact ⟨t, st.trans a1, b1⟩
end Rows
section Ends
variable {p : Program} {l : Launch} {e : Env} {R : Room} {s : State} {m : MethodId} {args : Array Value} {below : List Frame} {meth : Method} {c : Code} {H : Heap} {locs : List Loc} {cells slots : Nat} {Q : State → Prop}
variable {mc ms : Nat} {free : Addr → Prop} {A0 A1 : Nat → Prop} {H0 : Heap} {a : Array Value} {ls : Array Slot} {st0 rest : List Value}
variable {Qc : Array Value → State → Outcome → State → Prop} {XC : String → State → State → Prop}
/-- what a body that may throw owes at its end -/
def vx_MQ (below : List Frame) (Qc : Array Value → State → Outcome → State → Prop) (XC : String → State → State → Prop) (a : Array Value) (s : State) (mc ms : Nat) (free : Addr → Prop) : State → Prop := fun t =>
  ∃ o, t.status = .running ∧ Ended t below o ∧ vx_Q Qc XC mc ms free a s o t
theorem vx_ret {g : JFrame} {mc ms : Nat} (k : W p l e R s m args below meth c H locs cells slots (MQ below Qc args s mc ms free) g) : W p l e R s m args below meth c H locs cells slots (vx_MQ below Qc XC args s mc ms free) g := by
  intro T hT X
  obtain ⟨t, a1, o, b1, b2, b3, b4⟩ := k T hT X
  exact ⟨t, a1, o, b1, b2, Or.inl ⟨b3, b4⟩⟩
/-- not caught here: it goes on to the caller -/
theorem vx_widen {g : JFrame} {q : Addr} {k n : Nat} (h1 : cells ≤ k) (h2 : slots ≤ n) (kk : vx_W p l e R s m args below meth c H locs k n Q g q) : vx_W p l e R s m args below meth c H locs cells slots Q g q := fun T hT X => kk T hT (stand_widen X h1 h2)
theorem vx_out {pc : Nat} {E : String} {ce : Cell} {q : Addr} {mc ms : Nat} (hout : ∀ x ∈ c.exceptionTable.toList, covers x pc = false) (hlocks : meth.locks = false) (hcell : H[q]? = some ce) (hv : ce.vm = .none) (hcl : s.vm.findClass E = some ce.cls)
    (hx : ∀ t : State, t.heap = H → s.vm.Alike t.vm → XC E s t) (hf : ∀ z ∈ locs, free z.base) (hc : cells ≤ mc) (hs : slots ≤ ms) :
    vx_W p l e R s m args below meth c H locs cells slots (vx_MQ below Qc XC args s mc ms free) (F0 m pc ls rest) q := by
  intro T hT X
  obtain ⟨st1, hrun, hend, hW, hsm⟩ := X.leaveThrown q (g := F0 m pc ls rest) rfl rfl rfl hout hlocks
  have hcell9 : (T.setFrames (.throwing q :: below)).heap[q]? = some ce := by
    show T.heap[q]? = some ce
    rw [hT]; exact hcell
  exact ⟨_, st1, .threw q, hrun, hend, Or.inr ⟨q, rfl, E, ce, locs, hx _ hT hW.alike, hcell9, hv, hcl, hW, hsm.mono hc hs, hf⟩⟩
theorem vx_frame {U : State} {k n : Nat} (h : s.sameButNew ({ U with vm := s.vm } : State) locs k n) : s.heap.size ≤ U.heap.size ∧ ∀ q : Nat, q < s.heap.size → (∀ z ∈ locs, z.base ≠ q) → U.heap[q]? = s.heap[q]? := by
  obtain ⟨-, h2, -, -, -, h6⟩ := h
  refine ⟨h2, fun q hq hz => ?_⟩
  obtain ⟨c9, e1, e2, e3, e4⟩ := h6 q _ (Array.getElem?_eq_getElem hq)
  have hs : c9.slots = (s.heap[q]).slots := Array.ext_getElem? fun i => e4 i fun hm => hz _ hm rfl
  have h9 : c9 = s.heap[q] := by
    rw [hs] at e2
    exact e2
  have e5 : U.heap[q]? = some c9 := e1
  rw [e5, h9, Array.getElem?_eq_getElem hq]
/-- the words of a throw but the four that speak of the heap -/
def vx_no (w : Cond) : Bool := decide (w ≠ .isRef (.static Bundle.tN "UNASSIGNED_STACK" Bundle.steD)) && decide (w ≠ .isRef (.static Bundle.tN "SUPPRESSED_SENTINEL" Bundle.listD)) && decide (w ≠ .laysStatic Bundle.tN "UNASSIGNED_STACK" Bundle.steD) && decide (w ≠ .laysStatic Bundle.tN "SUPPRESSED_SENTINEL" Bundle.listD)
def vx_at0 (own : String) (ic : Nat) (X : String) (names : List String) : List Cond := (Bundle.ownAtoms0 own ic X names).filter vx_no
def vx_atS (own : String) (ic : Nat) (X : String) (names : List String) : List Cond := (Bundle.ownAtoms own ic X names).filter vx_no
/-- a word that the tables alone decide, or a good one -/
def vx_ot (w : Cond) : Bool := w.onTables || goodWord w
theorem vx_ot_at {args a' : Array Value} {s U : State} {w : Cond} (hW : s.WarmedH U.vm) (hvm : s.vm = U.vm) (hg : vx_ot w = true) (h : w.before args s = true) : w.before a' U = true := by
  simp only [vx_ot, Bool.or_eq_true] at hg
  rcases hg with hg | hg
  · exact va_tabs hg hvm h
  · exact word_at hW (good_of_word hg) h
/-- a list's words: the good ones out of the method's own list, the others by premises of their own -/
theorem vx_hat {args : Array Value} {s : State} {L B : List Cond} (h1 : ∀ w ∈ L.filter goodWord, w.before args s = true) (h2 : ∀ w ∈ L.filter (fun w => !goodWord w), w ∈ B) (h3 : ∀ w ∈ B, w.before args s = true) : ∀ w ∈ L, w.before args s = true := by
  intro w hw
  by_cases g : goodWord w = true
  · exact h1 w (List.mem_filter.mpr ⟨hw, g⟩)
  · refine h3 w (h2 w (List.mem_filter.mpr ⟨hw, ?_⟩))
    show (!goodWord w) = true
    cases hgw : goodWord w
    · rfl
    · exact absurd hgw g
theorem vx_c {args : Array Value} {s : State} {w : Cond} {B : List Cond} (h : w.before args s = true) (t : ∀ w ∈ B, w.before args s = true) : ∀ w' ∈ w :: B, w'.before args s = true := fun w' h' => (List.mem_cons.mp h').elim (fun e => by rw [e]; exact h) (t w')
theorem vx_n {args : Array Value} {s : State} : ∀ w ∈ ([] : List Cond), w.before args s = true := fun _ h => nomatch h
theorem vx_own {args : Array Value} {s : State} {L : List Cond} (h1 : ∀ w ∈ L.filter vx_no, w.before args s = true)
    (hU : (Cond.isRef (.static Bundle.tN "UNASSIGNED_STACK" Bundle.steD)).before args s = true) (hN : (Cond.isRef (.static Bundle.tN "SUPPRESSED_SENTINEL" Bundle.listD)).before args s = true)
    (lU : (Cond.laysStatic Bundle.tN "UNASSIGNED_STACK" Bundle.steD).before args s = true) (lN : (Cond.laysStatic Bundle.tN "SUPPRESSED_SENTINEL" Bundle.listD).before args s = true) : ∀ w ∈ L, w.before args s = true := by
  intro w hw
  by_cases e1 : w = .isRef (.static Bundle.tN "UNASSIGNED_STACK" Bundle.steD)
  · rw [e1]; exact hU
  · by_cases e2 : w = .isRef (.static Bundle.tN "SUPPRESSED_SENTINEL" Bundle.listD)
    · rw [e2]; exact hN
    · by_cases e3 : w = .laysStatic Bundle.tN "UNASSIGNED_STACK" Bundle.steD
      · rw [e3]; exact lU
      · by_cases e4 : w = .laysStatic Bundle.tN "SUPPRESSED_SENTINEL" Bundle.listD
        · rw [e4]; exact lN
        · exact h1 w (List.mem_filter.mpr ⟨hw, by unfold vx_no; rw [decide_eq_true e1, decide_eq_true e2, decide_eq_true e3, decide_eq_true e4]; rfl⟩)
/-- where a static field lies, its class's statics cell in H -/
def vx_L (C n d : String) (A : Nat → Prop) (U : State) (H : Heap) : Prop := ∃ (c : ClassId) (k : Class) (i : Nat) (f : Field) (a : Nat) (cell : Cell), U.vm.findClass C = some c ∧ U.fieldFound? C n d = some (c, k, i, f) ∧ f.isStatic = true ∧ k.statics = some a ∧ H[a]? = some cell ∧ cell.vm.isStatics = true ∧ cell.cls = c ∧ f.slot < cell.slots.size ∧ k.staticTypes[f.slot]? = some f.type ∧ ¬ A a
theorem vx_L.moved {C n d : String} {A : Nat → Prop} {u U : State} {H : Heap} (hvm : u.vm.Alike U.vm) (h : vx_L C n d A u H) : vx_L C n d A U H := by
  obtain ⟨c, k, i, f, a, cell, h1, h2, h3, h4, h5, h6, h7, h8, h9, h10⟩ := h
  obtain ⟨k', hi', he⟩ := State.fieldFound?_setVm hvm h2
  exact ⟨c, k', i, f, a, cell, by rw [hvm.findClass]; exact h1, hi', h3, by rw [he]; exact h4, h5, h6, h7, h8, by rw [he]; exact h9, h10⟩
theorem vx_L.kept {C n d : String} {A : Nat → Prop} {U : State} {H H1 : Heap} (h : vx_L C n d A U H) (hq : ∀ a : Nat, a < H.size → ¬ A a → H1[a]? = H[a]?) : vx_L C n d A U H1 := by
  obtain ⟨c, k, i, f, a, cell, h1, h2, h3, h4, h5, h6, h7, h8, h9, h10⟩ := h
  exact ⟨c, k, i, f, a, cell, h1, h2, h3, h4, by rw [hq a (Array.getElem?_eq_some_iff.mp h5).1 h10]; exact h5, h6, h7, h8, h9, h10⟩
theorem vx_L.narrow {C n d : String} {A B : Nat → Prop} {U : State} {H : Heap} (h : vx_L C n d A U H) (hAB : ∀ q, B q → A q) : vx_L C n d B U H := by
  obtain ⟨c, k, i, f, a, cell, h1, h2, h3, h4, h5, h6, h7, h8, h9, h10⟩ := h
  exact ⟨c, k, i, f, a, cell, h1, h2, h3, h4, h5, h6, h7, h8, h9, fun z => h10 (hAB _ z)⟩
theorem vx_L.word {C n d : String} {A : Nat → Prop} {s : State} {args : Array Value} (h : vx_L C n d A s s.heap) : (Cond.laysStatic C n d).before args s = true := by
  obtain ⟨c, k, i, f, a, cell, h1, h2, h3, h4, h5, h6, h7, h8, h9, -⟩ := h
  show (Cond.laysStatic C n d).holds args s none s [] = true
  exact Cond.laysStatic_of h1 h2 h3 h4 h5 h6 h7 h8 h9
/-- .. and what it holds: null or some reference -/
def vx_Zq (C n d : String) (A : Nat → Prop) (U : State) (H : Heap) : Prop := va_Zq C n d A U H ∧ vx_L C n d A U H
theorem vx_Zq.moved {C n d : String} {A : Nat → Prop} {u U : State} {H : Heap} (hvm : u.vm.Alike U.vm) (h : vx_Zq C n d A u H) : vx_Zq C n d A U H := ⟨va_Zq.moved hvm h.1, vx_L.moved hvm h.2⟩
theorem vx_Zq.kept {C n d : String} {A : Nat → Prop} {U : State} {H H1 : Heap} (h : vx_Zq C n d A U H) (hq : ∀ a : Nat, a < H.size → ¬ A a → H1[a]? = H[a]?) : vx_Zq C n d A U H1 := ⟨va_Zq.kept h.1 hq, vx_L.kept h.2 hq⟩
theorem vx_Zq.narrow {C n d : String} {A B : Nat → Prop} {U : State} {H : Heap} (h : vx_Zq C n d A U H) (hAB : ∀ q, B q → A q) : vx_Zq C n d B U H := ⟨va_Zq.narrow h.1 hAB, vx_L.narrow h.2 hAB⟩
theorem vx_Zqof {args : Array Value} {s : State} {C n d : String} {A : Nat → Prop} (hl : (Cond.laysStatic C n d).before args s = true) (hini : (Cond.initialized C).before args s = true) (h : (Cond.isRef (.static C n d)).before args s = true) (hA : ∀ a : Nat, a < s.heap.size → ¬ A a) : vx_Zq C n d A s s.heap := by
  refine ⟨va_Zqof hl hini h hA, ?_⟩
  obtain ⟨c, k, i, f, a, cell, h1, h2, h3, h4, h5, h6, h7, h8, h9⟩ := Cond.laysStatic_spec hl
  exact ⟨c, k, i, f, a, cell, h1, h2, h3, h4, h5, h6, h7, h8, h9, hA a (Array.getElem?_eq_some_iff.mp h5).1⟩
theorem vx_isRef {C n d : String} {v : Value} {A : Nat → Prop} {s : State} {args : Array Value} (h : va_Z C n d v A s s.heap) (hv : v.isRef = true) : (Cond.isRef (.static C n d)).before args s = true := by
  obtain ⟨cf, kf, fi, f, a, cell, h1, h2, h3, h4, h5, h6, h7, -⟩ := h
  have he : (Term.static C n d).eval args s none [] s = some v := by
    simp [Term.eval, State.fieldNamed?, h1, h2, h4, h5, h6, h7]
  simp only [Cond.before, Cond.holds, Cond.value, he]
  cases v <;> simp_all [Value.isRef]
theorem vx_isRefq {C n d : String} {A : Nat → Prop} {s : State} {args : Array Value} (h : va_Zq C n d A s s.heap) : (Cond.isRef (.static C n d)).before args s = true := by
  rcases h with h | ⟨t, h⟩
  · exact vx_isRef h rfl
  · exact vx_isRef h rfl
/-- the same frame, seen from here: as if the method were called anew in this heap -/
theorem vx_rebase {T : State} (X : Stand p l e R s m args below meth c T locs cells slots) {R' : Room} (hf : R'.frames ≤ R.frames) (hl : R'.locals ≤ R.locals) (hc : cells + R'.cells ≤ R.cells) (hs : slots + R'.slots ≤ R.slots) :
    Stand p l e R' ((T.setVm s.vm).setFrames (.invoking m args :: below)) m args below meth c T [] 0 0 := by
  have htop : (T.setVm s.vm).topJava?.isSome := X.here.top
  have hF : ((T.setVm s.vm).setFrames (.invoking m args :: below)).frames = .invoking m args :: below := State.frames_setFrames _ (State.cur_lt_of_top htop)
  obtain ⟨g₀, hg0⟩ := Option.isSome_iff_exists.mp htop
  obtain ⟨r, hr⟩ := State.topJava?_eq_some.mp hg0
  have hl9 : e.platform.stackLimits (T.setVm s.vm).me = e.platform.stackLimits s.me := X.limits
  have hb9 : (T.setVm s.vm).me.stackBytes = s.me.stackBytes := X.bytes
  refine ⟨X.admits, X.cas, X.clock, hF, ?_, X.hears, X.method, X.code, X.here, X.tail, X.warmed, ?_, ?_, ?_⟩
  · have h := X.room
    have hU : ((T.setVm s.vm).setFrames (.invoking m args :: below)).localsInUse = s.localsInUse := by
      rw [State.localsInUse_invoking hF (meth := meth) (c := c) X.method X.code, State.localsInUse_invoking X.frames X.method X.code]
    simp only [State.hasRoom, Bool.and_eq_true, decide_eq_true_eq] at h ⊢
    obtain ⟨⟨⟨⟨h1, h2, h3, h4, h5, h6⟩, h7⟩, h8⟩, h9⟩ := h
    rw [X.frames, List.length_cons] at h2 h3
    have q1 := X.heapSize
    have q2 := X.used
    simp only [hF, hU, List.length_cons, State.stackLimits_setFrames, State.stackBytes_setFrames, hl9, hb9]
    refine ⟨⟨⟨⟨by omega, by omega, by omega, by omega, by omega, h6⟩, ?_⟩, ?_⟩, X.book⟩
    · show T.heap.size + R'.cells ≤ e.platform.maxCells
      omega
    · show T.slotsUsed + R'.slots ≤ e.platform.maxSlots
      omega
  · rw [State.stackLimits_setFrames]; rfl
  · rw [State.stackBytes_setFrames]; rfl
  · refine ⟨?_, Nat.le_refl _, Nat.le_refl _, ?_, ?_, fun a c9 h9 => ⟨c9, h9, rfl, rfl, fun _ _ => rfl⟩⟩
    · obtain ⟨t, ht, -⟩ := State.frames_cons hr
      show T.setVm s.vm = { ((T.setVm s.vm).setFrames (.invoking m args :: below)).setFrames (T.setVm s.vm).frames with heap := T.heap, slotsUsed := T.slotsUsed }
      rw [State.setFrames_setFrames, State.setFrames_self ht]
      rfl
    · show T.slotsUsed = T.slotsUsed + ((T.heap.toList.drop T.heap.size).map (·.slots.size)).sum
      rw [List.drop_eq_nil_of_le (Nat.le_of_eq Array.length_toList)]
      rfl
    · show ((T.heap.toList.drop T.heap.size).map (·.slots.size)).sum ≤ 0
      rw [List.drop_eq_nil_of_le (Nat.le_of_eq Array.length_toList)]
      exact Nat.le_refl _
/-- 'throw new E()': new; dup; invokespecial; athrow -/
theorem vx_throw0 {cc : ByteArray} {pc : Nat} (hexec : p.tables.exec = Jvm.exec) (hb : c.code = cc) (hl : l.stackTraces = false) {own cls : String} {names : List String} {ik ic mc ms : Nat} {A : Nat → Prop}
    (hown : s.vm.findClass own = some m.cls) (hcls : Bundle.fit cls = true) (hnames : ∀ n ∈ names, Bundle.fit n = true)
    (hk : (Cond.classLink own ik cls).before args s = true) (hini : (Cond.initialized cls).before args s = true) (hat : ∀ w ∈ vx_at0 own ic cls names, w.before args s = true)
    (hgood : ∀ w ∈ Cond.classLink own ik cls :: Cond.initialized cls :: vx_at0 own ic cls names, vx_ot w = true)
    (hU : vx_Zq Bundle.tN "UNASSIGNED_STACK" Bundle.steD A s s.heap) (hN : vx_Zq Bundle.tN "SUPPRESSED_SENTINEL" Bundle.listD A s s.heap) (hS : va_S A s.heap H locs) (hsize : ls.size = c.maxLocals)
    (d0 : decode cc pc = .ok (.new ik, 3)) (d3 : decode cc (pc + 3) = .ok (.dup, 1)) (d4 : decode cc (pc + 4) = .ok (.invokespecial ic, 3)) (d7 : decode cc (pc + 7) = .ok (.athrow, 1))
    (hout : ∀ x ∈ c.exceptionTable.toList, covers x (pc + 7) = false)
    (hRframes : names.length + 3 < R.frames) (hRlocals : (rest.map fun v => v.category).sum + (13 * (names.length + 1) + 42) ≤ R.locals) (hRcells : cells + 1 ≤ R.cells) (hRslots : slots + 6 ≤ R.slots) (hlocks : meth.locks = false)
    (hx : ∀ t : State, s.vm.Alike t.vm → H.size ≤ t.heap.size → (∀ q : Nat, q < H.size → t.heap[q]? = H[q]?) → XC cls s t)
    (hf : ∀ z ∈ locs, free z.base) (hc : cells + 1 ≤ mc) (hs : slots + 6 ≤ ms) :
    W p l e R s m args below meth c H locs cells slots (vx_MQ below Qc XC args s mc ms free) (F0 m pc ls rest) := by
  intro T hT X
  have htr : e.platform.stackTraces = false := (show e.platform.stackTraces = l.stackTraces by rw [X.admits.platform]).trans hl
  have Y := vx_rebase X (R' := { frames := R.frames, locals := R.locals, cells := 1, slots := 6 }) (Nat.le_refl _) (Nat.le_refl _) hRcells hRslots
  obtain ⟨s', hA⟩ : ∃ z, z = (T.setVm s.vm).setFrames (.invoking m args :: below) := ⟨_, rfl⟩
  rw [← hA] at Y
  have hvm : s'.vm = s.vm := by rw [hA]; rfl
  have hhp : s'.heap = H := by rw [hA]; exact hT
  have hW0 : s.WarmedH s'.vm := by rw [hvm]; exact State.WarmedH.refl s
  have hat' : ∀ w ∈ vx_at0 own ic cls names, w.before args s' = true := fun w hw => vx_ot_at hW0 hvm.symm (hgood w (List.mem_cons_of_mem _ (List.mem_cons_of_mem _ hw))) (hat w hw)
  have hk' : (Cond.classLink own ik cls).before args s' = true := vx_ot_at hW0 hvm.symm (hgood _ List.mem_cons_self) hk
  have hini' : (Cond.initialized cls).before args s' = true := vx_ot_at hW0 hvm.symm (hgood _ (List.mem_cons_of_mem _ List.mem_cons_self)) hini
  have hU' : vx_Zq Bundle.tN "UNASSIGNED_STACK" Bundle.steD A s' s'.heap := by rw [hhp]; exact vx_Zq.moved hW0.alike (hU.kept hS.2.1)
  have hN' : vx_Zq Bundle.tN "SUPPRESSED_SENTINEL" Bundle.listD A s' s'.heap := by rw [hhp]; exact vx_Zq.moved hW0.alike (hN.kept hS.2.1)
  have h : ∀ w ∈ Bundle.ownAtoms0 own ic cls names, w.before args s' = true := vx_own hat' (vx_isRefq hU'.1) (vx_isRefq hN'.1) hU'.2.word hN'.2.word
  have hown' : s'.vm.findClass own = some m.cls := by rw [hvm]; exact hown
  have hins : (Cond.instantiable cls 6).before args s' = true := h _ (by simp [Bundle.ownAtoms0])
  obtain ⟨vm₁, cX, kX, hfX, hkX, -, -, X₁, st1⟩ := Y.newCold hexec (own := own) (C := cls) (index := ik) (n := 6) hown' hk' hins hini'
    (g := F0 m pc ls rest) rfl (by rw [hb]; exact d0) (Nat.le_refl _) (Nat.le_refl _)
  generalize hT1 : (T.setVm vm₁).pushCell { cls := cX, slots := kX.instanceTypes.map defaultValue, vm := .none } = T1 at X₁ st1
  have hcat : (Value.ref T.heap.size).category = 1 := rfl
  have hcellA : T1.heap[T.heap.size]? = some (freshCell cX kX) := by rw [← hT1]; exact State.heap_pushCell_size _ _
  have d3' : decode c.code (pc + 3) = .ok (.dup, 1) := by rw [hb]; exact d3
  obtain ⟨U, hsteps, hrun, hend, hW, hsame, ce, hce, hO⟩ := X₁.ctorThrow0 hexec htr (own := own) (cls := cls) (names := names) (ic := ic) hown' hcls hnames h (fun x hx => nomatch hx) hfX hkX hcellA (by rw [hhp, hT]; exact Nat.le_refl _)
    (g := { method := m, pc := pc + 4, locals := ls, stack := .ref T.heap.size :: .ref T.heap.size :: rest, locked := none }) rfl hsize rfl rfl (rest := rest) rfl
    (by rw [hb]; exact d4) (by rw [hb]; exact d7) hout hRframes (by simp only [List.map_cons, List.sum_cons, hcat]; omega) hlocks
  obtain ⟨f1, f2⟩ := vx_frame hsame
  rw [hhp] at f1 f2
  have hWs : s.WarmedH U.vm := State.WarmedH.trans hW0 hW
  have hcl : s.vm.findClass cls = some ce.cls := by
    have h9 := hO.cls
    rw [hvm] at h9
    exact h9
  have hall : s.sameButNew ({ U with vm := s.vm } : State) locs mc ms := by
    subst hA
    obtain ⟨e1, e2⟩ := hsame
    rw [State.setFrames_setFrames] at e1
    have h2 : (T.setVm s.vm).sameButNew ({ U with vm := s.vm } : State) [] (0 + 1) (0 + 6) := ⟨e1, e2⟩
    have h3 := X.same.trans h2
    rw [List.append_nil] at h3
    exact h3.mono hc hs
  refine ⟨U, ?_, .threw T.heap.size, hrun, hend, Or.inr ⟨T.heap.size, rfl, cls, ce, locs, hx U hWs.alike f1 (fun q hq => f2 q hq (fun z hz => nomatch hz)), hce, hO.vm, hcl, hWs, hall, hf⟩⟩
  refine st1 _ ?_
  show Steps p.tables e below (T1.setTop { method := m, pc := pc + 3, locals := ls, stack := .ref T.heap.size :: rest, locked := none }) _
  jvm_step X₁.here [X₁.here.top, hexec, d3', Value.category]
  exact hsteps
/-- 'throw new E("text")': new; dup; ldc; invokespecial; athrow -/
theorem vx_throwS {cc : ByteArray} {pc : Nat} (hexec : p.tables.exec = Jvm.exec) (hb : c.code = cc) (hl : l.stackTraces = false) {own cls text : String} {names : List String} {ik is ic mc ms sa : Nat} {A : Nat → Prop}
    (hown : s.vm.findClass own = some m.cls) (hcls : Bundle.fit cls = true) (hnames : ∀ n ∈ names, Bundle.fit n = true)
    (hk : (Cond.classLink own ik cls).before args s = true) (hini : (Cond.initialized cls).before args s = true) (hstr : vk_R own is text sa s) (hat : ∀ w ∈ vx_atS own ic cls names, w.before args s = true)
    (hgood : ∀ w ∈ Cond.classLink own ik cls :: Cond.initialized cls :: vx_atS own ic cls names, vx_ot w = true)
    (hU : vx_Zq Bundle.tN "UNASSIGNED_STACK" Bundle.steD A s s.heap) (hN : vx_Zq Bundle.tN "SUPPRESSED_SENTINEL" Bundle.listD A s s.heap) (hS : va_S A s.heap H locs) (hsize : ls.size = c.maxLocals)
    (d0 : decode cc pc = .ok (.new ik, 3)) (d3 : decode cc (pc + 3) = .ok (.dup, 1)) (d4 : decode cc (pc + 4) = .ok (.ldc is, 2)) (d6 : decode cc (pc + 6) = .ok (.invokespecial ic, 3)) (d9 : decode cc (pc + 9) = .ok (.athrow, 1))
    (hout : ∀ x ∈ c.exceptionTable.toList, covers x (pc + 9) = false)
    (hRframes : names.length + 3 < R.frames) (hRlocals : (rest.map fun v => v.category).sum + (13 * (names.length + 1) + 43) ≤ R.locals) (hRcells : cells + 1 ≤ R.cells) (hRslots : slots + 6 ≤ R.slots) (hlocks : meth.locks = false)
    (hx : ∀ t : State, s.vm.Alike t.vm → H.size ≤ t.heap.size → (∀ q : Nat, q < H.size → t.heap[q]? = H[q]?) → XC cls s t)
    (hf : ∀ z ∈ locs, free z.base) (hc : cells + 1 ≤ mc) (hs : slots + 6 ≤ ms) :
    W p l e R s m args below meth c H locs cells slots (vx_MQ below Qc XC args s mc ms free) (F0 m pc ls rest) := by
  intro T hT X
  have htr : e.platform.stackTraces = false := (show e.platform.stackTraces = l.stackTraces by rw [X.admits.platform]).trans hl
  have Y := vx_rebase X (R' := { frames := R.frames, locals := R.locals, cells := 1, slots := 6 }) (Nat.le_refl _) (Nat.le_refl _) hRcells hRslots
  obtain ⟨s', hA⟩ : ∃ z, z = (T.setVm s.vm).setFrames (.invoking m args :: below) := ⟨_, rfl⟩
  rw [← hA] at Y
  have hvm : s'.vm = s.vm := by rw [hA]; rfl
  have hhp : s'.heap = H := by rw [hA]; exact hT
  have hW0 : s.WarmedH s'.vm := by rw [hvm]; exact State.WarmedH.refl s
  have hat' : ∀ w ∈ vx_atS own ic cls names, w.before args s' = true := fun w hw => vx_ot_at hW0 hvm.symm (hgood w (List.mem_cons_of_mem _ (List.mem_cons_of_mem _ hw))) (hat w hw)
  have hk' : (Cond.classLink own ik cls).before args s' = true := vx_ot_at hW0 hvm.symm (hgood _ List.mem_cons_self) hk
  have hini' : (Cond.initialized cls).before args s' = true := vx_ot_at hW0 hvm.symm (hgood _ (List.mem_cons_of_mem _ List.mem_cons_self)) hini
  have hU' : vx_Zq Bundle.tN "UNASSIGNED_STACK" Bundle.steD A s' s'.heap := by rw [hhp]; exact vx_Zq.moved hW0.alike (hU.kept hS.2.1)
  have hN' : vx_Zq Bundle.tN "SUPPRESSED_SENTINEL" Bundle.listD A s' s'.heap := by rw [hhp]; exact vx_Zq.moved hW0.alike (hN.kept hS.2.1)
  have h : ∀ w ∈ Bundle.ownAtoms own ic cls names, w.before args s' = true := vx_own hat' (vx_isRefq hU'.1) (vx_isRefq hN'.1) hU'.2.word hN'.2.word
  have hown' : s'.vm.findClass own = some m.cls := by rw [hvm]; exact hown
  have hins : (Cond.instantiable cls 6).before args s' = true := h _ (by simp [Bundle.ownAtoms])
  obtain ⟨vm₁, cX, kX, hfX, hkX, -, -, X₁, st1⟩ := Y.newCold hexec (own := own) (C := cls) (index := ik) (n := 6) hown' hk' hins hini'
    (g := F0 m pc ls rest) rfl (by rw [hb]; exact d0) (Nat.le_refl _) (Nat.le_refl _)
  generalize hT1 : (T.setVm vm₁).pushCell { cls := cX, slots := kX.instanceTypes.map defaultValue, vm := .none } = T1 at X₁ st1
  have hcat : (Value.ref T.heap.size).category = 1 := rfl
  have hcellA : T1.heap[T.heap.size]? = some (freshCell cX kX) := by rw [← hT1]; exact State.heap_pushCell_size _ _
  have d3' : decode c.code (pc + 3) = .ok (.dup, 1) := by rw [hb]; exact d3
  have d4' : decode c.code (pc + 4) = .ok (.ldc is, 2) := by rw [hb]; exact d4
  have hstr' : vk_R own is text sa s' := vk_R.warm hW0 hstr
  obtain ⟨U, hsteps, hrun, hend, hW, hsame, ce, hce, hO⟩ := X₁.ctorThrowS hexec htr (own := own) (cls := cls) (names := names) (ic := ic) hown' hcls hnames h (fun x hx => nomatch hx) hfX hkX hcellA (by rw [hhp, hT]; exact Nat.le_refl _) (msg := .ref sa) rfl
    (g := { method := m, pc := pc + 6, locals := ls, stack := .ref sa :: .ref T.heap.size :: .ref T.heap.size :: rest, locked := none }) rfl hsize rfl rfl (rest := rest) rfl
    (by rw [hb]; exact d6) (by rw [hb]; exact d9) hout hRframes (by simp only [List.map_cons, List.sum_cons, hcat]; omega) hlocks
  obtain ⟨f1, f2⟩ := vx_frame hsame
  rw [hhp] at f1 f2
  have hWs : s.WarmedH U.vm := State.WarmedH.trans hW0 hW
  have hcl : s.vm.findClass cls = some ce.cls := by
    have h9 := hO.cls
    rw [hvm] at h9
    exact h9
  have hall : s.sameButNew ({ U with vm := s.vm } : State) locs mc ms := by
    subst hA
    obtain ⟨e1, e2⟩ := hsame
    rw [State.setFrames_setFrames] at e1
    have h2 : (T.setVm s.vm).sameButNew ({ U with vm := s.vm } : State) [] (0 + 1) (0 + 6) := ⟨e1, e2⟩
    have h3 := X.same.trans h2
    rw [List.append_nil] at h3
    exact h3.mono hc hs
  refine ⟨U, ?_, .threw T.heap.size, hrun, hend, Or.inr ⟨T.heap.size, rfl, cls, ce, locs, hx U hWs.alike f1 (fun q hq => f2 q hq (fun z hz => nomatch hz)), hce, hO.vm, hcl, hWs, hall, hf⟩⟩
  refine st1 _ ?_
  show Steps p.tables e below (T1.setTop { method := m, pc := pc + 3, locals := ls, stack := .ref T.heap.size :: rest, locked := none }) _
  jvm_step X₁.here [X₁.here.top, hexec, d3', Value.category]
  exact X₁.ldcString hexec (own := own) (text := text) (index := is) (a := sa) hown' hstr'.1 hstr'.2
    (g := { method := m, pc := pc + 4, locals := ls, stack := .ref T.heap.size :: .ref T.heap.size :: rest, locked := none }) rfl d4' _ hsteps
/-- 'throw new E("text")', the text by a wide index -/
theorem vx_throwSW {cc : ByteArray} {pc : Nat} (hexec : p.tables.exec = Jvm.exec) (hb : c.code = cc) (hl : l.stackTraces = false) {own cls text : String} {names : List String} {ik is ic mc ms sa : Nat} {A : Nat → Prop}
    (hown : s.vm.findClass own = some m.cls) (hcls : Bundle.fit cls = true) (hnames : ∀ n ∈ names, Bundle.fit n = true)
    (hk : (Cond.classLink own ik cls).before args s = true) (hini : (Cond.initialized cls).before args s = true) (hstr : vk_R own is text sa s) (hat : ∀ w ∈ vx_atS own ic cls names, w.before args s = true)
    (hgood : ∀ w ∈ Cond.classLink own ik cls :: Cond.initialized cls :: vx_atS own ic cls names, vx_ot w = true)
    (hU : vx_Zq Bundle.tN "UNASSIGNED_STACK" Bundle.steD A s s.heap) (hN : vx_Zq Bundle.tN "SUPPRESSED_SENTINEL" Bundle.listD A s s.heap) (hS : va_S A s.heap H locs) (hsize : ls.size = c.maxLocals)
    (d0 : decode cc pc = .ok (.new ik, 3)) (d3 : decode cc (pc + 3) = .ok (.dup, 1)) (d4 : decode cc (pc + 4) = .ok (.ldc_w is, 3)) (d7 : decode cc (pc + 7) = .ok (.invokespecial ic, 3)) (d10 : decode cc (pc + 10) = .ok (.athrow, 1))
    (hout : ∀ x ∈ c.exceptionTable.toList, covers x (pc + 10) = false)
    (hRframes : names.length + 3 < R.frames) (hRlocals : (rest.map fun v => v.category).sum + (13 * (names.length + 1) + 43) ≤ R.locals) (hRcells : cells + 1 ≤ R.cells) (hRslots : slots + 6 ≤ R.slots) (hlocks : meth.locks = false)
    (hx : ∀ t : State, s.vm.Alike t.vm → H.size ≤ t.heap.size → (∀ q : Nat, q < H.size → t.heap[q]? = H[q]?) → XC cls s t)
    (hf : ∀ z ∈ locs, free z.base) (hc : cells + 1 ≤ mc) (hs : slots + 6 ≤ ms) :
    W p l e R s m args below meth c H locs cells slots (vx_MQ below Qc XC args s mc ms free) (F0 m pc ls rest) := by
  intro T hT X
  have htr : e.platform.stackTraces = false := (show e.platform.stackTraces = l.stackTraces by rw [X.admits.platform]).trans hl
  have Y := vx_rebase X (R' := { frames := R.frames, locals := R.locals, cells := 1, slots := 6 }) (Nat.le_refl _) (Nat.le_refl _) hRcells hRslots
  obtain ⟨s', hA⟩ : ∃ z, z = (T.setVm s.vm).setFrames (.invoking m args :: below) := ⟨_, rfl⟩
  rw [← hA] at Y
  have hvm : s'.vm = s.vm := by rw [hA]; rfl
  have hhp : s'.heap = H := by rw [hA]; exact hT
  have hW0 : s.WarmedH s'.vm := by rw [hvm]; exact State.WarmedH.refl s
  have hat' : ∀ w ∈ vx_atS own ic cls names, w.before args s' = true := fun w hw => vx_ot_at hW0 hvm.symm (hgood w (List.mem_cons_of_mem _ (List.mem_cons_of_mem _ hw))) (hat w hw)
  have hk' : (Cond.classLink own ik cls).before args s' = true := vx_ot_at hW0 hvm.symm (hgood _ List.mem_cons_self) hk
  have hini' : (Cond.initialized cls).before args s' = true := vx_ot_at hW0 hvm.symm (hgood _ (List.mem_cons_of_mem _ List.mem_cons_self)) hini
  have hU' : vx_Zq Bundle.tN "UNASSIGNED_STACK" Bundle.steD A s' s'.heap := by rw [hhp]; exact vx_Zq.moved hW0.alike (hU.kept hS.2.1)
  have hN' : vx_Zq Bundle.tN "SUPPRESSED_SENTINEL" Bundle.listD A s' s'.heap := by rw [hhp]; exact vx_Zq.moved hW0.alike (hN.kept hS.2.1)
  have h : ∀ w ∈ Bundle.ownAtoms own ic cls names, w.before args s' = true := vx_own hat' (vx_isRefq hU'.1) (vx_isRefq hN'.1) hU'.2.word hN'.2.word
  have hown' : s'.vm.findClass own = some m.cls := by rw [hvm]; exact hown
  have hins : (Cond.instantiable cls 6).before args s' = true := h _ (by simp [Bundle.ownAtoms])
  obtain ⟨vm₁, cX, kX, hfX, hkX, -, -, X₁, st1⟩ := Y.newCold hexec (own := own) (C := cls) (index := ik) (n := 6) hown' hk' hins hini'
    (g := F0 m pc ls rest) rfl (by rw [hb]; exact d0) (Nat.le_refl _) (Nat.le_refl _)
  generalize hT1 : (T.setVm vm₁).pushCell { cls := cX, slots := kX.instanceTypes.map defaultValue, vm := .none } = T1 at X₁ st1
  have hcat : (Value.ref T.heap.size).category = 1 := rfl
  have hcellA : T1.heap[T.heap.size]? = some (freshCell cX kX) := by rw [← hT1]; exact State.heap_pushCell_size _ _
  have d3' : decode c.code (pc + 3) = .ok (.dup, 1) := by rw [hb]; exact d3
  have d4' : decode c.code (pc + 4) = .ok (.ldc_w is, 3) := by rw [hb]; exact d4
  have hstr' : vk_R own is text sa s' := vk_R.warm hW0 hstr
  obtain ⟨U, hsteps, hrun, hend, hW, hsame, ce, hce, hO⟩ := X₁.ctorThrowS hexec htr (own := own) (cls := cls) (names := names) (ic := ic) hown' hcls hnames h (fun x hx => nomatch hx) hfX hkX hcellA (by rw [hhp, hT]; exact Nat.le_refl _) (msg := .ref sa) rfl
    (g := { method := m, pc := pc + 7, locals := ls, stack := .ref sa :: .ref T.heap.size :: .ref T.heap.size :: rest, locked := none }) rfl hsize rfl rfl (rest := rest) rfl
    (by rw [hb]; exact d7) (by rw [hb]; exact d10) hout hRframes (by simp only [List.map_cons, List.sum_cons, hcat]; omega) hlocks
  obtain ⟨f1, f2⟩ := vx_frame hsame
  rw [hhp] at f1 f2
  have hWs : s.WarmedH U.vm := State.WarmedH.trans hW0 hW
  have hcl : s.vm.findClass cls = some ce.cls := by
    have h9 := hO.cls
    rw [hvm] at h9
    exact h9
  have hall : s.sameButNew ({ U with vm := s.vm } : State) locs mc ms := by
    subst hA
    obtain ⟨e1, e2⟩ := hsame
    rw [State.setFrames_setFrames] at e1
    have h2 : (T.setVm s.vm).sameButNew ({ U with vm := s.vm } : State) [] (0 + 1) (0 + 6) := ⟨e1, e2⟩
    have h3 := X.same.trans h2
    rw [List.append_nil] at h3
    exact h3.mono hc hs
  refine ⟨U, ?_, .threw T.heap.size, hrun, hend, Or.inr ⟨T.heap.size, rfl, cls, ce, locs, hx U hWs.alike f1 (fun q hq => f2 q hq (fun z hz => nomatch hz)), hce, hO.vm, hcl, hWs, hall, hf⟩⟩
  refine st1 _ ?_
  show Steps p.tables e below (T1.setTop { method := m, pc := pc + 3, locals := ls, stack := .ref T.heap.size :: rest, locked := none }) _
  jvm_step X₁.here [X₁.here.top, hexec, d3', Value.category]
  exact X₁.ldcStringW hexec (own := own) (text := text) (index := is) (a := sa) hown' hstr'.1 hstr'.2
    (g := { method := m, pc := pc + 4, locals := ls, stack := .ref T.heap.size :: .ref T.heap.size :: rest, locked := none }) rfl d4' _ hsteps
end Ends
section Bodies
variable {l : Launch}
theorem vx_ofW {y : MethodName} {ws ws' : List Cond} {rm : Room} {Pc : Array Value → State → Prop} {Qc : Array Value → State → Outcome → State → Prop} {XC : String → State → State → Prop} {mc ms : Nat} {free : Addr → Prop} {cc : ByteArray} {maxL : Nat} {ret : Option FieldType}
    (hy : plainName y.cls = true) (hw : ws = Cond.code y cc maxL ret :: ws')
    (body : ∀ p e s m args below meth c s₁, BodyLoose p l y (headSpec ws rm) cc maxL ret e s m args below meth c s₁ → c.maxLocals = maxL → (∀ x ∈ c.exceptionTable.toList, False) → Pc args s →
      W p l e (headSpec ws rm).room s m args below meth c s.heap [] 0 0 (vx_MQ below Qc XC args s mc ms free) (entryFrame m args maxL)) : vx_Met l y ws rm Pc Qc XC mc ms free := by
  refine MetFree.of_bodyS (code := cc) (maxLocals := maxL) (ret := ret) hy ?_ ?_
  · intro args s m h hn
    obtain ⟨meth, c, h1, h2, h3, h4, h5, h6, -, -⟩ := Cond.code_spec hn (atoms_spec (ws := ws) h _ (by rw [hw]; exact List.mem_cons_self))
    exact ⟨meth, c, h1, h2, h3, h4, h5, h6⟩
  · intro p e s m args below meth c s₁ B hml hP _
    have hh0 : s₁.heap = s.heap := by rw [B.state]; rfl
    have ht : ∀ x ∈ c.exceptionTable.toList, False := by
      obtain ⟨meth9, c9, h1, h2, -, -, -, -, h7, -⟩ := Cond.code_spec B.named (atoms_spec (ws := ws) B.pre _ (by rw [hw]; exact List.mem_cons_self))
      cases Option.some.inj (h1.symm.trans B.method)
      cases Option.some.inj (h2.symm.trans (Stand.of_body B).code)
      intro x hx
      rw [Array.isEmpty_iff.mp h7] at hx
      cases hx
    obtain ⟨t, a1, o, b1, b2, b3⟩ := body p e s m args below meth c s₁ B hml ht hP s₁ hh0 (Stand.of_body B)
    exact ⟨t, o, a1, b1, b2, b3⟩
/-- the table of a body with handlers -/
theorem vx_table {p : Program} {x y : MethodName} {S : Spec} {cc bytes : ByteArray} {maxL maxL' : Nat} {ret ret' : Option FieldType} {e : Env} {s s₁ : State} {m : MethodId} {args : Array Value} {below : List Frame} {meth : Method} {c : Code} {hh : List (Nat × Nat × Nat × Nat)}
    (B : BodyLoose p l y S cc maxL ret e s m args below meth c s₁) (h : (Cond.codeWith y bytes maxL' ret' hh).before args s = true) : c.exceptionTable.toList = tableOf hh := by
  obtain ⟨m9, meth9, c9, hn9, h1, h2, -, -, h6, -⟩ := Cond.codeWith_spec h
  cases Option.some.inj (hn9.symm.trans B.named)
  cases Option.some.inj (h1.symm.trans B.method)
  cases Option.some.inj (h2.symm.trans (Stand.of_body B).code)
  rw [← h6, table_eq]
end Bodies
end VXA
/-! ===== END ===== -/
/-! ===== BEGIN a static call of a method with an exception table ===== -/
section VXS
variable {p : Program} {l : Launch} {e : Env} {R : Room} {s : State} {m : MethodId} {args : Array Value} {below : List Frame} {meth : Method} {c : Code} {T : State} {H : Heap} {locs : List Loc} {cells slots : Nat}
abbrev vx_CSW (R : Room) (s : State) (args : Array Value) (own : String) (index : Nat) (y : MethodName) (bytes : ByteArray) (maxL : Nat) (ret : Option FieldType) (hh : List (Nat × Nat × Nat × Nat)) (ws : List Cond) (rm : Room) (mc ms n : Nat) : Prop :=
  (rm.cells = mc ∧ rm.slots = ms ∧ rm.frames + 1 ≤ R.frames ∧ 8 + (maxL + 11) + rm.locals ≤ R.locals ∧ (∀ w ∈ ws, ∀ (a' : Array Value) (U : State), s.WarmedH U.vm → w.before a' U = true) ∧ Cond.codeWith y bytes maxL ret hh ∈ ws) ∧
  (Cond.codeWith y bytes maxL ret hh).before args s = true ∧ (Cond.initialized y.cls).before args s = true ∧ (y.cls ≠ "java/lang/invoke/MethodHandle" ∧ y.cls ≠ "java/lang/invoke/VarHandle") ∧
  (∀ sig, parseMethodDescriptor y.desc = some sig → n = sig.parameters.length) ∧ (Cond.methodLink own index y).before args s = true ∧ (Cond.static y).before args s = true
theorem vx_cwSW {own : String} {index maxL mc ms : Nat} {y : MethodName} {bytes : ByteArray} {ret : Option FieldType} {hh : List (Nat × Nat × Nat × Nat)} {Ts ws ws' : List Cond} {rm : Room} (n : Nat) (ht : ∀ w ∈ Ts, w.before args s = true) (hT : GoodIn Ts (va_wsS own index y ws)) (hw : ws = Cond.codeWith y bytes maxL ret hh :: ws') (hrc : rm.cells = mc) (hrs : rm.slots = ms)
    (hd : y.cls ≠ "java/lang/invoke/MethodHandle" ∧ y.cls ≠ "java/lang/invoke/VarHandle" ∧ (parseMethodDescriptor y.desc).map (fun d => d.parameters.length) = some n) (hR : rm.frames + 1 ≤ R.frames ∧ 8 + (maxL + 11) + rm.locals ≤ R.locals) :
    vx_CSW R s args own index y bytes maxL ret hh ws rm mc ms n := by
  have ok : ∀ w ∈ va_wsS own index y ws, w.before args s = true := fun w h => ht w (hT w h).1
  have hG : GoodIn Ts ws := fun w h => hT w (by unfold va_wsS; exact List.mem_append_right _ h)
  have hc : Cond.codeWith y bytes maxL ret hh ∈ ws := by rw [hw]; exact List.mem_cons_self
  refine ⟨⟨hrc, hrs, hR.1, hR.2, pay_in ht hG, hc⟩, ht _ (hG _ hc).1, ok _ (by simp [va_wsS]), ⟨hd.1, hd.2.1⟩, fun sig h => ?_, ok _ (by simp [va_wsS]), ok _ (by simp [va_wsS])⟩
  have h2 := hd.2.2
  rw [h] at h2
  exact (Option.some.inj h2).symm
theorem vx_callSW (X : Stand p l e R s m args below meth c T locs cells slots) (hexec : p.tables.exec = Jvm.exec) {own : String} {index : Nat} {y : MethodName} {bytes : ByteArray} {maxL : Nat} {ret : Option FieldType} {hh : List (Nat × Nat × Nat × Nat)}
    (hown : s.vm.findClass own = some m.cls) (hlink : (Cond.methodLink own index y).before args s = true) (hstat : (Cond.static y).before args s = true) (hinit : (Cond.initialized y.cls).before args s = true)
    (hcode : (Cond.codeWith y bytes maxL ret hh).before args s = true) (hy : y.cls ≠ "java/lang/invoke/MethodHandle" ∧ y.cls ≠ "java/lang/invoke/VarHandle")
    {W9 : Nat} {Pre : Pt → Array Value → Prop} {Post : Pt → Array Value → Option Value → Pt → Prop} (hK : Back l R p e below s args y 3 W9 Pre Post)
    {g : JFrame} (hg : g.method = m) (hsize : g.locals.size = c.maxLocals) {argsL rest : List Value} (hlen : ∀ sig, parseMethodDescriptor y.desc = some sig → argsL.length = sig.parameters.length)
    (hstack : g.stack = argsL.reverse ++ rest) (hW : 2 * g.monitorRoom + (rest.map fun v => v.category).sum ≤ W9) (hdg : decode c.code g.pc = .ok (.invokestatic index, 3))
    (hpre : ∀ vm₁, s.WarmedH vm₁ → Pre ⟨T.setVm vm₁, locs, cells, slots⟩ argsL.toArray) :
    ∃ (v : Option Value) (vm₁ : Vm) (B : Pt), s.WarmedH vm₁ ∧ Stand p l e R s m args below meth c B.U B.locs B.cells B.slots ∧ Post ⟨T.setVm vm₁, locs, cells, slots⟩ argsL.toArray v B ∧
      ∀ target, Steps p.tables e below (B.U.setTop { g with pc := g.pc + 3, stack := v.toList ++ rest }) target → Steps p.tables e below (T.setTop g) target := by
  obtain ⟨mk, methM, cM, hnamed, hmethM, -, -, -, -, -, -, hsigM⟩ := Cond.codeWith_spec hcode
  have hstatic : methM.isStatic = true := Cond.static_spec hnamed hmethM hstat
  obtain ⟨kP, hkP, -⟩ := className_of_methodNamed hnamed
  have hinitP : kP.init = .initialized := Cond.initialized_spec (findClass_of_methodNamed hnamed) hkP hinit
  obtain ⟨vm₁, X₁, hstep₁⟩ := X.invokestatic hexec hown hlink hnamed hmethM hstatic hkP hinitP hy (g := g) hg (argsL := argsL) (rest := rest) (hlen _ hsigM) hstack hdg
  obtain ⟨v, B, X', hpost, hsteps⟩ := hK m meth c ⟨T.setVm vm₁, locs, cells, slots⟩ { g with stack := rest } (.invokestatic index) mk argsL.toArray X₁ hg hsize hdg hW (X₁.named hnamed) (hpre vm₁ X₁.warmed)
  exact ⟨v, vm₁, B, X₁.warmed, X', hpost, fun target h => hstep₁ _ fun acts => by rw [doInvoke_state]; exact hsteps.trans h⟩
theorem vx_runSW {y : MethodName} {bytes cc : ByteArray} {maxL nL mc ms n index : Nat} {ret : Option FieldType} {hh : List (Nat × Nat × Nat × Nat)} {ws : List Cond} {rm : Room} {Pc : Array Value → State → Prop} {Qc : Array Value → State → Outcome → State → Prop} {free : Addr → Prop} {Ts : List Cond} {own : String} {As rest : List Value} {g : JFrame}
    (S : CallFix p m c cc nL s args Ts own) (hM : Met l y ws rm Pc Qc mc ms free) (cw : vx_CSW R s args own index y bytes maxL ret hh ws rm mc ms n) (hp : PreS s H Pc As)
    (hg : g.method = m) (hn : As.length = n) (hsize : g.locals.size = nL) (hstack : g.stack = As.reverse ++ rest) (hW : 2 * g.monitorRoom + (rest.map fun v => v.category).sum ≤ 8) (hdg : decode cc g.pc = .ok (.invokestatic index, 3)) (hf : cells + mc ≤ R.cells ∧ slots + ms ≤ R.slots) :
    va_Run p l e R s m args below meth c H locs cells slots mc ms g rest (Qc As.toArray) (free) := by
  obtain ⟨⟨hrc, hrs, hfr, hlo, hws, hcw⟩, hcode, hini, hy, hlen, hl, hstt⟩ := cw
  have hK : Back l R p e below s args y 3 8 (PreOf R mc ms Pc) (PostOf Qc mc ms free) := va_backW (hh := hh) (bytes := bytes) (maxL := maxL) (ret := ret) hM hp.1 hrc hrs hfr hlo hws hcw (fun a' U hW => word_at hW (Or.inl (by first | rfl | simp [Cond.onTables, Cond.keeps, Cond.steady])) hini)
  obtain ⟨hx, hb, hml, ho, -⟩ := S
  intro T hT X
  obtain ⟨v, vm₁, ⟨U', l2, c2, s2⟩, hW₁, X', ⟨g', mk, t, L, e1, e2, hq, h1, hL, h2, h3⟩, st⟩ := vx_callSW X hx (hh := hh) (bytes := bytes) (maxL := maxL) (ret := ret) ho hl hstt hini hcode hy hK hg (hsize.trans hml.symm) (argsL := As) (rest := rest) (fun sig h => hn.trans (hlen sig h)) hstack hW (by rw [hb]; exact hdg)
    (fun vm₁ hW₁ => ⟨hf.1, hf.2, hp.2 (T.setVm vm₁) hT hW₁⟩)
  dsimp only [Pt.U, Pt.locs, Pt.cells, Pt.slots] at X' e1 e2 h1 h2 h3 st
  subst h1; subst h2; subst h3
  exact ⟨v, (T.setVm vm₁).calling g' mk As.toArray, t, U', L, hT, X', hL, e1, e2, hq, st⟩
/-- not caught here, past rows that name other classes: it goes on to the caller -/
theorem vx_outP {p : Program} {l : Launch} {e : Env} {R : Room} {s : State} {m : MethodId} {args : Array Value} {below : List Frame} {meth : Method} {c : Code} {H : Heap} {locs : List Loc} {cells slots : Nat} {free : Addr → Prop} {ls : Array Slot} {rest : List Value} {Qc : Array Value → State → Outcome → State → Prop} {XC : String → State → State → Prop}
    {pc : Nat} {own E : String} {ce : Cell} {q : Addr} {mc ms : Nat} (hown : s.vm.findClass own = some m.cls) (hlocks : meth.locks = false)
    (hpass : ∀ z ∈ c.exceptionTable.toList, covers z pc = false ∨ (z.catchType ≠ 0 ∧ ∃ nm : String, (Cond.classLink own z.catchType nm).before args s = true ∧ va_Nc E nm s)) (hcell : H[q]? = some ce) (hv : ce.vm = .none) (hcl : s.vm.findClass E = some ce.cls)
    (hx : ∀ t : State, t.heap = H → s.vm.Alike t.vm → XC E s t) (hf : ∀ z ∈ locs, free z.base) (hc : cells ≤ mc) (hs : slots ≤ ms) :
    vx_W p l e R s m args below meth c H locs cells slots (vx_MQ below Qc XC args s mc ms free) (F0 m pc ls rest) q := by
  intro T hT X
  have hpl : e.platform.magicAccessors = ({} : Platform).magicAccessors := by rw [X.admits.platform]
  obtain ⟨vm', hW', X', st⟩ := X.outThrough hlocks q (g := F0 m pc ls rest) rfl rfl rfl (cell := ce) (by rw [hT]; exact hcell) (by rw [hv]; rfl)
    (by obtain ⟨k9, h9, -⟩ := Vm.findClass_spec hcl; exact ⟨k9, h9⟩) (fun z hz => by
      rcases hpass z hz with h | ⟨hz0, nm, hl1, hn1⟩
      · exact Or.inl h
      · obtain ⟨c6, hc6, hcl6⟩ := Cond.classLink_spec hown hl1 e.platform hpl
        obtain ⟨a8, b8, h1, h2, h3⟩ := hn1
        cases Option.some.inj (h1.symm.trans hcl)
        cases Option.some.inj (h2.symm.trans hc6)
        exact Or.inr ⟨hz0, _, hcl6, h3⟩)
  obtain ⟨g₀, hfr⟩ := X'.frames_eq
  have hcell9 : ((T.setVm vm').setFrames (.throwing q :: below)).heap[q]? = some ce := by
    show T.heap[q]? = some ce
    rw [hT]; exact hcell
  have hend : Ended ((T.setVm vm').setFrames (.throwing q :: below)) below (.threw q) := State.frames_setFrames _ (State.cur_lt_of_frames hfr)
  refine ⟨(T.setVm vm').setFrames (.throwing q :: below), ?_, .threw q, X'.here.running, hend, Or.inr ⟨q, rfl, E, ce, locs, hx _ hT (X'.ends _).1.alike, hcell9, hv, hcl, (X'.ends _).1, (X'.ends _).2.mono hc hs, hf⟩⟩
  rw [X.pushThrowing_eq]
  exact st
/-- a thing of a world lies in the heap -/
theorem vx_lt {D : va_G} {cl : List vw_C} {ws : va_W} {H1 : Heap} (h : va_P D cl ws H1) {k : Nat} {q : Nat × va_E} (hk : ws[k]? = some q) : q.1 < H1.size := (h k q hk).lt
end VXS
/-! ===== END ===== -/
/-! ===== BEGIN methods with a table of their own: called by a name, returning or throwing ===== -/
section VXH
/-! vx_backW, vx_callVX, vx_callSX, vx_callVW, vx_runVW, vx_runVX, vx_runSX, vx_ofWH follow the same proofs as their sisters above (Free/Laws.lean, Shelf42/LK1.lean); vx_outP calls Shelf42/NT130.lean (outThrough). -/
section
variable {l : Launch} {R : Room} {p : Program} {e : Env} {below : List Frame} {s : State} {sargs : Array Value} {y : MethodName} {len W9 : Nat}
theorem vx_backW {ws : List Cond} {rm : Room} {Pc : Array Value → State → Prop} {Qc : Array Value → State → Outcome → State → Prop} {XC : String → State → State → Prop} {mc ms : Nat} {free : Addr → Prop} {bytes : ByteArray} {maxL : Nat} {ret : Option FieldType} {hh : List (Nat × Nat × Nat × Nat)}
    (hM : vx_Met l y ws rm Pc Qc XC mc ms free) (hblind : FrameBlind Pc) (hrc : rm.cells = mc) (hrs : rm.slots = ms)
    (hframes : rm.frames + 1 ≤ R.frames) (hlocals : W9 + (maxL + 11) + rm.locals ≤ R.locals)
    (hws : ∀ w ∈ ws, ∀ a' U, s.WarmedH U.vm → w.before a' U = true) (hcode : Cond.codeWith y bytes maxL ret hh ∈ ws) (hinit : ∀ a' U, s.WarmedH U.vm → (Cond.initialized y.cls).before a' U = true) :
    vx_Back l R p e below s sargs y len W9 (PreOf R mc ms Pc) (PostOf Qc mc ms free) (vx_Post XC mc ms free) := by
  intro m meth c A g ig mk a X hg hsize hdg hW hn hp
  have h1 : (headSpec ws rm).pre.before a A.U = true := atoms_intro fun w hw => hws w hw _ _ X.warmed
  have h2 : (Cond.codeWith y bytes maxL ret hh).before a A.U = true := hws _ hcode _ _ X.warmed
  have h3 : (Cond.initialized y.cls).before a A.U = true := hinit _ _ X.warmed
  have h4 : A.cells + (headSpec ws rm).room.cells ≤ R.cells := by rw [show (headSpec ws rm).room.cells = mc from hrc]; exact hp.1
  have h5 : A.slots + (headSpec ws rm).room.slots ≤ R.slots := by rw [show (headSpec ws rm).room.slots = ms from hrs]; exact hp.2.1
  have hPc : Pc a (A.U.calling g mk a) := hblind _ _ _ _ hp.2.2
  obtain ⟨U, Ls, c0, s0⟩ := A
  dsimp only [Pt.U, Pt.locs, Pt.cells, Pt.slots] at h1 h2 h3 h4 h5 X hn hPc ⊢
  obtain ⟨m9, methY, cY, hn9, hmY, hcY, -, hlY, -⟩ := Cond.codeWith_spec h2
  cases Option.some.inj (hn9.symm.trans hn)
  obtain ⟨kY, hkY, -⟩ := className_of_methodNamed hn
  have hinitY : kY.init = .initialized := Cond.initialized_spec (findClass_of_methodNamed hn) hkY h3
  have h : At U g.method c below := by rw [hg]; exact X.here
  have hlocals9 : W9 + (maxL + 11) + (headSpec ws rm).room.locals ≤ R.locals := hlocals
  have happ : (headSpec ws rm).appliesLoose y e.platform (U.calling g mk a) = true :=
    Spec.appliesLoose_calling (g := g) h hdg hn hkY hinitY
      (X.room_calling (g := g) (R' := (headSpec ws rm).room) hsize hmY hcY hframes (by rw [hlY]; omega) h4 h5) h1
  obtain ⟨mid, hmid⟩ := h.above
  have hfr : (U.setTop g).frames = (.java g :: mid) ++ below := by rw [State.frames_setTop' g h.top, hmid]; rfl
  obtain ⟨o, s₂, hsteps, -, hend, hq⟩ := Steps.callFree hM p X.admits X.cas X.clock (acts := []) hfr happ hPc trivial
  have hq' : vx_Q Qc XC mc ms free a (U.calling g mk a) o s₂ := hq
  rw [State.frames_setTop' g h.top] at hend
  obtain ⟨g₀, hg0⟩ := Option.isSome_iff_exists.mp h.top
  obtain ⟨r, hr⟩ := State.topJava?_eq_some.mp hg0
  have hr' : (({ U with heap := s₂.heap, slotsUsed := s₂.slotsUsed } : State).setVm s₂.vm).frames = .java g₀ :: r := hr
  rcases hq' with ⟨hqc, L, hfe, hL⟩ | ⟨q, rfl, E, ce, L, hx, hce, hcv, hcl, hW₂, hsm, hL⟩
  · obtain ⟨⟨v, rfl⟩, hW₂, e2, q2, q3, q4, q5, q6⟩ := id hfe
    have e3 : s₂ = ({ (U.calling g mk a).setFrames s₂.frames with heap := s₂.heap, slotsUsed := s₂.slotsUsed } : State).setVm s₂.vm := by
      have : s₂ = ({ s₂ with vm := (U.calling g mk a).vm } : State).setVm s₂.vm := rfl
      rw [e2] at this
      exact this
    obtain ⟨c₂, i₂, len₂, hc₂, hd₂, hf₂⟩ := hend
    have hW' : U.WarmedH s₂.vm := hW₂
    have hcc : c₂ = c := by
      have h1 : s₂.code? g.method = U.code? g.method := by
        rw [State.code?_eq, State.code?_eq, hW'.alike.method?]
      exact Option.some.inj (hc₂.symm.trans (h1.trans h.code))
    subst hcc
    have hlen : len₂ = len := by rw [hdg] at hd₂; cases hd₂; rfl
    subst hlen
    have hs₂ : s₂ = (({ U with heap := s₂.heap, slotsUsed := s₂.slotsUsed } : State).setVm s₂.vm).setTop { g with pc := g.pc + len₂, stack := v.toList ++ g.stack } := by
      refine e3.trans ?_
      rw [hf₂, State.calling_eq h.top, State.setFrames_setFrames, State.setTop_of_frames _ hr', hr]
      rfl
    have hsame : U.sameButNew ({ U with heap := s₂.heap, slotsUsed := s₂.slotsUsed } : State) L mc ms := by
      refine ⟨?_, q2, q3, q4, q5, q6⟩
      obtain ⟨t, ht, -⟩ := State.frames_cons hr
      show ({ U with heap := s₂.heap, slotsUsed := s₂.slotsUsed } : State) = { U.setFrames U.frames with heap := s₂.heap, slotsUsed := s₂.slotsUsed }
      rw [State.setFrames_self ht]
    subst hg
    refine Or.inl ⟨v, ⟨(({ U with heap := s₂.heap, slotsUsed := s₂.slotsUsed } : State).setVm s₂.vm), Ls ++ L, c0 + mc, s0 + ms⟩,
      ⟨X.admits, X.cas, X.clock, X.frames, X.room, X.hears, X.method, X.code, (X.here.setHeapUsed s₂.heap s₂.slotsUsed).setVm hW'.alike, X.tail, State.WarmedH.trans X.warmed hW', X.limits, X.bytes, X.same.trans (hsame.setVm s.vm)⟩,
      ⟨g, mk, s₂, L, rfl, rfl, hqc, rfl, hL, rfl, rfl⟩, ?_⟩
    show Steps p.tables e below _ ((({ U with heap := s₂.heap, slotsUsed := s₂.slotsUsed } : State).setVm s₂.vm).setTop { g with pc := g.pc + len₂, stack := v.toList ++ g.stack })
    rw [← hs₂]
    exact hsteps
  · obtain ⟨e2, q2, q3, q4, q5, q6⟩ := id hsm
    have e3 : s₂ = ({ (U.calling g mk a).setFrames s₂.frames with heap := s₂.heap, slotsUsed := s₂.slotsUsed } : State).setVm s₂.vm := by
      have : s₂ = ({ s₂ with vm := (U.calling g mk a).vm } : State).setVm s₂.vm := rfl
      rw [e2] at this
      exact this
    have hf₂ : s₂.frames = .throwing q :: .java g :: U.frames.tail := hend
    have hW' : U.WarmedH s₂.vm := hW₂
    have hs₂ : s₂ = ((({ U with heap := s₂.heap, slotsUsed := s₂.slotsUsed } : State).setVm s₂.vm).setTop g).pushFrame (.throwing q) := by
      refine e3.trans ?_
      rw [hf₂, State.calling_eq h.top, State.setFrames_setFrames, State.pushFrame, State.frames_setTop _ hr', State.setTop_of_frames _ hr', State.setFrames_setFrames, hr]
      rfl
    have hsame : U.sameButNew ({ U with heap := s₂.heap, slotsUsed := s₂.slotsUsed } : State) L mc ms := by
      refine ⟨?_, q2, q3, q4, q5, q6⟩
      obtain ⟨t, ht, -⟩ := State.frames_cons hr
      show ({ U with heap := s₂.heap, slotsUsed := s₂.slotsUsed } : State) = { U.setFrames U.frames with heap := s₂.heap, slotsUsed := s₂.slotsUsed }
      rw [State.setFrames_self ht]
    subst hg
    refine Or.inr ⟨q, ⟨(({ U with heap := s₂.heap, slotsUsed := s₂.slotsUsed } : State).setVm s₂.vm), Ls ++ L, c0 + mc, s0 + ms⟩,
      ⟨X.admits, X.cas, X.clock, X.frames, X.room, X.hears, X.method, X.code, (X.here.setHeapUsed s₂.heap s₂.slotsUsed).setVm hW'.alike, X.tail, State.WarmedH.trans X.warmed hW', X.limits, X.bytes, X.same.trans (hsame.setVm s.vm)⟩,
      ⟨g, mk, s₂, L, E, ce, rfl, rfl, hx, hce, hcv, hcl, rfl, hL, rfl, rfl⟩, ?_⟩
    show Steps p.tables e below _ (((({ U with heap := s₂.heap, slotsUsed := s₂.slotsUsed } : State).setVm s₂.vm).setTop g).pushFrame (.throwing q))
    rw [← hs₂]
    exact hsteps
end
variable {p : Program} {l : Launch} {e : Env} {R : Room} {s : State} {m : MethodId} {args : Array Value} {below : List Frame} {meth : Method} {c : Code} {T : State} {H : Heap} {locs : List Loc} {cells slots : Nat}
theorem vx_callVX (X : Stand p l e R s m args below meth c T locs cells slots) (hexec : p.tables.exec = Jvm.exec) {own C : String} {index : Nat} {y : MethodName} {bytes : ByteArray} {maxL : Nat} {ret : Option FieldType} {hh : List (Nat × Nat × Nat × Nat)}
    (hown : s.vm.findClass own = some m.cls) (hlink : (Cond.methodLink own index y).before args s = true) (hinst : (Cond.instanceMethod y).before args s = true) (hsel : (Cond.selects C y y).before args s = true)
    (hcode : (Cond.codeWith y bytes maxL ret hh).before args s = true) (hy : y.cls ≠ "java/lang/invoke/MethodHandle" ∧ y.cls ≠ "java/lang/invoke/VarHandle")
    {W9 : Nat} {Pre : Pt → Array Value → Prop} {Post : Pt → Array Value → Option Value → Pt → Prop} {PostX : Pt → Array Value → Addr → Pt → Prop} (hK : vx_Back l R p e below s args y 3 W9 Pre Post PostX)
    {b : Addr} {cellB : Cell} (hcell : T.heap[b]? = some cellB) (hobj : cellB.vm.isStatics = false) (hcls : s.vm.findClass C = some cellB.cls)
    {g : JFrame} (hg : g.method = m) (hsize : g.locals.size = c.maxLocals) {argsL rest : List Value} (hlen : ∀ sig, parseMethodDescriptor y.desc = some sig → argsL.length = sig.parameters.length)
    (hstack : g.stack = argsL.reverse ++ .ref b :: rest) (hW : 2 * g.monitorRoom + (rest.map fun v => v.category).sum ≤ W9) (hdg : decode c.code g.pc = .ok (.invokevirtual index, 3))
    (hpre : ∀ vm₁, s.WarmedH vm₁ → Pre ⟨T.setVm vm₁, locs, cells, slots⟩ (Value.ref b :: argsL).toArray) :
    (∃ (v : Option Value) (vm₁ : Vm) (B : Pt), s.WarmedH vm₁ ∧ Stand p l e R s m args below meth c B.U B.locs B.cells B.slots ∧ Post ⟨T.setVm vm₁, locs, cells, slots⟩ (Value.ref b :: argsL).toArray v B ∧
      ∀ target, Steps p.tables e below (B.U.setTop { g with pc := g.pc + 3, stack := v.toList ++ rest }) target → Steps p.tables e below (T.setTop g) target) ∨
    (∃ (q : Addr) (vm₁ : Vm) (B : Pt), s.WarmedH vm₁ ∧ Stand p l e R s m args below meth c B.U B.locs B.cells B.slots ∧ PostX ⟨T.setVm vm₁, locs, cells, slots⟩ (Value.ref b :: argsL).toArray q B ∧
      Steps p.tables e below (T.setTop g) ((B.U.setTop { g with stack := rest }).pushFrame (.throwing q))) := by
  obtain ⟨mk, methM, hnamed, hmethM, hstM, habM⟩ := Cond.instanceMethod_spec hinst
  obtain ⟨m8, methM', cM, hn8, hmethM', -, -, -, -, -, -, hsigM⟩ := Cond.codeWith_spec hcode
  cases Option.some.inj (hn8.symm.trans hnamed)
  cases hmethM.symm.trans hmethM'
  obtain ⟨c2, r2, m2, q1, q2, q3, q4, kP, hkP, hkPi⟩ := Cond.selects_spec hsel
  cases hcls.symm.trans q1
  cases (State.methodFound?_of_named hnamed hy).symm.trans q2
  cases hnamed.symm.trans q3
  have hselP : selectMethod e.platform s.vm cellB.cls mk = .method mk := by rw [Launch.admits_selectMethod X.admits]; exact q4
  obtain ⟨vm₁, X₁, hstep₁⟩ := X.invokevirtual hexec hown hlink hnamed hmethM hstM hkP hkPi hy (a := b) (cell := cellB) hcell
    (fun z h => by rw [h] at hobj; cases hobj) hselP hmethM habM hkP hkPi (g := g) hg (argsL := argsL) (rest := rest) (hlen _ hsigM) hstack hdg
  rcases hK m meth c ⟨T.setVm vm₁, locs, cells, slots⟩ { g with stack := rest } (.invokevirtual index) mk (Value.ref b :: argsL).toArray X₁ hg hsize hdg hW (X₁.named hnamed) (hpre vm₁ X₁.warmed) with ⟨v, B, X', hpost, hsteps⟩ | ⟨q, B, X', hpost, hsteps⟩
  · exact Or.inl ⟨v, vm₁, B, X₁.warmed, X', hpost, fun target h => hstep₁ _ fun acts => by rw [doInvoke_state]; exact hsteps.trans h⟩
  · exact Or.inr ⟨q, vm₁, B, X₁.warmed, X', hpost, hstep₁ _ fun acts => by rw [doInvoke_state]; exact hsteps⟩
theorem vx_callSX (X : Stand p l e R s m args below meth c T locs cells slots) (hexec : p.tables.exec = Jvm.exec) {own : String} {index : Nat} {y : MethodName} {bytes : ByteArray} {maxL : Nat} {ret : Option FieldType} {hh : List (Nat × Nat × Nat × Nat)}
    (hown : s.vm.findClass own = some m.cls) (hlink : (Cond.methodLink own index y).before args s = true) (hstat : (Cond.static y).before args s = true) (hinit : (Cond.initialized y.cls).before args s = true)
    (hcode : (Cond.codeWith y bytes maxL ret hh).before args s = true) (hy : y.cls ≠ "java/lang/invoke/MethodHandle" ∧ y.cls ≠ "java/lang/invoke/VarHandle")
    {W9 : Nat} {Pre : Pt → Array Value → Prop} {Post : Pt → Array Value → Option Value → Pt → Prop} {PostX : Pt → Array Value → Addr → Pt → Prop} (hK : vx_Back l R p e below s args y 3 W9 Pre Post PostX)
    {g : JFrame} (hg : g.method = m) (hsize : g.locals.size = c.maxLocals) {argsL rest : List Value} (hlen : ∀ sig, parseMethodDescriptor y.desc = some sig → argsL.length = sig.parameters.length)
    (hstack : g.stack = argsL.reverse ++ rest) (hW : 2 * g.monitorRoom + (rest.map fun v => v.category).sum ≤ W9) (hdg : decode c.code g.pc = .ok (.invokestatic index, 3))
    (hpre : ∀ vm₁, s.WarmedH vm₁ → Pre ⟨T.setVm vm₁, locs, cells, slots⟩ argsL.toArray) :
    (∃ (v : Option Value) (vm₁ : Vm) (B : Pt), s.WarmedH vm₁ ∧ Stand p l e R s m args below meth c B.U B.locs B.cells B.slots ∧ Post ⟨T.setVm vm₁, locs, cells, slots⟩ argsL.toArray v B ∧
      ∀ target, Steps p.tables e below (B.U.setTop { g with pc := g.pc + 3, stack := v.toList ++ rest }) target → Steps p.tables e below (T.setTop g) target) ∨
    (∃ (q : Addr) (vm₁ : Vm) (B : Pt), s.WarmedH vm₁ ∧ Stand p l e R s m args below meth c B.U B.locs B.cells B.slots ∧ PostX ⟨T.setVm vm₁, locs, cells, slots⟩ argsL.toArray q B ∧
      Steps p.tables e below (T.setTop g) ((B.U.setTop { g with stack := rest }).pushFrame (.throwing q))) := by
  obtain ⟨mk, methM, cM, hnamed, hmethM, -, -, -, -, -, -, hsigM⟩ := Cond.codeWith_spec hcode
  have hstatic : methM.isStatic = true := Cond.static_spec hnamed hmethM hstat
  obtain ⟨kP, hkP, -⟩ := className_of_methodNamed hnamed
  have hinitP : kP.init = .initialized := Cond.initialized_spec (findClass_of_methodNamed hnamed) hkP hinit
  obtain ⟨vm₁, X₁, hstep₁⟩ := X.invokestatic hexec hown hlink hnamed hmethM hstatic hkP hinitP hy (g := g) hg (argsL := argsL) (rest := rest) (hlen _ hsigM) hstack hdg
  rcases hK m meth c ⟨T.setVm vm₁, locs, cells, slots⟩ { g with stack := rest } (.invokestatic index) mk argsL.toArray X₁ hg hsize hdg hW (X₁.named hnamed) (hpre vm₁ X₁.warmed) with ⟨v, B, X', hpost, hsteps⟩ | ⟨q, B, X', hpost, hsteps⟩
  · exact Or.inl ⟨v, vm₁, B, X₁.warmed, X', hpost, fun target h => hstep₁ _ fun acts => by rw [doInvoke_state]; exact hsteps.trans h⟩
  · exact Or.inr ⟨q, vm₁, B, X₁.warmed, X', hpost, hstep₁ _ fun acts => by rw [doInvoke_state]; exact hsteps⟩
theorem vx_callVW (X : Stand p l e R s m args below meth c T locs cells slots) (hexec : p.tables.exec = Jvm.exec) {own C : String} {index : Nat} {y : MethodName} {bytes : ByteArray} {maxL : Nat} {ret : Option FieldType} {hh : List (Nat × Nat × Nat × Nat)}
    (hown : s.vm.findClass own = some m.cls) (hlink : (Cond.methodLink own index y).before args s = true) (hinst : (Cond.instanceMethod y).before args s = true) (hsel : (Cond.selects C y y).before args s = true)
    (hcode : (Cond.codeWith y bytes maxL ret hh).before args s = true) (hy : y.cls ≠ "java/lang/invoke/MethodHandle" ∧ y.cls ≠ "java/lang/invoke/VarHandle")
    {W9 : Nat} {Pre : Pt → Array Value → Prop} {Post : Pt → Array Value → Option Value → Pt → Prop} (hK : Back l R p e below s args y 3 W9 Pre Post)
    {b : Addr} {cellB : Cell} (hcell : T.heap[b]? = some cellB) (hobj : cellB.vm.isStatics = false) (hcls : s.vm.findClass C = some cellB.cls)
    {g : JFrame} (hg : g.method = m) (hsize : g.locals.size = c.maxLocals) {argsL rest : List Value} (hlen : ∀ sig, parseMethodDescriptor y.desc = some sig → argsL.length = sig.parameters.length)
    (hstack : g.stack = argsL.reverse ++ .ref b :: rest) (hW : 2 * g.monitorRoom + (rest.map fun v => v.category).sum ≤ W9) (hdg : decode c.code g.pc = .ok (.invokevirtual index, 3))
    (hpre : ∀ vm₁, s.WarmedH vm₁ → Pre ⟨T.setVm vm₁, locs, cells, slots⟩ (Value.ref b :: argsL).toArray) :
    ∃ (v : Option Value) (vm₁ : Vm) (B : Pt), s.WarmedH vm₁ ∧ Stand p l e R s m args below meth c B.U B.locs B.cells B.slots ∧ Post ⟨T.setVm vm₁, locs, cells, slots⟩ (Value.ref b :: argsL).toArray v B ∧
      ∀ target, Steps p.tables e below (B.U.setTop { g with pc := g.pc + 3, stack := v.toList ++ rest }) target → Steps p.tables e below (T.setTop g) target := by
  obtain ⟨mk, methM, hnamed, hmethM, hstM, habM⟩ := Cond.instanceMethod_spec hinst
  obtain ⟨m8, methM', cM, hn8, hmethM', -, -, -, -, -, -, hsigM⟩ := Cond.codeWith_spec hcode
  cases Option.some.inj (hn8.symm.trans hnamed)
  cases hmethM.symm.trans hmethM'
  obtain ⟨c2, r2, m2, q1, q2, q3, q4, kP, hkP, hkPi⟩ := Cond.selects_spec hsel
  cases hcls.symm.trans q1
  cases (State.methodFound?_of_named hnamed hy).symm.trans q2
  cases hnamed.symm.trans q3
  have hselP : selectMethod e.platform s.vm cellB.cls mk = .method mk := by rw [Launch.admits_selectMethod X.admits]; exact q4
  obtain ⟨vm₁, X₁, hstep₁⟩ := X.invokevirtual hexec hown hlink hnamed hmethM hstM hkP hkPi hy (a := b) (cell := cellB) hcell
    (fun z h => by rw [h] at hobj; cases hobj) hselP hmethM habM hkP hkPi (g := g) hg (argsL := argsL) (rest := rest) (hlen _ hsigM) hstack hdg
  obtain ⟨v, B, X', hpost, hsteps⟩ := hK m meth c ⟨T.setVm vm₁, locs, cells, slots⟩ { g with stack := rest } (.invokevirtual index) mk (Value.ref b :: argsL).toArray X₁ hg hsize hdg hW (X₁.named hnamed) (hpre vm₁ X₁.warmed)
  exact ⟨v, vm₁, B, X₁.warmed, X', hpost, fun target h => hstep₁ _ fun acts => by rw [doInvoke_state]; exact hsteps.trans h⟩
abbrev vx_CVW (R : Room) (s : State) (args : Array Value) (own C : String) (index : Nat) (y : MethodName) (bytes : ByteArray) (maxL : Nat) (ret : Option FieldType) (hh : List (Nat × Nat × Nat × Nat)) (ws : List Cond) (rm : Room) (mc ms n : Nat) : Prop :=
  (rm.cells = mc ∧ rm.slots = ms ∧ rm.frames + 1 ≤ R.frames ∧ 8 + (maxL + 11) + rm.locals ≤ R.locals ∧ (∀ w ∈ ws, ∀ (a' : Array Value) (U : State), s.WarmedH U.vm → w.before a' U = true) ∧ Cond.codeWith y bytes maxL ret hh ∈ ws) ∧
  (Cond.codeWith y bytes maxL ret hh).before args s = true ∧ (Cond.initialized y.cls).before args s = true ∧ (y.cls ≠ "java/lang/invoke/MethodHandle" ∧ y.cls ≠ "java/lang/invoke/VarHandle") ∧
  (∀ sig, parseMethodDescriptor y.desc = some sig → n = sig.parameters.length) ∧ (Cond.methodLink own index y).before args s = true ∧ (Cond.instanceMethod y).before args s = true ∧ (Cond.selects C y y).before args s = true
theorem vx_cwVW {own C : String} {index maxL mc ms : Nat} {y : MethodName} {bytes : ByteArray} {ret : Option FieldType} {hh : List (Nat × Nat × Nat × Nat)} {Ts ws ws' : List Cond} {rm : Room} (n : Nat) (ht : ∀ w ∈ Ts, w.before args s = true) (hT : GoodIn Ts (wsV own index C y ws)) (hw : ws = Cond.codeWith y bytes maxL ret hh :: ws') (hrc : rm.cells = mc) (hrs : rm.slots = ms)
    (hd : y.cls = C ∧ y.cls ≠ "java/lang/invoke/MethodHandle" ∧ y.cls ≠ "java/lang/invoke/VarHandle" ∧ (parseMethodDescriptor y.desc).map (fun d => d.parameters.length) = some n) (hR : rm.frames + 1 ≤ R.frames ∧ 8 + (maxL + 11) + rm.locals ≤ R.locals) :
    vx_CVW R s args own C index y bytes maxL ret hh ws rm mc ms n := by
  obtain ⟨hC, hd⟩ := hd
  subst hC
  have ok : ∀ w ∈ wsV own index y.cls y ws, w.before args s = true := fun w h => ht w (hT w h).1
  have hG : GoodIn Ts ws := fun w h => hT w (by unfold wsV; exact List.mem_append_right _ h)
  have hc : Cond.codeWith y bytes maxL ret hh ∈ ws := by rw [hw]; exact List.mem_cons_self
  refine ⟨⟨hrc, hrs, hR.1, hR.2, pay_in ht hG, hc⟩, ht _ (hG _ hc).1, ok _ (by simp [wsV]), ⟨hd.1, hd.2.1⟩, fun sig h => ?_, ok _ (by simp [wsV]), ok _ (by simp [wsV]), ok _ (by simp [wsV])⟩
  have h2 := hd.2.2
  rw [h] at h2
  exact (Option.some.inj h2).symm
theorem vx_runVW {y : MethodName} {bytes cc : ByteArray} {maxL nL mc ms n index : Nat} {ret : Option FieldType} {hh : List (Nat × Nat × Nat × Nat)} {ws : List Cond} {rm : Room} {Pc : Array Value → State → Prop} {Qc : Array Value → State → Outcome → State → Prop} {free : Addr → Prop} {Ts : List Cond} {own C : String} {b : Addr} {As rest : List Value} {g : JFrame}
    (S : CallFix p m c cc nL s args Ts own) (hM : Met l y ws rm Pc Qc mc ms free) (cw : vx_CVW R s args own C index y bytes maxL ret hh ws rm mc ms n) (hp : PreV s H C b Pc As)
    (hg : g.method = m) (hn : As.length = n) (hsize : g.locals.size = nL) (hstack : g.stack = As.reverse ++ .ref b :: rest) (hW : 2 * g.monitorRoom + (rest.map fun v => v.category).sum ≤ 8) (hdg : decode cc g.pc = .ok (.invokevirtual index, 3)) (hf : cells + mc ≤ R.cells ∧ slots + ms ≤ R.slots) :
    va_Run p l e R s m args below meth c H locs cells slots mc ms g rest (Qc (Value.ref b :: As).toArray) free := by
  obtain ⟨⟨hrc, hrs, hfr, hlo, hws, hcw⟩, hcode, hini, hy, hlen, hl, hin, hse⟩ := cw
  have hK : Back l R p e below s args y 3 8 (PreOf R mc ms Pc) (PostOf Qc mc ms free) := va_backW (hh := hh) (bytes := bytes) (maxL := maxL) (ret := ret) hM hp.1 hrc hrs hfr hlo hws hcw (fun a' U hW => word_at hW (Or.inl (by first | rfl | simp [Cond.onTables, Cond.keeps, Cond.steady])) hini)
  obtain ⟨hx, hb, hml, ho, -⟩ := S
  obtain ⟨-, ⟨cellB, hcB, hoB, hclB⟩, hPc⟩ := hp
  intro T hT X
  obtain ⟨v, vm₁, ⟨U', l2, c2, s2⟩, hW₁, X', ⟨g', mk, t, L, e1, e2, hq, h1, hL, h2, h3⟩, st⟩ := vx_callVW X hx (C := C) (hh := hh) (bytes := bytes) (maxL := maxL) (ret := ret) ho hl hin hse hcode hy hK (by rw [hT]; exact hcB) hoB hclB hg (hsize.trans hml.symm) (argsL := As) (rest := rest) (fun sig h => hn.trans (hlen sig h)) hstack hW (by rw [hb]; exact hdg)
    (fun vm₁ hW₁ => ⟨hf.1, hf.2, hPc (T.setVm vm₁) hT hW₁⟩)
  dsimp only [Pt.U, Pt.locs, Pt.cells, Pt.slots] at X' e1 e2 h1 h2 h3 st
  subst h1; subst h2; subst h3
  exact ⟨v, (T.setVm vm₁).calling g' mk (Value.ref b :: As).toArray, t, U', L, hT, X', hL, e1, e2, hq, st⟩
section
variable {y : MethodName} {bytes cc : ByteArray} {maxL nL mc ms n index : Nat} {ret : Option FieldType} {ws : List Cond} {rm : Room} {Pc : Array Value → State → Prop} {Qc : Array Value → State → Outcome → State → Prop} {XC : String → State → State → Prop} {free : Addr → Prop} {Ts : List Cond} {own C : String} {b : Addr} {As rest : List Value} {g : JFrame}
theorem vx_runVX {hh : List (Nat × Nat × Nat × Nat)} (S : CallFix p m c cc nL s args Ts own) (hM : vx_Met l y ws rm Pc Qc XC mc ms free) (cw : vx_CVW R s args own C index y bytes maxL ret hh ws rm mc ms n) (hp : PreV s H C b Pc As)
    (hg : g.method = m) (hn : As.length = n) (hsize : g.locals.size = nL) (hstack : g.stack = As.reverse ++ .ref b :: rest) (hW : 2 * g.monitorRoom + (rest.map fun v => v.category).sum ≤ 8) (hdg : decode cc g.pc = .ok (.invokevirtual index, 3)) (hf : cells + mc ≤ R.cells ∧ slots + ms ≤ R.slots) :
    vx_Run p l e R s m args below meth c H locs cells slots mc ms g rest (Qc (Value.ref b :: As).toArray) XC free := by
  obtain ⟨⟨hrc, hrs, hfr, hlo, hws, hcw⟩, hcode, hini, hy, hlen, hl, hin, hse⟩ := cw
  have hK : vx_Back l R p e below s args y 3 8 (PreOf R mc ms Pc) (PostOf Qc mc ms free) (vx_Post XC mc ms free) := vx_backW (hh := hh) (bytes := bytes) (maxL := maxL) (ret := ret) hM hp.1 hrc hrs hfr hlo hws hcw (fun a' U hW => word_at hW (Or.inl (by first | rfl | simp [Cond.onTables, Cond.keeps, Cond.steady])) hini)
  obtain ⟨hx, hb, hml, ho, -⟩ := S
  obtain ⟨-, ⟨cellB, hcB, hoB, hclB⟩, hPc⟩ := hp
  intro T hT X
  rcases vx_callVX X hx (C := C) (hh := hh) (bytes := bytes) (maxL := maxL) (ret := ret) ho hl hin hse hcode hy hK (by rw [hT]; exact hcB) hoB hclB hg (hsize.trans hml.symm) (argsL := As) (rest := rest) (fun sig h => hn.trans (hlen sig h)) hstack hW (by rw [hb]; exact hdg)
    (fun vm₁ hW₁ => ⟨hf.1, hf.2, hPc (T.setVm vm₁) hT hW₁⟩) with ⟨v, vm₁, ⟨U', l2, c2, s2⟩, hW₁, X', ⟨g', mk, t, L, e1, e2, hq, h1, hL, h2, h3⟩, st⟩ | ⟨q, vm₁, ⟨U', l2, c2, s2⟩, hW₁, X', ⟨g', mk, t, L, E, ce, e1, e2, hq, hce, hcv, hcl, h1, hL, h2, h3⟩, st⟩
  · dsimp only [Pt.U, Pt.locs, Pt.cells, Pt.slots] at X' e1 e2 h1 h2 h3 st
    subst h1; subst h2; subst h3
    exact Or.inl ⟨v, (T.setVm vm₁).calling g' mk (Value.ref b :: As).toArray, t, U', L, hT, X', hL, e1, e2, hq, st⟩
  · dsimp only [Pt.U, Pt.locs, Pt.cells, Pt.slots] at X' e1 e2 h1 h2 h3 st hcl
    subst h1; subst h2; subst h3
    exact Or.inr ⟨q, (T.setVm vm₁).calling g' mk (Value.ref b :: As).toArray, t, U', L, E, ce, hT, X', hL, e1, e2, hq, hce, hcv, vx_cls hW₁ hcl, st⟩
theorem vx_runSX {hh : List (Nat × Nat × Nat × Nat)} (S : CallFix p m c cc nL s args Ts own) (hM : vx_Met l y ws rm Pc Qc XC mc ms free) (cw : vx_CSW R s args own index y bytes maxL ret hh ws rm mc ms n) (hp : PreS s H Pc As)
    (hg : g.method = m) (hn : As.length = n) (hsize : g.locals.size = nL) (hstack : g.stack = As.reverse ++ rest) (hW : 2 * g.monitorRoom + (rest.map fun v => v.category).sum ≤ 8) (hdg : decode cc g.pc = .ok (.invokestatic index, 3)) (hf : cells + mc ≤ R.cells ∧ slots + ms ≤ R.slots) :
    vx_Run p l e R s m args below meth c H locs cells slots mc ms g rest (Qc As.toArray) XC free := by
  obtain ⟨⟨hrc, hrs, hfr, hlo, hws, hcw⟩, hcode, hini, hy, hlen, hl, hstt⟩ := cw
  have hK : vx_Back l R p e below s args y 3 8 (PreOf R mc ms Pc) (PostOf Qc mc ms free) (vx_Post XC mc ms free) := vx_backW (hh := hh) (bytes := bytes) (maxL := maxL) (ret := ret) hM hp.1 hrc hrs hfr hlo hws hcw (fun a' U hW => word_at hW (Or.inl (by first | rfl | simp [Cond.onTables, Cond.keeps, Cond.steady])) hini)
  obtain ⟨hx, hb, hml, ho, -⟩ := S
  intro T hT X
  rcases vx_callSX X hx (hh := hh) (bytes := bytes) (maxL := maxL) (ret := ret) ho hl hstt hini hcode hy hK hg (hsize.trans hml.symm) (argsL := As) (rest := rest) (fun sig h => hn.trans (hlen sig h)) hstack hW (by rw [hb]; exact hdg)
    (fun vm₁ hW₁ => ⟨hf.1, hf.2, hp.2 (T.setVm vm₁) hT hW₁⟩) with ⟨v, vm₁, ⟨U', l2, c2, s2⟩, hW₁, X', ⟨g', mk, t, L, e1, e2, hq, h1, hL, h2, h3⟩, st⟩ | ⟨q, vm₁, ⟨U', l2, c2, s2⟩, hW₁, X', ⟨g', mk, t, L, E, ce, e1, e2, hq, hce, hcv, hcl, h1, hL, h2, h3⟩, st⟩
  · dsimp only [Pt.U, Pt.locs, Pt.cells, Pt.slots] at X' e1 e2 h1 h2 h3 st
    subst h1; subst h2; subst h3
    exact Or.inl ⟨v, (T.setVm vm₁).calling g' mk As.toArray, t, U', L, hT, X', hL, e1, e2, hq, st⟩
  · dsimp only [Pt.U, Pt.locs, Pt.cells, Pt.slots] at X' e1 e2 h1 h2 h3 st hcl
    subst h1; subst h2; subst h3
    exact Or.inr ⟨q, (T.setVm vm₁).calling g' mk As.toArray, t, U', L, E, ce, hT, X', hL, e1, e2, hq, hce, hcv, vx_cls hW₁ hcl, st⟩
end
end VXH
theorem vx_ofWH {l : Launch} {y : MethodName} {ws ws' : List Cond} {rm : Room} {Pc : Array Value → State → Prop} {Qc : Array Value → State → Outcome → State → Prop} {XC : String → State → State → Prop} {mc ms : Nat} {free : Addr → Prop} {cc : ByteArray} {maxL : Nat} {ret : Option FieldType} {hh : List (Nat × Nat × Nat × Nat)}
    (hy : plainName y.cls = true) (hw : ws = Cond.codeWith y cc maxL ret hh :: ws')
    (body : ∀ p e s m args below meth c s₁, BodyLoose p l y (headSpec ws rm) cc maxL ret e s m args below meth c s₁ → c.maxLocals = maxL → Pc args s →
      W p l e (headSpec ws rm).room s m args below meth c s.heap [] 0 0 (vx_MQ below Qc XC args s mc ms free) (entryFrame m args maxL)) : vx_Met l y ws rm Pc Qc XC mc ms free := by
  refine MetFree.of_bodyS (code := cc) (maxLocals := maxL) (ret := ret) hy ?_ ?_
  · intro args s m h hn
    obtain ⟨m9, meth, c, hn9, h1, h2, h3, h4, -, h5, h6, -⟩ := Cond.codeWith_spec (atoms_spec (ws := ws) h _ (by rw [hw]; exact List.mem_cons_self))
    cases hn.symm.trans hn9
    exact ⟨meth, c, h1, h2, h3, h4, h5, h6⟩
  · intro p e s m args below meth c s₁ B hml hP _
    have hh0 : s₁.heap = s.heap := by rw [B.state]; rfl
    obtain ⟨t, a1, o, b1, b2, b3⟩ := body p e s m args below meth c s₁ B hml hP s₁ hh0 (Stand.of_body B)
    exact ⟨t, o, a1, b1, b2, b3⟩
/-! ===== END ===== -/

def RX0 : String := "PageMarriages$History"
def TX0 : u_T := fun k => match k with
  | 0 => ("PageMarriages$History", "ring", "[LPageMarriages$Memory;", true)
  | 1 => ("PageMarriages$History", "next", "I", false)
  | _ => ("PageMarriages$History", "size", "I", false)
def tyX0 : Nat → FieldType := fun k => match k with
  | 0 => .array (.object "PageMarriages$Memory")
  | 1 => .int
  | _ => .int
abbrev wsX00 : List Cond := u_ws RX0 TX0 3
theorem nmX0 : ∀ a, a < 3 → ∀ b, b < 3 → a ≠ b → (TX0 a).2.1 ≠ (TX0 b).2.1 := by decide +kernel
theorem tyX0_ok : ∀ k, k < 3 → parseFieldDescriptor (TX0 k).2.2.1 = some (tyX0 k) := by decide +kernel
abbrev cX0_init : ByteArray := prog_2_method_1_code
def yX0_init : MethodName := ⟨RX0, "<init>", "()V"⟩
abbrev cX0_size : ByteArray := prog_2_method_2_code
def yX0_size : MethodName := ⟨RX0, "size", "()I"⟩
abbrev cX0_forget : ByteArray := prog_2_method_3_code
def yX0_forget : MethodName := ⟨RX0, "forget", "()V"⟩
abbrev cX0_remember : ByteArray := prog_2_method_4_code
def yX0_remember : MethodName := ⟨RX0, "remember", "(LPageMarriages$Memory;)V"⟩
abbrev cX0_takeBack : ByteArray := prog_2_method_5_code
def yX0_takeBack : MethodName := ⟨RX0, "takeBack", "(LPageMarriages$Memory;)V"⟩
def RX1 : String := "PageMarriages$Memory"
def TX1 : u_T := fun k => match k with
  | 0 => ("PageMarriages$Memory", "frames", "[I", true)
  | 1 => ("PageMarriages$Memory", "users", "[I", true)
  | 2 => ("PageMarriages$Memory", "values", "[I", true)
  | 3 => ("PageMarriages$Memory", "processes", "I", false)
  | 4 => ("PageMarriages$Memory", "bigs", "I", false)
  | 5 => ("PageMarriages$Memory", "eager", "Z", false)
  | 6 => ("PageMarriages$Memory", "copies", "I", false)
  | 7 => ("PageMarriages$Memory", "faults", "I", false)
  | 8 => ("PageMarriages$Memory", "tears", "I", false)
  | _ => ("PageMarriages$Memory", "losses", "I", false)
def tyX1 : Nat → FieldType := fun k => match k with
  | 0 => .array .int
  | 1 => .array .int
  | 2 => .array .int
  | 3 => .int
  | 4 => .int
  | 5 => .boolean
  | 6 => .int
  | 7 => .int
  | 8 => .int
  | _ => .int
abbrev wsX10 : List Cond := u_ws RX1 TX1 10
theorem nmX1 : ∀ a, a < 10 → ∀ b, b < 10 → a ≠ b → (TX1 a).2.1 ≠ (TX1 b).2.1 := by decide +kernel
theorem tyX1_ok : ∀ k, k < 10 → parseFieldDescriptor (TX1 k).2.2.1 = some (tyX1 k) := by decide +kernel
abbrev cX1_init : ByteArray := prog_3_method_1_code
def yX1_init : MethodName := ⟨RX1, "<init>", "()V"⟩
abbrev cX1_beginAnew : ByteArray := prog_3_method_2_code
def yX1_beginAnew : MethodName := ⟨RX1, "beginAnew", "()V"⟩
abbrev cX1_copyFrom : ByteArray := prog_3_method_3_code
def yX1_copyFrom : MethodName := ⟨RX1, "copyFrom", "(LPageMarriages$Memory;)V"⟩
abbrev cX1_hasProcess : ByteArray := prog_3_method_4_code
def yX1_hasProcess : MethodName := ⟨RX1, "hasProcess", "(I)Z"⟩
abbrev cX1_hasPage : ByteArray := prog_3_method_5_code
def yX1_hasPage : MethodName := ⟨RX1, "hasPage", "(II)Z"⟩
abbrev cX1_hasGroup : ByteArray := prog_3_method_6_code
def yX1_hasGroup : MethodName := ⟨RX1, "hasGroup", "(II)Z"⟩
abbrev cX1_processes : ByteArray := prog_3_method_7_code
def yX1_processes : MethodName := ⟨RX1, "processes", "()I"⟩
abbrev cX1_freeFrames : ByteArray := prog_3_method_8_code
def yX1_freeFrames : MethodName := ⟨RX1, "freeFrames", "()I"⟩
abbrev cX1_sharedFrames : ByteArray := prog_3_method_9_code
def yX1_sharedFrames : MethodName := ⟨RX1, "sharedFrames", "()I"⟩
abbrev cX1_freeRuns : ByteArray := prog_3_method_10_code
def yX1_freeRuns : MethodName := ⟨RX1, "freeRuns", "()I"⟩
abbrev cX1_bigGroups : ByteArray := prog_3_method_11_code
def yX1_bigGroups : MethodName := ⟨RX1, "bigGroups", "()I"⟩
abbrev cX1_widows : ByteArray := prog_3_method_12_code
def yX1_widows : MethodName := ⟨RX1, "widows", "()I"⟩
abbrev cX1_frameOf : ByteArray := prog_3_method_13_code
def yX1_frameOf : MethodName := ⟨RX1, "frameOf", "(II)I"⟩
abbrev cX1_valueOf : ByteArray := prog_3_method_14_code
def yX1_valueOf : MethodName := ⟨RX1, "valueOf", "(II)I"⟩
abbrev cX1_usersOfFrameOf : ByteArray := prog_3_method_15_code
def yX1_usersOfFrameOf : MethodName := ⟨RX1, "usersOfFrameOf", "(II)I"⟩
abbrev cX1_userAt : ByteArray := prog_3_method_16_code
def yX1_userAt : MethodName := ⟨RX1, "userAt", "(II)I"⟩
abbrev cX1_isBig : ByteArray := prog_3_method_17_code
def yX1_isBig : MethodName := ⟨RX1, "isBig", "(II)Z"⟩
abbrev cX1_runOf : ByteArray := prog_3_method_18_code
def yX1_runOf : MethodName := ⟨RX1, "runOf", "(II)I"⟩
abbrev cX1_isWidow : ByteArray := prog_3_method_19_code
def yX1_isWidow : MethodName := ⟨RX1, "isWidow", "(II)Z"⟩
abbrev cX1_bigGroupsInRun : ByteArray := prog_3_method_20_code
def yX1_bigGroupsInRun : MethodName := ⟨RX1, "bigGroupsInRun", "(I)I"⟩
abbrev cX1_pagesWithFrame : ByteArray := prog_3_method_21_code
def yX1_pagesWithFrame : MethodName := ⟨RX1, "pagesWithFrame", "(II)I"⟩
abbrev cX1_pagesWithSharedFrame : ByteArray := prog_3_method_22_code
def yX1_pagesWithSharedFrame : MethodName := ⟨RX1, "pagesWithSharedFrame", "(II)I"⟩
abbrev cX1_pagesWithValueZero : ByteArray := prog_3_method_23_code
def yX1_pagesWithValueZero : MethodName := ⟨RX1, "pagesWithValueZero", "(II)I"⟩
abbrev cX1_isShared : ByteArray := prog_3_method_24_code
def yX1_isShared : MethodName := ⟨RX1, "isShared", "(I)Z"⟩
abbrev cX1_isRunFree : ByteArray := prog_3_method_25_code
def yX1_isRunFree : MethodName := ⟨RX1, "isRunFree", "(I)Z"⟩
abbrev cX1_lowestFreeRun : ByteArray := prog_3_method_26_code
def yX1_lowestFreeRun : MethodName := ⟨RX1, "lowestFreeRun", "()I"⟩
abbrev cX1_lowestSingleFrame : ByteArray := prog_3_method_27_code
def yX1_lowestSingleFrame : MethodName := ⟨RX1, "lowestSingleFrame", "()I"⟩
abbrev cX1_takeFrame : ByteArray := prog_3_method_28_code
def yX1_takeFrame : MethodName := ⟨RX1, "takeFrame", "(III)V"⟩
abbrev cX1_letGo : ByteArray := prog_3_method_29_code
def yX1_letGo : MethodName := ⟨RX1, "letGo", "(II)I"⟩
abbrev cX1_becomeBig : ByteArray := prog_3_method_30_code
def yX1_becomeBig : MethodName := ⟨RX1, "becomeBig", "(II)V"⟩
abbrev cX1_becomeSmall : ByteArray := prog_3_method_31_code
def yX1_becomeSmall : MethodName := ⟨RX1, "becomeSmall", "(II)V"⟩
abbrev cX1_becomeTorn : ByteArray := prog_3_method_32_code
def yX1_becomeTorn : MethodName := ⟨RX1, "becomeTorn", "(II)V"⟩
abbrev cX1_outcomeOfWrite : ByteArray := prog_3_method_33_code
def yX1_outcomeOfWrite : MethodName := ⟨RX1, "outcomeOfWrite", "(II)I"⟩
abbrev cX1_doWrite : ByteArray := prog_3_method_34_code
def yX1_doWrite : MethodName := ⟨RX1, "doWrite", "(III)I"⟩
abbrev cX1_bringIn : ByteArray := prog_3_method_35_code
def yX1_bringIn : MethodName := ⟨RX1, "bringIn", "(II)V"⟩
abbrev cX1_bringInWhole : ByteArray := prog_3_method_36_code
def yX1_bringInWhole : MethodName := ⟨RX1, "bringInWhole", "(III)V"⟩
abbrev cX1_copyOut : ByteArray := prog_3_method_37_code
def yX1_copyOut : MethodName := ⟨RX1, "copyOut", "(II)V"⟩
abbrev cX1_takeSingleFrame : ByteArray := prog_3_method_38_code
def yX1_takeSingleFrame : MethodName := ⟨RX1, "takeSingleFrame", "(II)V"⟩
abbrev cX1_lowestUnusedProcess : ByteArray := prog_3_method_39_code
def yX1_lowestUnusedProcess : MethodName := ⟨RX1, "lowestUnusedProcess", "()I"⟩
abbrev cX1_canFork : ByteArray := prog_3_method_40_code
def yX1_canFork : MethodName := ⟨RX1, "canFork", "(I)Z"⟩
abbrev cX1_doFork : ByteArray := prog_3_method_41_code
def yX1_doFork : MethodName := ⟨RX1, "doFork", "(I)I"⟩
abbrev cX1_canExit : ByteArray := prog_3_method_42_code
def yX1_canExit : MethodName := ⟨RX1, "canExit", "(I)Z"⟩
abbrev cX1_doExit : ByteArray := prog_3_method_43_code
def yX1_doExit : MethodName := ⟨RX1, "doExit", "(I)I"⟩
abbrev cX1_obstacleToMarriage : ByteArray := prog_3_method_44_code
def yX1_obstacleToMarriage : MethodName := ⟨RX1, "obstacleToMarriage", "(II)I"⟩
abbrev cX1_isInPlace : ByteArray := prog_3_method_45_code
def yX1_isInPlace : MethodName := ⟨RX1, "isInPlace", "(II)Z"⟩
abbrev cX1_doMarry : ByteArray := prog_3_method_46_code
def yX1_doMarry : MethodName := ⟨RX1, "doMarry", "(II)I"⟩
abbrev cX1_moveTo : ByteArray := prog_3_method_47_code
def yX1_moveTo : MethodName := ⟨RX1, "moveTo", "(III)I"⟩
abbrev cX1_marryNext : ByteArray := prog_3_method_48_code
def yX1_marryNext : MethodName := ⟨RX1, "marryNext", "()Z"⟩
abbrev cX1_doTear : ByteArray := prog_3_method_49_code
def yX1_doTear : MethodName := ⟨RX1, "doTear", "(II)I"⟩
abbrev cX1_doPress : ByteArray := prog_3_method_50_code
def yX1_doPress : MethodName := ⟨RX1, "doPress", "(I)I"⟩
abbrev cX1_loseFirstPage : ByteArray := prog_3_method_51_code
def yX1_loseFirstPage : MethodName := ⟨RX1, "loseFirstPage", "()Z"⟩
abbrev cX1_tearEmptiestGroup : ByteArray := prog_3_method_52_code
def yX1_tearEmptiestGroup : MethodName := ⟨RX1, "tearEmptiestGroup", "()Z"⟩
def RX2 : String := "PageMarriages$Story"
def TX2 : u_T := fun k => match k with
  | 0 => ("PageMarriages$Story", "signs", "[C", true)
  | _ => ("PageMarriages$Story", "length", "I", false)
def tyX2 : Nat → FieldType := fun k => match k with
  | 0 => .array .char
  | _ => .int
abbrev wsX20 : List Cond := u_ws RX2 TX2 2
theorem nmX2 : ∀ a, a < 2 → ∀ b, b < 2 → a ≠ b → (TX2 a).2.1 ≠ (TX2 b).2.1 := by decide +kernel
theorem tyX2_ok : ∀ k, k < 2 → parseFieldDescriptor (TX2 k).2.2.1 = some (tyX2 k) := by decide +kernel
abbrev cX2_init : ByteArray := prog_4_method_1_code
def yX2_init : MethodName := ⟨RX2, "<init>", "()V"⟩
abbrev cX2_length : ByteArray := prog_4_method_2_code
def yX2_length : MethodName := ⟨RX2, "length", "()I"⟩
abbrev cX2_add : ByteArray := prog_4_method_3_code
def yX2_add : MethodName := ⟨RX2, "add", "(C)I"⟩
abbrev cX2_empty : ByteArray := prog_4_method_4_code
def yX2_empty : MethodName := ⟨RX2, "empty", "()I"⟩
abbrev cX2_sign : ByteArray := prog_4_method_5_code
def yX2_sign : MethodName := ⟨RX2, "sign", "(I)C"⟩
abbrev cX2_digit : ByteArray := prog_4_method_6_code
def yX2_digit : MethodName := ⟨RX2, "digit", "(I)I"⟩
abbrev cX2_number : ByteArray := prog_4_method_7_code
def yX2_number : MethodName := ⟨RX2, "number", "(I)I"⟩
abbrev cX2_digitsBehind : ByteArray := prog_4_method_8_code
def yX2_digitsBehind : MethodName := ⟨RX2, "digitsBehind", "(C)I"⟩
abbrev cX2_firstError : ByteArray := prog_4_method_9_code
def yX2_firstError : MethodName := ⟨RX2, "firstError", "()I"⟩
abbrev cX2_isAllowedDigit : ByteArray := prog_4_method_10_code
def yX2_isAllowedDigit : MethodName := ⟨RX2, "isAllowedDigit", "(II)Z"⟩
abbrev cX2_highestDigit : ByteArray := prog_4_method_11_code
def yX2_highestDigit : MethodName := ⟨RX2, "highestDigit", "(II)I"⟩
def RX3 : String := "PageMarriages"
def TX3 : u_T := fun k => match k with
  | 0 => ("PageMarriages", "story", "LPageMarriages$Story;", true)
  | 1 => ("PageMarriages", "present", "LPageMarriages$Memory;", true)
  | 2 => ("PageMarriages", "trial", "LPageMarriages$Memory;", true)
  | 3 => ("PageMarriages", "history", "LPageMarriages$History;", true)
  | 4 => ("PageMarriages", "slots", "[LPageMarriages$Memory;", true)
  | _ => ("PageMarriages", "filled", "[Z", true)
def tyX3 : Nat → FieldType := fun k => match k with
  | 0 => .object "PageMarriages$Story"
  | 1 => .object "PageMarriages$Memory"
  | 2 => .object "PageMarriages$Memory"
  | 3 => .object "PageMarriages$History"
  | 4 => .array (.object "PageMarriages$Memory")
  | _ => .array .boolean
abbrev wsX30 : List Cond := u_ws RX3 TX3 6
theorem nmX3 : ∀ a, a < 6 → ∀ b, b < 6 → a ≠ b → (TX3 a).2.1 ≠ (TX3 b).2.1 := by decide +kernel
theorem tyX3_ok : ∀ k, k < 6 → parseFieldDescriptor (TX3 k).2.2.1 = some (tyX3 k) := by decide +kernel
abbrev cX3_init : ByteArray := prog_1_method_1_code
def yX3_init : MethodName := ⟨RX3, "<init>", "()V"⟩
abbrev cX3_append : ByteArray := prog_1_method_2_code
def yX3_append : MethodName := ⟨RX3, "append", "(I)I"⟩
abbrev cX3_clearText : ByteArray := prog_1_method_3_code
def yX3_clearText : MethodName := ⟨RX3, "clearText", "()I"⟩
abbrev cX3_errorPosition : ByteArray := prog_1_method_4_code
def yX3_errorPosition : MethodName := ⟨RX3, "errorPosition", "()I"⟩
abbrev cX3_load : ByteArray := prog_1_method_5_code
def yX3_load : MethodName := ⟨RX3, "load", "()I"⟩
abbrev cX3_about : ByteArray := prog_1_method_6_code
def yX3_about : MethodName := ⟨RX3, "about", "(I)I"⟩
abbrev cX3_page : ByteArray := prog_1_method_7_code
def yX3_page : MethodName := ⟨RX3, "page", "(III)I"⟩
abbrev cX3_user : ByteArray := prog_1_method_8_code
def yX3_user : MethodName := ⟨RX3, "user", "(II)I"⟩
abbrev cX3_group : ByteArray := prog_1_method_9_code
def yX3_group : MethodName := ⟨RX3, "group", "(III)I"⟩
abbrev cX3_write : ByteArray := prog_1_method_10_code
def yX3_write : MethodName := ⟨RX3, "write", "(III)I"⟩
abbrev cX3_fork : ByteArray := prog_1_method_11_code
def yX3_fork : MethodName := ⟨RX3, "fork", "(I)I"⟩
abbrev cX3_exit : ByteArray := prog_1_method_12_code
def yX3_exit : MethodName := ⟨RX3, "exit", "(I)I"⟩
abbrev cX3_marry : ByteArray := prog_1_method_13_code
def yX3_marry : MethodName := ⟨RX3, "marry", "(II)I"⟩
abbrev cX3_tear : ByteArray := prog_1_method_14_code
def yX3_tear : MethodName := ⟨RX3, "tear", "(II)I"⟩
abbrev cX3_press : ByteArray := prog_1_method_15_code
def yX3_press : MethodName := ⟨RX3, "press", "(I)I"⟩
abbrev cX3_setEager : ByteArray := prog_1_method_16_code
def yX3_setEager : MethodName := ⟨RX3, "setEager", "(Z)I"⟩
abbrev cX3_undo : ByteArray := prog_1_method_17_code
def yX3_undo : MethodName := ⟨RX3, "undo", "()I"⟩
abbrev cX3_whyNot : ByteArray := prog_1_method_18_code
def yX3_whyNot : MethodName := ⟨RX3, "whyNot", "(II)I"⟩
abbrev cX3_wouldDo : ByteArray := prog_1_method_19_code
def yX3_wouldDo : MethodName := ⟨RX3, "wouldDo", "(II)I"⟩
abbrev cX3_marriages : ByteArray := prog_1_method_20_code
def yX3_marriages : MethodName := ⟨RX3, "marriages", "()I"⟩
abbrev cX3_mostFree : ByteArray := prog_1_method_21_code
def yX3_mostFree : MethodName := ⟨RX3, "mostFree", "()I"⟩
abbrev cX3_writable : ByteArray := prog_1_method_22_code
def yX3_writable : MethodName := ⟨RX3, "writable", "(I)I"⟩
abbrev cX3_runScript : ByteArray := prog_1_method_23_code
def yX3_runScript : MethodName := ⟨RX3, "runScript", "(IJ)I"⟩
abbrev cX3_simulate : ByteArray := prog_1_method_24_code
def yX3_simulate : MethodName := ⟨RX3, "simulate", "(JI)I"⟩
abbrev cX3_save : ByteArray := prog_1_method_25_code
def yX3_save : MethodName := ⟨RX3, "save", "(I)I"⟩
abbrev cX3_restore : ByteArray := prog_1_method_26_code
def yX3_restore : MethodName := ⟨RX3, "restore", "(I)I"⟩
abbrev cX3_requireProcess : ByteArray := prog_1_method_27_code
def yX3_requireProcess : MethodName := ⟨RX3, "requireProcess", "(I)V"⟩
abbrev cX3_requirePage : ByteArray := prog_1_method_28_code
def yX3_requirePage : MethodName := ⟨RX3, "requirePage", "(II)V"⟩
abbrev cX3_requireGroup : ByteArray := prog_1_method_29_code
def yX3_requireGroup : MethodName := ⟨RX3, "requireGroup", "(II)V"⟩
abbrev cX3_requireSlot : ByteArray := prog_1_method_30_code
def yX3_requireSlot : MethodName := ⟨RX3, "requireSlot", "(I)V"⟩
abbrev cX3_doCommandOfText : ByteArray := prog_1_method_31_code
def yX3_doCommandOfText : MethodName := ⟨RX3, "doCommandOfText", "(I)Z"⟩
abbrev cX3_withoutLastCommands : ByteArray := prog_1_method_32_code
def yX3_withoutLastCommands : MethodName := ⟨RX3, "withoutLastCommands", "(JI)J"⟩
abbrev cX3_doCommandOfScript : ByteArray := prog_1_method_33_code
def yX3_doCommandOfScript : MethodName := ⟨RX3, "doCommandOfScript", "(I)Z"⟩
abbrev cX3_doStep : ByteArray := prog_1_method_34_code
def yX3_doStep : MethodName := ⟨RX3, "doStep", "(I)V"⟩
def RX4 : String := "PageMarriagesModel"
def TX4 : u_T := fun k => match k with
  | 0 => ("PageMarriagesModel", "thrown", "I", false)
  | 1 => ("PageMarriagesModel", "state", "[I", true)
  | 2 => ("PageMarriagesModel", "kept", "[I", true)
  | 3 => ("PageMarriagesModel", "scriptKept", "[I", true)
  | 4 => ("PageMarriagesModel", "history", "[I", true)
  | 5 => ("PageMarriagesModel", "remembered", "I", false)
  | 6 => ("PageMarriagesModel", "slots", "[I", true)
  | 7 => ("PageMarriagesModel", "isSaved", "[I", true)
  | 8 => ("PageMarriagesModel", "text", "[I", true)
  | _ => ("PageMarriagesModel", "textLength", "I", false)
def tyX4 : Nat → FieldType := fun k => match k with
  | 0 => .int
  | 1 => .array .int
  | 2 => .array .int
  | 3 => .array .int
  | 4 => .array .int
  | 5 => .int
  | 6 => .array .int
  | 7 => .array .int
  | 8 => .array .int
  | _ => .int
abbrev wsX40 : List Cond := u_ws RX4 TX4 10
theorem nmX4 : ∀ a, a < 10 → ∀ b, b < 10 → a ≠ b → (TX4 a).2.1 ≠ (TX4 b).2.1 := by decide +kernel
theorem tyX4_ok : ∀ k, k < 10 → parseFieldDescriptor (TX4 k).2.2.1 = some (tyX4 k) := by decide +kernel
abbrev cX4_init : ByteArray := prog_6_method_1_code
def yX4_init : MethodName := ⟨RX4, "<init>", "()V"⟩
abbrev cX4_thrown : ByteArray := prog_6_method_2_code
def yX4_thrown : MethodName := ⟨RX4, "thrown", "()I"⟩
abbrev cX4_copy : ByteArray := prog_6_method_3_code
def yX4_copy : MethodName := ⟨RX4, "copy", "([II[II)V"⟩
abbrev cX4_within : ByteArray := prog_6_method_4_code
def yX4_within : MethodName := ⟨RX4, "within", "(III)Z"⟩
abbrev cX4_renew : ByteArray := prog_6_method_5_code
def yX4_renew : MethodName := ⟨RX4, "renew", "()V"⟩
abbrev cX4_isProcess : ByteArray := prog_6_method_6_code
def yX4_isProcess : MethodName := ⟨RX4, "isProcess", "(I)Z"⟩
abbrev cX4_isPage : ByteArray := prog_6_method_7_code
def yX4_isPage : MethodName := ⟨RX4, "isPage", "(II)Z"⟩
abbrev cX4_isGroup : ByteArray := prog_6_method_8_code
def yX4_isGroup : MethodName := ⟨RX4, "isGroup", "(II)Z"⟩
abbrev cX4_frameOf : ByteArray := prog_6_method_9_code
def yX4_frameOf : MethodName := ⟨RX4, "frameOf", "(II)I"⟩
abbrev cX4_setFrame : ByteArray := prog_6_method_10_code
def yX4_setFrame : MethodName := ⟨RX4, "setFrame", "(III)V"⟩
abbrev cX4_isBig : ByteArray := prog_6_method_11_code
def yX4_isBig : MethodName := ⟨RX4, "isBig", "(II)Z"⟩
abbrev cX4_setBig : ByteArray := prog_6_method_12_code
def yX4_setBig : MethodName := ⟨RX4, "setBig", "(III)V"⟩
abbrev cX4_valueOf : ByteArray := prog_6_method_13_code
def yX4_valueOf : MethodName := ⟨RX4, "valueOf", "(I)I"⟩
abbrev cX4_uses : ByteArray := prog_6_method_14_code
def yX4_uses : MethodName := ⟨RX4, "uses", "(I)I"⟩
abbrev cX4_isShared : ByteArray := prog_6_method_15_code
def yX4_isShared : MethodName := ⟨RX4, "isShared", "(I)Z"⟩
abbrev cX4_isFreeRun : ByteArray := prog_6_method_16_code
def yX4_isFreeRun : MethodName := ⟨RX4, "isFreeRun", "(I)Z"⟩
abbrev cX4_freeRun : ByteArray := prog_6_method_17_code
def yX4_freeRun : MethodName := ⟨RX4, "freeRun", "()I"⟩
abbrev cX4_freeRuns : ByteArray := prog_6_method_18_code
def yX4_freeRuns : MethodName := ⟨RX4, "freeRuns", "()I"⟩
abbrev cX4_freeFrames : ByteArray := prog_6_method_19_code
def yX4_freeFrames : MethodName := ⟨RX4, "freeFrames", "()I"⟩
abbrev cX4_singleFrame : ByteArray := prog_6_method_20_code
def yX4_singleFrame : MethodName := ⟨RX4, "singleFrame", "()I"⟩
abbrev cX4_placedIn : ByteArray := prog_6_method_21_code
def yX4_placedIn : MethodName := ⟨RX4, "placedIn", "(II)I"⟩
abbrev cX4_sharedIn : ByteArray := prog_6_method_22_code
def yX4_sharedIn : MethodName := ⟨RX4, "sharedIn", "(II)I"⟩
abbrev cX4_runOf : ByteArray := prog_6_method_23_code
def yX4_runOf : MethodName := ⟨RX4, "runOf", "(II)I"⟩
abbrev cX4_isWidow : ByteArray := prog_6_method_24_code
def yX4_isWidow : MethodName := ⟨RX4, "isWidow", "(II)Z"⟩
abbrev cX4_isEagerFault : ByteArray := prog_6_method_25_code
def yX4_isEagerFault : MethodName := ⟨RX4, "isEagerFault", "(II)Z"⟩
abbrev cX4_outcome : ByteArray := prog_6_method_26_code
def yX4_outcome : MethodName := ⟨RX4, "outcome", "(II)I"⟩
abbrev cX4_makeBig : ByteArray := prog_6_method_27_code
def yX4_makeBig : MethodName := ⟨RX4, "makeBig", "(II)V"⟩
abbrev cX4_written : ByteArray := prog_6_method_28_code
def yX4_written : MethodName := ⟨RX4, "written", "(III)I"⟩
abbrev cX4_freeProcess : ByteArray := prog_6_method_29_code
def yX4_freeProcess : MethodName := ⟨RX4, "freeProcess", "()I"⟩
abbrev cX4_whyNotForked : ByteArray := prog_6_method_30_code
def yX4_whyNotForked : MethodName := ⟨RX4, "whyNotForked", "(I)I"⟩
abbrev cX4_forked : ByteArray := prog_6_method_31_code
def yX4_forked : MethodName := ⟨RX4, "forked", "(I)I"⟩
abbrev cX4_processMany : ByteArray := prog_6_method_32_code
def yX4_processMany : MethodName := ⟨RX4, "processMany", "()I"⟩
abbrev cX4_whyNotEnded : ByteArray := prog_6_method_33_code
def yX4_whyNotEnded : MethodName := ⟨RX4, "whyNotEnded", "(I)I"⟩
abbrev cX4_ended : ByteArray := prog_6_method_34_code
def yX4_ended : MethodName := ⟨RX4, "ended", "(I)I"⟩
abbrev cX4_isInPlace : ByteArray := prog_6_method_35_code
def yX4_isInPlace : MethodName := ⟨RX4, "isInPlace", "(II)Z"⟩
abbrev cX4_whyNoMarriage : ByteArray := prog_6_method_36_code
def yX4_whyNoMarriage : MethodName := ⟨RX4, "whyNoMarriage", "(II)I"⟩
abbrev cX4_married : ByteArray := prog_6_method_37_code
def yX4_married : MethodName := ⟨RX4, "married", "(II)I"⟩
abbrev cX4_torn : ByteArray := prog_6_method_38_code
def yX4_torn : MethodName := ⟨RX4, "torn", "(II)I"⟩
abbrev cX4_isEmpty : ByteArray := prog_6_method_39_code
def yX4_isEmpty : MethodName := ⟨RX4, "isEmpty", "(I)Z"⟩
abbrev cX4_firstLoser : ByteArray := prog_6_method_40_code
def yX4_firstLoser : MethodName := ⟨RX4, "firstLoser", "()I"⟩
abbrev cX4_firstTorn : ByteArray := prog_6_method_41_code
def yX4_firstTorn : MethodName := ⟨RX4, "firstTorn", "()I"⟩
abbrev cX4_pressed : ByteArray := prog_6_method_42_code
def yX4_pressed : MethodName := ⟨RX4, "pressed", "(I)I"⟩
abbrev cX4_append : ByteArray := prog_6_method_43_code
def yX4_append : MethodName := ⟨RX4, "append", "(I)I"⟩
abbrev cX4_clearText : ByteArray := prog_6_method_44_code
def yX4_clearText : MethodName := ⟨RX4, "clearText", "()I"⟩
abbrev cX4_digit : ByteArray := prog_6_method_45_code
def yX4_digit : MethodName := ⟨RX4, "digit", "(I)I"⟩
abbrev cX4_mostAt : ByteArray := prog_6_method_46_code
def yX4_mostAt : MethodName := ⟨RX4, "mostAt", "(II)I"⟩
abbrev cX4_isLetter : ByteArray := prog_6_method_47_code
def yX4_isLetter : MethodName := ⟨RX4, "isLetter", "(I)Z"⟩
abbrev cX4_lengthAt : ByteArray := prog_6_method_48_code
def yX4_lengthAt : MethodName := ⟨RX4, "lengthAt", "(I)I"⟩
abbrev cX4_findError : ByteArray := prog_6_method_49_code
def yX4_findError : MethodName := ⟨RX4, "findError", "()I"⟩
abbrev cX4_errorPosition : ByteArray := prog_6_method_50_code
def yX4_errorPosition : MethodName := ⟨RX4, "errorPosition", "()I"⟩
abbrev cX4_commandAt : ByteArray := prog_6_method_51_code
def yX4_commandAt : MethodName := ⟨RX4, "commandAt", "(I)Z"⟩
abbrev cX4_load : ByteArray := prog_6_method_52_code
def yX4_load : MethodName := ⟨RX4, "load", "()I"⟩
abbrev cX4_about : ByteArray := prog_6_method_53_code
def yX4_about : MethodName := ⟨RX4, "about", "(I)I"⟩
abbrev cX4_page : ByteArray := prog_6_method_54_code
def yX4_page : MethodName := ⟨RX4, "page", "(III)I"⟩
abbrev cX4_user : ByteArray := prog_6_method_55_code
def yX4_user : MethodName := ⟨RX4, "user", "(II)I"⟩
abbrev cX4_group : ByteArray := prog_6_method_56_code
def yX4_group : MethodName := ⟨RX4, "group", "(III)I"⟩
abbrev cX4_remember : ByteArray := prog_6_method_57_code
def yX4_remember : MethodName := ⟨RX4, "remember", "()V"⟩
abbrev cX4_write : ByteArray := prog_6_method_58_code
def yX4_write : MethodName := ⟨RX4, "write", "(III)I"⟩
abbrev cX4_fork : ByteArray := prog_6_method_59_code
def yX4_fork : MethodName := ⟨RX4, "fork", "(I)I"⟩
abbrev cX4_exit : ByteArray := prog_6_method_60_code
def yX4_exit : MethodName := ⟨RX4, "exit", "(I)I"⟩
abbrev cX4_marry : ByteArray := prog_6_method_61_code
def yX4_marry : MethodName := ⟨RX4, "marry", "(II)I"⟩
abbrev cX4_tear : ByteArray := prog_6_method_62_code
def yX4_tear : MethodName := ⟨RX4, "tear", "(II)I"⟩
abbrev cX4_press : ByteArray := prog_6_method_63_code
def yX4_press : MethodName := ⟨RX4, "press", "(I)I"⟩
abbrev cX4_setEager : ByteArray := prog_6_method_64_code
def yX4_setEager : MethodName := ⟨RX4, "setEager", "(Z)I"⟩
abbrev cX4_undo : ByteArray := prog_6_method_65_code
def yX4_undo : MethodName := ⟨RX4, "undo", "()I"⟩
abbrev cX4_whyNot : ByteArray := prog_6_method_66_code
def yX4_whyNot : MethodName := ⟨RX4, "whyNot", "(II)I"⟩
abbrev cX4_wouldDo : ByteArray := prog_6_method_67_code
def yX4_wouldDo : MethodName := ⟨RX4, "wouldDo", "(II)I"⟩
abbrev cX4_firstToMarry : ByteArray := prog_6_method_68_code
def yX4_firstToMarry : MethodName := ⟨RX4, "firstToMarry", "(Z)I"⟩
abbrev cX4_marriages : ByteArray := prog_6_method_69_code
def yX4_marriages : MethodName := ⟨RX4, "marriages", "()I"⟩
abbrev cX4_mostFree : ByteArray := prog_6_method_70_code
def yX4_mostFree : MethodName := ⟨RX4, "mostFree", "()I"⟩
abbrev cX4_writable : ByteArray := prog_6_method_71_code
def yX4_writable : MethodName := ⟨RX4, "writable", "(I)I"⟩
abbrev cX4_tryWrite : ByteArray := prog_6_method_72_code
def yX4_tryWrite : MethodName := ⟨RX4, "tryWrite", "(III)Z"⟩
abbrev cX4_tryFork : ByteArray := prog_6_method_73_code
def yX4_tryFork : MethodName := ⟨RX4, "tryFork", "(I)Z"⟩
abbrev cX4_tryExit : ByteArray := prog_6_method_74_code
def yX4_tryExit : MethodName := ⟨RX4, "tryExit", "(I)Z"⟩
abbrev cX4_tryMarry : ByteArray := prog_6_method_75_code
def yX4_tryMarry : MethodName := ⟨RX4, "tryMarry", "(II)Z"⟩
abbrev cX4_tryTear : ByteArray := prog_6_method_76_code
def yX4_tryTear : MethodName := ⟨RX4, "tryTear", "(II)Z"⟩
abbrev cX4_tryPress : ByteArray := prog_6_method_77_code
def yX4_tryPress : MethodName := ⟨RX4, "tryPress", "(I)Z"⟩
abbrev cX4_hasValue : ByteArray := prog_6_method_78_code
def yX4_hasValue : MethodName := ⟨RX4, "hasValue", "(III)Z"⟩
abbrev cX4_commands : ByteArray := prog_6_method_79_code
def yX4_commands : MethodName := ⟨RX4, "commands", "(I)Z"⟩
abbrev cX4_runScript : ByteArray := prog_6_method_80_code
def yX4_runScript : MethodName := ⟨RX4, "runScript", "(IJ)I"⟩
abbrev cX4_step : ByteArray := prog_6_method_81_code
def yX4_step : MethodName := ⟨RX4, "step", "(II)V"⟩
abbrev cX4_simulate : ByteArray := prog_6_method_82_code
def yX4_simulate : MethodName := ⟨RX4, "simulate", "(JI)I"⟩
abbrev cX4_isSlot : ByteArray := prog_6_method_83_code
def yX4_isSlot : MethodName := ⟨RX4, "isSlot", "(I)Z"⟩
abbrev cX4_save : ByteArray := prog_6_method_84_code
def yX4_save : MethodName := ⟨RX4, "save", "(I)I"⟩
abbrev cX4_restore : ByteArray := prog_6_method_85_code
def yX4_restore : MethodName := ⟨RX4, "restore", "(I)I"⟩
def RJ6 : String := "java/lang/Integer"
def TJ6 : u_T := fun k => match k with
  | _ => ("", "", "", false)
def tyJ6 : Nat → FieldType := fun k => match k with
  | _ => .int
abbrev wsJ60 : List Cond := u_ws RJ6 TJ6 0
theorem nmJ6 : ∀ a, a < 0 → ∀ b, b < 0 → a ≠ b → (TJ6 a).2.1 ≠ (TJ6 b).2.1 := by decide +kernel
theorem tyJ6_ok : ∀ k, k < 0 → parseFieldDescriptor (TJ6 k).2.2.1 = some (tyJ6 k) := by decide +kernel
abbrev cJ6_bitCount_0f7a4 : ByteArray := prog_11_method_49_code
def yJ6_bitCount_0f7a4 : MethodName := ⟨RJ6, "bitCount", "(I)I"⟩
def RJ9 : String := "java/lang/Math"
def TJ9 : u_T := fun k => match k with
  | _ => ("", "", "", false)
def tyJ9 : Nat → FieldType := fun k => match k with
  | _ => .int
abbrev wsJ90 : List Cond := u_ws RJ9 TJ9 0
theorem nmJ9 : ∀ a, a < 0 → ∀ b, b < 0 → a ≠ b → (TJ9 a).2.1 ≠ (TJ9 b).2.1 := by decide +kernel
theorem tyJ9_ok : ∀ k, k < 0 → parseFieldDescriptor (TJ9 k).2.2.1 = some (tyJ9 k) := by decide +kernel
abbrev cJ9_min_7cf53 : ByteArray := prog_12_method_69_code
def yJ9_min_7cf53 : MethodName := ⟨RJ9, "min", "(II)I"⟩
def RJ0 : String := "java/lang/String"
def TJ0 : u_T := fun k => match k with
  | _ => ("", "", "", false)
def tyJ0 : Nat → FieldType := fun k => match k with
  | _ => .int
abbrev wsJ00 : List Cond := u_ws RJ0 TJ0 0
theorem nmJ0 : ∀ a, a < 0 → ∀ b, b < 0 → a ≠ b → (TJ0 a).2.1 ≠ (TJ0 b).2.1 := by decide +kernel
theorem tyJ0_ok : ∀ k, k < 0 → parseFieldDescriptor (TJ0 k).2.2.1 = some (tyJ0 k) := by decide +kernel
def RJ10 : String := "java/lang/System"
def TJ10 : u_T := fun k => match k with
  | _ => ("", "", "", false)
def tyJ10 : Nat → FieldType := fun k => match k with
  | _ => .int
abbrev wsJ100 : List Cond := u_ws RJ10 TJ10 0
theorem nmJ10 : ∀ a, a < 0 → ∀ b, b < 0 → a ≠ b → (TJ10 a).2.1 ≠ (TJ10 b).2.1 := by decide +kernel
theorem tyJ10_ok : ∀ k, k < 0 → parseFieldDescriptor (TJ10 k).2.2.1 = some (tyJ10 k) := by decide +kernel
def RL : String := "PageMarriagesLaw"
abbrev cL_append : ByteArray := method_3_code
def yL_append : MethodName := ⟨RL, "append", "(LPageMarriages;I[J)I"⟩
abbrev cL_load : ByteArray := method_4_code
def yL_load : MethodName := ⟨RL, "load", "(LPageMarriages;[J)I"⟩
abbrev cL_about : ByteArray := method_5_code
def yL_about : MethodName := ⟨RL, "about", "(LPageMarriages;I[J)I"⟩
abbrev cL_page : ByteArray := method_6_code
def yL_page : MethodName := ⟨RL, "page", "(LPageMarriages;III[J)I"⟩
abbrev cL_user : ByteArray := method_7_code
def yL_user : MethodName := ⟨RL, "user", "(LPageMarriages;II[J)I"⟩
abbrev cL_group : ByteArray := method_8_code
def yL_group : MethodName := ⟨RL, "group", "(LPageMarriages;III[J)I"⟩
abbrev cL_write : ByteArray := method_9_code
def yL_write : MethodName := ⟨RL, "write", "(LPageMarriages;III[J)I"⟩
abbrev cL_fork : ByteArray := method_10_code
def yL_fork : MethodName := ⟨RL, "fork", "(LPageMarriages;I[J)I"⟩
abbrev cL_exit : ByteArray := method_11_code
def yL_exit : MethodName := ⟨RL, "exit", "(LPageMarriages;I[J)I"⟩
abbrev cL_marry : ByteArray := method_12_code
def yL_marry : MethodName := ⟨RL, "marry", "(LPageMarriages;II[J)I"⟩
abbrev cL_tear : ByteArray := method_13_code
def yL_tear : MethodName := ⟨RL, "tear", "(LPageMarriages;II[J)I"⟩
abbrev cL_press : ByteArray := method_14_code
def yL_press : MethodName := ⟨RL, "press", "(LPageMarriages;I[J)I"⟩
abbrev cL_undo : ByteArray := method_15_code
def yL_undo : MethodName := ⟨RL, "undo", "(LPageMarriages;[J)I"⟩
abbrev cL_whyNot : ByteArray := method_16_code
def yL_whyNot : MethodName := ⟨RL, "whyNot", "(LPageMarriages;II[J)I"⟩
abbrev cL_wouldDo : ByteArray := method_17_code
def yL_wouldDo : MethodName := ⟨RL, "wouldDo", "(LPageMarriages;II[J)I"⟩
abbrev cL_writable : ByteArray := method_18_code
def yL_writable : MethodName := ⟨RL, "writable", "(LPageMarriages;I[J)I"⟩
abbrev cL_runScript : ByteArray := method_19_code
def yL_runScript : MethodName := ⟨RL, "runScript", "(LPageMarriages;IJ[J)I"⟩
abbrev cL_simulate : ByteArray := method_20_code
def yL_simulate : MethodName := ⟨RL, "simulate", "(LPageMarriages;JI[J)I"⟩
abbrev cL_save : ByteArray := method_21_code
def yL_save : MethodName := ⟨RL, "save", "(LPageMarriages;I[J)I"⟩
abbrev cL_restore : ByteArray := method_22_code
def yL_restore : MethodName := ⟨RL, "restore", "(LPageMarriages;I[J)I"⟩
abbrev cL_law : ByteArray := code
def yL_law : MethodName := ⟨RL, "law", "([I)Z"⟩
theorem dX0_init_0 : decode cX0_init 0 = .ok (.aload_n 0, 1) := by decide +kernel
theorem dX0_init_1 : decode cX0_init 1 = .ok (.invokespecial 3, 3) := by decide +kernel
theorem dX0_init_4 : decode cX0_init 4 = .ok (.aload_n 0, 1) := by decide +kernel
theorem dX0_init_5 : decode cX0_init 5 = .ok (.bipush 14, 2) := by decide +kernel
theorem dX0_init_7 : decode cX0_init 7 = .ok (.anewarray 9, 3) := by decide +kernel
theorem dX0_init_10 : decode cX0_init 10 = .ok (.putfield 11, 3) := by decide +kernel
theorem dX0_init_13 : decode cX0_init 13 = .ok (.iconst 0, 1) := by decide +kernel
theorem dX0_init_14 : decode cX0_init 14 = .ok (.istore_n 1, 1) := by decide +kernel
theorem dX0_init_15 : decode cX0_init 15 = .ok (.iload_n 1, 1) := by decide +kernel
theorem dX0_init_16 : decode cX0_init 16 = .ok (.bipush 14, 2) := by decide +kernel
theorem dX0_init_18 : decode cX0_init 18 = .ok (.if_icmp .ge 22, 3) := by decide +kernel
theorem dX0_init_21 : decode cX0_init 21 = .ok (.aload_n 0, 1) := by decide +kernel
theorem dX0_init_22 : decode cX0_init 22 = .ok (.getfield 11, 3) := by decide +kernel
theorem dX0_init_25 : decode cX0_init 25 = .ok (.iload_n 1, 1) := by decide +kernel
theorem dX0_init_26 : decode cX0_init 26 = .ok (.new 9, 3) := by decide +kernel
theorem dX0_init_29 : decode cX0_init 29 = .ok (.dup, 1) := by decide +kernel
theorem dX0_init_30 : decode cX0_init 30 = .ok (.invokespecial 17, 3) := by decide +kernel
theorem dX0_init_33 : decode cX0_init 33 = .ok (.aastore, 1) := by decide +kernel
theorem dX0_init_34 : decode cX0_init 34 = .ok (.iinc 1 1, 3) := by decide +kernel
theorem dX0_init_37 : decode cX0_init 37 = .ok (.goto (-22), 3) := by decide +kernel
theorem dX0_init_40 : decode cX0_init 40 = .ok (.return_, 1) := by decide +kernel
theorem dX0_size_0 : decode cX0_size 0 = .ok (.aload_n 0, 1) := by decide +kernel
theorem dX0_size_1 : decode cX0_size 1 = .ok (.getfield 18, 3) := by decide +kernel
theorem dX0_size_4 : decode cX0_size 4 = .ok (.ireturn, 1) := by decide +kernel
theorem dX0_forget_0 : decode cX0_forget 0 = .ok (.aload_n 0, 1) := by decide +kernel
theorem dX0_forget_1 : decode cX0_forget 1 = .ok (.iconst 0, 1) := by decide +kernel
theorem dX0_forget_2 : decode cX0_forget 2 = .ok (.putfield 18, 3) := by decide +kernel
theorem dX0_forget_5 : decode cX0_forget 5 = .ok (.return_, 1) := by decide +kernel
theorem dX0_remember_0 : decode cX0_remember 0 = .ok (.aload_n 0, 1) := by decide +kernel
theorem dX0_remember_1 : decode cX0_remember 1 = .ok (.getfield 11, 3) := by decide +kernel
theorem dX0_remember_4 : decode cX0_remember 4 = .ok (.aload_n 0, 1) := by decide +kernel
theorem dX0_remember_5 : decode cX0_remember 5 = .ok (.getfield 22, 3) := by decide +kernel
theorem dX0_remember_8 : decode cX0_remember 8 = .ok (.aaload, 1) := by decide +kernel
theorem dX0_remember_9 : decode cX0_remember 9 = .ok (.aload_n 1, 1) := by decide +kernel
theorem dX0_remember_10 : decode cX0_remember 10 = .ok (.invokevirtual 25, 3) := by decide +kernel
theorem dX0_remember_13 : decode cX0_remember 13 = .ok (.aload_n 0, 1) := by decide +kernel
theorem dX0_remember_14 : decode cX0_remember 14 = .ok (.aload_n 0, 1) := by decide +kernel
theorem dX0_remember_15 : decode cX0_remember 15 = .ok (.getfield 22, 3) := by decide +kernel
theorem dX0_remember_18 : decode cX0_remember 18 = .ok (.iconst 1, 1) := by decide +kernel
theorem dX0_remember_19 : decode cX0_remember 19 = .ok (.iadd, 1) := by decide +kernel
theorem dX0_remember_20 : decode cX0_remember 20 = .ok (.bipush 14, 2) := by decide +kernel
theorem dX0_remember_22 : decode cX0_remember 22 = .ok (.irem, 1) := by decide +kernel
theorem dX0_remember_23 : decode cX0_remember 23 = .ok (.putfield 22, 3) := by decide +kernel
theorem dX0_remember_26 : decode cX0_remember 26 = .ok (.aload_n 0, 1) := by decide +kernel
theorem dX0_remember_27 : decode cX0_remember 27 = .ok (.aload_n 0, 1) := by decide +kernel
theorem dX0_remember_28 : decode cX0_remember 28 = .ok (.getfield 18, 3) := by decide +kernel
theorem dX0_remember_31 : decode cX0_remember 31 = .ok (.iconst 1, 1) := by decide +kernel
theorem dX0_remember_32 : decode cX0_remember 32 = .ok (.iadd, 1) := by decide +kernel
theorem dX0_remember_33 : decode cX0_remember 33 = .ok (.bipush 14, 2) := by decide +kernel
theorem dX0_remember_35 : decode cX0_remember 35 = .ok (.invokestatic 29, 3) := by decide +kernel
theorem dX0_remember_38 : decode cX0_remember 38 = .ok (.putfield 18, 3) := by decide +kernel
theorem dX0_remember_41 : decode cX0_remember 41 = .ok (.return_, 1) := by decide +kernel
theorem dX0_takeBack_0 : decode cX0_takeBack 0 = .ok (.aload_n 0, 1) := by decide +kernel
theorem dX0_takeBack_1 : decode cX0_takeBack 1 = .ok (.getfield 18, 3) := by decide +kernel
theorem dX0_takeBack_4 : decode cX0_takeBack 4 = .ok (.ifCond .le 42, 3) := by decide +kernel
theorem dX0_takeBack_7 : decode cX0_takeBack 7 = .ok (.aload_n 0, 1) := by decide +kernel
theorem dX0_takeBack_8 : decode cX0_takeBack 8 = .ok (.aload_n 0, 1) := by decide +kernel
theorem dX0_takeBack_9 : decode cX0_takeBack 9 = .ok (.getfield 22, 3) := by decide +kernel
theorem dX0_takeBack_12 : decode cX0_takeBack 12 = .ok (.bipush 14, 2) := by decide +kernel
theorem dX0_takeBack_14 : decode cX0_takeBack 14 = .ok (.iadd, 1) := by decide +kernel
theorem dX0_takeBack_15 : decode cX0_takeBack 15 = .ok (.iconst 1, 1) := by decide +kernel
theorem dX0_takeBack_16 : decode cX0_takeBack 16 = .ok (.isub, 1) := by decide +kernel
theorem dX0_takeBack_17 : decode cX0_takeBack 17 = .ok (.bipush 14, 2) := by decide +kernel
theorem dX0_takeBack_19 : decode cX0_takeBack 19 = .ok (.irem, 1) := by decide +kernel
theorem dX0_takeBack_20 : decode cX0_takeBack 20 = .ok (.putfield 22, 3) := by decide +kernel
theorem dX0_takeBack_23 : decode cX0_takeBack 23 = .ok (.aload_n 0, 1) := by decide +kernel
theorem dX0_takeBack_24 : decode cX0_takeBack 24 = .ok (.dup, 1) := by decide +kernel
theorem dX0_takeBack_25 : decode cX0_takeBack 25 = .ok (.getfield 18, 3) := by decide +kernel
theorem dX0_takeBack_28 : decode cX0_takeBack 28 = .ok (.iconst 1, 1) := by decide +kernel
theorem dX0_takeBack_29 : decode cX0_takeBack 29 = .ok (.isub, 1) := by decide +kernel
theorem dX0_takeBack_30 : decode cX0_takeBack 30 = .ok (.putfield 18, 3) := by decide +kernel
theorem dX0_takeBack_33 : decode cX0_takeBack 33 = .ok (.aload_n 1, 1) := by decide +kernel
theorem dX0_takeBack_34 : decode cX0_takeBack 34 = .ok (.aload_n 0, 1) := by decide +kernel
theorem dX0_takeBack_35 : decode cX0_takeBack 35 = .ok (.getfield 11, 3) := by decide +kernel
theorem dX0_takeBack_38 : decode cX0_takeBack 38 = .ok (.aload_n 0, 1) := by decide +kernel
theorem dX0_takeBack_39 : decode cX0_takeBack 39 = .ok (.getfield 22, 3) := by decide +kernel
theorem dX0_takeBack_42 : decode cX0_takeBack 42 = .ok (.aaload, 1) := by decide +kernel
theorem dX0_takeBack_43 : decode cX0_takeBack 43 = .ok (.invokevirtual 25, 3) := by decide +kernel
theorem dX0_takeBack_46 : decode cX0_takeBack 46 = .ok (.return_, 1) := by decide +kernel
theorem dX1_init_0 : decode cX1_init 0 = .ok (.aload_n 0, 1) := by decide +kernel
theorem dX1_init_1 : decode cX1_init 1 = .ok (.invokespecial 3, 3) := by decide +kernel
theorem dX1_init_4 : decode cX1_init 4 = .ok (.aload_n 0, 1) := by decide +kernel
theorem dX1_init_5 : decode cX1_init 5 = .ok (.bipush 64, 2) := by decide +kernel
theorem dX1_init_7 : decode cX1_init 7 = .ok (.newarray .int, 2) := by decide +kernel
theorem dX1_init_9 : decode cX1_init 9 = .ok (.putfield 9, 3) := by decide +kernel
theorem dX1_init_12 : decode cX1_init 12 = .ok (.aload_n 0, 1) := by decide +kernel
theorem dX1_init_13 : decode cX1_init 13 = .ok (.bipush 32, 2) := by decide +kernel
theorem dX1_init_15 : decode cX1_init 15 = .ok (.newarray .int, 2) := by decide +kernel
theorem dX1_init_17 : decode cX1_init 17 = .ok (.putfield 15, 3) := by decide +kernel
theorem dX1_init_20 : decode cX1_init 20 = .ok (.aload_n 0, 1) := by decide +kernel
theorem dX1_init_21 : decode cX1_init 21 = .ok (.bipush 32, 2) := by decide +kernel
theorem dX1_init_23 : decode cX1_init 23 = .ok (.newarray .int, 2) := by decide +kernel
theorem dX1_init_25 : decode cX1_init 25 = .ok (.putfield 18, 3) := by decide +kernel
theorem dX1_init_28 : decode cX1_init 28 = .ok (.aload_n 0, 1) := by decide +kernel
theorem dX1_init_29 : decode cX1_init 29 = .ok (.invokevirtual 21, 3) := by decide +kernel
theorem dX1_init_32 : decode cX1_init 32 = .ok (.return_, 1) := by decide +kernel
theorem dX1_beginAnew_0 : decode cX1_beginAnew 0 = .ok (.iconst 0, 1) := by decide +kernel
theorem dX1_beginAnew_1 : decode cX1_beginAnew 1 = .ok (.istore_n 1, 1) := by decide +kernel
theorem dX1_beginAnew_2 : decode cX1_beginAnew 2 = .ok (.iload_n 1, 1) := by decide +kernel
theorem dX1_beginAnew_3 : decode cX1_beginAnew 3 = .ok (.bipush 64, 2) := by decide +kernel
theorem dX1_beginAnew_5 : decode cX1_beginAnew 5 = .ok (.if_icmp .ge 16, 3) := by decide +kernel
theorem dX1_beginAnew_8 : decode cX1_beginAnew 8 = .ok (.aload_n 0, 1) := by decide +kernel
theorem dX1_beginAnew_9 : decode cX1_beginAnew 9 = .ok (.getfield 9, 3) := by decide +kernel
theorem dX1_beginAnew_12 : decode cX1_beginAnew 12 = .ok (.iload_n 1, 1) := by decide +kernel
theorem dX1_beginAnew_13 : decode cX1_beginAnew 13 = .ok (.iconst (-1), 1) := by decide +kernel
theorem dX1_beginAnew_14 : decode cX1_beginAnew 14 = .ok (.iastore, 1) := by decide +kernel
theorem dX1_beginAnew_15 : decode cX1_beginAnew 15 = .ok (.iinc 1 1, 3) := by decide +kernel
theorem dX1_beginAnew_18 : decode cX1_beginAnew 18 = .ok (.goto (-16), 3) := by decide +kernel
theorem dX1_beginAnew_21 : decode cX1_beginAnew 21 = .ok (.iconst 0, 1) := by decide +kernel
theorem dX1_beginAnew_22 : decode cX1_beginAnew 22 = .ok (.istore_n 1, 1) := by decide +kernel
theorem dX1_beginAnew_23 : decode cX1_beginAnew 23 = .ok (.iload_n 1, 1) := by decide +kernel
theorem dX1_beginAnew_24 : decode cX1_beginAnew 24 = .ok (.bipush 32, 2) := by decide +kernel
theorem dX1_beginAnew_26 : decode cX1_beginAnew 26 = .ok (.if_icmp .ge 23, 3) := by decide +kernel
theorem dX1_beginAnew_29 : decode cX1_beginAnew 29 = .ok (.aload_n 0, 1) := by decide +kernel
theorem dX1_beginAnew_30 : decode cX1_beginAnew 30 = .ok (.getfield 15, 3) := by decide +kernel
theorem dX1_beginAnew_33 : decode cX1_beginAnew 33 = .ok (.iload_n 1, 1) := by decide +kernel
theorem dX1_beginAnew_34 : decode cX1_beginAnew 34 = .ok (.iconst 0, 1) := by decide +kernel
theorem dX1_beginAnew_35 : decode cX1_beginAnew 35 = .ok (.iastore, 1) := by decide +kernel
theorem dX1_beginAnew_36 : decode cX1_beginAnew 36 = .ok (.aload_n 0, 1) := by decide +kernel
theorem dX1_beginAnew_37 : decode cX1_beginAnew 37 = .ok (.getfield 18, 3) := by decide +kernel
theorem dX1_beginAnew_40 : decode cX1_beginAnew 40 = .ok (.iload_n 1, 1) := by decide +kernel
theorem dX1_beginAnew_41 : decode cX1_beginAnew 41 = .ok (.iconst 0, 1) := by decide +kernel
theorem dX1_beginAnew_42 : decode cX1_beginAnew 42 = .ok (.iastore, 1) := by decide +kernel
theorem dX1_beginAnew_43 : decode cX1_beginAnew 43 = .ok (.iinc 1 1, 3) := by decide +kernel
theorem dX1_beginAnew_46 : decode cX1_beginAnew 46 = .ok (.goto (-23), 3) := by decide +kernel
theorem dX1_beginAnew_49 : decode cX1_beginAnew 49 = .ok (.aload_n 0, 1) := by decide +kernel
theorem dX1_beginAnew_50 : decode cX1_beginAnew 50 = .ok (.iconst 1, 1) := by decide +kernel
theorem dX1_beginAnew_51 : decode cX1_beginAnew 51 = .ok (.putfield 24, 3) := by decide +kernel
theorem dX1_beginAnew_54 : decode cX1_beginAnew 54 = .ok (.aload_n 0, 1) := by decide +kernel
theorem dX1_beginAnew_55 : decode cX1_beginAnew 55 = .ok (.iconst 0, 1) := by decide +kernel
theorem dX1_beginAnew_56 : decode cX1_beginAnew 56 = .ok (.putfield 28, 3) := by decide +kernel
theorem dX1_beginAnew_59 : decode cX1_beginAnew 59 = .ok (.aload_n 0, 1) := by decide +kernel
theorem dX1_beginAnew_60 : decode cX1_beginAnew 60 = .ok (.iconst 0, 1) := by decide +kernel
theorem dX1_beginAnew_61 : decode cX1_beginAnew 61 = .ok (.putfield 31, 3) := by decide +kernel
theorem dX1_beginAnew_64 : decode cX1_beginAnew 64 = .ok (.aload_n 0, 1) := by decide +kernel
theorem dX1_beginAnew_65 : decode cX1_beginAnew 65 = .ok (.iconst 0, 1) := by decide +kernel
theorem dX1_beginAnew_66 : decode cX1_beginAnew 66 = .ok (.putfield 35, 3) := by decide +kernel
theorem dX1_beginAnew_69 : decode cX1_beginAnew 69 = .ok (.aload_n 0, 1) := by decide +kernel
theorem dX1_beginAnew_70 : decode cX1_beginAnew 70 = .ok (.iconst 0, 1) := by decide +kernel
theorem dX1_beginAnew_71 : decode cX1_beginAnew 71 = .ok (.putfield 38, 3) := by decide +kernel
theorem dX1_beginAnew_74 : decode cX1_beginAnew 74 = .ok (.aload_n 0, 1) := by decide +kernel
theorem dX1_beginAnew_75 : decode cX1_beginAnew 75 = .ok (.iconst 0, 1) := by decide +kernel
theorem dX1_beginAnew_76 : decode cX1_beginAnew 76 = .ok (.putfield 41, 3) := by decide +kernel
theorem dX1_beginAnew_79 : decode cX1_beginAnew 79 = .ok (.aload_n 0, 1) := by decide +kernel
theorem dX1_beginAnew_80 : decode cX1_beginAnew 80 = .ok (.iconst 0, 1) := by decide +kernel
theorem dX1_beginAnew_81 : decode cX1_beginAnew 81 = .ok (.putfield 44, 3) := by decide +kernel
theorem dX1_beginAnew_84 : decode cX1_beginAnew 84 = .ok (.return_, 1) := by decide +kernel
theorem dX1_copyFrom_0 : decode cX1_copyFrom 0 = .ok (.aload_n 1, 1) := by decide +kernel
theorem dX1_copyFrom_1 : decode cX1_copyFrom 1 = .ok (.getfield 9, 3) := by decide +kernel
theorem dX1_copyFrom_4 : decode cX1_copyFrom 4 = .ok (.iconst 0, 1) := by decide +kernel
theorem dX1_copyFrom_5 : decode cX1_copyFrom 5 = .ok (.aload_n 0, 1) := by decide +kernel
theorem dX1_copyFrom_6 : decode cX1_copyFrom 6 = .ok (.getfield 9, 3) := by decide +kernel
theorem dX1_copyFrom_9 : decode cX1_copyFrom 9 = .ok (.iconst 0, 1) := by decide +kernel
theorem dX1_copyFrom_10 : decode cX1_copyFrom 10 = .ok (.bipush 64, 2) := by decide +kernel
theorem dX1_copyFrom_12 : decode cX1_copyFrom 12 = .ok (.invokestatic 47, 3) := by decide +kernel
theorem dX1_copyFrom_15 : decode cX1_copyFrom 15 = .ok (.aload_n 1, 1) := by decide +kernel
theorem dX1_copyFrom_16 : decode cX1_copyFrom 16 = .ok (.getfield 15, 3) := by decide +kernel
theorem dX1_copyFrom_19 : decode cX1_copyFrom 19 = .ok (.iconst 0, 1) := by decide +kernel
theorem dX1_copyFrom_20 : decode cX1_copyFrom 20 = .ok (.aload_n 0, 1) := by decide +kernel
theorem dX1_copyFrom_21 : decode cX1_copyFrom 21 = .ok (.getfield 15, 3) := by decide +kernel
theorem dX1_copyFrom_24 : decode cX1_copyFrom 24 = .ok (.iconst 0, 1) := by decide +kernel
theorem dX1_copyFrom_25 : decode cX1_copyFrom 25 = .ok (.bipush 32, 2) := by decide +kernel
theorem dX1_copyFrom_27 : decode cX1_copyFrom 27 = .ok (.invokestatic 47, 3) := by decide +kernel
theorem dX1_copyFrom_30 : decode cX1_copyFrom 30 = .ok (.aload_n 1, 1) := by decide +kernel
theorem dX1_copyFrom_31 : decode cX1_copyFrom 31 = .ok (.getfield 18, 3) := by decide +kernel
theorem dX1_copyFrom_34 : decode cX1_copyFrom 34 = .ok (.iconst 0, 1) := by decide +kernel
theorem dX1_copyFrom_35 : decode cX1_copyFrom 35 = .ok (.aload_n 0, 1) := by decide +kernel
theorem dX1_copyFrom_36 : decode cX1_copyFrom 36 = .ok (.getfield 18, 3) := by decide +kernel
theorem dX1_copyFrom_39 : decode cX1_copyFrom 39 = .ok (.iconst 0, 1) := by decide +kernel
theorem dX1_copyFrom_40 : decode cX1_copyFrom 40 = .ok (.bipush 32, 2) := by decide +kernel
theorem dX1_copyFrom_42 : decode cX1_copyFrom 42 = .ok (.invokestatic 47, 3) := by decide +kernel
theorem dX1_copyFrom_45 : decode cX1_copyFrom 45 = .ok (.aload_n 0, 1) := by decide +kernel
theorem dX1_copyFrom_46 : decode cX1_copyFrom 46 = .ok (.aload_n 1, 1) := by decide +kernel
theorem dX1_copyFrom_47 : decode cX1_copyFrom 47 = .ok (.getfield 24, 3) := by decide +kernel
theorem dX1_copyFrom_50 : decode cX1_copyFrom 50 = .ok (.putfield 24, 3) := by decide +kernel
theorem dX1_copyFrom_53 : decode cX1_copyFrom 53 = .ok (.aload_n 0, 1) := by decide +kernel
theorem dX1_copyFrom_54 : decode cX1_copyFrom 54 = .ok (.aload_n 1, 1) := by decide +kernel
theorem dX1_copyFrom_55 : decode cX1_copyFrom 55 = .ok (.getfield 28, 3) := by decide +kernel
theorem dX1_copyFrom_58 : decode cX1_copyFrom 58 = .ok (.putfield 28, 3) := by decide +kernel
theorem dX1_copyFrom_61 : decode cX1_copyFrom 61 = .ok (.aload_n 0, 1) := by decide +kernel
theorem dX1_copyFrom_62 : decode cX1_copyFrom 62 = .ok (.aload_n 1, 1) := by decide +kernel
theorem dX1_copyFrom_63 : decode cX1_copyFrom 63 = .ok (.getfield 31, 3) := by decide +kernel
theorem dX1_copyFrom_66 : decode cX1_copyFrom 66 = .ok (.putfield 31, 3) := by decide +kernel
theorem dX1_copyFrom_69 : decode cX1_copyFrom 69 = .ok (.aload_n 0, 1) := by decide +kernel
theorem dX1_copyFrom_70 : decode cX1_copyFrom 70 = .ok (.aload_n 1, 1) := by decide +kernel
theorem dX1_copyFrom_71 : decode cX1_copyFrom 71 = .ok (.getfield 35, 3) := by decide +kernel
theorem dX1_copyFrom_74 : decode cX1_copyFrom 74 = .ok (.putfield 35, 3) := by decide +kernel
theorem dX1_copyFrom_77 : decode cX1_copyFrom 77 = .ok (.aload_n 0, 1) := by decide +kernel
theorem dX1_copyFrom_78 : decode cX1_copyFrom 78 = .ok (.aload_n 1, 1) := by decide +kernel
theorem dX1_copyFrom_79 : decode cX1_copyFrom 79 = .ok (.getfield 38, 3) := by decide +kernel
theorem dX1_copyFrom_82 : decode cX1_copyFrom 82 = .ok (.putfield 38, 3) := by decide +kernel
theorem dX1_copyFrom_85 : decode cX1_copyFrom 85 = .ok (.aload_n 0, 1) := by decide +kernel
theorem dX1_copyFrom_86 : decode cX1_copyFrom 86 = .ok (.aload_n 1, 1) := by decide +kernel
theorem dX1_copyFrom_87 : decode cX1_copyFrom 87 = .ok (.getfield 41, 3) := by decide +kernel
theorem dX1_copyFrom_90 : decode cX1_copyFrom 90 = .ok (.putfield 41, 3) := by decide +kernel
theorem dX1_copyFrom_93 : decode cX1_copyFrom 93 = .ok (.aload_n 0, 1) := by decide +kernel
theorem dX1_copyFrom_94 : decode cX1_copyFrom 94 = .ok (.aload_n 1, 1) := by decide +kernel
theorem dX1_copyFrom_95 : decode cX1_copyFrom 95 = .ok (.getfield 44, 3) := by decide +kernel
theorem dX1_copyFrom_98 : decode cX1_copyFrom 98 = .ok (.putfield 44, 3) := by decide +kernel
theorem dX1_copyFrom_101 : decode cX1_copyFrom 101 = .ok (.return_, 1) := by decide +kernel
theorem dX1_hasProcess_0 : decode cX1_hasProcess 0 = .ok (.iload_n 1, 1) := by decide +kernel
theorem dX1_hasProcess_1 : decode cX1_hasProcess 1 = .ok (.ifCond .lt 24, 3) := by decide +kernel
theorem dX1_hasProcess_4 : decode cX1_hasProcess 4 = .ok (.iload_n 1, 1) := by decide +kernel
theorem dX1_hasProcess_5 : decode cX1_hasProcess 5 = .ok (.iconst 4, 1) := by decide +kernel
theorem dX1_hasProcess_6 : decode cX1_hasProcess 6 = .ok (.if_icmp .ge 19, 3) := by decide +kernel
theorem dX1_hasProcess_9 : decode cX1_hasProcess 9 = .ok (.aload_n 0, 1) := by decide +kernel
theorem dX1_hasProcess_10 : decode cX1_hasProcess 10 = .ok (.getfield 24, 3) := by decide +kernel
theorem dX1_hasProcess_13 : decode cX1_hasProcess 13 = .ok (.iload_n 1, 1) := by decide +kernel
theorem dX1_hasProcess_14 : decode cX1_hasProcess 14 = .ok (.ishr, 1) := by decide +kernel
theorem dX1_hasProcess_15 : decode cX1_hasProcess 15 = .ok (.iconst 1, 1) := by decide +kernel
theorem dX1_hasProcess_16 : decode cX1_hasProcess 16 = .ok (.iand, 1) := by decide +kernel
theorem dX1_hasProcess_17 : decode cX1_hasProcess 17 = .ok (.iconst 1, 1) := by decide +kernel
theorem dX1_hasProcess_18 : decode cX1_hasProcess 18 = .ok (.if_icmp .ne 7, 3) := by decide +kernel
theorem dX1_hasProcess_21 : decode cX1_hasProcess 21 = .ok (.iconst 1, 1) := by decide +kernel
theorem dX1_hasProcess_22 : decode cX1_hasProcess 22 = .ok (.goto 4, 3) := by decide +kernel
theorem dX1_hasProcess_25 : decode cX1_hasProcess 25 = .ok (.iconst 0, 1) := by decide +kernel
theorem dX1_hasProcess_26 : decode cX1_hasProcess 26 = .ok (.ireturn, 1) := by decide +kernel
theorem dX1_hasPage_0 : decode cX1_hasPage 0 = .ok (.aload_n 0, 1) := by decide +kernel
theorem dX1_hasPage_1 : decode cX1_hasPage 1 = .ok (.iload_n 1, 1) := by decide +kernel
theorem dX1_hasPage_2 : decode cX1_hasPage 2 = .ok (.invokevirtual 53, 3) := by decide +kernel
theorem dX1_hasPage_5 : decode cX1_hasPage 5 = .ok (.ifCond .eq 17, 3) := by decide +kernel
theorem dX1_hasPage_8 : decode cX1_hasPage 8 = .ok (.iload_n 2, 1) := by decide +kernel
theorem dX1_hasPage_9 : decode cX1_hasPage 9 = .ok (.ifCond .lt 13, 3) := by decide +kernel
theorem dX1_hasPage_12 : decode cX1_hasPage 12 = .ok (.iload_n 2, 1) := by decide +kernel
theorem dX1_hasPage_13 : decode cX1_hasPage 13 = .ok (.bipush 16, 2) := by decide +kernel
theorem dX1_hasPage_15 : decode cX1_hasPage 15 = .ok (.if_icmp .ge 7, 3) := by decide +kernel
theorem dX1_hasPage_18 : decode cX1_hasPage 18 = .ok (.iconst 1, 1) := by decide +kernel
theorem dX1_hasPage_19 : decode cX1_hasPage 19 = .ok (.goto 4, 3) := by decide +kernel
theorem dX1_hasPage_22 : decode cX1_hasPage 22 = .ok (.iconst 0, 1) := by decide +kernel
theorem dX1_hasPage_23 : decode cX1_hasPage 23 = .ok (.ireturn, 1) := by decide +kernel
theorem dX1_hasGroup_0 : decode cX1_hasGroup 0 = .ok (.aload_n 0, 1) := by decide +kernel
theorem dX1_hasGroup_1 : decode cX1_hasGroup 1 = .ok (.iload_n 1, 1) := by decide +kernel
theorem dX1_hasGroup_2 : decode cX1_hasGroup 2 = .ok (.invokevirtual 53, 3) := by decide +kernel
theorem dX1_hasGroup_5 : decode cX1_hasGroup 5 = .ok (.ifCond .eq 16, 3) := by decide +kernel
theorem dX1_hasGroup_8 : decode cX1_hasGroup 8 = .ok (.iload_n 2, 1) := by decide +kernel
theorem dX1_hasGroup_9 : decode cX1_hasGroup 9 = .ok (.ifCond .lt 12, 3) := by decide +kernel
theorem dX1_hasGroup_12 : decode cX1_hasGroup 12 = .ok (.iload_n 2, 1) := by decide +kernel
theorem dX1_hasGroup_13 : decode cX1_hasGroup 13 = .ok (.iconst 4, 1) := by decide +kernel
theorem dX1_hasGroup_14 : decode cX1_hasGroup 14 = .ok (.if_icmp .ge 7, 3) := by decide +kernel
theorem dX1_hasGroup_17 : decode cX1_hasGroup 17 = .ok (.iconst 1, 1) := by decide +kernel
theorem dX1_hasGroup_18 : decode cX1_hasGroup 18 = .ok (.goto 4, 3) := by decide +kernel
theorem dX1_hasGroup_21 : decode cX1_hasGroup 21 = .ok (.iconst 0, 1) := by decide +kernel
theorem dX1_hasGroup_22 : decode cX1_hasGroup 22 = .ok (.ireturn, 1) := by decide +kernel
theorem dX1_processes_0 : decode cX1_processes 0 = .ok (.aload_n 0, 1) := by decide +kernel
theorem dX1_processes_1 : decode cX1_processes 1 = .ok (.getfield 24, 3) := by decide +kernel
theorem dX1_processes_4 : decode cX1_processes 4 = .ok (.ireturn, 1) := by decide +kernel
theorem dX1_freeFrames_0 : decode cX1_freeFrames 0 = .ok (.iconst 0, 1) := by decide +kernel
theorem dX1_freeFrames_1 : decode cX1_freeFrames 1 = .ok (.istore_n 1, 1) := by decide +kernel
theorem dX1_freeFrames_2 : decode cX1_freeFrames 2 = .ok (.iconst 0, 1) := by decide +kernel
theorem dX1_freeFrames_3 : decode cX1_freeFrames 3 = .ok (.istore_n 2, 1) := by decide +kernel
theorem dX1_freeFrames_4 : decode cX1_freeFrames 4 = .ok (.iload_n 2, 1) := by decide +kernel
theorem dX1_freeFrames_5 : decode cX1_freeFrames 5 = .ok (.bipush 32, 2) := by decide +kernel
theorem dX1_freeFrames_7 : decode cX1_freeFrames 7 = .ok (.if_icmp .ge 21, 3) := by decide +kernel
theorem dX1_freeFrames_10 : decode cX1_freeFrames 10 = .ok (.aload_n 0, 1) := by decide +kernel
theorem dX1_freeFrames_11 : decode cX1_freeFrames 11 = .ok (.getfield 15, 3) := by decide +kernel
theorem dX1_freeFrames_14 : decode cX1_freeFrames 14 = .ok (.iload_n 2, 1) := by decide +kernel
theorem dX1_freeFrames_15 : decode cX1_freeFrames 15 = .ok (.iaload, 1) := by decide +kernel
theorem dX1_freeFrames_16 : decode cX1_freeFrames 16 = .ok (.ifCond .ne 6, 3) := by decide +kernel
theorem dX1_freeFrames_19 : decode cX1_freeFrames 19 = .ok (.iinc 1 1, 3) := by decide +kernel
theorem dX1_freeFrames_22 : decode cX1_freeFrames 22 = .ok (.iinc 2 1, 3) := by decide +kernel
theorem dX1_freeFrames_25 : decode cX1_freeFrames 25 = .ok (.goto (-21), 3) := by decide +kernel
theorem dX1_freeFrames_28 : decode cX1_freeFrames 28 = .ok (.iload_n 1, 1) := by decide +kernel
theorem dX1_freeFrames_29 : decode cX1_freeFrames 29 = .ok (.ireturn, 1) := by decide +kernel
theorem dX1_sharedFrames_0 : decode cX1_sharedFrames 0 = .ok (.iconst 0, 1) := by decide +kernel
theorem dX1_sharedFrames_1 : decode cX1_sharedFrames 1 = .ok (.istore_n 1, 1) := by decide +kernel
theorem dX1_sharedFrames_2 : decode cX1_sharedFrames 2 = .ok (.iconst 0, 1) := by decide +kernel
theorem dX1_sharedFrames_3 : decode cX1_sharedFrames 3 = .ok (.istore_n 2, 1) := by decide +kernel
theorem dX1_sharedFrames_4 : decode cX1_sharedFrames 4 = .ok (.iload_n 2, 1) := by decide +kernel
theorem dX1_sharedFrames_5 : decode cX1_sharedFrames 5 = .ok (.bipush 32, 2) := by decide +kernel
theorem dX1_sharedFrames_7 : decode cX1_sharedFrames 7 = .ok (.if_icmp .ge 20, 3) := by decide +kernel
theorem dX1_sharedFrames_10 : decode cX1_sharedFrames 10 = .ok (.aload_n 0, 1) := by decide +kernel
theorem dX1_sharedFrames_11 : decode cX1_sharedFrames 11 = .ok (.iload_n 2, 1) := by decide +kernel
theorem dX1_sharedFrames_12 : decode cX1_sharedFrames 12 = .ok (.invokevirtual 57, 3) := by decide +kernel
theorem dX1_sharedFrames_15 : decode cX1_sharedFrames 15 = .ok (.ifCond .eq 6, 3) := by decide +kernel
theorem dX1_sharedFrames_18 : decode cX1_sharedFrames 18 = .ok (.iinc 1 1, 3) := by decide +kernel
theorem dX1_sharedFrames_21 : decode cX1_sharedFrames 21 = .ok (.iinc 2 1, 3) := by decide +kernel
theorem dX1_sharedFrames_24 : decode cX1_sharedFrames 24 = .ok (.goto (-20), 3) := by decide +kernel
theorem dX1_sharedFrames_27 : decode cX1_sharedFrames 27 = .ok (.iload_n 1, 1) := by decide +kernel
theorem dX1_sharedFrames_28 : decode cX1_sharedFrames 28 = .ok (.ireturn, 1) := by decide +kernel
theorem dX1_freeRuns_0 : decode cX1_freeRuns 0 = .ok (.iconst 0, 1) := by decide +kernel
theorem dX1_freeRuns_1 : decode cX1_freeRuns 1 = .ok (.istore_n 1, 1) := by decide +kernel
theorem dX1_freeRuns_2 : decode cX1_freeRuns 2 = .ok (.iconst 0, 1) := by decide +kernel
theorem dX1_freeRuns_3 : decode cX1_freeRuns 3 = .ok (.istore_n 2, 1) := by decide +kernel
theorem dX1_freeRuns_4 : decode cX1_freeRuns 4 = .ok (.iload_n 2, 1) := by decide +kernel
theorem dX1_freeRuns_5 : decode cX1_freeRuns 5 = .ok (.bipush 8, 2) := by decide +kernel
theorem dX1_freeRuns_7 : decode cX1_freeRuns 7 = .ok (.if_icmp .ge 20, 3) := by decide +kernel
theorem dX1_freeRuns_10 : decode cX1_freeRuns 10 = .ok (.aload_n 0, 1) := by decide +kernel
theorem dX1_freeRuns_11 : decode cX1_freeRuns 11 = .ok (.iload_n 2, 1) := by decide +kernel
theorem dX1_freeRuns_12 : decode cX1_freeRuns 12 = .ok (.invokevirtual 60, 3) := by decide +kernel
theorem dX1_freeRuns_15 : decode cX1_freeRuns 15 = .ok (.ifCond .eq 6, 3) := by decide +kernel
theorem dX1_freeRuns_18 : decode cX1_freeRuns 18 = .ok (.iinc 1 1, 3) := by decide +kernel
theorem dX1_freeRuns_21 : decode cX1_freeRuns 21 = .ok (.iinc 2 1, 3) := by decide +kernel
theorem dX1_freeRuns_24 : decode cX1_freeRuns 24 = .ok (.goto (-20), 3) := by decide +kernel
theorem dX1_freeRuns_27 : decode cX1_freeRuns 27 = .ok (.iload_n 1, 1) := by decide +kernel
theorem dX1_freeRuns_28 : decode cX1_freeRuns 28 = .ok (.ireturn, 1) := by decide +kernel
theorem dX1_bigGroups_0 : decode cX1_bigGroups 0 = .ok (.aload_n 0, 1) := by decide +kernel
theorem dX1_bigGroups_1 : decode cX1_bigGroups 1 = .ok (.getfield 28, 3) := by decide +kernel
theorem dX1_bigGroups_4 : decode cX1_bigGroups 4 = .ok (.invokestatic 63, 3) := by decide +kernel
theorem dX1_bigGroups_7 : decode cX1_bigGroups 7 = .ok (.ireturn, 1) := by decide +kernel
theorem dX1_widows_0 : decode cX1_widows 0 = .ok (.iconst 0, 1) := by decide +kernel
theorem dX1_widows_1 : decode cX1_widows 1 = .ok (.istore_n 1, 1) := by decide +kernel
theorem dX1_widows_2 : decode cX1_widows 2 = .ok (.iconst 0, 1) := by decide +kernel
theorem dX1_widows_3 : decode cX1_widows 3 = .ok (.istore_n 2, 1) := by decide +kernel
theorem dX1_widows_4 : decode cX1_widows 4 = .ok (.iload_n 2, 1) := by decide +kernel
theorem dX1_widows_5 : decode cX1_widows 5 = .ok (.iconst 4, 1) := by decide +kernel
theorem dX1_widows_6 : decode cX1_widows 6 = .ok (.if_icmp .ge 34, 3) := by decide +kernel
theorem dX1_widows_9 : decode cX1_widows 9 = .ok (.iconst 0, 1) := by decide +kernel
theorem dX1_widows_10 : decode cX1_widows 10 = .ok (.istore_n 3, 1) := by decide +kernel
theorem dX1_widows_11 : decode cX1_widows 11 = .ok (.iload_n 3, 1) := by decide +kernel
theorem dX1_widows_12 : decode cX1_widows 12 = .ok (.iconst 4, 1) := by decide +kernel
theorem dX1_widows_13 : decode cX1_widows 13 = .ok (.if_icmp .ge 21, 3) := by decide +kernel
theorem dX1_widows_16 : decode cX1_widows 16 = .ok (.aload_n 0, 1) := by decide +kernel
theorem dX1_widows_17 : decode cX1_widows 17 = .ok (.iload_n 2, 1) := by decide +kernel
theorem dX1_widows_18 : decode cX1_widows 18 = .ok (.iload_n 3, 1) := by decide +kernel
theorem dX1_widows_19 : decode cX1_widows 19 = .ok (.invokevirtual 69, 3) := by decide +kernel
theorem dX1_widows_22 : decode cX1_widows 22 = .ok (.ifCond .eq 6, 3) := by decide +kernel
theorem dX1_widows_25 : decode cX1_widows 25 = .ok (.iinc 1 1, 3) := by decide +kernel
theorem dX1_widows_28 : decode cX1_widows 28 = .ok (.iinc 3 1, 3) := by decide +kernel
theorem dX1_widows_31 : decode cX1_widows 31 = .ok (.goto (-20), 3) := by decide +kernel
theorem dX1_widows_34 : decode cX1_widows 34 = .ok (.iinc 2 1, 3) := by decide +kernel
theorem dX1_widows_37 : decode cX1_widows 37 = .ok (.goto (-33), 3) := by decide +kernel
theorem dX1_widows_40 : decode cX1_widows 40 = .ok (.iload_n 1, 1) := by decide +kernel
theorem dX1_widows_41 : decode cX1_widows 41 = .ok (.ireturn, 1) := by decide +kernel
theorem dX1_frameOf_0 : decode cX1_frameOf 0 = .ok (.iload_n 1, 1) := by decide +kernel
theorem dX1_frameOf_1 : decode cX1_frameOf 1 = .ok (.ifCond .lt 22, 3) := by decide +kernel
theorem dX1_frameOf_4 : decode cX1_frameOf 4 = .ok (.iload_n 1, 1) := by decide +kernel
theorem dX1_frameOf_5 : decode cX1_frameOf 5 = .ok (.iconst 4, 1) := by decide +kernel
theorem dX1_frameOf_6 : decode cX1_frameOf 6 = .ok (.if_icmp .ge 17, 3) := by decide +kernel
theorem dX1_frameOf_9 : decode cX1_frameOf 9 = .ok (.iload_n 2, 1) := by decide +kernel
theorem dX1_frameOf_10 : decode cX1_frameOf 10 = .ok (.ifCond .lt 13, 3) := by decide +kernel
theorem dX1_frameOf_13 : decode cX1_frameOf 13 = .ok (.iload_n 2, 1) := by decide +kernel
theorem dX1_frameOf_14 : decode cX1_frameOf 14 = .ok (.bipush 16, 2) := by decide +kernel
theorem dX1_frameOf_16 : decode cX1_frameOf 16 = .ok (.if_icmp .ge 7, 3) := by decide +kernel
theorem dX1_frameOf_19 : decode cX1_frameOf 19 = .ok (.iconst 1, 1) := by decide +kernel
theorem dX1_frameOf_20 : decode cX1_frameOf 20 = .ok (.goto 4, 3) := by decide +kernel
theorem dX1_frameOf_23 : decode cX1_frameOf 23 = .ok (.iconst 0, 1) := by decide +kernel
theorem dX1_frameOf_24 : decode cX1_frameOf 24 = .ok (.istore_n 3, 1) := by decide +kernel
theorem dX1_frameOf_25 : decode cX1_frameOf 25 = .ok (.iload_n 3, 1) := by decide +kernel
theorem dX1_frameOf_26 : decode cX1_frameOf 26 = .ok (.ifCond .eq 17, 3) := by decide +kernel
theorem dX1_frameOf_29 : decode cX1_frameOf 29 = .ok (.aload_n 0, 1) := by decide +kernel
theorem dX1_frameOf_30 : decode cX1_frameOf 30 = .ok (.getfield 9, 3) := by decide +kernel
theorem dX1_frameOf_33 : decode cX1_frameOf 33 = .ok (.bipush 16, 2) := by decide +kernel
theorem dX1_frameOf_35 : decode cX1_frameOf 35 = .ok (.iload_n 1, 1) := by decide +kernel
theorem dX1_frameOf_36 : decode cX1_frameOf 36 = .ok (.imul, 1) := by decide +kernel
theorem dX1_frameOf_37 : decode cX1_frameOf 37 = .ok (.iload_n 2, 1) := by decide +kernel
theorem dX1_frameOf_38 : decode cX1_frameOf 38 = .ok (.iadd, 1) := by decide +kernel
theorem dX1_frameOf_39 : decode cX1_frameOf 39 = .ok (.iaload, 1) := by decide +kernel
theorem dX1_frameOf_40 : decode cX1_frameOf 40 = .ok (.goto 4, 3) := by decide +kernel
theorem dX1_frameOf_43 : decode cX1_frameOf 43 = .ok (.iconst (-1), 1) := by decide +kernel
theorem dX1_frameOf_44 : decode cX1_frameOf 44 = .ok (.ireturn, 1) := by decide +kernel
theorem dX1_valueOf_0 : decode cX1_valueOf 0 = .ok (.aload_n 0, 1) := by decide +kernel
theorem dX1_valueOf_1 : decode cX1_valueOf 1 = .ok (.iload_n 1, 1) := by decide +kernel
theorem dX1_valueOf_2 : decode cX1_valueOf 2 = .ok (.iload_n 2, 1) := by decide +kernel
theorem dX1_valueOf_3 : decode cX1_valueOf 3 = .ok (.invokevirtual 73, 3) := by decide +kernel
theorem dX1_valueOf_6 : decode cX1_valueOf 6 = .ok (.istore_n 3, 1) := by decide +kernel
theorem dX1_valueOf_7 : decode cX1_valueOf 7 = .ok (.iload_n 3, 1) := by decide +kernel
theorem dX1_valueOf_8 : decode cX1_valueOf 8 = .ok (.iconst (-1), 1) := by decide +kernel
theorem dX1_valueOf_9 : decode cX1_valueOf 9 = .ok (.if_icmp .ne 7, 3) := by decide +kernel
theorem dX1_valueOf_12 : decode cX1_valueOf 12 = .ok (.iconst (-1), 1) := by decide +kernel
theorem dX1_valueOf_13 : decode cX1_valueOf 13 = .ok (.goto 9, 3) := by decide +kernel
theorem dX1_valueOf_16 : decode cX1_valueOf 16 = .ok (.aload_n 0, 1) := by decide +kernel
theorem dX1_valueOf_17 : decode cX1_valueOf 17 = .ok (.getfield 18, 3) := by decide +kernel
theorem dX1_valueOf_20 : decode cX1_valueOf 20 = .ok (.iload_n 3, 1) := by decide +kernel
theorem dX1_valueOf_21 : decode cX1_valueOf 21 = .ok (.iaload, 1) := by decide +kernel
theorem dX1_valueOf_22 : decode cX1_valueOf 22 = .ok (.ireturn, 1) := by decide +kernel
theorem dX1_usersOfFrameOf_0 : decode cX1_usersOfFrameOf 0 = .ok (.aload_n 0, 1) := by decide +kernel
theorem dX1_usersOfFrameOf_1 : decode cX1_usersOfFrameOf 1 = .ok (.iload_n 1, 1) := by decide +kernel
theorem dX1_usersOfFrameOf_2 : decode cX1_usersOfFrameOf 2 = .ok (.iload_n 2, 1) := by decide +kernel
theorem dX1_usersOfFrameOf_3 : decode cX1_usersOfFrameOf 3 = .ok (.invokevirtual 73, 3) := by decide +kernel
theorem dX1_usersOfFrameOf_6 : decode cX1_usersOfFrameOf 6 = .ok (.istore_n 3, 1) := by decide +kernel
theorem dX1_usersOfFrameOf_7 : decode cX1_usersOfFrameOf 7 = .ok (.iload_n 3, 1) := by decide +kernel
theorem dX1_usersOfFrameOf_8 : decode cX1_usersOfFrameOf 8 = .ok (.iconst (-1), 1) := by decide +kernel
theorem dX1_usersOfFrameOf_9 : decode cX1_usersOfFrameOf 9 = .ok (.if_icmp .ne 7, 3) := by decide +kernel
theorem dX1_usersOfFrameOf_12 : decode cX1_usersOfFrameOf 12 = .ok (.iconst (-1), 1) := by decide +kernel
theorem dX1_usersOfFrameOf_13 : decode cX1_usersOfFrameOf 13 = .ok (.goto 9, 3) := by decide +kernel
theorem dX1_usersOfFrameOf_16 : decode cX1_usersOfFrameOf 16 = .ok (.aload_n 0, 1) := by decide +kernel
theorem dX1_usersOfFrameOf_17 : decode cX1_usersOfFrameOf 17 = .ok (.getfield 15, 3) := by decide +kernel
theorem dX1_usersOfFrameOf_20 : decode cX1_usersOfFrameOf 20 = .ok (.iload_n 3, 1) := by decide +kernel
theorem dX1_usersOfFrameOf_21 : decode cX1_usersOfFrameOf 21 = .ok (.iaload, 1) := by decide +kernel
theorem dX1_usersOfFrameOf_22 : decode cX1_usersOfFrameOf 22 = .ok (.ireturn, 1) := by decide +kernel
theorem dX1_userAt_0 : decode cX1_userAt 0 = .ok (.iconst 0, 1) := by decide +kernel
theorem dX1_userAt_1 : decode cX1_userAt 1 = .ok (.istore_n 3, 1) := by decide +kernel
theorem dX1_userAt_2 : decode cX1_userAt 2 = .ok (.iconst 0, 1) := by decide +kernel
theorem dX1_userAt_3 : decode cX1_userAt 3 = .ok (.istore 4, 2) := by decide +kernel
theorem dX1_userAt_5 : decode cX1_userAt 5 = .ok (.iload 4, 2) := by decide +kernel
theorem dX1_userAt_7 : decode cX1_userAt 7 = .ok (.iconst 4, 1) := by decide +kernel
theorem dX1_userAt_8 : decode cX1_userAt 8 = .ok (.if_icmp .ge 54, 3) := by decide +kernel
theorem dX1_userAt_11 : decode cX1_userAt 11 = .ok (.iconst 0, 1) := by decide +kernel
theorem dX1_userAt_12 : decode cX1_userAt 12 = .ok (.istore 5, 2) := by decide +kernel
theorem dX1_userAt_14 : decode cX1_userAt 14 = .ok (.iload 5, 2) := by decide +kernel
theorem dX1_userAt_16 : decode cX1_userAt 16 = .ok (.bipush 16, 2) := by decide +kernel
theorem dX1_userAt_18 : decode cX1_userAt 18 = .ok (.if_icmp .ge 38, 3) := by decide +kernel
theorem dX1_userAt_21 : decode cX1_userAt 21 = .ok (.aload_n 0, 1) := by decide +kernel
theorem dX1_userAt_22 : decode cX1_userAt 22 = .ok (.iload 4, 2) := by decide +kernel
theorem dX1_userAt_24 : decode cX1_userAt 24 = .ok (.iload 5, 2) := by decide +kernel
theorem dX1_userAt_26 : decode cX1_userAt 26 = .ok (.invokevirtual 73, 3) := by decide +kernel
theorem dX1_userAt_29 : decode cX1_userAt 29 = .ok (.iload_n 1, 1) := by decide +kernel
theorem dX1_userAt_30 : decode cX1_userAt 30 = .ok (.if_icmp .ne 20, 3) := by decide +kernel
theorem dX1_userAt_33 : decode cX1_userAt 33 = .ok (.iload_n 3, 1) := by decide +kernel
theorem dX1_userAt_34 : decode cX1_userAt 34 = .ok (.iload_n 2, 1) := by decide +kernel
theorem dX1_userAt_35 : decode cX1_userAt 35 = .ok (.if_icmp .ne 12, 3) := by decide +kernel
theorem dX1_userAt_38 : decode cX1_userAt 38 = .ok (.bipush 100, 2) := by decide +kernel
theorem dX1_userAt_40 : decode cX1_userAt 40 = .ok (.iload 4, 2) := by decide +kernel
theorem dX1_userAt_42 : decode cX1_userAt 42 = .ok (.imul, 1) := by decide +kernel
theorem dX1_userAt_43 : decode cX1_userAt 43 = .ok (.iload 5, 2) := by decide +kernel
theorem dX1_userAt_45 : decode cX1_userAt 45 = .ok (.iadd, 1) := by decide +kernel
theorem dX1_userAt_46 : decode cX1_userAt 46 = .ok (.ireturn, 1) := by decide +kernel
theorem dX1_userAt_47 : decode cX1_userAt 47 = .ok (.iinc 3 1, 3) := by decide +kernel
theorem dX1_userAt_50 : decode cX1_userAt 50 = .ok (.iinc 5 1, 3) := by decide +kernel
theorem dX1_userAt_53 : decode cX1_userAt 53 = .ok (.goto (-39), 3) := by decide +kernel
theorem dX1_userAt_56 : decode cX1_userAt 56 = .ok (.iinc 4 1, 3) := by decide +kernel
theorem dX1_userAt_59 : decode cX1_userAt 59 = .ok (.goto (-54), 3) := by decide +kernel
theorem dX1_userAt_62 : decode cX1_userAt 62 = .ok (.iconst (-1), 1) := by decide +kernel
theorem dX1_userAt_63 : decode cX1_userAt 63 = .ok (.ireturn, 1) := by decide +kernel
theorem dX1_isBig_0 : decode cX1_isBig 0 = .ok (.iload_n 1, 1) := by decide +kernel
theorem dX1_isBig_1 : decode cX1_isBig 1 = .ok (.ifCond .lt 21, 3) := by decide +kernel
theorem dX1_isBig_4 : decode cX1_isBig 4 = .ok (.iload_n 1, 1) := by decide +kernel
theorem dX1_isBig_5 : decode cX1_isBig 5 = .ok (.iconst 4, 1) := by decide +kernel
theorem dX1_isBig_6 : decode cX1_isBig 6 = .ok (.if_icmp .ge 16, 3) := by decide +kernel
theorem dX1_isBig_9 : decode cX1_isBig 9 = .ok (.iload_n 2, 1) := by decide +kernel
theorem dX1_isBig_10 : decode cX1_isBig 10 = .ok (.ifCond .lt 12, 3) := by decide +kernel
theorem dX1_isBig_13 : decode cX1_isBig 13 = .ok (.iload_n 2, 1) := by decide +kernel
theorem dX1_isBig_14 : decode cX1_isBig 14 = .ok (.iconst 4, 1) := by decide +kernel
theorem dX1_isBig_15 : decode cX1_isBig 15 = .ok (.if_icmp .ge 7, 3) := by decide +kernel
theorem dX1_isBig_18 : decode cX1_isBig 18 = .ok (.iconst 1, 1) := by decide +kernel
theorem dX1_isBig_19 : decode cX1_isBig 19 = .ok (.goto 4, 3) := by decide +kernel
theorem dX1_isBig_22 : decode cX1_isBig 22 = .ok (.iconst 0, 1) := by decide +kernel
theorem dX1_isBig_23 : decode cX1_isBig 23 = .ok (.istore_n 3, 1) := by decide +kernel
theorem dX1_isBig_24 : decode cX1_isBig 24 = .ok (.iload_n 3, 1) := by decide +kernel
theorem dX1_isBig_25 : decode cX1_isBig 25 = .ok (.ifCond .eq 23, 3) := by decide +kernel
theorem dX1_isBig_28 : decode cX1_isBig 28 = .ok (.aload_n 0, 1) := by decide +kernel
theorem dX1_isBig_29 : decode cX1_isBig 29 = .ok (.getfield 28, 3) := by decide +kernel
theorem dX1_isBig_32 : decode cX1_isBig 32 = .ok (.iconst 4, 1) := by decide +kernel
theorem dX1_isBig_33 : decode cX1_isBig 33 = .ok (.iload_n 1, 1) := by decide +kernel
theorem dX1_isBig_34 : decode cX1_isBig 34 = .ok (.imul, 1) := by decide +kernel
theorem dX1_isBig_35 : decode cX1_isBig 35 = .ok (.iload_n 2, 1) := by decide +kernel
theorem dX1_isBig_36 : decode cX1_isBig 36 = .ok (.iadd, 1) := by decide +kernel
theorem dX1_isBig_37 : decode cX1_isBig 37 = .ok (.ishr, 1) := by decide +kernel
theorem dX1_isBig_38 : decode cX1_isBig 38 = .ok (.iconst 1, 1) := by decide +kernel
theorem dX1_isBig_39 : decode cX1_isBig 39 = .ok (.iand, 1) := by decide +kernel
theorem dX1_isBig_40 : decode cX1_isBig 40 = .ok (.iconst 1, 1) := by decide +kernel
theorem dX1_isBig_41 : decode cX1_isBig 41 = .ok (.if_icmp .ne 7, 3) := by decide +kernel
theorem dX1_isBig_44 : decode cX1_isBig 44 = .ok (.iconst 1, 1) := by decide +kernel
theorem dX1_isBig_45 : decode cX1_isBig 45 = .ok (.goto 4, 3) := by decide +kernel
theorem dX1_isBig_48 : decode cX1_isBig 48 = .ok (.iconst 0, 1) := by decide +kernel
theorem dX1_isBig_49 : decode cX1_isBig 49 = .ok (.ireturn, 1) := by decide +kernel
theorem dX1_runOf_0 : decode cX1_runOf 0 = .ok (.aload_n 0, 1) := by decide +kernel
theorem dX1_runOf_1 : decode cX1_runOf 1 = .ok (.iload_n 1, 1) := by decide +kernel
theorem dX1_runOf_2 : decode cX1_runOf 2 = .ok (.iload_n 2, 1) := by decide +kernel
theorem dX1_runOf_3 : decode cX1_runOf 3 = .ok (.invokevirtual 77, 3) := by decide +kernel
theorem dX1_runOf_6 : decode cX1_runOf 6 = .ok (.ifCond .eq 16, 3) := by decide +kernel
theorem dX1_runOf_9 : decode cX1_runOf 9 = .ok (.aload_n 0, 1) := by decide +kernel
theorem dX1_runOf_10 : decode cX1_runOf 10 = .ok (.iload_n 1, 1) := by decide +kernel
theorem dX1_runOf_11 : decode cX1_runOf 11 = .ok (.iconst 4, 1) := by decide +kernel
theorem dX1_runOf_12 : decode cX1_runOf 12 = .ok (.iload_n 2, 1) := by decide +kernel
theorem dX1_runOf_13 : decode cX1_runOf 13 = .ok (.imul, 1) := by decide +kernel
theorem dX1_runOf_14 : decode cX1_runOf 14 = .ok (.invokevirtual 73, 3) := by decide +kernel
theorem dX1_runOf_17 : decode cX1_runOf 17 = .ok (.iconst 4, 1) := by decide +kernel
theorem dX1_runOf_18 : decode cX1_runOf 18 = .ok (.idiv, 1) := by decide +kernel
theorem dX1_runOf_19 : decode cX1_runOf 19 = .ok (.goto 4, 3) := by decide +kernel
theorem dX1_runOf_22 : decode cX1_runOf 22 = .ok (.iconst (-1), 1) := by decide +kernel
theorem dX1_runOf_23 : decode cX1_runOf 23 = .ok (.ireturn, 1) := by decide +kernel
theorem dX1_isWidow_0 : decode cX1_isWidow 0 = .ok (.aload_n 0, 1) := by decide +kernel
theorem dX1_isWidow_1 : decode cX1_isWidow 1 = .ok (.iload_n 1, 1) := by decide +kernel
theorem dX1_isWidow_2 : decode cX1_isWidow 2 = .ok (.iload_n 2, 1) := by decide +kernel
theorem dX1_isWidow_3 : decode cX1_isWidow 3 = .ok (.invokevirtual 77, 3) := by decide +kernel
theorem dX1_isWidow_6 : decode cX1_isWidow 6 = .ok (.ifCond .eq 30, 3) := by decide +kernel
theorem dX1_isWidow_9 : decode cX1_isWidow 9 = .ok (.aload_n 0, 1) := by decide +kernel
theorem dX1_isWidow_10 : decode cX1_isWidow 10 = .ok (.iload_n 1, 1) := by decide +kernel
theorem dX1_isWidow_11 : decode cX1_isWidow 11 = .ok (.iload_n 2, 1) := by decide +kernel
theorem dX1_isWidow_12 : decode cX1_isWidow 12 = .ok (.invokevirtual 80, 3) := by decide +kernel
theorem dX1_isWidow_15 : decode cX1_isWidow 15 = .ok (.ifCond .le 21, 3) := by decide +kernel
theorem dX1_isWidow_18 : decode cX1_isWidow 18 = .ok (.aload_n 0, 1) := by decide +kernel
theorem dX1_isWidow_19 : decode cX1_isWidow 19 = .ok (.aload_n 0, 1) := by decide +kernel
theorem dX1_isWidow_20 : decode cX1_isWidow 20 = .ok (.iload_n 1, 1) := by decide +kernel
theorem dX1_isWidow_21 : decode cX1_isWidow 21 = .ok (.iload_n 2, 1) := by decide +kernel
theorem dX1_isWidow_22 : decode cX1_isWidow 22 = .ok (.invokevirtual 83, 3) := by decide +kernel
theorem dX1_isWidow_25 : decode cX1_isWidow 25 = .ok (.invokevirtual 86, 3) := by decide +kernel
theorem dX1_isWidow_28 : decode cX1_isWidow 28 = .ok (.iconst 1, 1) := by decide +kernel
theorem dX1_isWidow_29 : decode cX1_isWidow 29 = .ok (.if_icmp .ne 7, 3) := by decide +kernel
theorem dX1_isWidow_32 : decode cX1_isWidow 32 = .ok (.iconst 1, 1) := by decide +kernel
theorem dX1_isWidow_33 : decode cX1_isWidow 33 = .ok (.goto 4, 3) := by decide +kernel
theorem dX1_isWidow_36 : decode cX1_isWidow 36 = .ok (.iconst 0, 1) := by decide +kernel
theorem dX1_isWidow_37 : decode cX1_isWidow 37 = .ok (.ireturn, 1) := by decide +kernel
theorem dX1_bigGroupsInRun_0 : decode cX1_bigGroupsInRun 0 = .ok (.iconst 0, 1) := by decide +kernel
theorem dX1_bigGroupsInRun_1 : decode cX1_bigGroupsInRun 1 = .ok (.istore_n 2, 1) := by decide +kernel
theorem dX1_bigGroupsInRun_2 : decode cX1_bigGroupsInRun 2 = .ok (.iconst 0, 1) := by decide +kernel
theorem dX1_bigGroupsInRun_3 : decode cX1_bigGroupsInRun 3 = .ok (.istore_n 3, 1) := by decide +kernel
theorem dX1_bigGroupsInRun_4 : decode cX1_bigGroupsInRun 4 = .ok (.iload_n 3, 1) := by decide +kernel
theorem dX1_bigGroupsInRun_5 : decode cX1_bigGroupsInRun 5 = .ok (.iconst 4, 1) := by decide +kernel
theorem dX1_bigGroupsInRun_6 : decode cX1_bigGroupsInRun 6 = .ok (.if_icmp .ge 38, 3) := by decide +kernel
theorem dX1_bigGroupsInRun_9 : decode cX1_bigGroupsInRun 9 = .ok (.iconst 0, 1) := by decide +kernel
theorem dX1_bigGroupsInRun_10 : decode cX1_bigGroupsInRun 10 = .ok (.istore 4, 2) := by decide +kernel
theorem dX1_bigGroupsInRun_12 : decode cX1_bigGroupsInRun 12 = .ok (.iload 4, 2) := by decide +kernel
theorem dX1_bigGroupsInRun_14 : decode cX1_bigGroupsInRun 14 = .ok (.iconst 4, 1) := by decide +kernel
theorem dX1_bigGroupsInRun_15 : decode cX1_bigGroupsInRun 15 = .ok (.if_icmp .ge 23, 3) := by decide +kernel
theorem dX1_bigGroupsInRun_18 : decode cX1_bigGroupsInRun 18 = .ok (.aload_n 0, 1) := by decide +kernel
theorem dX1_bigGroupsInRun_19 : decode cX1_bigGroupsInRun 19 = .ok (.iload_n 3, 1) := by decide +kernel
theorem dX1_bigGroupsInRun_20 : decode cX1_bigGroupsInRun 20 = .ok (.iload 4, 2) := by decide +kernel
theorem dX1_bigGroupsInRun_22 : decode cX1_bigGroupsInRun 22 = .ok (.invokevirtual 83, 3) := by decide +kernel
theorem dX1_bigGroupsInRun_25 : decode cX1_bigGroupsInRun 25 = .ok (.iload_n 1, 1) := by decide +kernel
theorem dX1_bigGroupsInRun_26 : decode cX1_bigGroupsInRun 26 = .ok (.if_icmp .ne 6, 3) := by decide +kernel
theorem dX1_bigGroupsInRun_29 : decode cX1_bigGroupsInRun 29 = .ok (.iinc 2 1, 3) := by decide +kernel
theorem dX1_bigGroupsInRun_32 : decode cX1_bigGroupsInRun 32 = .ok (.iinc 4 1, 3) := by decide +kernel
theorem dX1_bigGroupsInRun_35 : decode cX1_bigGroupsInRun 35 = .ok (.goto (-23), 3) := by decide +kernel
theorem dX1_bigGroupsInRun_38 : decode cX1_bigGroupsInRun 38 = .ok (.iinc 3 1, 3) := by decide +kernel
theorem dX1_bigGroupsInRun_41 : decode cX1_bigGroupsInRun 41 = .ok (.goto (-37), 3) := by decide +kernel
theorem dX1_bigGroupsInRun_44 : decode cX1_bigGroupsInRun 44 = .ok (.iload_n 2, 1) := by decide +kernel
theorem dX1_bigGroupsInRun_45 : decode cX1_bigGroupsInRun 45 = .ok (.ireturn, 1) := by decide +kernel
theorem dX1_pagesWithFrame_0 : decode cX1_pagesWithFrame 0 = .ok (.iconst 0, 1) := by decide +kernel
theorem dX1_pagesWithFrame_1 : decode cX1_pagesWithFrame 1 = .ok (.istore_n 3, 1) := by decide +kernel
theorem dX1_pagesWithFrame_2 : decode cX1_pagesWithFrame 2 = .ok (.iconst 0, 1) := by decide +kernel
theorem dX1_pagesWithFrame_3 : decode cX1_pagesWithFrame 3 = .ok (.istore 4, 2) := by decide +kernel
theorem dX1_pagesWithFrame_5 : decode cX1_pagesWithFrame 5 = .ok (.iload 4, 2) := by decide +kernel
theorem dX1_pagesWithFrame_7 : decode cX1_pagesWithFrame 7 = .ok (.iconst 4, 1) := by decide +kernel
theorem dX1_pagesWithFrame_8 : decode cX1_pagesWithFrame 8 = .ok (.if_icmp .ge 27, 3) := by decide +kernel
theorem dX1_pagesWithFrame_11 : decode cX1_pagesWithFrame 11 = .ok (.aload_n 0, 1) := by decide +kernel
theorem dX1_pagesWithFrame_12 : decode cX1_pagesWithFrame 12 = .ok (.iload_n 1, 1) := by decide +kernel
theorem dX1_pagesWithFrame_13 : decode cX1_pagesWithFrame 13 = .ok (.iconst 4, 1) := by decide +kernel
theorem dX1_pagesWithFrame_14 : decode cX1_pagesWithFrame 14 = .ok (.iload_n 2, 1) := by decide +kernel
theorem dX1_pagesWithFrame_15 : decode cX1_pagesWithFrame 15 = .ok (.imul, 1) := by decide +kernel
theorem dX1_pagesWithFrame_16 : decode cX1_pagesWithFrame 16 = .ok (.iload 4, 2) := by decide +kernel
theorem dX1_pagesWithFrame_18 : decode cX1_pagesWithFrame 18 = .ok (.iadd, 1) := by decide +kernel
theorem dX1_pagesWithFrame_19 : decode cX1_pagesWithFrame 19 = .ok (.invokevirtual 73, 3) := by decide +kernel
theorem dX1_pagesWithFrame_22 : decode cX1_pagesWithFrame 22 = .ok (.iconst (-1), 1) := by decide +kernel
theorem dX1_pagesWithFrame_23 : decode cX1_pagesWithFrame 23 = .ok (.if_icmp .eq 6, 3) := by decide +kernel
theorem dX1_pagesWithFrame_26 : decode cX1_pagesWithFrame 26 = .ok (.iinc 3 1, 3) := by decide +kernel
theorem dX1_pagesWithFrame_29 : decode cX1_pagesWithFrame 29 = .ok (.iinc 4 1, 3) := by decide +kernel
theorem dX1_pagesWithFrame_32 : decode cX1_pagesWithFrame 32 = .ok (.goto (-27), 3) := by decide +kernel
theorem dX1_pagesWithFrame_35 : decode cX1_pagesWithFrame 35 = .ok (.iload_n 3, 1) := by decide +kernel
theorem dX1_pagesWithFrame_36 : decode cX1_pagesWithFrame 36 = .ok (.ireturn, 1) := by decide +kernel
theorem dX1_pagesWithSharedFrame_0 : decode cX1_pagesWithSharedFrame 0 = .ok (.iconst 0, 1) := by decide +kernel
theorem dX1_pagesWithSharedFrame_1 : decode cX1_pagesWithSharedFrame 1 = .ok (.istore_n 3, 1) := by decide +kernel
theorem dX1_pagesWithSharedFrame_2 : decode cX1_pagesWithSharedFrame 2 = .ok (.iconst 0, 1) := by decide +kernel
theorem dX1_pagesWithSharedFrame_3 : decode cX1_pagesWithSharedFrame 3 = .ok (.istore 4, 2) := by decide +kernel
theorem dX1_pagesWithSharedFrame_5 : decode cX1_pagesWithSharedFrame 5 = .ok (.iload 4, 2) := by decide +kernel
theorem dX1_pagesWithSharedFrame_7 : decode cX1_pagesWithSharedFrame 7 = .ok (.iconst 4, 1) := by decide +kernel
theorem dX1_pagesWithSharedFrame_8 : decode cX1_pagesWithSharedFrame 8 = .ok (.if_icmp .ge 30, 3) := by decide +kernel
theorem dX1_pagesWithSharedFrame_11 : decode cX1_pagesWithSharedFrame 11 = .ok (.aload_n 0, 1) := by decide +kernel
theorem dX1_pagesWithSharedFrame_12 : decode cX1_pagesWithSharedFrame 12 = .ok (.aload_n 0, 1) := by decide +kernel
theorem dX1_pagesWithSharedFrame_13 : decode cX1_pagesWithSharedFrame 13 = .ok (.iload_n 1, 1) := by decide +kernel
theorem dX1_pagesWithSharedFrame_14 : decode cX1_pagesWithSharedFrame 14 = .ok (.iconst 4, 1) := by decide +kernel
theorem dX1_pagesWithSharedFrame_15 : decode cX1_pagesWithSharedFrame 15 = .ok (.iload_n 2, 1) := by decide +kernel
theorem dX1_pagesWithSharedFrame_16 : decode cX1_pagesWithSharedFrame 16 = .ok (.imul, 1) := by decide +kernel
theorem dX1_pagesWithSharedFrame_17 : decode cX1_pagesWithSharedFrame 17 = .ok (.iload 4, 2) := by decide +kernel
theorem dX1_pagesWithSharedFrame_19 : decode cX1_pagesWithSharedFrame 19 = .ok (.iadd, 1) := by decide +kernel
theorem dX1_pagesWithSharedFrame_20 : decode cX1_pagesWithSharedFrame 20 = .ok (.invokevirtual 73, 3) := by decide +kernel
theorem dX1_pagesWithSharedFrame_23 : decode cX1_pagesWithSharedFrame 23 = .ok (.invokevirtual 57, 3) := by decide +kernel
theorem dX1_pagesWithSharedFrame_26 : decode cX1_pagesWithSharedFrame 26 = .ok (.ifCond .eq 6, 3) := by decide +kernel
theorem dX1_pagesWithSharedFrame_29 : decode cX1_pagesWithSharedFrame 29 = .ok (.iinc 3 1, 3) := by decide +kernel
theorem dX1_pagesWithSharedFrame_32 : decode cX1_pagesWithSharedFrame 32 = .ok (.iinc 4 1, 3) := by decide +kernel
theorem dX1_pagesWithSharedFrame_35 : decode cX1_pagesWithSharedFrame 35 = .ok (.goto (-30), 3) := by decide +kernel
theorem dX1_pagesWithSharedFrame_38 : decode cX1_pagesWithSharedFrame 38 = .ok (.iload_n 3, 1) := by decide +kernel
theorem dX1_pagesWithSharedFrame_39 : decode cX1_pagesWithSharedFrame 39 = .ok (.ireturn, 1) := by decide +kernel
theorem dX1_pagesWithValueZero_0 : decode cX1_pagesWithValueZero 0 = .ok (.iconst 0, 1) := by decide +kernel
theorem dX1_pagesWithValueZero_1 : decode cX1_pagesWithValueZero 1 = .ok (.istore_n 3, 1) := by decide +kernel
theorem dX1_pagesWithValueZero_2 : decode cX1_pagesWithValueZero 2 = .ok (.iconst 0, 1) := by decide +kernel
theorem dX1_pagesWithValueZero_3 : decode cX1_pagesWithValueZero 3 = .ok (.istore 4, 2) := by decide +kernel
theorem dX1_pagesWithValueZero_5 : decode cX1_pagesWithValueZero 5 = .ok (.iload 4, 2) := by decide +kernel
theorem dX1_pagesWithValueZero_7 : decode cX1_pagesWithValueZero 7 = .ok (.iconst 4, 1) := by decide +kernel
theorem dX1_pagesWithValueZero_8 : decode cX1_pagesWithValueZero 8 = .ok (.if_icmp .ge 26, 3) := by decide +kernel
theorem dX1_pagesWithValueZero_11 : decode cX1_pagesWithValueZero 11 = .ok (.aload_n 0, 1) := by decide +kernel
theorem dX1_pagesWithValueZero_12 : decode cX1_pagesWithValueZero 12 = .ok (.iload_n 1, 1) := by decide +kernel
theorem dX1_pagesWithValueZero_13 : decode cX1_pagesWithValueZero 13 = .ok (.iconst 4, 1) := by decide +kernel
theorem dX1_pagesWithValueZero_14 : decode cX1_pagesWithValueZero 14 = .ok (.iload_n 2, 1) := by decide +kernel
theorem dX1_pagesWithValueZero_15 : decode cX1_pagesWithValueZero 15 = .ok (.imul, 1) := by decide +kernel
theorem dX1_pagesWithValueZero_16 : decode cX1_pagesWithValueZero 16 = .ok (.iload 4, 2) := by decide +kernel
theorem dX1_pagesWithValueZero_18 : decode cX1_pagesWithValueZero 18 = .ok (.iadd, 1) := by decide +kernel
theorem dX1_pagesWithValueZero_19 : decode cX1_pagesWithValueZero 19 = .ok (.invokevirtual 89, 3) := by decide +kernel
theorem dX1_pagesWithValueZero_22 : decode cX1_pagesWithValueZero 22 = .ok (.ifCond .ne 6, 3) := by decide +kernel
theorem dX1_pagesWithValueZero_25 : decode cX1_pagesWithValueZero 25 = .ok (.iinc 3 1, 3) := by decide +kernel
theorem dX1_pagesWithValueZero_28 : decode cX1_pagesWithValueZero 28 = .ok (.iinc 4 1, 3) := by decide +kernel
theorem dX1_pagesWithValueZero_31 : decode cX1_pagesWithValueZero 31 = .ok (.goto (-26), 3) := by decide +kernel
theorem dX1_pagesWithValueZero_34 : decode cX1_pagesWithValueZero 34 = .ok (.iload_n 3, 1) := by decide +kernel
theorem dX1_pagesWithValueZero_35 : decode cX1_pagesWithValueZero 35 = .ok (.ireturn, 1) := by decide +kernel
theorem dX1_isShared_0 : decode cX1_isShared 0 = .ok (.iload_n 1, 1) := by decide +kernel
theorem dX1_isShared_1 : decode cX1_isShared 1 = .ok (.iconst (-1), 1) := by decide +kernel
theorem dX1_isShared_2 : decode cX1_isShared 2 = .ok (.if_icmp .eq 17, 3) := by decide +kernel
theorem dX1_isShared_5 : decode cX1_isShared 5 = .ok (.aload_n 0, 1) := by decide +kernel
theorem dX1_isShared_6 : decode cX1_isShared 6 = .ok (.getfield 15, 3) := by decide +kernel
theorem dX1_isShared_9 : decode cX1_isShared 9 = .ok (.iload_n 1, 1) := by decide +kernel
theorem dX1_isShared_10 : decode cX1_isShared 10 = .ok (.iaload, 1) := by decide +kernel
theorem dX1_isShared_11 : decode cX1_isShared 11 = .ok (.iconst 1, 1) := by decide +kernel
theorem dX1_isShared_12 : decode cX1_isShared 12 = .ok (.if_icmp .le 7, 3) := by decide +kernel
theorem dX1_isShared_15 : decode cX1_isShared 15 = .ok (.iconst 1, 1) := by decide +kernel
theorem dX1_isShared_16 : decode cX1_isShared 16 = .ok (.goto 4, 3) := by decide +kernel
theorem dX1_isShared_19 : decode cX1_isShared 19 = .ok (.iconst 0, 1) := by decide +kernel
theorem dX1_isShared_20 : decode cX1_isShared 20 = .ok (.ireturn, 1) := by decide +kernel
theorem dX1_isRunFree_0 : decode cX1_isRunFree 0 = .ok (.iconst 0, 1) := by decide +kernel
theorem dX1_isRunFree_1 : decode cX1_isRunFree 1 = .ok (.istore_n 2, 1) := by decide +kernel
theorem dX1_isRunFree_2 : decode cX1_isRunFree 2 = .ok (.iload_n 2, 1) := by decide +kernel
theorem dX1_isRunFree_3 : decode cX1_isRunFree 3 = .ok (.iconst 4, 1) := by decide +kernel
theorem dX1_isRunFree_4 : decode cX1_isRunFree 4 = .ok (.if_icmp .ge 24, 3) := by decide +kernel
theorem dX1_isRunFree_7 : decode cX1_isRunFree 7 = .ok (.aload_n 0, 1) := by decide +kernel
theorem dX1_isRunFree_8 : decode cX1_isRunFree 8 = .ok (.getfield 15, 3) := by decide +kernel
theorem dX1_isRunFree_11 : decode cX1_isRunFree 11 = .ok (.iconst 4, 1) := by decide +kernel
theorem dX1_isRunFree_12 : decode cX1_isRunFree 12 = .ok (.iload_n 1, 1) := by decide +kernel
theorem dX1_isRunFree_13 : decode cX1_isRunFree 13 = .ok (.imul, 1) := by decide +kernel
theorem dX1_isRunFree_14 : decode cX1_isRunFree 14 = .ok (.iload_n 2, 1) := by decide +kernel
theorem dX1_isRunFree_15 : decode cX1_isRunFree 15 = .ok (.iadd, 1) := by decide +kernel
theorem dX1_isRunFree_16 : decode cX1_isRunFree 16 = .ok (.iaload, 1) := by decide +kernel
theorem dX1_isRunFree_17 : decode cX1_isRunFree 17 = .ok (.ifCond .le 5, 3) := by decide +kernel
theorem dX1_isRunFree_20 : decode cX1_isRunFree 20 = .ok (.iconst 0, 1) := by decide +kernel
theorem dX1_isRunFree_21 : decode cX1_isRunFree 21 = .ok (.ireturn, 1) := by decide +kernel
theorem dX1_isRunFree_22 : decode cX1_isRunFree 22 = .ok (.iinc 2 1, 3) := by decide +kernel
theorem dX1_isRunFree_25 : decode cX1_isRunFree 25 = .ok (.goto (-23), 3) := by decide +kernel
theorem dX1_isRunFree_28 : decode cX1_isRunFree 28 = .ok (.iconst 1, 1) := by decide +kernel
theorem dX1_isRunFree_29 : decode cX1_isRunFree 29 = .ok (.ireturn, 1) := by decide +kernel
theorem dX1_lowestFreeRun_0 : decode cX1_lowestFreeRun 0 = .ok (.iconst 0, 1) := by decide +kernel
theorem dX1_lowestFreeRun_1 : decode cX1_lowestFreeRun 1 = .ok (.istore_n 1, 1) := by decide +kernel
theorem dX1_lowestFreeRun_2 : decode cX1_lowestFreeRun 2 = .ok (.iload_n 1, 1) := by decide +kernel
theorem dX1_lowestFreeRun_3 : decode cX1_lowestFreeRun 3 = .ok (.bipush 8, 2) := by decide +kernel
theorem dX1_lowestFreeRun_5 : decode cX1_lowestFreeRun 5 = .ok (.if_icmp .ge 19, 3) := by decide +kernel
theorem dX1_lowestFreeRun_8 : decode cX1_lowestFreeRun 8 = .ok (.aload_n 0, 1) := by decide +kernel
theorem dX1_lowestFreeRun_9 : decode cX1_lowestFreeRun 9 = .ok (.iload_n 1, 1) := by decide +kernel
theorem dX1_lowestFreeRun_10 : decode cX1_lowestFreeRun 10 = .ok (.invokevirtual 60, 3) := by decide +kernel
theorem dX1_lowestFreeRun_13 : decode cX1_lowestFreeRun 13 = .ok (.ifCond .eq 5, 3) := by decide +kernel
theorem dX1_lowestFreeRun_16 : decode cX1_lowestFreeRun 16 = .ok (.iload_n 1, 1) := by decide +kernel
theorem dX1_lowestFreeRun_17 : decode cX1_lowestFreeRun 17 = .ok (.ireturn, 1) := by decide +kernel
theorem dX1_lowestFreeRun_18 : decode cX1_lowestFreeRun 18 = .ok (.iinc 1 1, 3) := by decide +kernel
theorem dX1_lowestFreeRun_21 : decode cX1_lowestFreeRun 21 = .ok (.goto (-19), 3) := by decide +kernel
theorem dX1_lowestFreeRun_24 : decode cX1_lowestFreeRun 24 = .ok (.iconst (-1), 1) := by decide +kernel
theorem dX1_lowestFreeRun_25 : decode cX1_lowestFreeRun 25 = .ok (.ireturn, 1) := by decide +kernel
theorem dX1_lowestSingleFrame_0 : decode cX1_lowestSingleFrame 0 = .ok (.iconst (-1), 1) := by decide +kernel
theorem dX1_lowestSingleFrame_1 : decode cX1_lowestSingleFrame 1 = .ok (.istore_n 1, 1) := by decide +kernel
theorem dX1_lowestSingleFrame_2 : decode cX1_lowestSingleFrame 2 = .ok (.iconst 0, 1) := by decide +kernel
theorem dX1_lowestSingleFrame_3 : decode cX1_lowestSingleFrame 3 = .ok (.istore_n 2, 1) := by decide +kernel
theorem dX1_lowestSingleFrame_4 : decode cX1_lowestSingleFrame 4 = .ok (.iload_n 2, 1) := by decide +kernel
theorem dX1_lowestSingleFrame_5 : decode cX1_lowestSingleFrame 5 = .ok (.bipush 32, 2) := by decide +kernel
theorem dX1_lowestSingleFrame_7 : decode cX1_lowestSingleFrame 7 = .ok (.if_icmp .ge 37, 3) := by decide +kernel
theorem dX1_lowestSingleFrame_10 : decode cX1_lowestSingleFrame 10 = .ok (.aload_n 0, 1) := by decide +kernel
theorem dX1_lowestSingleFrame_11 : decode cX1_lowestSingleFrame 11 = .ok (.getfield 15, 3) := by decide +kernel
theorem dX1_lowestSingleFrame_14 : decode cX1_lowestSingleFrame 14 = .ok (.iload_n 2, 1) := by decide +kernel
theorem dX1_lowestSingleFrame_15 : decode cX1_lowestSingleFrame 15 = .ok (.iaload, 1) := by decide +kernel
theorem dX1_lowestSingleFrame_16 : decode cX1_lowestSingleFrame 16 = .ok (.ifCond .ne 22, 3) := by decide +kernel
theorem dX1_lowestSingleFrame_19 : decode cX1_lowestSingleFrame 19 = .ok (.aload_n 0, 1) := by decide +kernel
theorem dX1_lowestSingleFrame_20 : decode cX1_lowestSingleFrame 20 = .ok (.iload_n 2, 1) := by decide +kernel
theorem dX1_lowestSingleFrame_21 : decode cX1_lowestSingleFrame 21 = .ok (.iconst 4, 1) := by decide +kernel
theorem dX1_lowestSingleFrame_22 : decode cX1_lowestSingleFrame 22 = .ok (.idiv, 1) := by decide +kernel
theorem dX1_lowestSingleFrame_23 : decode cX1_lowestSingleFrame 23 = .ok (.invokevirtual 60, 3) := by decide +kernel
theorem dX1_lowestSingleFrame_26 : decode cX1_lowestSingleFrame 26 = .ok (.ifCond .ne 5, 3) := by decide +kernel
theorem dX1_lowestSingleFrame_29 : decode cX1_lowestSingleFrame 29 = .ok (.iload_n 2, 1) := by decide +kernel
theorem dX1_lowestSingleFrame_30 : decode cX1_lowestSingleFrame 30 = .ok (.ireturn, 1) := by decide +kernel
theorem dX1_lowestSingleFrame_31 : decode cX1_lowestSingleFrame 31 = .ok (.iload_n 1, 1) := by decide +kernel
theorem dX1_lowestSingleFrame_32 : decode cX1_lowestSingleFrame 32 = .ok (.iconst (-1), 1) := by decide +kernel
theorem dX1_lowestSingleFrame_33 : decode cX1_lowestSingleFrame 33 = .ok (.if_icmp .ne 5, 3) := by decide +kernel
theorem dX1_lowestSingleFrame_36 : decode cX1_lowestSingleFrame 36 = .ok (.iload_n 2, 1) := by decide +kernel
theorem dX1_lowestSingleFrame_37 : decode cX1_lowestSingleFrame 37 = .ok (.istore_n 1, 1) := by decide +kernel
theorem dX1_lowestSingleFrame_38 : decode cX1_lowestSingleFrame 38 = .ok (.iinc 2 1, 3) := by decide +kernel
theorem dX1_lowestSingleFrame_41 : decode cX1_lowestSingleFrame 41 = .ok (.goto (-37), 3) := by decide +kernel
theorem dX1_lowestSingleFrame_44 : decode cX1_lowestSingleFrame 44 = .ok (.iload_n 1, 1) := by decide +kernel
theorem dX1_lowestSingleFrame_45 : decode cX1_lowestSingleFrame 45 = .ok (.ireturn, 1) := by decide +kernel
theorem dX1_takeFrame_0 : decode cX1_takeFrame 0 = .ok (.aload_n 0, 1) := by decide +kernel
theorem dX1_takeFrame_1 : decode cX1_takeFrame 1 = .ok (.getfield 9, 3) := by decide +kernel
theorem dX1_takeFrame_4 : decode cX1_takeFrame 4 = .ok (.bipush 16, 2) := by decide +kernel
theorem dX1_takeFrame_6 : decode cX1_takeFrame 6 = .ok (.iload_n 1, 1) := by decide +kernel
theorem dX1_takeFrame_7 : decode cX1_takeFrame 7 = .ok (.imul, 1) := by decide +kernel
theorem dX1_takeFrame_8 : decode cX1_takeFrame 8 = .ok (.iload_n 2, 1) := by decide +kernel
theorem dX1_takeFrame_9 : decode cX1_takeFrame 9 = .ok (.iadd, 1) := by decide +kernel
theorem dX1_takeFrame_10 : decode cX1_takeFrame 10 = .ok (.iload_n 3, 1) := by decide +kernel
theorem dX1_takeFrame_11 : decode cX1_takeFrame 11 = .ok (.iastore, 1) := by decide +kernel
theorem dX1_takeFrame_12 : decode cX1_takeFrame 12 = .ok (.aload_n 0, 1) := by decide +kernel
theorem dX1_takeFrame_13 : decode cX1_takeFrame 13 = .ok (.getfield 15, 3) := by decide +kernel
theorem dX1_takeFrame_16 : decode cX1_takeFrame 16 = .ok (.iload_n 3, 1) := by decide +kernel
theorem dX1_takeFrame_17 : decode cX1_takeFrame 17 = .ok (.dup2, 1) := by decide +kernel
theorem dX1_takeFrame_18 : decode cX1_takeFrame 18 = .ok (.iaload, 1) := by decide +kernel
theorem dX1_takeFrame_19 : decode cX1_takeFrame 19 = .ok (.iconst 1, 1) := by decide +kernel
theorem dX1_takeFrame_20 : decode cX1_takeFrame 20 = .ok (.iadd, 1) := by decide +kernel
theorem dX1_takeFrame_21 : decode cX1_takeFrame 21 = .ok (.iastore, 1) := by decide +kernel
theorem dX1_takeFrame_22 : decode cX1_takeFrame 22 = .ok (.return_, 1) := by decide +kernel
theorem dX1_letGo_0 : decode cX1_letGo 0 = .ok (.aload_n 0, 1) := by decide +kernel
theorem dX1_letGo_1 : decode cX1_letGo 1 = .ok (.iload_n 1, 1) := by decide +kernel
theorem dX1_letGo_2 : decode cX1_letGo 2 = .ok (.iload_n 2, 1) := by decide +kernel
theorem dX1_letGo_3 : decode cX1_letGo 3 = .ok (.invokevirtual 73, 3) := by decide +kernel
theorem dX1_letGo_6 : decode cX1_letGo 6 = .ok (.istore_n 3, 1) := by decide +kernel
theorem dX1_letGo_7 : decode cX1_letGo 7 = .ok (.iload_n 3, 1) := by decide +kernel
theorem dX1_letGo_8 : decode cX1_letGo 8 = .ok (.iconst (-1), 1) := by decide +kernel
theorem dX1_letGo_9 : decode cX1_letGo 9 = .ok (.if_icmp .ne 5, 3) := by decide +kernel
theorem dX1_letGo_12 : decode cX1_letGo 12 = .ok (.iconst 0, 1) := by decide +kernel
theorem dX1_letGo_13 : decode cX1_letGo 13 = .ok (.ireturn, 1) := by decide +kernel
theorem dX1_letGo_14 : decode cX1_letGo 14 = .ok (.aload_n 0, 1) := by decide +kernel
theorem dX1_letGo_15 : decode cX1_letGo 15 = .ok (.getfield 9, 3) := by decide +kernel
theorem dX1_letGo_18 : decode cX1_letGo 18 = .ok (.bipush 16, 2) := by decide +kernel
theorem dX1_letGo_20 : decode cX1_letGo 20 = .ok (.iload_n 1, 1) := by decide +kernel
theorem dX1_letGo_21 : decode cX1_letGo 21 = .ok (.imul, 1) := by decide +kernel
theorem dX1_letGo_22 : decode cX1_letGo 22 = .ok (.iload_n 2, 1) := by decide +kernel
theorem dX1_letGo_23 : decode cX1_letGo 23 = .ok (.iadd, 1) := by decide +kernel
theorem dX1_letGo_24 : decode cX1_letGo 24 = .ok (.iconst (-1), 1) := by decide +kernel
theorem dX1_letGo_25 : decode cX1_letGo 25 = .ok (.iastore, 1) := by decide +kernel
theorem dX1_letGo_26 : decode cX1_letGo 26 = .ok (.aload_n 0, 1) := by decide +kernel
theorem dX1_letGo_27 : decode cX1_letGo 27 = .ok (.getfield 15, 3) := by decide +kernel
theorem dX1_letGo_30 : decode cX1_letGo 30 = .ok (.iload_n 3, 1) := by decide +kernel
theorem dX1_letGo_31 : decode cX1_letGo 31 = .ok (.dup2, 1) := by decide +kernel
theorem dX1_letGo_32 : decode cX1_letGo 32 = .ok (.iaload, 1) := by decide +kernel
theorem dX1_letGo_33 : decode cX1_letGo 33 = .ok (.iconst 1, 1) := by decide +kernel
theorem dX1_letGo_34 : decode cX1_letGo 34 = .ok (.isub, 1) := by decide +kernel
theorem dX1_letGo_35 : decode cX1_letGo 35 = .ok (.iastore, 1) := by decide +kernel
theorem dX1_letGo_36 : decode cX1_letGo 36 = .ok (.aload_n 0, 1) := by decide +kernel
theorem dX1_letGo_37 : decode cX1_letGo 37 = .ok (.getfield 15, 3) := by decide +kernel
theorem dX1_letGo_40 : decode cX1_letGo 40 = .ok (.iload_n 3, 1) := by decide +kernel
theorem dX1_letGo_41 : decode cX1_letGo 41 = .ok (.iaload, 1) := by decide +kernel
theorem dX1_letGo_42 : decode cX1_letGo 42 = .ok (.ifCond .ne 7, 3) := by decide +kernel
theorem dX1_letGo_45 : decode cX1_letGo 45 = .ok (.iconst 1, 1) := by decide +kernel
theorem dX1_letGo_46 : decode cX1_letGo 46 = .ok (.goto 4, 3) := by decide +kernel
theorem dX1_letGo_49 : decode cX1_letGo 49 = .ok (.iconst 0, 1) := by decide +kernel
theorem dX1_letGo_50 : decode cX1_letGo 50 = .ok (.ireturn, 1) := by decide +kernel
theorem dX1_becomeBig_0 : decode cX1_becomeBig 0 = .ok (.aload_n 0, 1) := by decide +kernel
theorem dX1_becomeBig_1 : decode cX1_becomeBig 1 = .ok (.dup, 1) := by decide +kernel
theorem dX1_becomeBig_2 : decode cX1_becomeBig 2 = .ok (.getfield 28, 3) := by decide +kernel
theorem dX1_becomeBig_5 : decode cX1_becomeBig 5 = .ok (.iconst 1, 1) := by decide +kernel
theorem dX1_becomeBig_6 : decode cX1_becomeBig 6 = .ok (.iconst 4, 1) := by decide +kernel
theorem dX1_becomeBig_7 : decode cX1_becomeBig 7 = .ok (.iload_n 1, 1) := by decide +kernel
theorem dX1_becomeBig_8 : decode cX1_becomeBig 8 = .ok (.imul, 1) := by decide +kernel
theorem dX1_becomeBig_9 : decode cX1_becomeBig 9 = .ok (.iload_n 2, 1) := by decide +kernel
theorem dX1_becomeBig_10 : decode cX1_becomeBig 10 = .ok (.iadd, 1) := by decide +kernel
theorem dX1_becomeBig_11 : decode cX1_becomeBig 11 = .ok (.ishl, 1) := by decide +kernel
theorem dX1_becomeBig_12 : decode cX1_becomeBig 12 = .ok (.ior, 1) := by decide +kernel
theorem dX1_becomeBig_13 : decode cX1_becomeBig 13 = .ok (.putfield 28, 3) := by decide +kernel
theorem dX1_becomeBig_16 : decode cX1_becomeBig 16 = .ok (.return_, 1) := by decide +kernel
theorem dX1_becomeSmall_0 : decode cX1_becomeSmall 0 = .ok (.aload_n 0, 1) := by decide +kernel
theorem dX1_becomeSmall_1 : decode cX1_becomeSmall 1 = .ok (.dup, 1) := by decide +kernel
theorem dX1_becomeSmall_2 : decode cX1_becomeSmall 2 = .ok (.getfield 28, 3) := by decide +kernel
theorem dX1_becomeSmall_5 : decode cX1_becomeSmall 5 = .ok (.iconst 1, 1) := by decide +kernel
theorem dX1_becomeSmall_6 : decode cX1_becomeSmall 6 = .ok (.iconst 4, 1) := by decide +kernel
theorem dX1_becomeSmall_7 : decode cX1_becomeSmall 7 = .ok (.iload_n 1, 1) := by decide +kernel
theorem dX1_becomeSmall_8 : decode cX1_becomeSmall 8 = .ok (.imul, 1) := by decide +kernel
theorem dX1_becomeSmall_9 : decode cX1_becomeSmall 9 = .ok (.iload_n 2, 1) := by decide +kernel
theorem dX1_becomeSmall_10 : decode cX1_becomeSmall 10 = .ok (.iadd, 1) := by decide +kernel
theorem dX1_becomeSmall_11 : decode cX1_becomeSmall 11 = .ok (.ishl, 1) := by decide +kernel
theorem dX1_becomeSmall_12 : decode cX1_becomeSmall 12 = .ok (.iconst (-1), 1) := by decide +kernel
theorem dX1_becomeSmall_13 : decode cX1_becomeSmall 13 = .ok (.ixor, 1) := by decide +kernel
theorem dX1_becomeSmall_14 : decode cX1_becomeSmall 14 = .ok (.iand, 1) := by decide +kernel
theorem dX1_becomeSmall_15 : decode cX1_becomeSmall 15 = .ok (.putfield 28, 3) := by decide +kernel
theorem dX1_becomeSmall_18 : decode cX1_becomeSmall 18 = .ok (.return_, 1) := by decide +kernel
theorem dX1_becomeTorn_0 : decode cX1_becomeTorn 0 = .ok (.aload_n 0, 1) := by decide +kernel
theorem dX1_becomeTorn_1 : decode cX1_becomeTorn 1 = .ok (.iload_n 1, 1) := by decide +kernel
theorem dX1_becomeTorn_2 : decode cX1_becomeTorn 2 = .ok (.iload_n 2, 1) := by decide +kernel
theorem dX1_becomeTorn_3 : decode cX1_becomeTorn 3 = .ok (.invokevirtual 92, 3) := by decide +kernel
theorem dX1_becomeTorn_6 : decode cX1_becomeTorn 6 = .ok (.aload_n 0, 1) := by decide +kernel
theorem dX1_becomeTorn_7 : decode cX1_becomeTorn 7 = .ok (.dup, 1) := by decide +kernel
theorem dX1_becomeTorn_8 : decode cX1_becomeTorn 8 = .ok (.getfield 41, 3) := by decide +kernel
theorem dX1_becomeTorn_11 : decode cX1_becomeTorn 11 = .ok (.iconst 1, 1) := by decide +kernel
theorem dX1_becomeTorn_12 : decode cX1_becomeTorn 12 = .ok (.iadd, 1) := by decide +kernel
theorem dX1_becomeTorn_13 : decode cX1_becomeTorn 13 = .ok (.putfield 41, 3) := by decide +kernel
theorem dX1_becomeTorn_16 : decode cX1_becomeTorn 16 = .ok (.return_, 1) := by decide +kernel
theorem dX1_outcomeOfWrite_0 : decode cX1_outcomeOfWrite 0 = .ok (.aload_n 0, 1) := by decide +kernel
theorem dX1_outcomeOfWrite_1 : decode cX1_outcomeOfWrite 1 = .ok (.iload_n 1, 1) := by decide +kernel
theorem dX1_outcomeOfWrite_2 : decode cX1_outcomeOfWrite 2 = .ok (.iload_n 2, 1) := by decide +kernel
theorem dX1_outcomeOfWrite_3 : decode cX1_outcomeOfWrite 3 = .ok (.invokevirtual 96, 3) := by decide +kernel
theorem dX1_outcomeOfWrite_6 : decode cX1_outcomeOfWrite 6 = .ok (.ifCond .ne 5, 3) := by decide +kernel
theorem dX1_outcomeOfWrite_9 : decode cX1_outcomeOfWrite 9 = .ok (.iconst (-1), 1) := by decide +kernel
theorem dX1_outcomeOfWrite_10 : decode cX1_outcomeOfWrite 10 = .ok (.ireturn, 1) := by decide +kernel
theorem dX1_outcomeOfWrite_11 : decode cX1_outcomeOfWrite 11 = .ok (.aload_n 0, 1) := by decide +kernel
theorem dX1_outcomeOfWrite_12 : decode cX1_outcomeOfWrite 12 = .ok (.iload_n 1, 1) := by decide +kernel
theorem dX1_outcomeOfWrite_13 : decode cX1_outcomeOfWrite 13 = .ok (.iload_n 2, 1) := by decide +kernel
theorem dX1_outcomeOfWrite_14 : decode cX1_outcomeOfWrite 14 = .ok (.invokevirtual 73, 3) := by decide +kernel
theorem dX1_outcomeOfWrite_17 : decode cX1_outcomeOfWrite 17 = .ok (.istore_n 3, 1) := by decide +kernel
theorem dX1_outcomeOfWrite_18 : decode cX1_outcomeOfWrite 18 = .ok (.iload_n 3, 1) := by decide +kernel
theorem dX1_outcomeOfWrite_19 : decode cX1_outcomeOfWrite 19 = .ok (.iconst (-1), 1) := by decide +kernel
theorem dX1_outcomeOfWrite_20 : decode cX1_outcomeOfWrite 20 = .ok (.if_icmp .eq 13, 3) := by decide +kernel
theorem dX1_outcomeOfWrite_23 : decode cX1_outcomeOfWrite 23 = .ok (.aload_n 0, 1) := by decide +kernel
theorem dX1_outcomeOfWrite_24 : decode cX1_outcomeOfWrite 24 = .ok (.iload_n 3, 1) := by decide +kernel
theorem dX1_outcomeOfWrite_25 : decode cX1_outcomeOfWrite 25 = .ok (.invokevirtual 57, 3) := by decide +kernel
theorem dX1_outcomeOfWrite_28 : decode cX1_outcomeOfWrite 28 = .ok (.ifCond .ne 5, 3) := by decide +kernel
theorem dX1_outcomeOfWrite_31 : decode cX1_outcomeOfWrite 31 = .ok (.iconst 0, 1) := by decide +kernel
theorem dX1_outcomeOfWrite_32 : decode cX1_outcomeOfWrite 32 = .ok (.ireturn, 1) := by decide +kernel
theorem dX1_outcomeOfWrite_33 : decode cX1_outcomeOfWrite 33 = .ok (.aload_n 0, 1) := by decide +kernel
theorem dX1_outcomeOfWrite_34 : decode cX1_outcomeOfWrite 34 = .ok (.invokevirtual 99, 3) := by decide +kernel
theorem dX1_outcomeOfWrite_37 : decode cX1_outcomeOfWrite 37 = .ok (.ifCond .ne 5, 3) := by decide +kernel
theorem dX1_outcomeOfWrite_40 : decode cX1_outcomeOfWrite 40 = .ok (.iconst (-1), 1) := by decide +kernel
theorem dX1_outcomeOfWrite_41 : decode cX1_outcomeOfWrite 41 = .ok (.ireturn, 1) := by decide +kernel
theorem dX1_outcomeOfWrite_42 : decode cX1_outcomeOfWrite 42 = .ok (.iload_n 3, 1) := by decide +kernel
theorem dX1_outcomeOfWrite_43 : decode cX1_outcomeOfWrite 43 = .ok (.iconst (-1), 1) := by decide +kernel
theorem dX1_outcomeOfWrite_44 : decode cX1_outcomeOfWrite 44 = .ok (.if_icmp .ne 5, 3) := by decide +kernel
theorem dX1_outcomeOfWrite_47 : decode cX1_outcomeOfWrite 47 = .ok (.iconst 1, 1) := by decide +kernel
theorem dX1_outcomeOfWrite_48 : decode cX1_outcomeOfWrite 48 = .ok (.ireturn, 1) := by decide +kernel
theorem dX1_outcomeOfWrite_49 : decode cX1_outcomeOfWrite 49 = .ok (.aload_n 0, 1) := by decide +kernel
theorem dX1_outcomeOfWrite_50 : decode cX1_outcomeOfWrite 50 = .ok (.iload_n 1, 1) := by decide +kernel
theorem dX1_outcomeOfWrite_51 : decode cX1_outcomeOfWrite 51 = .ok (.iload_n 2, 1) := by decide +kernel
theorem dX1_outcomeOfWrite_52 : decode cX1_outcomeOfWrite 52 = .ok (.iconst 4, 1) := by decide +kernel
theorem dX1_outcomeOfWrite_53 : decode cX1_outcomeOfWrite 53 = .ok (.idiv, 1) := by decide +kernel
theorem dX1_outcomeOfWrite_54 : decode cX1_outcomeOfWrite 54 = .ok (.invokevirtual 77, 3) := by decide +kernel
theorem dX1_outcomeOfWrite_57 : decode cX1_outcomeOfWrite 57 = .ok (.ifCond .eq 7, 3) := by decide +kernel
theorem dX1_outcomeOfWrite_60 : decode cX1_outcomeOfWrite 60 = .ok (.iconst 3, 1) := by decide +kernel
theorem dX1_outcomeOfWrite_61 : decode cX1_outcomeOfWrite 61 = .ok (.goto 4, 3) := by decide +kernel
theorem dX1_outcomeOfWrite_64 : decode cX1_outcomeOfWrite 64 = .ok (.iconst 2, 1) := by decide +kernel
theorem dX1_outcomeOfWrite_65 : decode cX1_outcomeOfWrite 65 = .ok (.ireturn, 1) := by decide +kernel
theorem dX1_doWrite_0 : decode cX1_doWrite 0 = .ok (.aload_n 0, 1) := by decide +kernel
theorem dX1_doWrite_1 : decode cX1_doWrite 1 = .ok (.iload_n 1, 1) := by decide +kernel
theorem dX1_doWrite_2 : decode cX1_doWrite 2 = .ok (.iload_n 2, 1) := by decide +kernel
theorem dX1_doWrite_3 : decode cX1_doWrite 3 = .ok (.invokevirtual 103, 3) := by decide +kernel
theorem dX1_doWrite_6 : decode cX1_doWrite 6 = .ok (.istore 4, 2) := by decide +kernel
theorem dX1_doWrite_8 : decode cX1_doWrite 8 = .ok (.iload 4, 2) := by decide +kernel
theorem dX1_doWrite_10 : decode cX1_doWrite 10 = .ok (.iconst (-1), 1) := by decide +kernel
theorem dX1_doWrite_11 : decode cX1_doWrite 11 = .ok (.if_icmp .eq 13, 3) := by decide +kernel
theorem dX1_doWrite_14 : decode cX1_doWrite 14 = .ok (.iload_n 3, 1) := by decide +kernel
theorem dX1_doWrite_15 : decode cX1_doWrite 15 = .ok (.ifCond .lt 9, 3) := by decide +kernel
theorem dX1_doWrite_18 : decode cX1_doWrite 18 = .ok (.iload_n 3, 1) := by decide +kernel
theorem dX1_doWrite_19 : decode cX1_doWrite 19 = .ok (.bipush 100, 2) := by decide +kernel
theorem dX1_doWrite_21 : decode cX1_doWrite 21 = .ok (.if_icmp .lt 5, 3) := by decide +kernel
theorem dX1_doWrite_24 : decode cX1_doWrite 24 = .ok (.iconst (-1), 1) := by decide +kernel
theorem dX1_doWrite_25 : decode cX1_doWrite 25 = .ok (.ireturn, 1) := by decide +kernel
theorem dX1_doWrite_26 : decode cX1_doWrite 26 = .ok (.iload 4, 2) := by decide +kernel
theorem dX1_doWrite_28 : decode cX1_doWrite 28 = .ok (.iconst 1, 1) := by decide +kernel
theorem dX1_doWrite_29 : decode cX1_doWrite 29 = .ok (.if_icmp .ne 12, 3) := by decide +kernel
theorem dX1_doWrite_32 : decode cX1_doWrite 32 = .ok (.aload_n 0, 1) := by decide +kernel
theorem dX1_doWrite_33 : decode cX1_doWrite 33 = .ok (.iload_n 1, 1) := by decide +kernel
theorem dX1_doWrite_34 : decode cX1_doWrite 34 = .ok (.iload_n 2, 1) := by decide +kernel
theorem dX1_doWrite_35 : decode cX1_doWrite 35 = .ok (.invokevirtual 106, 3) := by decide +kernel
theorem dX1_doWrite_38 : decode cX1_doWrite 38 = .ok (.goto 14, 3) := by decide +kernel
theorem dX1_doWrite_41 : decode cX1_doWrite 41 = .ok (.iload 4, 2) := by decide +kernel
theorem dX1_doWrite_43 : decode cX1_doWrite 43 = .ok (.ifCond .eq 9, 3) := by decide +kernel
theorem dX1_doWrite_46 : decode cX1_doWrite 46 = .ok (.aload_n 0, 1) := by decide +kernel
theorem dX1_doWrite_47 : decode cX1_doWrite 47 = .ok (.iload_n 1, 1) := by decide +kernel
theorem dX1_doWrite_48 : decode cX1_doWrite 48 = .ok (.iload_n 2, 1) := by decide +kernel
theorem dX1_doWrite_49 : decode cX1_doWrite 49 = .ok (.invokevirtual 109, 3) := by decide +kernel
theorem dX1_doWrite_52 : decode cX1_doWrite 52 = .ok (.aload_n 0, 1) := by decide +kernel
theorem dX1_doWrite_53 : decode cX1_doWrite 53 = .ok (.iload_n 1, 1) := by decide +kernel
theorem dX1_doWrite_54 : decode cX1_doWrite 54 = .ok (.iload_n 2, 1) := by decide +kernel
theorem dX1_doWrite_55 : decode cX1_doWrite 55 = .ok (.invokevirtual 73, 3) := by decide +kernel
theorem dX1_doWrite_58 : decode cX1_doWrite 58 = .ok (.istore 5, 2) := by decide +kernel
theorem dX1_doWrite_60 : decode cX1_doWrite 60 = .ok (.iload 5, 2) := by decide +kernel
theorem dX1_doWrite_62 : decode cX1_doWrite 62 = .ok (.iconst (-1), 1) := by decide +kernel
theorem dX1_doWrite_63 : decode cX1_doWrite 63 = .ok (.if_icmp .eq 11, 3) := by decide +kernel
theorem dX1_doWrite_66 : decode cX1_doWrite 66 = .ok (.aload_n 0, 1) := by decide +kernel
theorem dX1_doWrite_67 : decode cX1_doWrite 67 = .ok (.getfield 18, 3) := by decide +kernel
theorem dX1_doWrite_70 : decode cX1_doWrite 70 = .ok (.iload 5, 2) := by decide +kernel
theorem dX1_doWrite_72 : decode cX1_doWrite 72 = .ok (.iload_n 3, 1) := by decide +kernel
theorem dX1_doWrite_73 : decode cX1_doWrite 73 = .ok (.iastore, 1) := by decide +kernel
theorem dX1_doWrite_74 : decode cX1_doWrite 74 = .ok (.iload 4, 2) := by decide +kernel
theorem dX1_doWrite_76 : decode cX1_doWrite 76 = .ok (.ireturn, 1) := by decide +kernel
theorem dX1_bringIn_0 : decode cX1_bringIn 0 = .ok (.iload_n 2, 1) := by decide +kernel
theorem dX1_bringIn_1 : decode cX1_bringIn 1 = .ok (.iconst 4, 1) := by decide +kernel
theorem dX1_bringIn_2 : decode cX1_bringIn 2 = .ok (.idiv, 1) := by decide +kernel
theorem dX1_bringIn_3 : decode cX1_bringIn 3 = .ok (.istore_n 3, 1) := by decide +kernel
theorem dX1_bringIn_4 : decode cX1_bringIn 4 = .ok (.aload_n 0, 1) := by decide +kernel
theorem dX1_bringIn_5 : decode cX1_bringIn 5 = .ok (.invokevirtual 112, 3) := by decide +kernel
theorem dX1_bringIn_8 : decode cX1_bringIn 8 = .ok (.istore 4, 2) := by decide +kernel
theorem dX1_bringIn_10 : decode cX1_bringIn 10 = .ok (.aload_n 0, 1) := by decide +kernel
theorem dX1_bringIn_11 : decode cX1_bringIn 11 = .ok (.getfield 31, 3) := by decide +kernel
theorem dX1_bringIn_14 : decode cX1_bringIn 14 = .ok (.ifCond .eq 29, 3) := by decide +kernel
theorem dX1_bringIn_17 : decode cX1_bringIn 17 = .ok (.iload 4, 2) := by decide +kernel
theorem dX1_bringIn_19 : decode cX1_bringIn 19 = .ok (.iconst (-1), 1) := by decide +kernel
theorem dX1_bringIn_20 : decode cX1_bringIn 20 = .ok (.if_icmp .eq 23, 3) := by decide +kernel
theorem dX1_bringIn_23 : decode cX1_bringIn 23 = .ok (.aload_n 0, 1) := by decide +kernel
theorem dX1_bringIn_24 : decode cX1_bringIn 24 = .ok (.iload_n 1, 1) := by decide +kernel
theorem dX1_bringIn_25 : decode cX1_bringIn 25 = .ok (.iload_n 3, 1) := by decide +kernel
theorem dX1_bringIn_26 : decode cX1_bringIn 26 = .ok (.invokevirtual 115, 3) := by decide +kernel
theorem dX1_bringIn_29 : decode cX1_bringIn 29 = .ok (.ifCond .ne 14, 3) := by decide +kernel
theorem dX1_bringIn_32 : decode cX1_bringIn 32 = .ok (.aload_n 0, 1) := by decide +kernel
theorem dX1_bringIn_33 : decode cX1_bringIn 33 = .ok (.iload_n 1, 1) := by decide +kernel
theorem dX1_bringIn_34 : decode cX1_bringIn 34 = .ok (.iload_n 3, 1) := by decide +kernel
theorem dX1_bringIn_35 : decode cX1_bringIn 35 = .ok (.iload 4, 2) := by decide +kernel
theorem dX1_bringIn_37 : decode cX1_bringIn 37 = .ok (.invokevirtual 118, 3) := by decide +kernel
theorem dX1_bringIn_40 : decode cX1_bringIn 40 = .ok (.goto 9, 3) := by decide +kernel
theorem dX1_bringIn_43 : decode cX1_bringIn 43 = .ok (.aload_n 0, 1) := by decide +kernel
theorem dX1_bringIn_44 : decode cX1_bringIn 44 = .ok (.iload_n 1, 1) := by decide +kernel
theorem dX1_bringIn_45 : decode cX1_bringIn 45 = .ok (.iload_n 2, 1) := by decide +kernel
theorem dX1_bringIn_46 : decode cX1_bringIn 46 = .ok (.invokevirtual 122, 3) := by decide +kernel
theorem dX1_bringIn_49 : decode cX1_bringIn 49 = .ok (.aload_n 0, 1) := by decide +kernel
theorem dX1_bringIn_50 : decode cX1_bringIn 50 = .ok (.dup, 1) := by decide +kernel
theorem dX1_bringIn_51 : decode cX1_bringIn 51 = .ok (.getfield 38, 3) := by decide +kernel
theorem dX1_bringIn_54 : decode cX1_bringIn 54 = .ok (.iconst 1, 1) := by decide +kernel
theorem dX1_bringIn_55 : decode cX1_bringIn 55 = .ok (.iadd, 1) := by decide +kernel
theorem dX1_bringIn_56 : decode cX1_bringIn 56 = .ok (.putfield 38, 3) := by decide +kernel
theorem dX1_bringIn_59 : decode cX1_bringIn 59 = .ok (.return_, 1) := by decide +kernel
theorem dX1_bringInWhole_0 : decode cX1_bringInWhole 0 = .ok (.iconst 0, 1) := by decide +kernel
theorem dX1_bringInWhole_1 : decode cX1_bringInWhole 1 = .ok (.istore 4, 2) := by decide +kernel
theorem dX1_bringInWhole_3 : decode cX1_bringInWhole 3 = .ok (.iload 4, 2) := by decide +kernel
theorem dX1_bringInWhole_5 : decode cX1_bringInWhole 5 = .ok (.iconst 4, 1) := by decide +kernel
theorem dX1_bringInWhole_6 : decode cX1_bringInWhole 6 = .ok (.if_icmp .ge 38, 3) := by decide +kernel
theorem dX1_bringInWhole_9 : decode cX1_bringInWhole 9 = .ok (.iconst 4, 1) := by decide +kernel
theorem dX1_bringInWhole_10 : decode cX1_bringInWhole 10 = .ok (.iload_n 3, 1) := by decide +kernel
theorem dX1_bringInWhole_11 : decode cX1_bringInWhole 11 = .ok (.imul, 1) := by decide +kernel
theorem dX1_bringInWhole_12 : decode cX1_bringInWhole 12 = .ok (.iload 4, 2) := by decide +kernel
theorem dX1_bringInWhole_14 : decode cX1_bringInWhole 14 = .ok (.iadd, 1) := by decide +kernel
theorem dX1_bringInWhole_15 : decode cX1_bringInWhole 15 = .ok (.istore 5, 2) := by decide +kernel
theorem dX1_bringInWhole_17 : decode cX1_bringInWhole 17 = .ok (.aload_n 0, 1) := by decide +kernel
theorem dX1_bringInWhole_18 : decode cX1_bringInWhole 18 = .ok (.iload_n 1, 1) := by decide +kernel
theorem dX1_bringInWhole_19 : decode cX1_bringInWhole 19 = .ok (.iconst 4, 1) := by decide +kernel
theorem dX1_bringInWhole_20 : decode cX1_bringInWhole 20 = .ok (.iload_n 2, 1) := by decide +kernel
theorem dX1_bringInWhole_21 : decode cX1_bringInWhole 21 = .ok (.imul, 1) := by decide +kernel
theorem dX1_bringInWhole_22 : decode cX1_bringInWhole 22 = .ok (.iload 4, 2) := by decide +kernel
theorem dX1_bringInWhole_24 : decode cX1_bringInWhole 24 = .ok (.iadd, 1) := by decide +kernel
theorem dX1_bringInWhole_25 : decode cX1_bringInWhole 25 = .ok (.iload 5, 2) := by decide +kernel
theorem dX1_bringInWhole_27 : decode cX1_bringInWhole 27 = .ok (.invokevirtual 125, 3) := by decide +kernel
theorem dX1_bringInWhole_30 : decode cX1_bringInWhole 30 = .ok (.aload_n 0, 1) := by decide +kernel
theorem dX1_bringInWhole_31 : decode cX1_bringInWhole 31 = .ok (.getfield 18, 3) := by decide +kernel
theorem dX1_bringInWhole_34 : decode cX1_bringInWhole 34 = .ok (.iload 5, 2) := by decide +kernel
theorem dX1_bringInWhole_36 : decode cX1_bringInWhole 36 = .ok (.iconst 0, 1) := by decide +kernel
theorem dX1_bringInWhole_37 : decode cX1_bringInWhole 37 = .ok (.iastore, 1) := by decide +kernel
theorem dX1_bringInWhole_38 : decode cX1_bringInWhole 38 = .ok (.iinc 4 1, 3) := by decide +kernel
theorem dX1_bringInWhole_41 : decode cX1_bringInWhole 41 = .ok (.goto (-38), 3) := by decide +kernel
theorem dX1_bringInWhole_44 : decode cX1_bringInWhole 44 = .ok (.aload_n 0, 1) := by decide +kernel
theorem dX1_bringInWhole_45 : decode cX1_bringInWhole 45 = .ok (.iload_n 1, 1) := by decide +kernel
theorem dX1_bringInWhole_46 : decode cX1_bringInWhole 46 = .ok (.iload_n 2, 1) := by decide +kernel
theorem dX1_bringInWhole_47 : decode cX1_bringInWhole 47 = .ok (.invokevirtual 128, 3) := by decide +kernel
theorem dX1_bringInWhole_50 : decode cX1_bringInWhole 50 = .ok (.return_, 1) := by decide +kernel
theorem dX1_copyOut_0 : decode cX1_copyOut 0 = .ok (.iload_n 2, 1) := by decide +kernel
theorem dX1_copyOut_1 : decode cX1_copyOut 1 = .ok (.iconst 4, 1) := by decide +kernel
theorem dX1_copyOut_2 : decode cX1_copyOut 2 = .ok (.idiv, 1) := by decide +kernel
theorem dX1_copyOut_3 : decode cX1_copyOut 3 = .ok (.istore_n 3, 1) := by decide +kernel
theorem dX1_copyOut_4 : decode cX1_copyOut 4 = .ok (.aload_n 0, 1) := by decide +kernel
theorem dX1_copyOut_5 : decode cX1_copyOut 5 = .ok (.iload_n 1, 1) := by decide +kernel
theorem dX1_copyOut_6 : decode cX1_copyOut 6 = .ok (.iload_n 3, 1) := by decide +kernel
theorem dX1_copyOut_7 : decode cX1_copyOut 7 = .ok (.invokevirtual 77, 3) := by decide +kernel
theorem dX1_copyOut_10 : decode cX1_copyOut 10 = .ok (.ifCond .eq 9, 3) := by decide +kernel
theorem dX1_copyOut_13 : decode cX1_copyOut 13 = .ok (.aload_n 0, 1) := by decide +kernel
theorem dX1_copyOut_14 : decode cX1_copyOut 14 = .ok (.iload_n 1, 1) := by decide +kernel
theorem dX1_copyOut_15 : decode cX1_copyOut 15 = .ok (.iload_n 3, 1) := by decide +kernel
theorem dX1_copyOut_16 : decode cX1_copyOut 16 = .ok (.invokevirtual 131, 3) := by decide +kernel
theorem dX1_copyOut_19 : decode cX1_copyOut 19 = .ok (.aload_n 0, 1) := by decide +kernel
theorem dX1_copyOut_20 : decode cX1_copyOut 20 = .ok (.iload_n 1, 1) := by decide +kernel
theorem dX1_copyOut_21 : decode cX1_copyOut 21 = .ok (.iload_n 2, 1) := by decide +kernel
theorem dX1_copyOut_22 : decode cX1_copyOut 22 = .ok (.invokevirtual 122, 3) := by decide +kernel
theorem dX1_copyOut_25 : decode cX1_copyOut 25 = .ok (.aload_n 0, 1) := by decide +kernel
theorem dX1_copyOut_26 : decode cX1_copyOut 26 = .ok (.dup, 1) := by decide +kernel
theorem dX1_copyOut_27 : decode cX1_copyOut 27 = .ok (.getfield 35, 3) := by decide +kernel
theorem dX1_copyOut_30 : decode cX1_copyOut 30 = .ok (.iconst 1, 1) := by decide +kernel
theorem dX1_copyOut_31 : decode cX1_copyOut 31 = .ok (.iadd, 1) := by decide +kernel
theorem dX1_copyOut_32 : decode cX1_copyOut 32 = .ok (.putfield 35, 3) := by decide +kernel
theorem dX1_copyOut_35 : decode cX1_copyOut 35 = .ok (.return_, 1) := by decide +kernel
theorem dX1_takeSingleFrame_0 : decode cX1_takeSingleFrame 0 = .ok (.aload_n 0, 1) := by decide +kernel
theorem dX1_takeSingleFrame_1 : decode cX1_takeSingleFrame 1 = .ok (.invokevirtual 134, 3) := by decide +kernel
theorem dX1_takeSingleFrame_4 : decode cX1_takeSingleFrame 4 = .ok (.istore_n 3, 1) := by decide +kernel
theorem dX1_takeSingleFrame_5 : decode cX1_takeSingleFrame 5 = .ok (.iload_n 3, 1) := by decide +kernel
theorem dX1_takeSingleFrame_6 : decode cX1_takeSingleFrame 6 = .ok (.iconst (-1), 1) := by decide +kernel
theorem dX1_takeSingleFrame_7 : decode cX1_takeSingleFrame 7 = .ok (.if_icmp .eq 17, 3) := by decide +kernel
theorem dX1_takeSingleFrame_10 : decode cX1_takeSingleFrame 10 = .ok (.aload_n 0, 1) := by decide +kernel
theorem dX1_takeSingleFrame_11 : decode cX1_takeSingleFrame 11 = .ok (.iload_n 1, 1) := by decide +kernel
theorem dX1_takeSingleFrame_12 : decode cX1_takeSingleFrame 12 = .ok (.iload_n 2, 1) := by decide +kernel
theorem dX1_takeSingleFrame_13 : decode cX1_takeSingleFrame 13 = .ok (.invokevirtual 137, 3) := by decide +kernel
theorem dX1_takeSingleFrame_16 : decode cX1_takeSingleFrame 16 = .ok (.pop, 1) := by decide +kernel
theorem dX1_takeSingleFrame_17 : decode cX1_takeSingleFrame 17 = .ok (.aload_n 0, 1) := by decide +kernel
theorem dX1_takeSingleFrame_18 : decode cX1_takeSingleFrame 18 = .ok (.iload_n 1, 1) := by decide +kernel
theorem dX1_takeSingleFrame_19 : decode cX1_takeSingleFrame 19 = .ok (.iload_n 2, 1) := by decide +kernel
theorem dX1_takeSingleFrame_20 : decode cX1_takeSingleFrame 20 = .ok (.iload_n 3, 1) := by decide +kernel
theorem dX1_takeSingleFrame_21 : decode cX1_takeSingleFrame 21 = .ok (.invokevirtual 125, 3) := by decide +kernel
theorem dX1_takeSingleFrame_24 : decode cX1_takeSingleFrame 24 = .ok (.return_, 1) := by decide +kernel
theorem dX1_lowestUnusedProcess_0 : decode cX1_lowestUnusedProcess 0 = .ok (.iconst 0, 1) := by decide +kernel
theorem dX1_lowestUnusedProcess_1 : decode cX1_lowestUnusedProcess 1 = .ok (.istore_n 1, 1) := by decide +kernel
theorem dX1_lowestUnusedProcess_2 : decode cX1_lowestUnusedProcess 2 = .ok (.iload_n 1, 1) := by decide +kernel
theorem dX1_lowestUnusedProcess_3 : decode cX1_lowestUnusedProcess 3 = .ok (.iconst 4, 1) := by decide +kernel
theorem dX1_lowestUnusedProcess_4 : decode cX1_lowestUnusedProcess 4 = .ok (.if_icmp .ge 19, 3) := by decide +kernel
theorem dX1_lowestUnusedProcess_7 : decode cX1_lowestUnusedProcess 7 = .ok (.aload_n 0, 1) := by decide +kernel
theorem dX1_lowestUnusedProcess_8 : decode cX1_lowestUnusedProcess 8 = .ok (.iload_n 1, 1) := by decide +kernel
theorem dX1_lowestUnusedProcess_9 : decode cX1_lowestUnusedProcess 9 = .ok (.invokevirtual 53, 3) := by decide +kernel
theorem dX1_lowestUnusedProcess_12 : decode cX1_lowestUnusedProcess 12 = .ok (.ifCond .ne 5, 3) := by decide +kernel
theorem dX1_lowestUnusedProcess_15 : decode cX1_lowestUnusedProcess 15 = .ok (.iload_n 1, 1) := by decide +kernel
theorem dX1_lowestUnusedProcess_16 : decode cX1_lowestUnusedProcess 16 = .ok (.ireturn, 1) := by decide +kernel
theorem dX1_lowestUnusedProcess_17 : decode cX1_lowestUnusedProcess 17 = .ok (.iinc 1 1, 3) := by decide +kernel
theorem dX1_lowestUnusedProcess_20 : decode cX1_lowestUnusedProcess 20 = .ok (.goto (-18), 3) := by decide +kernel
theorem dX1_lowestUnusedProcess_23 : decode cX1_lowestUnusedProcess 23 = .ok (.iconst (-1), 1) := by decide +kernel
theorem dX1_lowestUnusedProcess_24 : decode cX1_lowestUnusedProcess 24 = .ok (.ireturn, 1) := by decide +kernel
theorem dX1_canFork_0 : decode cX1_canFork 0 = .ok (.aload_n 0, 1) := by decide +kernel
theorem dX1_canFork_1 : decode cX1_canFork 1 = .ok (.iload_n 1, 1) := by decide +kernel
theorem dX1_canFork_2 : decode cX1_canFork 2 = .ok (.invokevirtual 53, 3) := by decide +kernel
theorem dX1_canFork_5 : decode cX1_canFork 5 = .ok (.ifCond .eq 15, 3) := by decide +kernel
theorem dX1_canFork_8 : decode cX1_canFork 8 = .ok (.aload_n 0, 1) := by decide +kernel
theorem dX1_canFork_9 : decode cX1_canFork 9 = .ok (.invokevirtual 140, 3) := by decide +kernel
theorem dX1_canFork_12 : decode cX1_canFork 12 = .ok (.iconst (-1), 1) := by decide +kernel
theorem dX1_canFork_13 : decode cX1_canFork 13 = .ok (.if_icmp .eq 7, 3) := by decide +kernel
theorem dX1_canFork_16 : decode cX1_canFork 16 = .ok (.iconst 1, 1) := by decide +kernel
theorem dX1_canFork_17 : decode cX1_canFork 17 = .ok (.goto 4, 3) := by decide +kernel
theorem dX1_canFork_20 : decode cX1_canFork 20 = .ok (.iconst 0, 1) := by decide +kernel
theorem dX1_canFork_21 : decode cX1_canFork 21 = .ok (.ireturn, 1) := by decide +kernel
theorem dX1_doFork_0 : decode cX1_doFork 0 = .ok (.aload_n 0, 1) := by decide +kernel
theorem dX1_doFork_1 : decode cX1_doFork 1 = .ok (.invokevirtual 140, 3) := by decide +kernel
theorem dX1_doFork_4 : decode cX1_doFork 4 = .ok (.istore_n 2, 1) := by decide +kernel
theorem dX1_doFork_5 : decode cX1_doFork 5 = .ok (.aload_n 0, 1) := by decide +kernel
theorem dX1_doFork_6 : decode cX1_doFork 6 = .ok (.iload_n 1, 1) := by decide +kernel
theorem dX1_doFork_7 : decode cX1_doFork 7 = .ok (.invokevirtual 53, 3) := by decide +kernel
theorem dX1_doFork_10 : decode cX1_doFork 10 = .ok (.ifCond .eq 8, 3) := by decide +kernel
theorem dX1_doFork_13 : decode cX1_doFork 13 = .ok (.iload_n 2, 1) := by decide +kernel
theorem dX1_doFork_14 : decode cX1_doFork 14 = .ok (.iconst (-1), 1) := by decide +kernel
theorem dX1_doFork_15 : decode cX1_doFork 15 = .ok (.if_icmp .ne 5, 3) := by decide +kernel
theorem dX1_doFork_18 : decode cX1_doFork 18 = .ok (.iconst (-1), 1) := by decide +kernel
theorem dX1_doFork_19 : decode cX1_doFork 19 = .ok (.ireturn, 1) := by decide +kernel
theorem dX1_doFork_20 : decode cX1_doFork 20 = .ok (.aload_n 0, 1) := by decide +kernel
theorem dX1_doFork_21 : decode cX1_doFork 21 = .ok (.dup, 1) := by decide +kernel
theorem dX1_doFork_22 : decode cX1_doFork 22 = .ok (.getfield 24, 3) := by decide +kernel
theorem dX1_doFork_25 : decode cX1_doFork 25 = .ok (.iconst 1, 1) := by decide +kernel
theorem dX1_doFork_26 : decode cX1_doFork 26 = .ok (.iload_n 2, 1) := by decide +kernel
theorem dX1_doFork_27 : decode cX1_doFork 27 = .ok (.ishl, 1) := by decide +kernel
theorem dX1_doFork_28 : decode cX1_doFork 28 = .ok (.ior, 1) := by decide +kernel
theorem dX1_doFork_29 : decode cX1_doFork 29 = .ok (.putfield 24, 3) := by decide +kernel
theorem dX1_doFork_32 : decode cX1_doFork 32 = .ok (.iconst 0, 1) := by decide +kernel
theorem dX1_doFork_33 : decode cX1_doFork 33 = .ok (.istore_n 3, 1) := by decide +kernel
theorem dX1_doFork_34 : decode cX1_doFork 34 = .ok (.iload_n 3, 1) := by decide +kernel
theorem dX1_doFork_35 : decode cX1_doFork 35 = .ok (.bipush 16, 2) := by decide +kernel
theorem dX1_doFork_37 : decode cX1_doFork 37 = .ok (.if_icmp .ge 31, 3) := by decide +kernel
theorem dX1_doFork_40 : decode cX1_doFork 40 = .ok (.aload_n 0, 1) := by decide +kernel
theorem dX1_doFork_41 : decode cX1_doFork 41 = .ok (.iload_n 1, 1) := by decide +kernel
theorem dX1_doFork_42 : decode cX1_doFork 42 = .ok (.iload_n 3, 1) := by decide +kernel
theorem dX1_doFork_43 : decode cX1_doFork 43 = .ok (.invokevirtual 73, 3) := by decide +kernel
theorem dX1_doFork_46 : decode cX1_doFork 46 = .ok (.istore 4, 2) := by decide +kernel
theorem dX1_doFork_48 : decode cX1_doFork 48 = .ok (.iload 4, 2) := by decide +kernel
theorem dX1_doFork_50 : decode cX1_doFork 50 = .ok (.iconst (-1), 1) := by decide +kernel
theorem dX1_doFork_51 : decode cX1_doFork 51 = .ok (.if_icmp .eq 11, 3) := by decide +kernel
theorem dX1_doFork_54 : decode cX1_doFork 54 = .ok (.aload_n 0, 1) := by decide +kernel
theorem dX1_doFork_55 : decode cX1_doFork 55 = .ok (.iload_n 2, 1) := by decide +kernel
theorem dX1_doFork_56 : decode cX1_doFork 56 = .ok (.iload_n 3, 1) := by decide +kernel
theorem dX1_doFork_57 : decode cX1_doFork 57 = .ok (.iload 4, 2) := by decide +kernel
theorem dX1_doFork_59 : decode cX1_doFork 59 = .ok (.invokevirtual 125, 3) := by decide +kernel
theorem dX1_doFork_62 : decode cX1_doFork 62 = .ok (.iinc 3 1, 3) := by decide +kernel
theorem dX1_doFork_65 : decode cX1_doFork 65 = .ok (.goto (-31), 3) := by decide +kernel
theorem dX1_doFork_68 : decode cX1_doFork 68 = .ok (.iconst 0, 1) := by decide +kernel
theorem dX1_doFork_69 : decode cX1_doFork 69 = .ok (.istore_n 3, 1) := by decide +kernel
theorem dX1_doFork_70 : decode cX1_doFork 70 = .ok (.iload_n 3, 1) := by decide +kernel
theorem dX1_doFork_71 : decode cX1_doFork 71 = .ok (.iconst 4, 1) := by decide +kernel
theorem dX1_doFork_72 : decode cX1_doFork 72 = .ok (.if_icmp .ge 24, 3) := by decide +kernel
theorem dX1_doFork_75 : decode cX1_doFork 75 = .ok (.aload_n 0, 1) := by decide +kernel
theorem dX1_doFork_76 : decode cX1_doFork 76 = .ok (.iload_n 1, 1) := by decide +kernel
theorem dX1_doFork_77 : decode cX1_doFork 77 = .ok (.iload_n 3, 1) := by decide +kernel
theorem dX1_doFork_78 : decode cX1_doFork 78 = .ok (.invokevirtual 77, 3) := by decide +kernel
theorem dX1_doFork_81 : decode cX1_doFork 81 = .ok (.ifCond .eq 9, 3) := by decide +kernel
theorem dX1_doFork_84 : decode cX1_doFork 84 = .ok (.aload_n 0, 1) := by decide +kernel
theorem dX1_doFork_85 : decode cX1_doFork 85 = .ok (.iload_n 2, 1) := by decide +kernel
theorem dX1_doFork_86 : decode cX1_doFork 86 = .ok (.iload_n 3, 1) := by decide +kernel
theorem dX1_doFork_87 : decode cX1_doFork 87 = .ok (.invokevirtual 128, 3) := by decide +kernel
theorem dX1_doFork_90 : decode cX1_doFork 90 = .ok (.iinc 3 1, 3) := by decide +kernel
theorem dX1_doFork_93 : decode cX1_doFork 93 = .ok (.goto (-23), 3) := by decide +kernel
theorem dX1_doFork_96 : decode cX1_doFork 96 = .ok (.iload_n 2, 1) := by decide +kernel
theorem dX1_doFork_97 : decode cX1_doFork 97 = .ok (.ireturn, 1) := by decide +kernel
theorem dX1_canExit_0 : decode cX1_canExit 0 = .ok (.aload_n 0, 1) := by decide +kernel
theorem dX1_canExit_1 : decode cX1_canExit 1 = .ok (.iload_n 1, 1) := by decide +kernel
theorem dX1_canExit_2 : decode cX1_canExit 2 = .ok (.invokevirtual 53, 3) := by decide +kernel
theorem dX1_canExit_5 : decode cX1_canExit 5 = .ok (.ifCond .eq 18, 3) := by decide +kernel
theorem dX1_canExit_8 : decode cX1_canExit 8 = .ok (.aload_n 0, 1) := by decide +kernel
theorem dX1_canExit_9 : decode cX1_canExit 9 = .ok (.getfield 24, 3) := by decide +kernel
theorem dX1_canExit_12 : decode cX1_canExit 12 = .ok (.invokestatic 63, 3) := by decide +kernel
theorem dX1_canExit_15 : decode cX1_canExit 15 = .ok (.iconst 1, 1) := by decide +kernel
theorem dX1_canExit_16 : decode cX1_canExit 16 = .ok (.if_icmp .le 7, 3) := by decide +kernel
theorem dX1_canExit_19 : decode cX1_canExit 19 = .ok (.iconst 1, 1) := by decide +kernel
theorem dX1_canExit_20 : decode cX1_canExit 20 = .ok (.goto 4, 3) := by decide +kernel
theorem dX1_canExit_23 : decode cX1_canExit 23 = .ok (.iconst 0, 1) := by decide +kernel
theorem dX1_canExit_24 : decode cX1_canExit 24 = .ok (.ireturn, 1) := by decide +kernel
theorem dX1_doExit_0 : decode cX1_doExit 0 = .ok (.aload_n 0, 1) := by decide +kernel
theorem dX1_doExit_1 : decode cX1_doExit 1 = .ok (.iload_n 1, 1) := by decide +kernel
theorem dX1_doExit_2 : decode cX1_doExit 2 = .ok (.invokevirtual 143, 3) := by decide +kernel
theorem dX1_doExit_5 : decode cX1_doExit 5 = .ok (.ifCond .ne 5, 3) := by decide +kernel
theorem dX1_doExit_8 : decode cX1_doExit 8 = .ok (.iconst (-1), 1) := by decide +kernel
theorem dX1_doExit_9 : decode cX1_doExit 9 = .ok (.ireturn, 1) := by decide +kernel
theorem dX1_doExit_10 : decode cX1_doExit 10 = .ok (.iconst 0, 1) := by decide +kernel
theorem dX1_doExit_11 : decode cX1_doExit 11 = .ok (.istore_n 2, 1) := by decide +kernel
theorem dX1_doExit_12 : decode cX1_doExit 12 = .ok (.iconst 0, 1) := by decide +kernel
theorem dX1_doExit_13 : decode cX1_doExit 13 = .ok (.istore_n 3, 1) := by decide +kernel
theorem dX1_doExit_14 : decode cX1_doExit 14 = .ok (.iload_n 3, 1) := by decide +kernel
theorem dX1_doExit_15 : decode cX1_doExit 15 = .ok (.bipush 16, 2) := by decide +kernel
theorem dX1_doExit_17 : decode cX1_doExit 17 = .ok (.if_icmp .ge 18, 3) := by decide +kernel
theorem dX1_doExit_20 : decode cX1_doExit 20 = .ok (.iload_n 2, 1) := by decide +kernel
theorem dX1_doExit_21 : decode cX1_doExit 21 = .ok (.aload_n 0, 1) := by decide +kernel
theorem dX1_doExit_22 : decode cX1_doExit 22 = .ok (.iload_n 1, 1) := by decide +kernel
theorem dX1_doExit_23 : decode cX1_doExit 23 = .ok (.iload_n 3, 1) := by decide +kernel
theorem dX1_doExit_24 : decode cX1_doExit 24 = .ok (.invokevirtual 137, 3) := by decide +kernel
theorem dX1_doExit_27 : decode cX1_doExit 27 = .ok (.iadd, 1) := by decide +kernel
theorem dX1_doExit_28 : decode cX1_doExit 28 = .ok (.istore_n 2, 1) := by decide +kernel
theorem dX1_doExit_29 : decode cX1_doExit 29 = .ok (.iinc 3 1, 3) := by decide +kernel
theorem dX1_doExit_32 : decode cX1_doExit 32 = .ok (.goto (-18), 3) := by decide +kernel
theorem dX1_doExit_35 : decode cX1_doExit 35 = .ok (.iconst 0, 1) := by decide +kernel
theorem dX1_doExit_36 : decode cX1_doExit 36 = .ok (.istore_n 3, 1) := by decide +kernel
theorem dX1_doExit_37 : decode cX1_doExit 37 = .ok (.iload_n 3, 1) := by decide +kernel
theorem dX1_doExit_38 : decode cX1_doExit 38 = .ok (.iconst 4, 1) := by decide +kernel
theorem dX1_doExit_39 : decode cX1_doExit 39 = .ok (.if_icmp .ge 15, 3) := by decide +kernel
theorem dX1_doExit_42 : decode cX1_doExit 42 = .ok (.aload_n 0, 1) := by decide +kernel
theorem dX1_doExit_43 : decode cX1_doExit 43 = .ok (.iload_n 1, 1) := by decide +kernel
theorem dX1_doExit_44 : decode cX1_doExit 44 = .ok (.iload_n 3, 1) := by decide +kernel
theorem dX1_doExit_45 : decode cX1_doExit 45 = .ok (.invokevirtual 92, 3) := by decide +kernel
theorem dX1_doExit_48 : decode cX1_doExit 48 = .ok (.iinc 3 1, 3) := by decide +kernel
theorem dX1_doExit_51 : decode cX1_doExit 51 = .ok (.goto (-14), 3) := by decide +kernel
theorem dX1_doExit_54 : decode cX1_doExit 54 = .ok (.aload_n 0, 1) := by decide +kernel
theorem dX1_doExit_55 : decode cX1_doExit 55 = .ok (.dup, 1) := by decide +kernel
theorem dX1_doExit_56 : decode cX1_doExit 56 = .ok (.getfield 24, 3) := by decide +kernel
theorem dX1_doExit_59 : decode cX1_doExit 59 = .ok (.iconst 1, 1) := by decide +kernel
theorem dX1_doExit_60 : decode cX1_doExit 60 = .ok (.iload_n 1, 1) := by decide +kernel
theorem dX1_doExit_61 : decode cX1_doExit 61 = .ok (.ishl, 1) := by decide +kernel
theorem dX1_doExit_62 : decode cX1_doExit 62 = .ok (.iconst (-1), 1) := by decide +kernel
theorem dX1_doExit_63 : decode cX1_doExit 63 = .ok (.ixor, 1) := by decide +kernel
theorem dX1_doExit_64 : decode cX1_doExit 64 = .ok (.iand, 1) := by decide +kernel
theorem dX1_doExit_65 : decode cX1_doExit 65 = .ok (.putfield 24, 3) := by decide +kernel
theorem dX1_doExit_68 : decode cX1_doExit 68 = .ok (.iload_n 2, 1) := by decide +kernel
theorem dX1_doExit_69 : decode cX1_doExit 69 = .ok (.ireturn, 1) := by decide +kernel
theorem dX1_obstacleToMarriage_0 : decode cX1_obstacleToMarriage 0 = .ok (.aload_n 0, 1) := by decide +kernel
theorem dX1_obstacleToMarriage_1 : decode cX1_obstacleToMarriage 1 = .ok (.iload_n 1, 1) := by decide +kernel
theorem dX1_obstacleToMarriage_2 : decode cX1_obstacleToMarriage 2 = .ok (.iload_n 2, 1) := by decide +kernel
theorem dX1_obstacleToMarriage_3 : decode cX1_obstacleToMarriage 3 = .ok (.invokevirtual 77, 3) := by decide +kernel
theorem dX1_obstacleToMarriage_6 : decode cX1_obstacleToMarriage 6 = .ok (.ifCond .eq 5, 3) := by decide +kernel
theorem dX1_obstacleToMarriage_9 : decode cX1_obstacleToMarriage 9 = .ok (.iconst 1, 1) := by decide +kernel
theorem dX1_obstacleToMarriage_10 : decode cX1_obstacleToMarriage 10 = .ok (.ireturn, 1) := by decide +kernel
theorem dX1_obstacleToMarriage_11 : decode cX1_obstacleToMarriage 11 = .ok (.aload_n 0, 1) := by decide +kernel
theorem dX1_obstacleToMarriage_12 : decode cX1_obstacleToMarriage 12 = .ok (.iload_n 1, 1) := by decide +kernel
theorem dX1_obstacleToMarriage_13 : decode cX1_obstacleToMarriage 13 = .ok (.iload_n 2, 1) := by decide +kernel
theorem dX1_obstacleToMarriage_14 : decode cX1_obstacleToMarriage 14 = .ok (.invokevirtual 115, 3) := by decide +kernel
theorem dX1_obstacleToMarriage_17 : decode cX1_obstacleToMarriage 17 = .ok (.iconst 4, 1) := by decide +kernel
theorem dX1_obstacleToMarriage_18 : decode cX1_obstacleToMarriage 18 = .ok (.if_icmp .ge 5, 3) := by decide +kernel
theorem dX1_obstacleToMarriage_21 : decode cX1_obstacleToMarriage 21 = .ok (.iconst 2, 1) := by decide +kernel
theorem dX1_obstacleToMarriage_22 : decode cX1_obstacleToMarriage 22 = .ok (.ireturn, 1) := by decide +kernel
theorem dX1_obstacleToMarriage_23 : decode cX1_obstacleToMarriage 23 = .ok (.aload_n 0, 1) := by decide +kernel
theorem dX1_obstacleToMarriage_24 : decode cX1_obstacleToMarriage 24 = .ok (.iload_n 1, 1) := by decide +kernel
theorem dX1_obstacleToMarriage_25 : decode cX1_obstacleToMarriage 25 = .ok (.iload_n 2, 1) := by decide +kernel
theorem dX1_obstacleToMarriage_26 : decode cX1_obstacleToMarriage 26 = .ok (.invokevirtual 80, 3) := by decide +kernel
theorem dX1_obstacleToMarriage_29 : decode cX1_obstacleToMarriage 29 = .ok (.ifCond .le 5, 3) := by decide +kernel
theorem dX1_obstacleToMarriage_32 : decode cX1_obstacleToMarriage 32 = .ok (.iconst 3, 1) := by decide +kernel
theorem dX1_obstacleToMarriage_33 : decode cX1_obstacleToMarriage 33 = .ok (.ireturn, 1) := by decide +kernel
theorem dX1_obstacleToMarriage_34 : decode cX1_obstacleToMarriage 34 = .ok (.aload_n 0, 1) := by decide +kernel
theorem dX1_obstacleToMarriage_35 : decode cX1_obstacleToMarriage 35 = .ok (.iload_n 1, 1) := by decide +kernel
theorem dX1_obstacleToMarriage_36 : decode cX1_obstacleToMarriage 36 = .ok (.iload_n 2, 1) := by decide +kernel
theorem dX1_obstacleToMarriage_37 : decode cX1_obstacleToMarriage 37 = .ok (.invokevirtual 146, 3) := by decide +kernel
theorem dX1_obstacleToMarriage_40 : decode cX1_obstacleToMarriage 40 = .ok (.ifCond .ne 11, 3) := by decide +kernel
theorem dX1_obstacleToMarriage_43 : decode cX1_obstacleToMarriage 43 = .ok (.aload_n 0, 1) := by decide +kernel
theorem dX1_obstacleToMarriage_44 : decode cX1_obstacleToMarriage 44 = .ok (.invokevirtual 112, 3) := by decide +kernel
theorem dX1_obstacleToMarriage_47 : decode cX1_obstacleToMarriage 47 = .ok (.iconst (-1), 1) := by decide +kernel
theorem dX1_obstacleToMarriage_48 : decode cX1_obstacleToMarriage 48 = .ok (.if_icmp .eq 7, 3) := by decide +kernel
theorem dX1_obstacleToMarriage_51 : decode cX1_obstacleToMarriage 51 = .ok (.iconst 0, 1) := by decide +kernel
theorem dX1_obstacleToMarriage_52 : decode cX1_obstacleToMarriage 52 = .ok (.goto 4, 3) := by decide +kernel
theorem dX1_obstacleToMarriage_55 : decode cX1_obstacleToMarriage 55 = .ok (.iconst 4, 1) := by decide +kernel
theorem dX1_obstacleToMarriage_56 : decode cX1_obstacleToMarriage 56 = .ok (.ireturn, 1) := by decide +kernel
theorem dX1_isInPlace_0 : decode cX1_isInPlace 0 = .ok (.aload_n 0, 1) := by decide +kernel
theorem dX1_isInPlace_1 : decode cX1_isInPlace 1 = .ok (.iload_n 1, 1) := by decide +kernel
theorem dX1_isInPlace_2 : decode cX1_isInPlace 2 = .ok (.iconst 4, 1) := by decide +kernel
theorem dX1_isInPlace_3 : decode cX1_isInPlace 3 = .ok (.iload_n 2, 1) := by decide +kernel
theorem dX1_isInPlace_4 : decode cX1_isInPlace 4 = .ok (.imul, 1) := by decide +kernel
theorem dX1_isInPlace_5 : decode cX1_isInPlace 5 = .ok (.invokevirtual 73, 3) := by decide +kernel
theorem dX1_isInPlace_8 : decode cX1_isInPlace 8 = .ok (.istore_n 3, 1) := by decide +kernel
theorem dX1_isInPlace_9 : decode cX1_isInPlace 9 = .ok (.iload_n 3, 1) := by decide +kernel
theorem dX1_isInPlace_10 : decode cX1_isInPlace 10 = .ok (.iconst (-1), 1) := by decide +kernel
theorem dX1_isInPlace_11 : decode cX1_isInPlace 11 = .ok (.if_icmp .eq 9, 3) := by decide +kernel
theorem dX1_isInPlace_14 : decode cX1_isInPlace 14 = .ok (.iload_n 3, 1) := by decide +kernel
theorem dX1_isInPlace_15 : decode cX1_isInPlace 15 = .ok (.iconst 4, 1) := by decide +kernel
theorem dX1_isInPlace_16 : decode cX1_isInPlace 16 = .ok (.irem, 1) := by decide +kernel
theorem dX1_isInPlace_17 : decode cX1_isInPlace 17 = .ok (.ifCond .eq 5, 3) := by decide +kernel
theorem dX1_isInPlace_20 : decode cX1_isInPlace 20 = .ok (.iconst 0, 1) := by decide +kernel
theorem dX1_isInPlace_21 : decode cX1_isInPlace 21 = .ok (.ireturn, 1) := by decide +kernel
theorem dX1_isInPlace_22 : decode cX1_isInPlace 22 = .ok (.iconst 1, 1) := by decide +kernel
theorem dX1_isInPlace_23 : decode cX1_isInPlace 23 = .ok (.istore 4, 2) := by decide +kernel
theorem dX1_isInPlace_25 : decode cX1_isInPlace 25 = .ok (.iload 4, 2) := by decide +kernel
theorem dX1_isInPlace_27 : decode cX1_isInPlace 27 = .ok (.iconst 4, 1) := by decide +kernel
theorem dX1_isInPlace_28 : decode cX1_isInPlace 28 = .ok (.if_icmp .ge 29, 3) := by decide +kernel
theorem dX1_isInPlace_31 : decode cX1_isInPlace 31 = .ok (.aload_n 0, 1) := by decide +kernel
theorem dX1_isInPlace_32 : decode cX1_isInPlace 32 = .ok (.iload_n 1, 1) := by decide +kernel
theorem dX1_isInPlace_33 : decode cX1_isInPlace 33 = .ok (.iconst 4, 1) := by decide +kernel
theorem dX1_isInPlace_34 : decode cX1_isInPlace 34 = .ok (.iload_n 2, 1) := by decide +kernel
theorem dX1_isInPlace_35 : decode cX1_isInPlace 35 = .ok (.imul, 1) := by decide +kernel
theorem dX1_isInPlace_36 : decode cX1_isInPlace 36 = .ok (.iload 4, 2) := by decide +kernel
theorem dX1_isInPlace_38 : decode cX1_isInPlace 38 = .ok (.iadd, 1) := by decide +kernel
theorem dX1_isInPlace_39 : decode cX1_isInPlace 39 = .ok (.invokevirtual 73, 3) := by decide +kernel
theorem dX1_isInPlace_42 : decode cX1_isInPlace 42 = .ok (.iload_n 3, 1) := by decide +kernel
theorem dX1_isInPlace_43 : decode cX1_isInPlace 43 = .ok (.iload 4, 2) := by decide +kernel
theorem dX1_isInPlace_45 : decode cX1_isInPlace 45 = .ok (.iadd, 1) := by decide +kernel
theorem dX1_isInPlace_46 : decode cX1_isInPlace 46 = .ok (.if_icmp .eq 5, 3) := by decide +kernel
theorem dX1_isInPlace_49 : decode cX1_isInPlace 49 = .ok (.iconst 0, 1) := by decide +kernel
theorem dX1_isInPlace_50 : decode cX1_isInPlace 50 = .ok (.ireturn, 1) := by decide +kernel
theorem dX1_isInPlace_51 : decode cX1_isInPlace 51 = .ok (.iinc 4 1, 3) := by decide +kernel
theorem dX1_isInPlace_54 : decode cX1_isInPlace 54 = .ok (.goto (-29), 3) := by decide +kernel
theorem dX1_isInPlace_57 : decode cX1_isInPlace 57 = .ok (.iconst 1, 1) := by decide +kernel
theorem dX1_isInPlace_58 : decode cX1_isInPlace 58 = .ok (.ireturn, 1) := by decide +kernel
theorem dX1_doMarry_0 : decode cX1_doMarry 0 = .ok (.aload_n 0, 1) := by decide +kernel
theorem dX1_doMarry_1 : decode cX1_doMarry 1 = .ok (.iload_n 1, 1) := by decide +kernel
theorem dX1_doMarry_2 : decode cX1_doMarry 2 = .ok (.iload_n 2, 1) := by decide +kernel
theorem dX1_doMarry_3 : decode cX1_doMarry 3 = .ok (.invokevirtual 149, 3) := by decide +kernel
theorem dX1_doMarry_6 : decode cX1_doMarry 6 = .ok (.ifCond .eq 12, 3) := by decide +kernel
theorem dX1_doMarry_9 : decode cX1_doMarry 9 = .ok (.aload_n 0, 1) := by decide +kernel
theorem dX1_doMarry_10 : decode cX1_doMarry 10 = .ok (.iload_n 1, 1) := by decide +kernel
theorem dX1_doMarry_11 : decode cX1_doMarry 11 = .ok (.iload_n 2, 1) := by decide +kernel
theorem dX1_doMarry_12 : decode cX1_doMarry 12 = .ok (.invokevirtual 152, 3) := by decide +kernel
theorem dX1_doMarry_15 : decode cX1_doMarry 15 = .ok (.ifCond .eq 5, 3) := by decide +kernel
theorem dX1_doMarry_18 : decode cX1_doMarry 18 = .ok (.iconst (-1), 1) := by decide +kernel
theorem dX1_doMarry_19 : decode cX1_doMarry 19 = .ok (.ireturn, 1) := by decide +kernel
theorem dX1_doMarry_20 : decode cX1_doMarry 20 = .ok (.aload_n 0, 1) := by decide +kernel
theorem dX1_doMarry_21 : decode cX1_doMarry 21 = .ok (.iload_n 1, 1) := by decide +kernel
theorem dX1_doMarry_22 : decode cX1_doMarry 22 = .ok (.iload_n 2, 1) := by decide +kernel
theorem dX1_doMarry_23 : decode cX1_doMarry 23 = .ok (.invokevirtual 146, 3) := by decide +kernel
theorem dX1_doMarry_26 : decode cX1_doMarry 26 = .ok (.ifCond .eq 7, 3) := by decide +kernel
theorem dX1_doMarry_29 : decode cX1_doMarry 29 = .ok (.iconst 0, 1) := by decide +kernel
theorem dX1_doMarry_30 : decode cX1_doMarry 30 = .ok (.goto 13, 3) := by decide +kernel
theorem dX1_doMarry_33 : decode cX1_doMarry 33 = .ok (.aload_n 0, 1) := by decide +kernel
theorem dX1_doMarry_34 : decode cX1_doMarry 34 = .ok (.iload_n 1, 1) := by decide +kernel
theorem dX1_doMarry_35 : decode cX1_doMarry 35 = .ok (.iload_n 2, 1) := by decide +kernel
theorem dX1_doMarry_36 : decode cX1_doMarry 36 = .ok (.aload_n 0, 1) := by decide +kernel
theorem dX1_doMarry_37 : decode cX1_doMarry 37 = .ok (.invokevirtual 112, 3) := by decide +kernel
theorem dX1_doMarry_40 : decode cX1_doMarry 40 = .ok (.invokevirtual 155, 3) := by decide +kernel
theorem dX1_doMarry_43 : decode cX1_doMarry 43 = .ok (.istore_n 3, 1) := by decide +kernel
theorem dX1_doMarry_44 : decode cX1_doMarry 44 = .ok (.aload_n 0, 1) := by decide +kernel
theorem dX1_doMarry_45 : decode cX1_doMarry 45 = .ok (.iload_n 1, 1) := by decide +kernel
theorem dX1_doMarry_46 : decode cX1_doMarry 46 = .ok (.iload_n 2, 1) := by decide +kernel
theorem dX1_doMarry_47 : decode cX1_doMarry 47 = .ok (.invokevirtual 128, 3) := by decide +kernel
theorem dX1_doMarry_50 : decode cX1_doMarry 50 = .ok (.aload_n 0, 1) := by decide +kernel
theorem dX1_doMarry_51 : decode cX1_doMarry 51 = .ok (.dup, 1) := by decide +kernel
theorem dX1_doMarry_52 : decode cX1_doMarry 52 = .ok (.getfield 35, 3) := by decide +kernel
theorem dX1_doMarry_55 : decode cX1_doMarry 55 = .ok (.iload_n 3, 1) := by decide +kernel
theorem dX1_doMarry_56 : decode cX1_doMarry 56 = .ok (.iadd, 1) := by decide +kernel
theorem dX1_doMarry_57 : decode cX1_doMarry 57 = .ok (.putfield 35, 3) := by decide +kernel
theorem dX1_doMarry_60 : decode cX1_doMarry 60 = .ok (.iload_n 3, 1) := by decide +kernel
theorem dX1_doMarry_61 : decode cX1_doMarry 61 = .ok (.ireturn, 1) := by decide +kernel
theorem dX1_moveTo_0 : decode cX1_moveTo 0 = .ok (.iload_n 3, 1) := by decide +kernel
theorem dX1_moveTo_1 : decode cX1_moveTo 1 = .ok (.iconst (-1), 1) := by decide +kernel
theorem dX1_moveTo_2 : decode cX1_moveTo 2 = .ok (.if_icmp .ne 5, 3) := by decide +kernel
theorem dX1_moveTo_5 : decode cX1_moveTo 5 = .ok (.iconst 0, 1) := by decide +kernel
theorem dX1_moveTo_6 : decode cX1_moveTo 6 = .ok (.ireturn, 1) := by decide +kernel
theorem dX1_moveTo_7 : decode cX1_moveTo 7 = .ok (.iconst 0, 1) := by decide +kernel
theorem dX1_moveTo_8 : decode cX1_moveTo 8 = .ok (.istore 4, 2) := by decide +kernel
theorem dX1_moveTo_10 : decode cX1_moveTo 10 = .ok (.iload 4, 2) := by decide +kernel
theorem dX1_moveTo_12 : decode cX1_moveTo 12 = .ok (.iconst 4, 1) := by decide +kernel
theorem dX1_moveTo_13 : decode cX1_moveTo 13 = .ok (.if_icmp .ge 56, 3) := by decide +kernel
theorem dX1_moveTo_16 : decode cX1_moveTo 16 = .ok (.iconst 4, 1) := by decide +kernel
theorem dX1_moveTo_17 : decode cX1_moveTo 17 = .ok (.iload_n 2, 1) := by decide +kernel
theorem dX1_moveTo_18 : decode cX1_moveTo 18 = .ok (.imul, 1) := by decide +kernel
theorem dX1_moveTo_19 : decode cX1_moveTo 19 = .ok (.iload 4, 2) := by decide +kernel
theorem dX1_moveTo_21 : decode cX1_moveTo 21 = .ok (.iadd, 1) := by decide +kernel
theorem dX1_moveTo_22 : decode cX1_moveTo 22 = .ok (.istore 5, 2) := by decide +kernel
theorem dX1_moveTo_24 : decode cX1_moveTo 24 = .ok (.iconst 4, 1) := by decide +kernel
theorem dX1_moveTo_25 : decode cX1_moveTo 25 = .ok (.iload_n 3, 1) := by decide +kernel
theorem dX1_moveTo_26 : decode cX1_moveTo 26 = .ok (.imul, 1) := by decide +kernel
theorem dX1_moveTo_27 : decode cX1_moveTo 27 = .ok (.iload 4, 2) := by decide +kernel
theorem dX1_moveTo_29 : decode cX1_moveTo 29 = .ok (.iadd, 1) := by decide +kernel
theorem dX1_moveTo_30 : decode cX1_moveTo 30 = .ok (.istore 6, 2) := by decide +kernel
theorem dX1_moveTo_32 : decode cX1_moveTo 32 = .ok (.aload_n 0, 1) := by decide +kernel
theorem dX1_moveTo_33 : decode cX1_moveTo 33 = .ok (.getfield 18, 3) := by decide +kernel
theorem dX1_moveTo_36 : decode cX1_moveTo 36 = .ok (.iload 6, 2) := by decide +kernel
theorem dX1_moveTo_38 : decode cX1_moveTo 38 = .ok (.aload_n 0, 1) := by decide +kernel
theorem dX1_moveTo_39 : decode cX1_moveTo 39 = .ok (.iload_n 1, 1) := by decide +kernel
theorem dX1_moveTo_40 : decode cX1_moveTo 40 = .ok (.iload 5, 2) := by decide +kernel
theorem dX1_moveTo_42 : decode cX1_moveTo 42 = .ok (.invokevirtual 89, 3) := by decide +kernel
theorem dX1_moveTo_45 : decode cX1_moveTo 45 = .ok (.iastore, 1) := by decide +kernel
theorem dX1_moveTo_46 : decode cX1_moveTo 46 = .ok (.aload_n 0, 1) := by decide +kernel
theorem dX1_moveTo_47 : decode cX1_moveTo 47 = .ok (.iload_n 1, 1) := by decide +kernel
theorem dX1_moveTo_48 : decode cX1_moveTo 48 = .ok (.iload 5, 2) := by decide +kernel
theorem dX1_moveTo_50 : decode cX1_moveTo 50 = .ok (.invokevirtual 137, 3) := by decide +kernel
theorem dX1_moveTo_53 : decode cX1_moveTo 53 = .ok (.pop, 1) := by decide +kernel
theorem dX1_moveTo_54 : decode cX1_moveTo 54 = .ok (.aload_n 0, 1) := by decide +kernel
theorem dX1_moveTo_55 : decode cX1_moveTo 55 = .ok (.iload_n 1, 1) := by decide +kernel
theorem dX1_moveTo_56 : decode cX1_moveTo 56 = .ok (.iload 5, 2) := by decide +kernel
theorem dX1_moveTo_58 : decode cX1_moveTo 58 = .ok (.iload 6, 2) := by decide +kernel
theorem dX1_moveTo_60 : decode cX1_moveTo 60 = .ok (.invokevirtual 125, 3) := by decide +kernel
theorem dX1_moveTo_63 : decode cX1_moveTo 63 = .ok (.iinc 4 1, 3) := by decide +kernel
theorem dX1_moveTo_66 : decode cX1_moveTo 66 = .ok (.goto (-56), 3) := by decide +kernel
theorem dX1_moveTo_69 : decode cX1_moveTo 69 = .ok (.iconst 4, 1) := by decide +kernel
theorem dX1_moveTo_70 : decode cX1_moveTo 70 = .ok (.ireturn, 1) := by decide +kernel
theorem dX1_marryNext_0 : decode cX1_marryNext 0 = .ok (.iconst (-1), 1) := by decide +kernel
theorem dX1_marryNext_1 : decode cX1_marryNext 1 = .ok (.istore_n 1, 1) := by decide +kernel
theorem dX1_marryNext_2 : decode cX1_marryNext 2 = .ok (.iconst 0, 1) := by decide +kernel
theorem dX1_marryNext_3 : decode cX1_marryNext 3 = .ok (.istore_n 2, 1) := by decide +kernel
theorem dX1_marryNext_4 : decode cX1_marryNext 4 = .ok (.iload_n 2, 1) := by decide +kernel
theorem dX1_marryNext_5 : decode cX1_marryNext 5 = .ok (.bipush 16, 2) := by decide +kernel
theorem dX1_marryNext_7 : decode cX1_marryNext 7 = .ok (.if_icmp .ge 70, 3) := by decide +kernel
theorem dX1_marryNext_10 : decode cX1_marryNext 10 = .ok (.iload_n 2, 1) := by decide +kernel
theorem dX1_marryNext_11 : decode cX1_marryNext 11 = .ok (.iconst 4, 1) := by decide +kernel
theorem dX1_marryNext_12 : decode cX1_marryNext 12 = .ok (.idiv, 1) := by decide +kernel
theorem dX1_marryNext_13 : decode cX1_marryNext 13 = .ok (.istore_n 3, 1) := by decide +kernel
theorem dX1_marryNext_14 : decode cX1_marryNext 14 = .ok (.iload_n 2, 1) := by decide +kernel
theorem dX1_marryNext_15 : decode cX1_marryNext 15 = .ok (.iconst 4, 1) := by decide +kernel
theorem dX1_marryNext_16 : decode cX1_marryNext 16 = .ok (.irem, 1) := by decide +kernel
theorem dX1_marryNext_17 : decode cX1_marryNext 17 = .ok (.istore 4, 2) := by decide +kernel
theorem dX1_marryNext_19 : decode cX1_marryNext 19 = .ok (.aload_n 0, 1) := by decide +kernel
theorem dX1_marryNext_20 : decode cX1_marryNext 20 = .ok (.iload_n 3, 1) := by decide +kernel
theorem dX1_marryNext_21 : decode cX1_marryNext 21 = .ok (.invokevirtual 53, 3) := by decide +kernel
theorem dX1_marryNext_24 : decode cX1_marryNext 24 = .ok (.ifCond .eq 47, 3) := by decide +kernel
theorem dX1_marryNext_27 : decode cX1_marryNext 27 = .ok (.aload_n 0, 1) := by decide +kernel
theorem dX1_marryNext_28 : decode cX1_marryNext 28 = .ok (.iload_n 3, 1) := by decide +kernel
theorem dX1_marryNext_29 : decode cX1_marryNext 29 = .ok (.iload 4, 2) := by decide +kernel
theorem dX1_marryNext_31 : decode cX1_marryNext 31 = .ok (.invokevirtual 152, 3) := by decide +kernel
theorem dX1_marryNext_34 : decode cX1_marryNext 34 = .ok (.ifCond .ne 37, 3) := by decide +kernel
theorem dX1_marryNext_37 : decode cX1_marryNext 37 = .ok (.aload_n 0, 1) := by decide +kernel
theorem dX1_marryNext_38 : decode cX1_marryNext 38 = .ok (.iload_n 3, 1) := by decide +kernel
theorem dX1_marryNext_39 : decode cX1_marryNext 39 = .ok (.iload 4, 2) := by decide +kernel
theorem dX1_marryNext_41 : decode cX1_marryNext 41 = .ok (.invokevirtual 146, 3) := by decide +kernel
theorem dX1_marryNext_44 : decode cX1_marryNext 44 = .ok (.ifCond .eq 20, 3) := by decide +kernel
theorem dX1_marryNext_47 : decode cX1_marryNext 47 = .ok (.aload_n 0, 1) := by decide +kernel
theorem dX1_marryNext_48 : decode cX1_marryNext 48 = .ok (.iload_n 3, 1) := by decide +kernel
theorem dX1_marryNext_49 : decode cX1_marryNext 49 = .ok (.iload 4, 2) := by decide +kernel
theorem dX1_marryNext_51 : decode cX1_marryNext 51 = .ok (.invokevirtual 159, 3) := by decide +kernel
theorem dX1_marryNext_54 : decode cX1_marryNext 54 = .ok (.iconst (-1), 1) := by decide +kernel
theorem dX1_marryNext_55 : decode cX1_marryNext 55 = .ok (.if_icmp .eq 7, 3) := by decide +kernel
theorem dX1_marryNext_58 : decode cX1_marryNext 58 = .ok (.iconst 1, 1) := by decide +kernel
theorem dX1_marryNext_59 : decode cX1_marryNext 59 = .ok (.goto 4, 3) := by decide +kernel
theorem dX1_marryNext_62 : decode cX1_marryNext 62 = .ok (.iconst 0, 1) := by decide +kernel
theorem dX1_marryNext_63 : decode cX1_marryNext 63 = .ok (.ireturn, 1) := by decide +kernel
theorem dX1_marryNext_64 : decode cX1_marryNext 64 = .ok (.iload_n 1, 1) := by decide +kernel
theorem dX1_marryNext_65 : decode cX1_marryNext 65 = .ok (.iconst (-1), 1) := by decide +kernel
theorem dX1_marryNext_66 : decode cX1_marryNext 66 = .ok (.if_icmp .ne 5, 3) := by decide +kernel
theorem dX1_marryNext_69 : decode cX1_marryNext 69 = .ok (.iload_n 2, 1) := by decide +kernel
theorem dX1_marryNext_70 : decode cX1_marryNext 70 = .ok (.istore_n 1, 1) := by decide +kernel
theorem dX1_marryNext_71 : decode cX1_marryNext 71 = .ok (.iinc 2 1, 3) := by decide +kernel
theorem dX1_marryNext_74 : decode cX1_marryNext 74 = .ok (.goto (-70), 3) := by decide +kernel
theorem dX1_marryNext_77 : decode cX1_marryNext 77 = .ok (.iload_n 1, 1) := by decide +kernel
theorem dX1_marryNext_78 : decode cX1_marryNext 78 = .ok (.iconst (-1), 1) := by decide +kernel
theorem dX1_marryNext_79 : decode cX1_marryNext 79 = .ok (.if_icmp .eq 21, 3) := by decide +kernel
theorem dX1_marryNext_82 : decode cX1_marryNext 82 = .ok (.aload_n 0, 1) := by decide +kernel
theorem dX1_marryNext_83 : decode cX1_marryNext 83 = .ok (.iload_n 1, 1) := by decide +kernel
theorem dX1_marryNext_84 : decode cX1_marryNext 84 = .ok (.iconst 4, 1) := by decide +kernel
theorem dX1_marryNext_85 : decode cX1_marryNext 85 = .ok (.idiv, 1) := by decide +kernel
theorem dX1_marryNext_86 : decode cX1_marryNext 86 = .ok (.iload_n 1, 1) := by decide +kernel
theorem dX1_marryNext_87 : decode cX1_marryNext 87 = .ok (.iconst 4, 1) := by decide +kernel
theorem dX1_marryNext_88 : decode cX1_marryNext 88 = .ok (.irem, 1) := by decide +kernel
theorem dX1_marryNext_89 : decode cX1_marryNext 89 = .ok (.invokevirtual 159, 3) := by decide +kernel
theorem dX1_marryNext_92 : decode cX1_marryNext 92 = .ok (.iconst (-1), 1) := by decide +kernel
theorem dX1_marryNext_93 : decode cX1_marryNext 93 = .ok (.if_icmp .eq 7, 3) := by decide +kernel
theorem dX1_marryNext_96 : decode cX1_marryNext 96 = .ok (.iconst 1, 1) := by decide +kernel
theorem dX1_marryNext_97 : decode cX1_marryNext 97 = .ok (.goto 4, 3) := by decide +kernel
theorem dX1_marryNext_100 : decode cX1_marryNext 100 = .ok (.iconst 0, 1) := by decide +kernel
theorem dX1_marryNext_101 : decode cX1_marryNext 101 = .ok (.ireturn, 1) := by decide +kernel
theorem dX1_doTear_0 : decode cX1_doTear 0 = .ok (.aload_n 0, 1) := by decide +kernel
theorem dX1_doTear_1 : decode cX1_doTear 1 = .ok (.iload_n 1, 1) := by decide +kernel
theorem dX1_doTear_2 : decode cX1_doTear 2 = .ok (.iload_n 2, 1) := by decide +kernel
theorem dX1_doTear_3 : decode cX1_doTear 3 = .ok (.invokevirtual 83, 3) := by decide +kernel
theorem dX1_doTear_6 : decode cX1_doTear 6 = .ok (.istore_n 3, 1) := by decide +kernel
theorem dX1_doTear_7 : decode cX1_doTear 7 = .ok (.iload_n 3, 1) := by decide +kernel
theorem dX1_doTear_8 : decode cX1_doTear 8 = .ok (.iconst (-1), 1) := by decide +kernel
theorem dX1_doTear_9 : decode cX1_doTear 9 = .ok (.if_icmp .eq 9, 3) := by decide +kernel
theorem dX1_doTear_12 : decode cX1_doTear 12 = .ok (.aload_n 0, 1) := by decide +kernel
theorem dX1_doTear_13 : decode cX1_doTear 13 = .ok (.iload_n 1, 1) := by decide +kernel
theorem dX1_doTear_14 : decode cX1_doTear 14 = .ok (.iload_n 2, 1) := by decide +kernel
theorem dX1_doTear_15 : decode cX1_doTear 15 = .ok (.invokevirtual 131, 3) := by decide +kernel
theorem dX1_doTear_18 : decode cX1_doTear 18 = .ok (.iload_n 3, 1) := by decide +kernel
theorem dX1_doTear_19 : decode cX1_doTear 19 = .ok (.ireturn, 1) := by decide +kernel
theorem dX1_doPress_0 : decode cX1_doPress 0 = .ok (.iload_n 1, 1) := by decide +kernel
theorem dX1_doPress_1 : decode cX1_doPress 1 = .ok (.iconst 1, 1) := by decide +kernel
theorem dX1_doPress_2 : decode cX1_doPress 2 = .ok (.if_icmp .lt 9, 3) := by decide +kernel
theorem dX1_doPress_5 : decode cX1_doPress 5 = .ok (.iload_n 1, 1) := by decide +kernel
theorem dX1_doPress_6 : decode cX1_doPress 6 = .ok (.bipush 32, 2) := by decide +kernel
theorem dX1_doPress_8 : decode cX1_doPress 8 = .ok (.if_icmp .le 5, 3) := by decide +kernel
theorem dX1_doPress_11 : decode cX1_doPress 11 = .ok (.iconst (-1), 1) := by decide +kernel
theorem dX1_doPress_12 : decode cX1_doPress 12 = .ok (.ireturn, 1) := by decide +kernel
theorem dX1_doPress_13 : decode cX1_doPress 13 = .ok (.bipush 80, 2) := by decide +kernel
theorem dX1_doPress_15 : decode cX1_doPress 15 = .ok (.istore_n 2, 1) := by decide +kernel
theorem dX1_doPress_16 : decode cX1_doPress 16 = .ok (.iconst 0, 1) := by decide +kernel
theorem dX1_doPress_17 : decode cX1_doPress 17 = .ok (.istore_n 3, 1) := by decide +kernel
theorem dX1_doPress_18 : decode cX1_doPress 18 = .ok (.iload_n 3, 1) := by decide +kernel
theorem dX1_doPress_19 : decode cX1_doPress 19 = .ok (.iload_n 2, 1) := by decide +kernel
theorem dX1_doPress_20 : decode cX1_doPress 20 = .ok (.if_icmp .ge 34, 3) := by decide +kernel
theorem dX1_doPress_23 : decode cX1_doPress 23 = .ok (.aload_n 0, 1) := by decide +kernel
theorem dX1_doPress_24 : decode cX1_doPress 24 = .ok (.invokevirtual 99, 3) := by decide +kernel
theorem dX1_doPress_27 : decode cX1_doPress 27 = .ok (.iload_n 1, 1) := by decide +kernel
theorem dX1_doPress_28 : decode cX1_doPress 28 = .ok (.if_icmp .ge 26, 3) := by decide +kernel
theorem dX1_doPress_31 : decode cX1_doPress 31 = .ok (.aload_n 0, 1) := by decide +kernel
theorem dX1_doPress_32 : decode cX1_doPress 32 = .ok (.invokevirtual 162, 3) := by decide +kernel
theorem dX1_doPress_35 : decode cX1_doPress 35 = .ok (.ifCond .ne 13, 3) := by decide +kernel
theorem dX1_doPress_38 : decode cX1_doPress 38 = .ok (.aload_n 0, 1) := by decide +kernel
theorem dX1_doPress_39 : decode cX1_doPress 39 = .ok (.invokevirtual 166, 3) := by decide +kernel
theorem dX1_doPress_42 : decode cX1_doPress 42 = .ok (.ifCond .ne 6, 3) := by decide +kernel
theorem dX1_doPress_45 : decode cX1_doPress 45 = .ok (.goto 9, 3) := by decide +kernel
theorem dX1_doPress_48 : decode cX1_doPress 48 = .ok (.iinc 3 1, 3) := by decide +kernel
theorem dX1_doPress_51 : decode cX1_doPress 51 = .ok (.goto (-33), 3) := by decide +kernel
theorem dX1_doPress_54 : decode cX1_doPress 54 = .ok (.aload_n 0, 1) := by decide +kernel
theorem dX1_doPress_55 : decode cX1_doPress 55 = .ok (.invokevirtual 99, 3) := by decide +kernel
theorem dX1_doPress_58 : decode cX1_doPress 58 = .ok (.ireturn, 1) := by decide +kernel
theorem dX1_loseFirstPage_0 : decode cX1_loseFirstPage 0 = .ok (.iconst 0, 1) := by decide +kernel
theorem dX1_loseFirstPage_1 : decode cX1_loseFirstPage 1 = .ok (.istore_n 1, 1) := by decide +kernel
theorem dX1_loseFirstPage_2 : decode cX1_loseFirstPage 2 = .ok (.iload_n 1, 1) := by decide +kernel
theorem dX1_loseFirstPage_3 : decode cX1_loseFirstPage 3 = .ok (.bipush 64, 2) := by decide +kernel
theorem dX1_loseFirstPage_5 : decode cX1_loseFirstPage 5 = .ok (.if_icmp .ge 68, 3) := by decide +kernel
theorem dX1_loseFirstPage_8 : decode cX1_loseFirstPage 8 = .ok (.iload_n 1, 1) := by decide +kernel
theorem dX1_loseFirstPage_9 : decode cX1_loseFirstPage 9 = .ok (.bipush 16, 2) := by decide +kernel
theorem dX1_loseFirstPage_11 : decode cX1_loseFirstPage 11 = .ok (.idiv, 1) := by decide +kernel
theorem dX1_loseFirstPage_12 : decode cX1_loseFirstPage 12 = .ok (.istore_n 2, 1) := by decide +kernel
theorem dX1_loseFirstPage_13 : decode cX1_loseFirstPage 13 = .ok (.iload_n 1, 1) := by decide +kernel
theorem dX1_loseFirstPage_14 : decode cX1_loseFirstPage 14 = .ok (.bipush 16, 2) := by decide +kernel
theorem dX1_loseFirstPage_16 : decode cX1_loseFirstPage 16 = .ok (.irem, 1) := by decide +kernel
theorem dX1_loseFirstPage_17 : decode cX1_loseFirstPage 17 = .ok (.istore_n 3, 1) := by decide +kernel
theorem dX1_loseFirstPage_18 : decode cX1_loseFirstPage 18 = .ok (.aload_n 0, 1) := by decide +kernel
theorem dX1_loseFirstPage_19 : decode cX1_loseFirstPage 19 = .ok (.iload_n 2, 1) := by decide +kernel
theorem dX1_loseFirstPage_20 : decode cX1_loseFirstPage 20 = .ok (.iload_n 3, 1) := by decide +kernel
theorem dX1_loseFirstPage_21 : decode cX1_loseFirstPage 21 = .ok (.iconst 4, 1) := by decide +kernel
theorem dX1_loseFirstPage_22 : decode cX1_loseFirstPage 22 = .ok (.idiv, 1) := by decide +kernel
theorem dX1_loseFirstPage_23 : decode cX1_loseFirstPage 23 = .ok (.invokevirtual 77, 3) := by decide +kernel
theorem dX1_loseFirstPage_26 : decode cX1_loseFirstPage 26 = .ok (.ifCond .ne 41, 3) := by decide +kernel
theorem dX1_loseFirstPage_29 : decode cX1_loseFirstPage 29 = .ok (.aload_n 0, 1) := by decide +kernel
theorem dX1_loseFirstPage_30 : decode cX1_loseFirstPage 30 = .ok (.iload_n 2, 1) := by decide +kernel
theorem dX1_loseFirstPage_31 : decode cX1_loseFirstPage 31 = .ok (.iload_n 3, 1) := by decide +kernel
theorem dX1_loseFirstPage_32 : decode cX1_loseFirstPage 32 = .ok (.invokevirtual 169, 3) := by decide +kernel
theorem dX1_loseFirstPage_35 : decode cX1_loseFirstPage 35 = .ok (.iconst 1, 1) := by decide +kernel
theorem dX1_loseFirstPage_36 : decode cX1_loseFirstPage 36 = .ok (.if_icmp .ne 31, 3) := by decide +kernel
theorem dX1_loseFirstPage_39 : decode cX1_loseFirstPage 39 = .ok (.aload_n 0, 1) := by decide +kernel
theorem dX1_loseFirstPage_40 : decode cX1_loseFirstPage 40 = .ok (.iload_n 2, 1) := by decide +kernel
theorem dX1_loseFirstPage_41 : decode cX1_loseFirstPage 41 = .ok (.iload_n 3, 1) := by decide +kernel
theorem dX1_loseFirstPage_42 : decode cX1_loseFirstPage 42 = .ok (.invokevirtual 89, 3) := by decide +kernel
theorem dX1_loseFirstPage_45 : decode cX1_loseFirstPage 45 = .ok (.ifCond .ne 22, 3) := by decide +kernel
theorem dX1_loseFirstPage_48 : decode cX1_loseFirstPage 48 = .ok (.aload_n 0, 1) := by decide +kernel
theorem dX1_loseFirstPage_49 : decode cX1_loseFirstPage 49 = .ok (.iload_n 2, 1) := by decide +kernel
theorem dX1_loseFirstPage_50 : decode cX1_loseFirstPage 50 = .ok (.iload_n 3, 1) := by decide +kernel
theorem dX1_loseFirstPage_51 : decode cX1_loseFirstPage 51 = .ok (.invokevirtual 137, 3) := by decide +kernel
theorem dX1_loseFirstPage_54 : decode cX1_loseFirstPage 54 = .ok (.pop, 1) := by decide +kernel
theorem dX1_loseFirstPage_55 : decode cX1_loseFirstPage 55 = .ok (.aload_n 0, 1) := by decide +kernel
theorem dX1_loseFirstPage_56 : decode cX1_loseFirstPage 56 = .ok (.dup, 1) := by decide +kernel
theorem dX1_loseFirstPage_57 : decode cX1_loseFirstPage 57 = .ok (.getfield 44, 3) := by decide +kernel
theorem dX1_loseFirstPage_60 : decode cX1_loseFirstPage 60 = .ok (.iconst 1, 1) := by decide +kernel
theorem dX1_loseFirstPage_61 : decode cX1_loseFirstPage 61 = .ok (.iadd, 1) := by decide +kernel
theorem dX1_loseFirstPage_62 : decode cX1_loseFirstPage 62 = .ok (.putfield 44, 3) := by decide +kernel
theorem dX1_loseFirstPage_65 : decode cX1_loseFirstPage 65 = .ok (.iconst 1, 1) := by decide +kernel
theorem dX1_loseFirstPage_66 : decode cX1_loseFirstPage 66 = .ok (.ireturn, 1) := by decide +kernel
theorem dX1_loseFirstPage_67 : decode cX1_loseFirstPage 67 = .ok (.iinc 1 1, 3) := by decide +kernel
theorem dX1_loseFirstPage_70 : decode cX1_loseFirstPage 70 = .ok (.goto (-68), 3) := by decide +kernel
theorem dX1_loseFirstPage_73 : decode cX1_loseFirstPage 73 = .ok (.iconst 0, 1) := by decide +kernel
theorem dX1_loseFirstPage_74 : decode cX1_loseFirstPage 74 = .ok (.ireturn, 1) := by decide +kernel
theorem dX1_tearEmptiestGroup_0 : decode cX1_tearEmptiestGroup 0 = .ok (.iconst (-1), 1) := by decide +kernel
theorem dX1_tearEmptiestGroup_1 : decode cX1_tearEmptiestGroup 1 = .ok (.istore_n 1, 1) := by decide +kernel
theorem dX1_tearEmptiestGroup_2 : decode cX1_tearEmptiestGroup 2 = .ok (.iconst 0, 1) := by decide +kernel
theorem dX1_tearEmptiestGroup_3 : decode cX1_tearEmptiestGroup 3 = .ok (.istore_n 2, 1) := by decide +kernel
theorem dX1_tearEmptiestGroup_4 : decode cX1_tearEmptiestGroup 4 = .ok (.iconst 0, 1) := by decide +kernel
theorem dX1_tearEmptiestGroup_5 : decode cX1_tearEmptiestGroup 5 = .ok (.istore_n 3, 1) := by decide +kernel
theorem dX1_tearEmptiestGroup_6 : decode cX1_tearEmptiestGroup 6 = .ok (.iload_n 3, 1) := by decide +kernel
theorem dX1_tearEmptiestGroup_7 : decode cX1_tearEmptiestGroup 7 = .ok (.bipush 16, 2) := by decide +kernel
theorem dX1_tearEmptiestGroup_9 : decode cX1_tearEmptiestGroup 9 = .ok (.if_icmp .ge 64, 3) := by decide +kernel
theorem dX1_tearEmptiestGroup_12 : decode cX1_tearEmptiestGroup 12 = .ok (.iload_n 3, 1) := by decide +kernel
theorem dX1_tearEmptiestGroup_13 : decode cX1_tearEmptiestGroup 13 = .ok (.iconst 4, 1) := by decide +kernel
theorem dX1_tearEmptiestGroup_14 : decode cX1_tearEmptiestGroup 14 = .ok (.idiv, 1) := by decide +kernel
theorem dX1_tearEmptiestGroup_15 : decode cX1_tearEmptiestGroup 15 = .ok (.istore 4, 2) := by decide +kernel
theorem dX1_tearEmptiestGroup_17 : decode cX1_tearEmptiestGroup 17 = .ok (.iload_n 3, 1) := by decide +kernel
theorem dX1_tearEmptiestGroup_18 : decode cX1_tearEmptiestGroup 18 = .ok (.iconst 4, 1) := by decide +kernel
theorem dX1_tearEmptiestGroup_19 : decode cX1_tearEmptiestGroup 19 = .ok (.irem, 1) := by decide +kernel
theorem dX1_tearEmptiestGroup_20 : decode cX1_tearEmptiestGroup 20 = .ok (.istore 5, 2) := by decide +kernel
theorem dX1_tearEmptiestGroup_22 : decode cX1_tearEmptiestGroup 22 = .ok (.aload_n 0, 1) := by decide +kernel
theorem dX1_tearEmptiestGroup_23 : decode cX1_tearEmptiestGroup 23 = .ok (.iload 4, 2) := by decide +kernel
theorem dX1_tearEmptiestGroup_25 : decode cX1_tearEmptiestGroup 25 = .ok (.iload 5, 2) := by decide +kernel
theorem dX1_tearEmptiestGroup_27 : decode cX1_tearEmptiestGroup 27 = .ok (.invokevirtual 77, 3) := by decide +kernel
theorem dX1_tearEmptiestGroup_30 : decode cX1_tearEmptiestGroup 30 = .ok (.ifCond .eq 37, 3) := by decide +kernel
theorem dX1_tearEmptiestGroup_33 : decode cX1_tearEmptiestGroup 33 = .ok (.aload_n 0, 1) := by decide +kernel
theorem dX1_tearEmptiestGroup_34 : decode cX1_tearEmptiestGroup 34 = .ok (.iload 4, 2) := by decide +kernel
theorem dX1_tearEmptiestGroup_36 : decode cX1_tearEmptiestGroup 36 = .ok (.iload 5, 2) := by decide +kernel
theorem dX1_tearEmptiestGroup_38 : decode cX1_tearEmptiestGroup 38 = .ok (.invokevirtual 80, 3) := by decide +kernel
theorem dX1_tearEmptiestGroup_41 : decode cX1_tearEmptiestGroup 41 = .ok (.ifCond .ne 26, 3) := by decide +kernel
theorem dX1_tearEmptiestGroup_44 : decode cX1_tearEmptiestGroup 44 = .ok (.aload_n 0, 1) := by decide +kernel
theorem dX1_tearEmptiestGroup_45 : decode cX1_tearEmptiestGroup 45 = .ok (.iload 4, 2) := by decide +kernel
theorem dX1_tearEmptiestGroup_47 : decode cX1_tearEmptiestGroup 47 = .ok (.iload 5, 2) := by decide +kernel
theorem dX1_tearEmptiestGroup_49 : decode cX1_tearEmptiestGroup 49 = .ok (.invokevirtual 172, 3) := by decide +kernel
theorem dX1_tearEmptiestGroup_52 : decode cX1_tearEmptiestGroup 52 = .ok (.iload_n 2, 1) := by decide +kernel
theorem dX1_tearEmptiestGroup_53 : decode cX1_tearEmptiestGroup 53 = .ok (.if_icmp .le 14, 3) := by decide +kernel
theorem dX1_tearEmptiestGroup_56 : decode cX1_tearEmptiestGroup 56 = .ok (.aload_n 0, 1) := by decide +kernel
theorem dX1_tearEmptiestGroup_57 : decode cX1_tearEmptiestGroup 57 = .ok (.iload 4, 2) := by decide +kernel
theorem dX1_tearEmptiestGroup_59 : decode cX1_tearEmptiestGroup 59 = .ok (.iload 5, 2) := by decide +kernel
theorem dX1_tearEmptiestGroup_61 : decode cX1_tearEmptiestGroup 61 = .ok (.invokevirtual 172, 3) := by decide +kernel
theorem dX1_tearEmptiestGroup_64 : decode cX1_tearEmptiestGroup 64 = .ok (.istore_n 2, 1) := by decide +kernel
theorem dX1_tearEmptiestGroup_65 : decode cX1_tearEmptiestGroup 65 = .ok (.iload_n 3, 1) := by decide +kernel
theorem dX1_tearEmptiestGroup_66 : decode cX1_tearEmptiestGroup 66 = .ok (.istore_n 1, 1) := by decide +kernel
theorem dX1_tearEmptiestGroup_67 : decode cX1_tearEmptiestGroup 67 = .ok (.iinc 3 1, 3) := by decide +kernel
theorem dX1_tearEmptiestGroup_70 : decode cX1_tearEmptiestGroup 70 = .ok (.goto (-64), 3) := by decide +kernel
theorem dX1_tearEmptiestGroup_73 : decode cX1_tearEmptiestGroup 73 = .ok (.iload_n 1, 1) := by decide +kernel
theorem dX1_tearEmptiestGroup_74 : decode cX1_tearEmptiestGroup 74 = .ok (.iconst (-1), 1) := by decide +kernel
theorem dX1_tearEmptiestGroup_75 : decode cX1_tearEmptiestGroup 75 = .ok (.if_icmp .ne 5, 3) := by decide +kernel
theorem dX1_tearEmptiestGroup_78 : decode cX1_tearEmptiestGroup 78 = .ok (.iconst 0, 1) := by decide +kernel
theorem dX1_tearEmptiestGroup_79 : decode cX1_tearEmptiestGroup 79 = .ok (.ireturn, 1) := by decide +kernel
theorem dX1_tearEmptiestGroup_80 : decode cX1_tearEmptiestGroup 80 = .ok (.aload_n 0, 1) := by decide +kernel
theorem dX1_tearEmptiestGroup_81 : decode cX1_tearEmptiestGroup 81 = .ok (.iload_n 1, 1) := by decide +kernel
theorem dX1_tearEmptiestGroup_82 : decode cX1_tearEmptiestGroup 82 = .ok (.iconst 4, 1) := by decide +kernel
theorem dX1_tearEmptiestGroup_83 : decode cX1_tearEmptiestGroup 83 = .ok (.idiv, 1) := by decide +kernel
theorem dX1_tearEmptiestGroup_84 : decode cX1_tearEmptiestGroup 84 = .ok (.iload_n 1, 1) := by decide +kernel
theorem dX1_tearEmptiestGroup_85 : decode cX1_tearEmptiestGroup 85 = .ok (.iconst 4, 1) := by decide +kernel
theorem dX1_tearEmptiestGroup_86 : decode cX1_tearEmptiestGroup 86 = .ok (.irem, 1) := by decide +kernel
theorem dX1_tearEmptiestGroup_87 : decode cX1_tearEmptiestGroup 87 = .ok (.invokevirtual 131, 3) := by decide +kernel
theorem dX1_tearEmptiestGroup_90 : decode cX1_tearEmptiestGroup 90 = .ok (.iconst 1, 1) := by decide +kernel
theorem dX1_tearEmptiestGroup_91 : decode cX1_tearEmptiestGroup 91 = .ok (.ireturn, 1) := by decide +kernel
theorem dX2_init_0 : decode cX2_init 0 = .ok (.aload_n 0, 1) := by decide +kernel
theorem dX2_init_1 : decode cX2_init 1 = .ok (.invokespecial 3, 3) := by decide +kernel
theorem dX2_init_4 : decode cX2_init 4 = .ok (.aload_n 0, 1) := by decide +kernel
theorem dX2_init_5 : decode cX2_init 5 = .ok (.bipush 100, 2) := by decide +kernel
theorem dX2_init_7 : decode cX2_init 7 = .ok (.newarray .char, 2) := by decide +kernel
theorem dX2_init_9 : decode cX2_init 9 = .ok (.putfield 9, 3) := by decide +kernel
theorem dX2_init_12 : decode cX2_init 12 = .ok (.return_, 1) := by decide +kernel
theorem dX2_length_0 : decode cX2_length 0 = .ok (.aload_n 0, 1) := by decide +kernel
theorem dX2_length_1 : decode cX2_length 1 = .ok (.getfield 15, 3) := by decide +kernel
theorem dX2_length_4 : decode cX2_length 4 = .ok (.ireturn, 1) := by decide +kernel
theorem dX2_add_0 : decode cX2_add 0 = .ok (.aload_n 0, 1) := by decide +kernel
theorem dX2_add_1 : decode cX2_add 1 = .ok (.getfield 15, 3) := by decide +kernel
theorem dX2_add_4 : decode cX2_add 4 = .ok (.bipush 100, 2) := by decide +kernel
theorem dX2_add_6 : decode cX2_add 6 = .ok (.if_icmp .ge 23, 3) := by decide +kernel
theorem dX2_add_9 : decode cX2_add 9 = .ok (.aload_n 0, 1) := by decide +kernel
theorem dX2_add_10 : decode cX2_add 10 = .ok (.getfield 9, 3) := by decide +kernel
theorem dX2_add_13 : decode cX2_add 13 = .ok (.aload_n 0, 1) := by decide +kernel
theorem dX2_add_14 : decode cX2_add 14 = .ok (.getfield 15, 3) := by decide +kernel
theorem dX2_add_17 : decode cX2_add 17 = .ok (.iload_n 1, 1) := by decide +kernel
theorem dX2_add_18 : decode cX2_add 18 = .ok (.castore, 1) := by decide +kernel
theorem dX2_add_19 : decode cX2_add 19 = .ok (.aload_n 0, 1) := by decide +kernel
theorem dX2_add_20 : decode cX2_add 20 = .ok (.dup, 1) := by decide +kernel
theorem dX2_add_21 : decode cX2_add 21 = .ok (.getfield 15, 3) := by decide +kernel
theorem dX2_add_24 : decode cX2_add 24 = .ok (.iconst 1, 1) := by decide +kernel
theorem dX2_add_25 : decode cX2_add 25 = .ok (.iadd, 1) := by decide +kernel
theorem dX2_add_26 : decode cX2_add 26 = .ok (.putfield 15, 3) := by decide +kernel
theorem dX2_add_29 : decode cX2_add 29 = .ok (.aload_n 0, 1) := by decide +kernel
theorem dX2_add_30 : decode cX2_add 30 = .ok (.getfield 15, 3) := by decide +kernel
theorem dX2_add_33 : decode cX2_add 33 = .ok (.ireturn, 1) := by decide +kernel
theorem dX2_empty_0 : decode cX2_empty 0 = .ok (.aload_n 0, 1) := by decide +kernel
theorem dX2_empty_1 : decode cX2_empty 1 = .ok (.getfield 15, 3) := by decide +kernel
theorem dX2_empty_4 : decode cX2_empty 4 = .ok (.istore_n 1, 1) := by decide +kernel
theorem dX2_empty_5 : decode cX2_empty 5 = .ok (.aload_n 0, 1) := by decide +kernel
theorem dX2_empty_6 : decode cX2_empty 6 = .ok (.iconst 0, 1) := by decide +kernel
theorem dX2_empty_7 : decode cX2_empty 7 = .ok (.putfield 15, 3) := by decide +kernel
theorem dX2_empty_10 : decode cX2_empty 10 = .ok (.iload_n 1, 1) := by decide +kernel
theorem dX2_empty_11 : decode cX2_empty 11 = .ok (.ireturn, 1) := by decide +kernel
theorem dX2_sign_0 : decode cX2_sign 0 = .ok (.iload_n 1, 1) := by decide +kernel
theorem dX2_sign_1 : decode cX2_sign 1 = .ok (.ifCond .lt 20, 3) := by decide +kernel
theorem dX2_sign_4 : decode cX2_sign 4 = .ok (.iload_n 1, 1) := by decide +kernel
theorem dX2_sign_5 : decode cX2_sign 5 = .ok (.aload_n 0, 1) := by decide +kernel
theorem dX2_sign_6 : decode cX2_sign 6 = .ok (.getfield 15, 3) := by decide +kernel
theorem dX2_sign_9 : decode cX2_sign 9 = .ok (.if_icmp .ge 12, 3) := by decide +kernel
theorem dX2_sign_12 : decode cX2_sign 12 = .ok (.aload_n 0, 1) := by decide +kernel
theorem dX2_sign_13 : decode cX2_sign 13 = .ok (.getfield 9, 3) := by decide +kernel
theorem dX2_sign_16 : decode cX2_sign 16 = .ok (.iload_n 1, 1) := by decide +kernel
theorem dX2_sign_17 : decode cX2_sign 17 = .ok (.caload, 1) := by decide +kernel
theorem dX2_sign_18 : decode cX2_sign 18 = .ok (.goto 4, 3) := by decide +kernel
theorem dX2_sign_21 : decode cX2_sign 21 = .ok (.iconst 0, 1) := by decide +kernel
theorem dX2_sign_22 : decode cX2_sign 22 = .ok (.ireturn, 1) := by decide +kernel
theorem dX2_digit_0 : decode cX2_digit 0 = .ok (.aload_n 0, 1) := by decide +kernel
theorem dX2_digit_1 : decode cX2_digit 1 = .ok (.iload_n 1, 1) := by decide +kernel
theorem dX2_digit_2 : decode cX2_digit 2 = .ok (.invokevirtual 19, 3) := by decide +kernel
theorem dX2_digit_5 : decode cX2_digit 5 = .ok (.istore_n 2, 1) := by decide +kernel
theorem dX2_digit_6 : decode cX2_digit 6 = .ok (.iload_n 2, 1) := by decide +kernel
theorem dX2_digit_7 : decode cX2_digit 7 = .ok (.bipush 48, 2) := by decide +kernel
theorem dX2_digit_9 : decode cX2_digit 9 = .ok (.if_icmp .lt 16, 3) := by decide +kernel
theorem dX2_digit_12 : decode cX2_digit 12 = .ok (.iload_n 2, 1) := by decide +kernel
theorem dX2_digit_13 : decode cX2_digit 13 = .ok (.bipush 57, 2) := by decide +kernel
theorem dX2_digit_15 : decode cX2_digit 15 = .ok (.if_icmp .gt 10, 3) := by decide +kernel
theorem dX2_digit_18 : decode cX2_digit 18 = .ok (.iload_n 2, 1) := by decide +kernel
theorem dX2_digit_19 : decode cX2_digit 19 = .ok (.bipush 48, 2) := by decide +kernel
theorem dX2_digit_21 : decode cX2_digit 21 = .ok (.isub, 1) := by decide +kernel
theorem dX2_digit_22 : decode cX2_digit 22 = .ok (.goto 4, 3) := by decide +kernel
theorem dX2_digit_25 : decode cX2_digit 25 = .ok (.iconst (-1), 1) := by decide +kernel
theorem dX2_digit_26 : decode cX2_digit 26 = .ok (.ireturn, 1) := by decide +kernel
theorem dX2_number_0 : decode cX2_number 0 = .ok (.aload_n 0, 1) := by decide +kernel
theorem dX2_number_1 : decode cX2_number 1 = .ok (.iload_n 1, 1) := by decide +kernel
theorem dX2_number_2 : decode cX2_number 2 = .ok (.invokevirtual 23, 3) := by decide +kernel
theorem dX2_number_5 : decode cX2_number 5 = .ok (.istore_n 2, 1) := by decide +kernel
theorem dX2_number_6 : decode cX2_number 6 = .ok (.aload_n 0, 1) := by decide +kernel
theorem dX2_number_7 : decode cX2_number 7 = .ok (.iload_n 1, 1) := by decide +kernel
theorem dX2_number_8 : decode cX2_number 8 = .ok (.iconst 1, 1) := by decide +kernel
theorem dX2_number_9 : decode cX2_number 9 = .ok (.iadd, 1) := by decide +kernel
theorem dX2_number_10 : decode cX2_number 10 = .ok (.invokevirtual 23, 3) := by decide +kernel
theorem dX2_number_13 : decode cX2_number 13 = .ok (.istore_n 3, 1) := by decide +kernel
theorem dX2_number_14 : decode cX2_number 14 = .ok (.iload_n 2, 1) := by decide +kernel
theorem dX2_number_15 : decode cX2_number 15 = .ok (.iconst (-1), 1) := by decide +kernel
theorem dX2_number_16 : decode cX2_number 16 = .ok (.if_icmp .eq 8, 3) := by decide +kernel
theorem dX2_number_19 : decode cX2_number 19 = .ok (.iload_n 3, 1) := by decide +kernel
theorem dX2_number_20 : decode cX2_number 20 = .ok (.iconst (-1), 1) := by decide +kernel
theorem dX2_number_21 : decode cX2_number 21 = .ok (.if_icmp .ne 7, 3) := by decide +kernel
theorem dX2_number_24 : decode cX2_number 24 = .ok (.iconst (-1), 1) := by decide +kernel
theorem dX2_number_25 : decode cX2_number 25 = .ok (.goto 9, 3) := by decide +kernel
theorem dX2_number_28 : decode cX2_number 28 = .ok (.bipush 10, 2) := by decide +kernel
theorem dX2_number_30 : decode cX2_number 30 = .ok (.iload_n 2, 1) := by decide +kernel
theorem dX2_number_31 : decode cX2_number 31 = .ok (.imul, 1) := by decide +kernel
theorem dX2_number_32 : decode cX2_number 32 = .ok (.iload_n 3, 1) := by decide +kernel
theorem dX2_number_33 : decode cX2_number 33 = .ok (.iadd, 1) := by decide +kernel
theorem dX2_number_34 : decode cX2_number 34 = .ok (.ireturn, 1) := by decide +kernel
theorem dX2_digitsBehind_0 : decode cX2_digitsBehind 0 = .ok (.iload_n 0, 1) := by decide +kernel
theorem dX2_digitsBehind_1 : decode cX2_digitsBehind 1 = .ok (.lookupswitch 59 #[(101, 57), (102, 55), (109, 53), (119, 51), (120, 55)], 51) := by decide +kernel
theorem dX2_digitsBehind_52 : decode cX2_digitsBehind 52 = .ok (.iconst 5, 1) := by decide +kernel
theorem dX2_digitsBehind_53 : decode cX2_digitsBehind 53 = .ok (.ireturn, 1) := by decide +kernel
theorem dX2_digitsBehind_54 : decode cX2_digitsBehind 54 = .ok (.iconst 2, 1) := by decide +kernel
theorem dX2_digitsBehind_55 : decode cX2_digitsBehind 55 = .ok (.ireturn, 1) := by decide +kernel
theorem dX2_digitsBehind_56 : decode cX2_digitsBehind 56 = .ok (.iconst 1, 1) := by decide +kernel
theorem dX2_digitsBehind_57 : decode cX2_digitsBehind 57 = .ok (.ireturn, 1) := by decide +kernel
theorem dX2_digitsBehind_58 : decode cX2_digitsBehind 58 = .ok (.iconst 0, 1) := by decide +kernel
theorem dX2_digitsBehind_59 : decode cX2_digitsBehind 59 = .ok (.ireturn, 1) := by decide +kernel
theorem dX2_digitsBehind_60 : decode cX2_digitsBehind 60 = .ok (.iconst (-1), 1) := by decide +kernel
theorem dX2_digitsBehind_61 : decode cX2_digitsBehind 61 = .ok (.ireturn, 1) := by decide +kernel
theorem dX2_firstError_0 : decode cX2_firstError 0 = .ok (.aload_n 0, 1) := by decide +kernel
theorem dX2_firstError_1 : decode cX2_firstError 1 = .ok (.iconst 0, 1) := by decide +kernel
theorem dX2_firstError_2 : decode cX2_firstError 2 = .ok (.invokevirtual 19, 3) := by decide +kernel
theorem dX2_firstError_5 : decode cX2_firstError 5 = .ok (.bipush 77, 2) := by decide +kernel
theorem dX2_firstError_7 : decode cX2_firstError 7 = .ok (.if_icmp .eq 5, 3) := by decide +kernel
theorem dX2_firstError_10 : decode cX2_firstError 10 = .ok (.iconst 0, 1) := by decide +kernel
theorem dX2_firstError_11 : decode cX2_firstError 11 = .ok (.ireturn, 1) := by decide +kernel
theorem dX2_firstError_12 : decode cX2_firstError 12 = .ok (.iconst 0, 1) := by decide +kernel
theorem dX2_firstError_13 : decode cX2_firstError 13 = .ok (.istore_n 1, 1) := by decide +kernel
theorem dX2_firstError_14 : decode cX2_firstError 14 = .ok (.iconst 0, 1) := by decide +kernel
theorem dX2_firstError_15 : decode cX2_firstError 15 = .ok (.istore_n 2, 1) := by decide +kernel
theorem dX2_firstError_16 : decode cX2_firstError 16 = .ok (.iconst 1, 1) := by decide +kernel
theorem dX2_firstError_17 : decode cX2_firstError 17 = .ok (.istore_n 3, 1) := by decide +kernel
theorem dX2_firstError_18 : decode cX2_firstError 18 = .ok (.iload_n 3, 1) := by decide +kernel
theorem dX2_firstError_19 : decode cX2_firstError 19 = .ok (.aload_n 0, 1) := by decide +kernel
theorem dX2_firstError_20 : decode cX2_firstError 20 = .ok (.getfield 15, 3) := by decide +kernel
theorem dX2_firstError_23 : decode cX2_firstError 23 = .ok (.if_icmp .ge 48, 3) := by decide +kernel
theorem dX2_firstError_26 : decode cX2_firstError 26 = .ok (.iload_n 2, 1) := by decide +kernel
theorem dX2_firstError_27 : decode cX2_firstError 27 = .ok (.ifCond .le 20, 3) := by decide +kernel
theorem dX2_firstError_30 : decode cX2_firstError 30 = .ok (.aload_n 0, 1) := by decide +kernel
theorem dX2_firstError_31 : decode cX2_firstError 31 = .ok (.iload_n 1, 1) := by decide +kernel
theorem dX2_firstError_32 : decode cX2_firstError 32 = .ok (.iload_n 3, 1) := by decide +kernel
theorem dX2_firstError_33 : decode cX2_firstError 33 = .ok (.invokevirtual 27, 3) := by decide +kernel
theorem dX2_firstError_36 : decode cX2_firstError 36 = .ok (.ifCond .ne 5, 3) := by decide +kernel
theorem dX2_firstError_39 : decode cX2_firstError 39 = .ok (.iload_n 3, 1) := by decide +kernel
theorem dX2_firstError_40 : decode cX2_firstError 40 = .ok (.ireturn, 1) := by decide +kernel
theorem dX2_firstError_41 : decode cX2_firstError 41 = .ok (.iinc 2 (-1), 3) := by decide +kernel
theorem dX2_firstError_44 : decode cX2_firstError 44 = .ok (.goto 21, 3) := by decide +kernel
theorem dX2_firstError_47 : decode cX2_firstError 47 = .ok (.iload_n 3, 1) := by decide +kernel
theorem dX2_firstError_48 : decode cX2_firstError 48 = .ok (.istore_n 1, 1) := by decide +kernel
theorem dX2_firstError_49 : decode cX2_firstError 49 = .ok (.aload_n 0, 1) := by decide +kernel
theorem dX2_firstError_50 : decode cX2_firstError 50 = .ok (.iload_n 3, 1) := by decide +kernel
theorem dX2_firstError_51 : decode cX2_firstError 51 = .ok (.invokevirtual 19, 3) := by decide +kernel
theorem dX2_firstError_54 : decode cX2_firstError 54 = .ok (.invokestatic 31, 3) := by decide +kernel
theorem dX2_firstError_57 : decode cX2_firstError 57 = .ok (.istore_n 2, 1) := by decide +kernel
theorem dX2_firstError_58 : decode cX2_firstError 58 = .ok (.iload_n 2, 1) := by decide +kernel
theorem dX2_firstError_59 : decode cX2_firstError 59 = .ok (.iconst (-1), 1) := by decide +kernel
theorem dX2_firstError_60 : decode cX2_firstError 60 = .ok (.if_icmp .ne 5, 3) := by decide +kernel
theorem dX2_firstError_63 : decode cX2_firstError 63 = .ok (.iload_n 3, 1) := by decide +kernel
theorem dX2_firstError_64 : decode cX2_firstError 64 = .ok (.ireturn, 1) := by decide +kernel
theorem dX2_firstError_65 : decode cX2_firstError 65 = .ok (.iinc 3 1, 3) := by decide +kernel
theorem dX2_firstError_68 : decode cX2_firstError 68 = .ok (.goto (-50), 3) := by decide +kernel
theorem dX2_firstError_71 : decode cX2_firstError 71 = .ok (.iload_n 2, 1) := by decide +kernel
theorem dX2_firstError_72 : decode cX2_firstError 72 = .ok (.ifCond .le 10, 3) := by decide +kernel
theorem dX2_firstError_75 : decode cX2_firstError 75 = .ok (.aload_n 0, 1) := by decide +kernel
theorem dX2_firstError_76 : decode cX2_firstError 76 = .ok (.getfield 15, 3) := by decide +kernel
theorem dX2_firstError_79 : decode cX2_firstError 79 = .ok (.goto 4, 3) := by decide +kernel
theorem dX2_firstError_82 : decode cX2_firstError 82 = .ok (.iconst (-1), 1) := by decide +kernel
theorem dX2_firstError_83 : decode cX2_firstError 83 = .ok (.ireturn, 1) := by decide +kernel
theorem dX2_isAllowedDigit_0 : decode cX2_isAllowedDigit 0 = .ok (.aload_n 0, 1) := by decide +kernel
theorem dX2_isAllowedDigit_1 : decode cX2_isAllowedDigit 1 = .ok (.iload_n 2, 1) := by decide +kernel
theorem dX2_isAllowedDigit_2 : decode cX2_isAllowedDigit 2 = .ok (.invokevirtual 23, 3) := by decide +kernel
theorem dX2_isAllowedDigit_5 : decode cX2_isAllowedDigit 5 = .ok (.istore_n 3, 1) := by decide +kernel
theorem dX2_isAllowedDigit_6 : decode cX2_isAllowedDigit 6 = .ok (.iload_n 3, 1) := by decide +kernel
theorem dX2_isAllowedDigit_7 : decode cX2_isAllowedDigit 7 = .ok (.iconst (-1), 1) := by decide +kernel
theorem dX2_isAllowedDigit_8 : decode cX2_isAllowedDigit 8 = .ok (.if_icmp .eq 17, 3) := by decide +kernel
theorem dX2_isAllowedDigit_11 : decode cX2_isAllowedDigit 11 = .ok (.iload_n 3, 1) := by decide +kernel
theorem dX2_isAllowedDigit_12 : decode cX2_isAllowedDigit 12 = .ok (.aload_n 0, 1) := by decide +kernel
theorem dX2_isAllowedDigit_13 : decode cX2_isAllowedDigit 13 = .ok (.iload_n 1, 1) := by decide +kernel
theorem dX2_isAllowedDigit_14 : decode cX2_isAllowedDigit 14 = .ok (.iload_n 2, 1) := by decide +kernel
theorem dX2_isAllowedDigit_15 : decode cX2_isAllowedDigit 15 = .ok (.invokevirtual 35, 3) := by decide +kernel
theorem dX2_isAllowedDigit_18 : decode cX2_isAllowedDigit 18 = .ok (.if_icmp .gt 7, 3) := by decide +kernel
theorem dX2_isAllowedDigit_21 : decode cX2_isAllowedDigit 21 = .ok (.iconst 1, 1) := by decide +kernel
theorem dX2_isAllowedDigit_22 : decode cX2_isAllowedDigit 22 = .ok (.goto 4, 3) := by decide +kernel
theorem dX2_isAllowedDigit_25 : decode cX2_isAllowedDigit 25 = .ok (.iconst 0, 1) := by decide +kernel
theorem dX2_isAllowedDigit_26 : decode cX2_isAllowedDigit 26 = .ok (.ireturn, 1) := by decide +kernel
theorem dX2_highestDigit_0 : decode cX2_highestDigit 0 = .ok (.iload_n 2, 1) := by decide +kernel
theorem dX2_highestDigit_1 : decode cX2_highestDigit 1 = .ok (.iload_n 1, 1) := by decide +kernel
theorem dX2_highestDigit_2 : decode cX2_highestDigit 2 = .ok (.isub, 1) := by decide +kernel
theorem dX2_highestDigit_3 : decode cX2_highestDigit 3 = .ok (.istore_n 3, 1) := by decide +kernel
theorem dX2_highestDigit_4 : decode cX2_highestDigit 4 = .ok (.aload_n 0, 1) := by decide +kernel
theorem dX2_highestDigit_5 : decode cX2_highestDigit 5 = .ok (.iload_n 1, 1) := by decide +kernel
theorem dX2_highestDigit_6 : decode cX2_highestDigit 6 = .ok (.invokevirtual 19, 3) := by decide +kernel
theorem dX2_highestDigit_9 : decode cX2_highestDigit 9 = .ok (.bipush 119, 2) := by decide +kernel
theorem dX2_highestDigit_11 : decode cX2_highestDigit 11 = .ok (.if_icmp .ne 8, 3) := by decide +kernel
theorem dX2_highestDigit_14 : decode cX2_highestDigit 14 = .ok (.iload_n 3, 1) := by decide +kernel
theorem dX2_highestDigit_15 : decode cX2_highestDigit 15 = .ok (.iconst 1, 1) := by decide +kernel
theorem dX2_highestDigit_16 : decode cX2_highestDigit 16 = .ok (.if_icmp .ne 5, 3) := by decide +kernel
theorem dX2_highestDigit_19 : decode cX2_highestDigit 19 = .ok (.iconst 3, 1) := by decide +kernel
theorem dX2_highestDigit_20 : decode cX2_highestDigit 20 = .ok (.ireturn, 1) := by decide +kernel
theorem dX2_highestDigit_21 : decode cX2_highestDigit 21 = .ok (.iload_n 3, 1) := by decide +kernel
theorem dX2_highestDigit_22 : decode cX2_highestDigit 22 = .ok (.iconst 2, 1) := by decide +kernel
theorem dX2_highestDigit_23 : decode cX2_highestDigit 23 = .ok (.if_icmp .ne 5, 3) := by decide +kernel
theorem dX2_highestDigit_26 : decode cX2_highestDigit 26 = .ok (.iconst 1, 1) := by decide +kernel
theorem dX2_highestDigit_27 : decode cX2_highestDigit 27 = .ok (.ireturn, 1) := by decide +kernel
theorem dX2_highestDigit_28 : decode cX2_highestDigit 28 = .ok (.iload_n 3, 1) := by decide +kernel
theorem dX2_highestDigit_29 : decode cX2_highestDigit 29 = .ok (.iconst 3, 1) := by decide +kernel
theorem dX2_highestDigit_30 : decode cX2_highestDigit 30 = .ok (.if_icmp .ne 19, 3) := by decide +kernel
theorem dX2_highestDigit_33 : decode cX2_highestDigit 33 = .ok (.aload_n 0, 1) := by decide +kernel
theorem dX2_highestDigit_34 : decode cX2_highestDigit 34 = .ok (.iload_n 2, 1) := by decide +kernel
theorem dX2_highestDigit_35 : decode cX2_highestDigit 35 = .ok (.iconst 1, 1) := by decide +kernel
theorem dX2_highestDigit_36 : decode cX2_highestDigit 36 = .ok (.isub, 1) := by decide +kernel
theorem dX2_highestDigit_37 : decode cX2_highestDigit 37 = .ok (.invokevirtual 19, 3) := by decide +kernel
theorem dX2_highestDigit_40 : decode cX2_highestDigit 40 = .ok (.bipush 49, 2) := by decide +kernel
theorem dX2_highestDigit_42 : decode cX2_highestDigit 42 = .ok (.if_icmp .ne 7, 3) := by decide +kernel
theorem dX2_highestDigit_45 : decode cX2_highestDigit 45 = .ok (.iconst 5, 1) := by decide +kernel
theorem dX2_highestDigit_46 : decode cX2_highestDigit 46 = .ok (.goto 5, 3) := by decide +kernel
theorem dX2_highestDigit_49 : decode cX2_highestDigit 49 = .ok (.bipush 9, 2) := by decide +kernel
theorem dX2_highestDigit_51 : decode cX2_highestDigit 51 = .ok (.ireturn, 1) := by decide +kernel
theorem dX3_init_0 : decode cX3_init 0 = .ok (.aload_n 0, 1) := by decide +kernel
theorem dX3_init_1 : decode cX3_init 1 = .ok (.invokespecial 1, 3) := by decide +kernel
theorem dX3_init_4 : decode cX3_init 4 = .ok (.aload_n 0, 1) := by decide +kernel
theorem dX3_init_5 : decode cX3_init 5 = .ok (.new 7, 3) := by decide +kernel
theorem dX3_init_8 : decode cX3_init 8 = .ok (.dup, 1) := by decide +kernel
theorem dX3_init_9 : decode cX3_init 9 = .ok (.invokespecial 9, 3) := by decide +kernel
theorem dX3_init_12 : decode cX3_init 12 = .ok (.putfield 10, 3) := by decide +kernel
theorem dX3_init_15 : decode cX3_init 15 = .ok (.aload_n 0, 1) := by decide +kernel
theorem dX3_init_16 : decode cX3_init 16 = .ok (.new 16, 3) := by decide +kernel
theorem dX3_init_19 : decode cX3_init 19 = .ok (.dup, 1) := by decide +kernel
theorem dX3_init_20 : decode cX3_init 20 = .ok (.invokespecial 18, 3) := by decide +kernel
theorem dX3_init_23 : decode cX3_init 23 = .ok (.putfield 19, 3) := by decide +kernel
theorem dX3_init_26 : decode cX3_init 26 = .ok (.aload_n 0, 1) := by decide +kernel
theorem dX3_init_27 : decode cX3_init 27 = .ok (.new 16, 3) := by decide +kernel
theorem dX3_init_30 : decode cX3_init 30 = .ok (.dup, 1) := by decide +kernel
theorem dX3_init_31 : decode cX3_init 31 = .ok (.invokespecial 18, 3) := by decide +kernel
theorem dX3_init_34 : decode cX3_init 34 = .ok (.putfield 23, 3) := by decide +kernel
theorem dX3_init_37 : decode cX3_init 37 = .ok (.aload_n 0, 1) := by decide +kernel
theorem dX3_init_38 : decode cX3_init 38 = .ok (.new 26, 3) := by decide +kernel
theorem dX3_init_41 : decode cX3_init 41 = .ok (.dup, 1) := by decide +kernel
theorem dX3_init_42 : decode cX3_init 42 = .ok (.invokespecial 28, 3) := by decide +kernel
theorem dX3_init_45 : decode cX3_init 45 = .ok (.putfield 29, 3) := by decide +kernel
theorem dX3_init_48 : decode cX3_init 48 = .ok (.aload_n 0, 1) := by decide +kernel
theorem dX3_init_49 : decode cX3_init 49 = .ok (.iconst 2, 1) := by decide +kernel
theorem dX3_init_50 : decode cX3_init 50 = .ok (.anewarray 16, 3) := by decide +kernel
theorem dX3_init_53 : decode cX3_init 53 = .ok (.putfield 33, 3) := by decide +kernel
theorem dX3_init_56 : decode cX3_init 56 = .ok (.iconst 0, 1) := by decide +kernel
theorem dX3_init_57 : decode cX3_init 57 = .ok (.istore_n 1, 1) := by decide +kernel
theorem dX3_init_58 : decode cX3_init 58 = .ok (.iload_n 1, 1) := by decide +kernel
theorem dX3_init_59 : decode cX3_init 59 = .ok (.iconst 2, 1) := by decide +kernel
theorem dX3_init_60 : decode cX3_init 60 = .ok (.if_icmp .ge 22, 3) := by decide +kernel
theorem dX3_init_63 : decode cX3_init 63 = .ok (.aload_n 0, 1) := by decide +kernel
theorem dX3_init_64 : decode cX3_init 64 = .ok (.getfield 33, 3) := by decide +kernel
theorem dX3_init_67 : decode cX3_init 67 = .ok (.iload_n 1, 1) := by decide +kernel
theorem dX3_init_68 : decode cX3_init 68 = .ok (.new 16, 3) := by decide +kernel
theorem dX3_init_71 : decode cX3_init 71 = .ok (.dup, 1) := by decide +kernel
theorem dX3_init_72 : decode cX3_init 72 = .ok (.invokespecial 18, 3) := by decide +kernel
theorem dX3_init_75 : decode cX3_init 75 = .ok (.aastore, 1) := by decide +kernel
theorem dX3_init_76 : decode cX3_init 76 = .ok (.iinc 1 1, 3) := by decide +kernel
theorem dX3_init_79 : decode cX3_init 79 = .ok (.goto (-21), 3) := by decide +kernel
theorem dX3_init_82 : decode cX3_init 82 = .ok (.aload_n 0, 1) := by decide +kernel
theorem dX3_init_83 : decode cX3_init 83 = .ok (.iconst 2, 1) := by decide +kernel
theorem dX3_init_84 : decode cX3_init 84 = .ok (.newarray .boolean, 2) := by decide +kernel
theorem dX3_init_86 : decode cX3_init 86 = .ok (.putfield 37, 3) := by decide +kernel
theorem dX3_init_89 : decode cX3_init 89 = .ok (.return_, 1) := by decide +kernel
theorem dX3_append_0 : decode cX3_append 0 = .ok (.iload_n 1, 1) := by decide +kernel
theorem dX3_append_1 : decode cX3_append 1 = .ok (.ifCond .lt 10, 3) := by decide +kernel
theorem dX3_append_4 : decode cX3_append 4 = .ok (.iload_n 1, 1) := by decide +kernel
theorem dX3_append_5 : decode cX3_append 5 = .ok (.sipush 255, 3) := by decide +kernel
theorem dX3_append_8 : decode cX3_append 8 = .ok (.if_icmp .le 13, 3) := by decide +kernel
theorem dX3_append_11 : decode cX3_append 11 = .ok (.new 41, 3) := by decide +kernel
theorem dX3_append_14 : decode cX3_append 14 = .ok (.dup, 1) := by decide +kernel
theorem dX3_append_15 : decode cX3_append 15 = .ok (.ldc 43, 2) := by decide +kernel
theorem dX3_append_17 : decode cX3_append 17 = .ok (.invokespecial 45, 3) := by decide +kernel
theorem dX3_append_20 : decode cX3_append 20 = .ok (.athrow, 1) := by decide +kernel
theorem dX3_append_21 : decode cX3_append 21 = .ok (.aload_n 0, 1) := by decide +kernel
theorem dX3_append_22 : decode cX3_append 22 = .ok (.getfield 10, 3) := by decide +kernel
theorem dX3_append_25 : decode cX3_append 25 = .ok (.invokevirtual 48, 3) := by decide +kernel
theorem dX3_append_28 : decode cX3_append 28 = .ok (.bipush 100, 2) := by decide +kernel
theorem dX3_append_30 : decode cX3_append 30 = .ok (.if_icmp .lt 13, 3) := by decide +kernel
theorem dX3_append_33 : decode cX3_append 33 = .ok (.new 52, 3) := by decide +kernel
theorem dX3_append_36 : decode cX3_append 36 = .ok (.dup, 1) := by decide +kernel
theorem dX3_append_37 : decode cX3_append 37 = .ok (.ldc 54, 2) := by decide +kernel
theorem dX3_append_39 : decode cX3_append 39 = .ok (.invokespecial 56, 3) := by decide +kernel
theorem dX3_append_42 : decode cX3_append 42 = .ok (.athrow, 1) := by decide +kernel
theorem dX3_append_43 : decode cX3_append 43 = .ok (.aload_n 0, 1) := by decide +kernel
theorem dX3_append_44 : decode cX3_append 44 = .ok (.getfield 10, 3) := by decide +kernel
theorem dX3_append_47 : decode cX3_append 47 = .ok (.iload_n 1, 1) := by decide +kernel
theorem dX3_append_48 : decode cX3_append 48 = .ok (.i2c, 1) := by decide +kernel
theorem dX3_append_49 : decode cX3_append 49 = .ok (.invokevirtual 57, 3) := by decide +kernel
theorem dX3_append_52 : decode cX3_append 52 = .ok (.ireturn, 1) := by decide +kernel
theorem dX3_clearText_0 : decode cX3_clearText 0 = .ok (.aload_n 0, 1) := by decide +kernel
theorem dX3_clearText_1 : decode cX3_clearText 1 = .ok (.getfield 10, 3) := by decide +kernel
theorem dX3_clearText_4 : decode cX3_clearText 4 = .ok (.invokevirtual 61, 3) := by decide +kernel
theorem dX3_clearText_7 : decode cX3_clearText 7 = .ok (.ireturn, 1) := by decide +kernel
theorem dX3_errorPosition_0 : decode cX3_errorPosition 0 = .ok (.aload_n 0, 1) := by decide +kernel
theorem dX3_errorPosition_1 : decode cX3_errorPosition 1 = .ok (.getfield 10, 3) := by decide +kernel
theorem dX3_errorPosition_4 : decode cX3_errorPosition 4 = .ok (.invokevirtual 64, 3) := by decide +kernel
theorem dX3_errorPosition_7 : decode cX3_errorPosition 7 = .ok (.ireturn, 1) := by decide +kernel
theorem dX3_load_0 : decode cX3_load 0 = .ok (.aload_n 0, 1) := by decide +kernel
theorem dX3_load_1 : decode cX3_load 1 = .ok (.getfield 10, 3) := by decide +kernel
theorem dX3_load_4 : decode cX3_load 4 = .ok (.invokevirtual 64, 3) := by decide +kernel
theorem dX3_load_7 : decode cX3_load 7 = .ok (.iconst (-1), 1) := by decide +kernel
theorem dX3_load_8 : decode cX3_load 8 = .ok (.if_icmp .eq 13, 3) := by decide +kernel
theorem dX3_load_11 : decode cX3_load 11 = .ok (.new 52, 3) := by decide +kernel
theorem dX3_load_14 : decode cX3_load 14 = .ok (.dup, 1) := by decide +kernel
theorem dX3_load_15 : decode cX3_load 15 = .ok (.ldc 67, 2) := by decide +kernel
theorem dX3_load_17 : decode cX3_load 17 = .ok (.invokespecial 56, 3) := by decide +kernel
theorem dX3_load_20 : decode cX3_load 20 = .ok (.athrow, 1) := by decide +kernel
theorem dX3_load_21 : decode cX3_load 21 = .ok (.aload_n 0, 1) := by decide +kernel
theorem dX3_load_22 : decode cX3_load 22 = .ok (.getfield 19, 3) := by decide +kernel
theorem dX3_load_25 : decode cX3_load 25 = .ok (.invokevirtual 69, 3) := by decide +kernel
theorem dX3_load_28 : decode cX3_load 28 = .ok (.aload_n 0, 1) := by decide +kernel
theorem dX3_load_29 : decode cX3_load 29 = .ok (.getfield 29, 3) := by decide +kernel
theorem dX3_load_32 : decode cX3_load 32 = .ok (.invokevirtual 72, 3) := by decide +kernel
theorem dX3_load_35 : decode cX3_load 35 = .ok (.iconst 0, 1) := by decide +kernel
theorem dX3_load_36 : decode cX3_load 36 = .ok (.istore_n 1, 1) := by decide +kernel
theorem dX3_load_37 : decode cX3_load 37 = .ok (.iload_n 1, 1) := by decide +kernel
theorem dX3_load_38 : decode cX3_load 38 = .ok (.iconst 2, 1) := by decide +kernel
theorem dX3_load_39 : decode cX3_load 39 = .ok (.if_icmp .ge 16, 3) := by decide +kernel
theorem dX3_load_42 : decode cX3_load 42 = .ok (.aload_n 0, 1) := by decide +kernel
theorem dX3_load_43 : decode cX3_load 43 = .ok (.getfield 37, 3) := by decide +kernel
theorem dX3_load_46 : decode cX3_load 46 = .ok (.iload_n 1, 1) := by decide +kernel
theorem dX3_load_47 : decode cX3_load 47 = .ok (.iconst 0, 1) := by decide +kernel
theorem dX3_load_48 : decode cX3_load 48 = .ok (.bastore, 1) := by decide +kernel
theorem dX3_load_49 : decode cX3_load 49 = .ok (.iinc 1 1, 3) := by decide +kernel
theorem dX3_load_52 : decode cX3_load 52 = .ok (.goto (-15), 3) := by decide +kernel
theorem dX3_load_55 : decode cX3_load 55 = .ok (.iconst 0, 1) := by decide +kernel
theorem dX3_load_56 : decode cX3_load 56 = .ok (.istore_n 1, 1) := by decide +kernel
theorem dX3_load_57 : decode cX3_load 57 = .ok (.iconst 1, 1) := by decide +kernel
theorem dX3_load_58 : decode cX3_load 58 = .ok (.istore_n 2, 1) := by decide +kernel
theorem dX3_load_59 : decode cX3_load 59 = .ok (.iload_n 2, 1) := by decide +kernel
theorem dX3_load_60 : decode cX3_load 60 = .ok (.aload_n 0, 1) := by decide +kernel
theorem dX3_load_61 : decode cX3_load 61 = .ok (.getfield 10, 3) := by decide +kernel
theorem dX3_load_64 : decode cX3_load 64 = .ok (.invokevirtual 48, 3) := by decide +kernel
theorem dX3_load_67 : decode cX3_load 67 = .ok (.if_icmp .ge 35, 3) := by decide +kernel
theorem dX3_load_70 : decode cX3_load 70 = .ok (.aload_n 0, 1) := by decide +kernel
theorem dX3_load_71 : decode cX3_load 71 = .ok (.getfield 10, 3) := by decide +kernel
theorem dX3_load_74 : decode cX3_load 74 = .ok (.iload_n 2, 1) := by decide +kernel
theorem dX3_load_75 : decode cX3_load 75 = .ok (.invokevirtual 75, 3) := by decide +kernel
theorem dX3_load_78 : decode cX3_load 78 = .ok (.invokestatic 79, 3) := by decide +kernel
theorem dX3_load_81 : decode cX3_load 81 = .ok (.iconst (-1), 1) := by decide +kernel
theorem dX3_load_82 : decode cX3_load 82 = .ok (.if_icmp .eq 14, 3) := by decide +kernel
theorem dX3_load_85 : decode cX3_load 85 = .ok (.aload_n 0, 1) := by decide +kernel
theorem dX3_load_86 : decode cX3_load 86 = .ok (.iload_n 2, 1) := by decide +kernel
theorem dX3_load_87 : decode cX3_load 87 = .ok (.invokevirtual 82, 3) := by decide +kernel
theorem dX3_load_90 : decode cX3_load 90 = .ok (.ifCond .ne 6, 3) := by decide +kernel
theorem dX3_load_93 : decode cX3_load 93 = .ok (.iinc 1 1, 3) := by decide +kernel
theorem dX3_load_96 : decode cX3_load 96 = .ok (.iinc 2 1, 3) := by decide +kernel
theorem dX3_load_99 : decode cX3_load 99 = .ok (.goto (-40), 3) := by decide +kernel
theorem dX3_load_102 : decode cX3_load 102 = .ok (.iload_n 1, 1) := by decide +kernel
theorem dX3_load_103 : decode cX3_load 103 = .ok (.ireturn, 1) := by decide +kernel
theorem dX3_about_0 : decode cX3_about 0 = .ok (.iload_n 1, 1) := by decide +kernel
theorem dX3_about_1 : decode cX3_about 1 = .ok (.tableswitch 155 0 10 #[59, 67, 75, 83, 91, 99, 107, 115, 123, 131, 139], 59) := by decide +kernel
theorem dX3_about_60 : decode cX3_about 60 = .ok (.aload_n 0, 1) := by decide +kernel
theorem dX3_about_61 : decode cX3_about 61 = .ok (.getfield 19, 3) := by decide +kernel
theorem dX3_about_64 : decode cX3_about 64 = .ok (.invokevirtual 86, 3) := by decide +kernel
theorem dX3_about_67 : decode cX3_about 67 = .ok (.ireturn, 1) := by decide +kernel
theorem dX3_about_68 : decode cX3_about 68 = .ok (.aload_n 0, 1) := by decide +kernel
theorem dX3_about_69 : decode cX3_about 69 = .ok (.getfield 19, 3) := by decide +kernel
theorem dX3_about_72 : decode cX3_about 72 = .ok (.invokevirtual 89, 3) := by decide +kernel
theorem dX3_about_75 : decode cX3_about 75 = .ok (.ireturn, 1) := by decide +kernel
theorem dX3_about_76 : decode cX3_about 76 = .ok (.aload_n 0, 1) := by decide +kernel
theorem dX3_about_77 : decode cX3_about 77 = .ok (.getfield 19, 3) := by decide +kernel
theorem dX3_about_80 : decode cX3_about 80 = .ok (.invokevirtual 92, 3) := by decide +kernel
theorem dX3_about_83 : decode cX3_about 83 = .ok (.ireturn, 1) := by decide +kernel
theorem dX3_about_84 : decode cX3_about 84 = .ok (.aload_n 0, 1) := by decide +kernel
theorem dX3_about_85 : decode cX3_about 85 = .ok (.getfield 19, 3) := by decide +kernel
theorem dX3_about_88 : decode cX3_about 88 = .ok (.invokevirtual 95, 3) := by decide +kernel
theorem dX3_about_91 : decode cX3_about 91 = .ok (.ireturn, 1) := by decide +kernel
theorem dX3_about_92 : decode cX3_about 92 = .ok (.aload_n 0, 1) := by decide +kernel
theorem dX3_about_93 : decode cX3_about 93 = .ok (.getfield 19, 3) := by decide +kernel
theorem dX3_about_96 : decode cX3_about 96 = .ok (.invokevirtual 98, 3) := by decide +kernel
theorem dX3_about_99 : decode cX3_about 99 = .ok (.ireturn, 1) := by decide +kernel
theorem dX3_about_100 : decode cX3_about 100 = .ok (.aload_n 0, 1) := by decide +kernel
theorem dX3_about_101 : decode cX3_about 101 = .ok (.getfield 19, 3) := by decide +kernel
theorem dX3_about_104 : decode cX3_about 104 = .ok (.invokevirtual 101, 3) := by decide +kernel
theorem dX3_about_107 : decode cX3_about 107 = .ok (.ireturn, 1) := by decide +kernel
theorem dX3_about_108 : decode cX3_about 108 = .ok (.aload_n 0, 1) := by decide +kernel
theorem dX3_about_109 : decode cX3_about 109 = .ok (.getfield 19, 3) := by decide +kernel
theorem dX3_about_112 : decode cX3_about 112 = .ok (.getfield 104, 3) := by decide +kernel
theorem dX3_about_115 : decode cX3_about 115 = .ok (.ireturn, 1) := by decide +kernel
theorem dX3_about_116 : decode cX3_about 116 = .ok (.aload_n 0, 1) := by decide +kernel
theorem dX3_about_117 : decode cX3_about 117 = .ok (.getfield 19, 3) := by decide +kernel
theorem dX3_about_120 : decode cX3_about 120 = .ok (.getfield 108, 3) := by decide +kernel
theorem dX3_about_123 : decode cX3_about 123 = .ok (.ireturn, 1) := by decide +kernel
theorem dX3_about_124 : decode cX3_about 124 = .ok (.aload_n 0, 1) := by decide +kernel
theorem dX3_about_125 : decode cX3_about 125 = .ok (.getfield 19, 3) := by decide +kernel
theorem dX3_about_128 : decode cX3_about 128 = .ok (.getfield 111, 3) := by decide +kernel
theorem dX3_about_131 : decode cX3_about 131 = .ok (.ireturn, 1) := by decide +kernel
theorem dX3_about_132 : decode cX3_about 132 = .ok (.aload_n 0, 1) := by decide +kernel
theorem dX3_about_133 : decode cX3_about 133 = .ok (.getfield 19, 3) := by decide +kernel
theorem dX3_about_136 : decode cX3_about 136 = .ok (.getfield 114, 3) := by decide +kernel
theorem dX3_about_139 : decode cX3_about 139 = .ok (.ireturn, 1) := by decide +kernel
theorem dX3_about_140 : decode cX3_about 140 = .ok (.aload_n 0, 1) := by decide +kernel
theorem dX3_about_141 : decode cX3_about 141 = .ok (.getfield 19, 3) := by decide +kernel
theorem dX3_about_144 : decode cX3_about 144 = .ok (.getfield 117, 3) := by decide +kernel
theorem dX3_about_147 : decode cX3_about 147 = .ok (.ifCond .eq 7, 3) := by decide +kernel
theorem dX3_about_150 : decode cX3_about 150 = .ok (.iconst 1, 1) := by decide +kernel
theorem dX3_about_151 : decode cX3_about 151 = .ok (.goto 4, 3) := by decide +kernel
theorem dX3_about_154 : decode cX3_about 154 = .ok (.iconst 0, 1) := by decide +kernel
theorem dX3_about_155 : decode cX3_about 155 = .ok (.ireturn, 1) := by decide +kernel
theorem dX3_about_156 : decode cX3_about 156 = .ok (.new 41, 3) := by decide +kernel
theorem dX3_about_159 : decode cX3_about 159 = .ok (.dup, 1) := by decide +kernel
theorem dX3_about_160 : decode cX3_about 160 = .ok (.ldc 121, 2) := by decide +kernel
theorem dX3_about_162 : decode cX3_about 162 = .ok (.invokespecial 45, 3) := by decide +kernel
theorem dX3_about_165 : decode cX3_about 165 = .ok (.athrow, 1) := by decide +kernel
theorem dX3_page_0 : decode cX3_page 0 = .ok (.aload_n 0, 1) := by decide +kernel
theorem dX3_page_1 : decode cX3_page 1 = .ok (.iload_n 1, 1) := by decide +kernel
theorem dX3_page_2 : decode cX3_page 2 = .ok (.iload_n 2, 1) := by decide +kernel
theorem dX3_page_3 : decode cX3_page 3 = .ok (.invokevirtual 123, 3) := by decide +kernel
theorem dX3_page_6 : decode cX3_page 6 = .ok (.iload_n 3, 1) := by decide +kernel
theorem dX3_page_7 : decode cX3_page 7 = .ok (.tableswitch 79 0 3 #[29, 39, 49, 59], 29) := by decide +kernel
theorem dX3_page_36 : decode cX3_page 36 = .ok (.aload_n 0, 1) := by decide +kernel
theorem dX3_page_37 : decode cX3_page 37 = .ok (.getfield 19, 3) := by decide +kernel
theorem dX3_page_40 : decode cX3_page 40 = .ok (.iload_n 1, 1) := by decide +kernel
theorem dX3_page_41 : decode cX3_page 41 = .ok (.iload_n 2, 1) := by decide +kernel
theorem dX3_page_42 : decode cX3_page 42 = .ok (.invokevirtual 127, 3) := by decide +kernel
theorem dX3_page_45 : decode cX3_page 45 = .ok (.ireturn, 1) := by decide +kernel
theorem dX3_page_46 : decode cX3_page 46 = .ok (.aload_n 0, 1) := by decide +kernel
theorem dX3_page_47 : decode cX3_page 47 = .ok (.getfield 19, 3) := by decide +kernel
theorem dX3_page_50 : decode cX3_page 50 = .ok (.iload_n 1, 1) := by decide +kernel
theorem dX3_page_51 : decode cX3_page 51 = .ok (.iload_n 2, 1) := by decide +kernel
theorem dX3_page_52 : decode cX3_page 52 = .ok (.invokevirtual 131, 3) := by decide +kernel
theorem dX3_page_55 : decode cX3_page 55 = .ok (.ireturn, 1) := by decide +kernel
theorem dX3_page_56 : decode cX3_page 56 = .ok (.aload_n 0, 1) := by decide +kernel
theorem dX3_page_57 : decode cX3_page 57 = .ok (.getfield 19, 3) := by decide +kernel
theorem dX3_page_60 : decode cX3_page 60 = .ok (.iload_n 1, 1) := by decide +kernel
theorem dX3_page_61 : decode cX3_page 61 = .ok (.iload_n 2, 1) := by decide +kernel
theorem dX3_page_62 : decode cX3_page 62 = .ok (.invokevirtual 134, 3) := by decide +kernel
theorem dX3_page_65 : decode cX3_page 65 = .ok (.ireturn, 1) := by decide +kernel
theorem dX3_page_66 : decode cX3_page 66 = .ok (.aload_n 0, 1) := by decide +kernel
theorem dX3_page_67 : decode cX3_page 67 = .ok (.getfield 19, 3) := by decide +kernel
theorem dX3_page_70 : decode cX3_page 70 = .ok (.iload_n 1, 1) := by decide +kernel
theorem dX3_page_71 : decode cX3_page 71 = .ok (.iload_n 2, 1) := by decide +kernel
theorem dX3_page_72 : decode cX3_page 72 = .ok (.iconst 4, 1) := by decide +kernel
theorem dX3_page_73 : decode cX3_page 73 = .ok (.idiv, 1) := by decide +kernel
theorem dX3_page_74 : decode cX3_page 74 = .ok (.invokevirtual 137, 3) := by decide +kernel
theorem dX3_page_77 : decode cX3_page 77 = .ok (.ifCond .eq 7, 3) := by decide +kernel
theorem dX3_page_80 : decode cX3_page 80 = .ok (.iconst 1, 1) := by decide +kernel
theorem dX3_page_81 : decode cX3_page 81 = .ok (.goto 4, 3) := by decide +kernel
theorem dX3_page_84 : decode cX3_page 84 = .ok (.iconst 0, 1) := by decide +kernel
theorem dX3_page_85 : decode cX3_page 85 = .ok (.ireturn, 1) := by decide +kernel
theorem dX3_page_86 : decode cX3_page 86 = .ok (.new 41, 3) := by decide +kernel
theorem dX3_page_89 : decode cX3_page 89 = .ok (.dup, 1) := by decide +kernel
theorem dX3_page_90 : decode cX3_page 90 = .ok (.ldc 141, 2) := by decide +kernel
theorem dX3_page_92 : decode cX3_page 92 = .ok (.invokespecial 45, 3) := by decide +kernel
theorem dX3_page_95 : decode cX3_page 95 = .ok (.athrow, 1) := by decide +kernel
theorem dX3_user_0 : decode cX3_user 0 = .ok (.iload_n 1, 1) := by decide +kernel
theorem dX3_user_1 : decode cX3_user 1 = .ok (.ifCond .lt 9, 3) := by decide +kernel
theorem dX3_user_4 : decode cX3_user 4 = .ok (.iload_n 1, 1) := by decide +kernel
theorem dX3_user_5 : decode cX3_user 5 = .ok (.bipush 32, 2) := by decide +kernel
theorem dX3_user_7 : decode cX3_user 7 = .ok (.if_icmp .lt 13, 3) := by decide +kernel
theorem dX3_user_10 : decode cX3_user 10 = .ok (.new 143, 3) := by decide +kernel
theorem dX3_user_13 : decode cX3_user 13 = .ok (.dup, 1) := by decide +kernel
theorem dX3_user_14 : decode cX3_user 14 = .ok (.ldc 145, 2) := by decide +kernel
theorem dX3_user_16 : decode cX3_user 16 = .ok (.invokespecial 147, 3) := by decide +kernel
theorem dX3_user_19 : decode cX3_user 19 = .ok (.athrow, 1) := by decide +kernel
theorem dX3_user_20 : decode cX3_user 20 = .ok (.iload_n 2, 1) := by decide +kernel
theorem dX3_user_21 : decode cX3_user 21 = .ok (.ifCond .ge 13, 3) := by decide +kernel
theorem dX3_user_24 : decode cX3_user 24 = .ok (.new 41, 3) := by decide +kernel
theorem dX3_user_27 : decode cX3_user 27 = .ok (.dup, 1) := by decide +kernel
theorem dX3_user_28 : decode cX3_user 28 = .ok (.ldc 148, 2) := by decide +kernel
theorem dX3_user_30 : decode cX3_user 30 = .ok (.invokespecial 45, 3) := by decide +kernel
theorem dX3_user_33 : decode cX3_user 33 = .ok (.athrow, 1) := by decide +kernel
theorem dX3_user_34 : decode cX3_user 34 = .ok (.aload_n 0, 1) := by decide +kernel
theorem dX3_user_35 : decode cX3_user 35 = .ok (.getfield 19, 3) := by decide +kernel
theorem dX3_user_38 : decode cX3_user 38 = .ok (.iload_n 1, 1) := by decide +kernel
theorem dX3_user_39 : decode cX3_user 39 = .ok (.iload_n 2, 1) := by decide +kernel
theorem dX3_user_40 : decode cX3_user 40 = .ok (.invokevirtual 150, 3) := by decide +kernel
theorem dX3_user_43 : decode cX3_user 43 = .ok (.ireturn, 1) := by decide +kernel
theorem dX3_group_0 : decode cX3_group 0 = .ok (.aload_n 0, 1) := by decide +kernel
theorem dX3_group_1 : decode cX3_group 1 = .ok (.iload_n 1, 1) := by decide +kernel
theorem dX3_group_2 : decode cX3_group 2 = .ok (.iload_n 2, 1) := by decide +kernel
theorem dX3_group_3 : decode cX3_group 3 = .ok (.invokevirtual 153, 3) := by decide +kernel
theorem dX3_group_6 : decode cX3_group 6 = .ok (.iload_n 3, 1) := by decide +kernel
theorem dX3_group_7 : decode cX3_group 7 = .ok (.tableswitch 99 0 4 #[33, 43, 61, 79, 89], 33) := by decide +kernel
theorem dX3_group_40 : decode cX3_group 40 = .ok (.aload_n 0, 1) := by decide +kernel
theorem dX3_group_41 : decode cX3_group 41 = .ok (.getfield 19, 3) := by decide +kernel
theorem dX3_group_44 : decode cX3_group 44 = .ok (.iload_n 1, 1) := by decide +kernel
theorem dX3_group_45 : decode cX3_group 45 = .ok (.iload_n 2, 1) := by decide +kernel
theorem dX3_group_46 : decode cX3_group 46 = .ok (.invokevirtual 156, 3) := by decide +kernel
theorem dX3_group_49 : decode cX3_group 49 = .ok (.ireturn, 1) := by decide +kernel
theorem dX3_group_50 : decode cX3_group 50 = .ok (.aload_n 0, 1) := by decide +kernel
theorem dX3_group_51 : decode cX3_group 51 = .ok (.getfield 19, 3) := by decide +kernel
theorem dX3_group_54 : decode cX3_group 54 = .ok (.iload_n 1, 1) := by decide +kernel
theorem dX3_group_55 : decode cX3_group 55 = .ok (.iload_n 2, 1) := by decide +kernel
theorem dX3_group_56 : decode cX3_group 56 = .ok (.invokevirtual 137, 3) := by decide +kernel
theorem dX3_group_59 : decode cX3_group 59 = .ok (.ifCond .eq 7, 3) := by decide +kernel
theorem dX3_group_62 : decode cX3_group 62 = .ok (.iconst 1, 1) := by decide +kernel
theorem dX3_group_63 : decode cX3_group 63 = .ok (.goto 4, 3) := by decide +kernel
theorem dX3_group_66 : decode cX3_group 66 = .ok (.iconst 0, 1) := by decide +kernel
theorem dX3_group_67 : decode cX3_group 67 = .ok (.ireturn, 1) := by decide +kernel
theorem dX3_group_68 : decode cX3_group 68 = .ok (.aload_n 0, 1) := by decide +kernel
theorem dX3_group_69 : decode cX3_group 69 = .ok (.getfield 19, 3) := by decide +kernel
theorem dX3_group_72 : decode cX3_group 72 = .ok (.iload_n 1, 1) := by decide +kernel
theorem dX3_group_73 : decode cX3_group 73 = .ok (.iload_n 2, 1) := by decide +kernel
theorem dX3_group_74 : decode cX3_group 74 = .ok (.invokevirtual 159, 3) := by decide +kernel
theorem dX3_group_77 : decode cX3_group 77 = .ok (.ifCond .eq 7, 3) := by decide +kernel
theorem dX3_group_80 : decode cX3_group 80 = .ok (.iconst 1, 1) := by decide +kernel
theorem dX3_group_81 : decode cX3_group 81 = .ok (.goto 4, 3) := by decide +kernel
theorem dX3_group_84 : decode cX3_group 84 = .ok (.iconst 0, 1) := by decide +kernel
theorem dX3_group_85 : decode cX3_group 85 = .ok (.ireturn, 1) := by decide +kernel
theorem dX3_group_86 : decode cX3_group 86 = .ok (.aload_n 0, 1) := by decide +kernel
theorem dX3_group_87 : decode cX3_group 87 = .ok (.getfield 19, 3) := by decide +kernel
theorem dX3_group_90 : decode cX3_group 90 = .ok (.iload_n 1, 1) := by decide +kernel
theorem dX3_group_91 : decode cX3_group 91 = .ok (.iload_n 2, 1) := by decide +kernel
theorem dX3_group_92 : decode cX3_group 92 = .ok (.invokevirtual 162, 3) := by decide +kernel
theorem dX3_group_95 : decode cX3_group 95 = .ok (.ireturn, 1) := by decide +kernel
theorem dX3_group_96 : decode cX3_group 96 = .ok (.aload_n 0, 1) := by decide +kernel
theorem dX3_group_97 : decode cX3_group 97 = .ok (.getfield 19, 3) := by decide +kernel
theorem dX3_group_100 : decode cX3_group 100 = .ok (.iload_n 1, 1) := by decide +kernel
theorem dX3_group_101 : decode cX3_group 101 = .ok (.iload_n 2, 1) := by decide +kernel
theorem dX3_group_102 : decode cX3_group 102 = .ok (.invokevirtual 165, 3) := by decide +kernel
theorem dX3_group_105 : decode cX3_group 105 = .ok (.ireturn, 1) := by decide +kernel
theorem dX3_group_106 : decode cX3_group 106 = .ok (.new 41, 3) := by decide +kernel
theorem dX3_group_109 : decode cX3_group 109 = .ok (.dup, 1) := by decide +kernel
theorem dX3_group_110 : decode cX3_group 110 = .ok (.ldc 168, 2) := by decide +kernel
theorem dX3_group_112 : decode cX3_group 112 = .ok (.invokespecial 45, 3) := by decide +kernel
theorem dX3_group_115 : decode cX3_group 115 = .ok (.athrow, 1) := by decide +kernel
theorem dX3_write_0 : decode cX3_write 0 = .ok (.aload_n 0, 1) := by decide +kernel
theorem dX3_write_1 : decode cX3_write 1 = .ok (.iload_n 1, 1) := by decide +kernel
theorem dX3_write_2 : decode cX3_write 2 = .ok (.iload_n 2, 1) := by decide +kernel
theorem dX3_write_3 : decode cX3_write 3 = .ok (.invokevirtual 123, 3) := by decide +kernel
theorem dX3_write_6 : decode cX3_write 6 = .ok (.iload_n 3, 1) := by decide +kernel
theorem dX3_write_7 : decode cX3_write 7 = .ok (.ifCond .lt 9, 3) := by decide +kernel
theorem dX3_write_10 : decode cX3_write 10 = .ok (.iload_n 3, 1) := by decide +kernel
theorem dX3_write_11 : decode cX3_write 11 = .ok (.bipush 100, 2) := by decide +kernel
theorem dX3_write_13 : decode cX3_write 13 = .ok (.if_icmp .lt 13, 3) := by decide +kernel
theorem dX3_write_16 : decode cX3_write 16 = .ok (.new 41, 3) := by decide +kernel
theorem dX3_write_19 : decode cX3_write 19 = .ok (.dup, 1) := by decide +kernel
theorem dX3_write_20 : decode cX3_write 20 = .ok (.ldc 170, 2) := by decide +kernel
theorem dX3_write_22 : decode cX3_write 22 = .ok (.invokespecial 45, 3) := by decide +kernel
theorem dX3_write_25 : decode cX3_write 25 = .ok (.athrow, 1) := by decide +kernel
theorem dX3_write_26 : decode cX3_write 26 = .ok (.aload_n 0, 1) := by decide +kernel
theorem dX3_write_27 : decode cX3_write 27 = .ok (.getfield 19, 3) := by decide +kernel
theorem dX3_write_30 : decode cX3_write 30 = .ok (.iload_n 1, 1) := by decide +kernel
theorem dX3_write_31 : decode cX3_write 31 = .ok (.iload_n 2, 1) := by decide +kernel
theorem dX3_write_32 : decode cX3_write 32 = .ok (.invokevirtual 172, 3) := by decide +kernel
theorem dX3_write_35 : decode cX3_write 35 = .ok (.iconst (-1), 1) := by decide +kernel
theorem dX3_write_36 : decode cX3_write 36 = .ok (.if_icmp .ne 13, 3) := by decide +kernel
theorem dX3_write_39 : decode cX3_write 39 = .ok (.new 52, 3) := by decide +kernel
theorem dX3_write_42 : decode cX3_write 42 = .ok (.dup, 1) := by decide +kernel
theorem dX3_write_43 : decode cX3_write 43 = .ok (.ldc 175, 2) := by decide +kernel
theorem dX3_write_45 : decode cX3_write 45 = .ok (.invokespecial 56, 3) := by decide +kernel
theorem dX3_write_48 : decode cX3_write 48 = .ok (.athrow, 1) := by decide +kernel
theorem dX3_write_49 : decode cX3_write 49 = .ok (.aload_n 0, 1) := by decide +kernel
theorem dX3_write_50 : decode cX3_write 50 = .ok (.getfield 29, 3) := by decide +kernel
theorem dX3_write_53 : decode cX3_write 53 = .ok (.aload_n 0, 1) := by decide +kernel
theorem dX3_write_54 : decode cX3_write 54 = .ok (.getfield 19, 3) := by decide +kernel
theorem dX3_write_57 : decode cX3_write 57 = .ok (.invokevirtual 177, 3) := by decide +kernel
theorem dX3_write_60 : decode cX3_write 60 = .ok (.aload_n 0, 1) := by decide +kernel
theorem dX3_write_61 : decode cX3_write 61 = .ok (.getfield 19, 3) := by decide +kernel
theorem dX3_write_64 : decode cX3_write 64 = .ok (.iload_n 1, 1) := by decide +kernel
theorem dX3_write_65 : decode cX3_write 65 = .ok (.iload_n 2, 1) := by decide +kernel
theorem dX3_write_66 : decode cX3_write 66 = .ok (.iload_n 3, 1) := by decide +kernel
theorem dX3_write_67 : decode cX3_write 67 = .ok (.invokevirtual 181, 3) := by decide +kernel
theorem dX3_write_70 : decode cX3_write 70 = .ok (.ireturn, 1) := by decide +kernel
theorem dX3_fork_0 : decode cX3_fork 0 = .ok (.aload_n 0, 1) := by decide +kernel
theorem dX3_fork_1 : decode cX3_fork 1 = .ok (.iload_n 1, 1) := by decide +kernel
theorem dX3_fork_2 : decode cX3_fork 2 = .ok (.invokevirtual 185, 3) := by decide +kernel
theorem dX3_fork_5 : decode cX3_fork 5 = .ok (.aload_n 0, 1) := by decide +kernel
theorem dX3_fork_6 : decode cX3_fork 6 = .ok (.getfield 19, 3) := by decide +kernel
theorem dX3_fork_9 : decode cX3_fork 9 = .ok (.iload_n 1, 1) := by decide +kernel
theorem dX3_fork_10 : decode cX3_fork 10 = .ok (.invokevirtual 189, 3) := by decide +kernel
theorem dX3_fork_13 : decode cX3_fork 13 = .ok (.ifCond .ne 13, 3) := by decide +kernel
theorem dX3_fork_16 : decode cX3_fork 16 = .ok (.new 52, 3) := by decide +kernel
theorem dX3_fork_19 : decode cX3_fork 19 = .ok (.dup, 1) := by decide +kernel
theorem dX3_fork_20 : decode cX3_fork 20 = .ok (.ldc 192, 2) := by decide +kernel
theorem dX3_fork_22 : decode cX3_fork 22 = .ok (.invokespecial 56, 3) := by decide +kernel
theorem dX3_fork_25 : decode cX3_fork 25 = .ok (.athrow, 1) := by decide +kernel
theorem dX3_fork_26 : decode cX3_fork 26 = .ok (.aload_n 0, 1) := by decide +kernel
theorem dX3_fork_27 : decode cX3_fork 27 = .ok (.getfield 29, 3) := by decide +kernel
theorem dX3_fork_30 : decode cX3_fork 30 = .ok (.aload_n 0, 1) := by decide +kernel
theorem dX3_fork_31 : decode cX3_fork 31 = .ok (.getfield 19, 3) := by decide +kernel
theorem dX3_fork_34 : decode cX3_fork 34 = .ok (.invokevirtual 177, 3) := by decide +kernel
theorem dX3_fork_37 : decode cX3_fork 37 = .ok (.aload_n 0, 1) := by decide +kernel
theorem dX3_fork_38 : decode cX3_fork 38 = .ok (.getfield 19, 3) := by decide +kernel
theorem dX3_fork_41 : decode cX3_fork 41 = .ok (.iload_n 1, 1) := by decide +kernel
theorem dX3_fork_42 : decode cX3_fork 42 = .ok (.invokevirtual 194, 3) := by decide +kernel
theorem dX3_fork_45 : decode cX3_fork 45 = .ok (.ireturn, 1) := by decide +kernel
theorem dX3_exit_0 : decode cX3_exit 0 = .ok (.aload_n 0, 1) := by decide +kernel
theorem dX3_exit_1 : decode cX3_exit 1 = .ok (.iload_n 1, 1) := by decide +kernel
theorem dX3_exit_2 : decode cX3_exit 2 = .ok (.invokevirtual 185, 3) := by decide +kernel
theorem dX3_exit_5 : decode cX3_exit 5 = .ok (.aload_n 0, 1) := by decide +kernel
theorem dX3_exit_6 : decode cX3_exit 6 = .ok (.getfield 19, 3) := by decide +kernel
theorem dX3_exit_9 : decode cX3_exit 9 = .ok (.iload_n 1, 1) := by decide +kernel
theorem dX3_exit_10 : decode cX3_exit 10 = .ok (.invokevirtual 198, 3) := by decide +kernel
theorem dX3_exit_13 : decode cX3_exit 13 = .ok (.ifCond .ne 13, 3) := by decide +kernel
theorem dX3_exit_16 : decode cX3_exit 16 = .ok (.new 52, 3) := by decide +kernel
theorem dX3_exit_19 : decode cX3_exit 19 = .ok (.dup, 1) := by decide +kernel
theorem dX3_exit_20 : decode cX3_exit 20 = .ok (.ldc 201, 2) := by decide +kernel
theorem dX3_exit_22 : decode cX3_exit 22 = .ok (.invokespecial 56, 3) := by decide +kernel
theorem dX3_exit_25 : decode cX3_exit 25 = .ok (.athrow, 1) := by decide +kernel
theorem dX3_exit_26 : decode cX3_exit 26 = .ok (.aload_n 0, 1) := by decide +kernel
theorem dX3_exit_27 : decode cX3_exit 27 = .ok (.getfield 29, 3) := by decide +kernel
theorem dX3_exit_30 : decode cX3_exit 30 = .ok (.aload_n 0, 1) := by decide +kernel
theorem dX3_exit_31 : decode cX3_exit 31 = .ok (.getfield 19, 3) := by decide +kernel
theorem dX3_exit_34 : decode cX3_exit 34 = .ok (.invokevirtual 177, 3) := by decide +kernel
theorem dX3_exit_37 : decode cX3_exit 37 = .ok (.aload_n 0, 1) := by decide +kernel
theorem dX3_exit_38 : decode cX3_exit 38 = .ok (.getfield 19, 3) := by decide +kernel
theorem dX3_exit_41 : decode cX3_exit 41 = .ok (.iload_n 1, 1) := by decide +kernel
theorem dX3_exit_42 : decode cX3_exit 42 = .ok (.invokevirtual 203, 3) := by decide +kernel
theorem dX3_exit_45 : decode cX3_exit 45 = .ok (.ireturn, 1) := by decide +kernel
theorem dX3_marry_0 : decode cX3_marry 0 = .ok (.aload_n 0, 1) := by decide +kernel
theorem dX3_marry_1 : decode cX3_marry 1 = .ok (.iload_n 1, 1) := by decide +kernel
theorem dX3_marry_2 : decode cX3_marry 2 = .ok (.iload_n 2, 1) := by decide +kernel
theorem dX3_marry_3 : decode cX3_marry 3 = .ok (.invokevirtual 153, 3) := by decide +kernel
theorem dX3_marry_6 : decode cX3_marry 6 = .ok (.aload_n 0, 1) := by decide +kernel
theorem dX3_marry_7 : decode cX3_marry 7 = .ok (.getfield 19, 3) := by decide +kernel
theorem dX3_marry_10 : decode cX3_marry 10 = .ok (.iload_n 1, 1) := by decide +kernel
theorem dX3_marry_11 : decode cX3_marry 11 = .ok (.iload_n 2, 1) := by decide +kernel
theorem dX3_marry_12 : decode cX3_marry 12 = .ok (.invokevirtual 206, 3) := by decide +kernel
theorem dX3_marry_15 : decode cX3_marry 15 = .ok (.ifCond .eq 13, 3) := by decide +kernel
theorem dX3_marry_18 : decode cX3_marry 18 = .ok (.new 52, 3) := by decide +kernel
theorem dX3_marry_21 : decode cX3_marry 21 = .ok (.dup, 1) := by decide +kernel
theorem dX3_marry_22 : decode cX3_marry 22 = .ok (.ldc 209, 2) := by decide +kernel
theorem dX3_marry_24 : decode cX3_marry 24 = .ok (.invokespecial 56, 3) := by decide +kernel
theorem dX3_marry_27 : decode cX3_marry 27 = .ok (.athrow, 1) := by decide +kernel
theorem dX3_marry_28 : decode cX3_marry 28 = .ok (.aload_n 0, 1) := by decide +kernel
theorem dX3_marry_29 : decode cX3_marry 29 = .ok (.getfield 29, 3) := by decide +kernel
theorem dX3_marry_32 : decode cX3_marry 32 = .ok (.aload_n 0, 1) := by decide +kernel
theorem dX3_marry_33 : decode cX3_marry 33 = .ok (.getfield 19, 3) := by decide +kernel
theorem dX3_marry_36 : decode cX3_marry 36 = .ok (.invokevirtual 177, 3) := by decide +kernel
theorem dX3_marry_39 : decode cX3_marry 39 = .ok (.aload_n 0, 1) := by decide +kernel
theorem dX3_marry_40 : decode cX3_marry 40 = .ok (.getfield 19, 3) := by decide +kernel
theorem dX3_marry_43 : decode cX3_marry 43 = .ok (.iload_n 1, 1) := by decide +kernel
theorem dX3_marry_44 : decode cX3_marry 44 = .ok (.iload_n 2, 1) := by decide +kernel
theorem dX3_marry_45 : decode cX3_marry 45 = .ok (.invokevirtual 211, 3) := by decide +kernel
theorem dX3_marry_48 : decode cX3_marry 48 = .ok (.ireturn, 1) := by decide +kernel
theorem dX3_tear_0 : decode cX3_tear 0 = .ok (.aload_n 0, 1) := by decide +kernel
theorem dX3_tear_1 : decode cX3_tear 1 = .ok (.iload_n 1, 1) := by decide +kernel
theorem dX3_tear_2 : decode cX3_tear 2 = .ok (.iload_n 2, 1) := by decide +kernel
theorem dX3_tear_3 : decode cX3_tear 3 = .ok (.invokevirtual 153, 3) := by decide +kernel
theorem dX3_tear_6 : decode cX3_tear 6 = .ok (.aload_n 0, 1) := by decide +kernel
theorem dX3_tear_7 : decode cX3_tear 7 = .ok (.getfield 19, 3) := by decide +kernel
theorem dX3_tear_10 : decode cX3_tear 10 = .ok (.iload_n 1, 1) := by decide +kernel
theorem dX3_tear_11 : decode cX3_tear 11 = .ok (.iload_n 2, 1) := by decide +kernel
theorem dX3_tear_12 : decode cX3_tear 12 = .ok (.invokevirtual 137, 3) := by decide +kernel
theorem dX3_tear_15 : decode cX3_tear 15 = .ok (.ifCond .ne 13, 3) := by decide +kernel
theorem dX3_tear_18 : decode cX3_tear 18 = .ok (.new 52, 3) := by decide +kernel
theorem dX3_tear_21 : decode cX3_tear 21 = .ok (.dup, 1) := by decide +kernel
theorem dX3_tear_22 : decode cX3_tear 22 = .ok (.ldc 214, 2) := by decide +kernel
theorem dX3_tear_24 : decode cX3_tear 24 = .ok (.invokespecial 56, 3) := by decide +kernel
theorem dX3_tear_27 : decode cX3_tear 27 = .ok (.athrow, 1) := by decide +kernel
theorem dX3_tear_28 : decode cX3_tear 28 = .ok (.aload_n 0, 1) := by decide +kernel
theorem dX3_tear_29 : decode cX3_tear 29 = .ok (.getfield 29, 3) := by decide +kernel
theorem dX3_tear_32 : decode cX3_tear 32 = .ok (.aload_n 0, 1) := by decide +kernel
theorem dX3_tear_33 : decode cX3_tear 33 = .ok (.getfield 19, 3) := by decide +kernel
theorem dX3_tear_36 : decode cX3_tear 36 = .ok (.invokevirtual 177, 3) := by decide +kernel
theorem dX3_tear_39 : decode cX3_tear 39 = .ok (.aload_n 0, 1) := by decide +kernel
theorem dX3_tear_40 : decode cX3_tear 40 = .ok (.getfield 19, 3) := by decide +kernel
theorem dX3_tear_43 : decode cX3_tear 43 = .ok (.iload_n 1, 1) := by decide +kernel
theorem dX3_tear_44 : decode cX3_tear 44 = .ok (.iload_n 2, 1) := by decide +kernel
theorem dX3_tear_45 : decode cX3_tear 45 = .ok (.invokevirtual 216, 3) := by decide +kernel
theorem dX3_tear_48 : decode cX3_tear 48 = .ok (.ireturn, 1) := by decide +kernel
theorem dX3_press_0 : decode cX3_press 0 = .ok (.iload_n 1, 1) := by decide +kernel
theorem dX3_press_1 : decode cX3_press 1 = .ok (.iconst 1, 1) := by decide +kernel
theorem dX3_press_2 : decode cX3_press 2 = .ok (.if_icmp .lt 9, 3) := by decide +kernel
theorem dX3_press_5 : decode cX3_press 5 = .ok (.iload_n 1, 1) := by decide +kernel
theorem dX3_press_6 : decode cX3_press 6 = .ok (.bipush 32, 2) := by decide +kernel
theorem dX3_press_8 : decode cX3_press 8 = .ok (.if_icmp .le 13, 3) := by decide +kernel
theorem dX3_press_11 : decode cX3_press 11 = .ok (.new 41, 3) := by decide +kernel
theorem dX3_press_14 : decode cX3_press 14 = .ok (.dup, 1) := by decide +kernel
theorem dX3_press_15 : decode cX3_press 15 = .ok (.ldc 219, 2) := by decide +kernel
theorem dX3_press_17 : decode cX3_press 17 = .ok (.invokespecial 45, 3) := by decide +kernel
theorem dX3_press_20 : decode cX3_press 20 = .ok (.athrow, 1) := by decide +kernel
theorem dX3_press_21 : decode cX3_press 21 = .ok (.aload_n 0, 1) := by decide +kernel
theorem dX3_press_22 : decode cX3_press 22 = .ok (.getfield 29, 3) := by decide +kernel
theorem dX3_press_25 : decode cX3_press 25 = .ok (.aload_n 0, 1) := by decide +kernel
theorem dX3_press_26 : decode cX3_press 26 = .ok (.getfield 19, 3) := by decide +kernel
theorem dX3_press_29 : decode cX3_press 29 = .ok (.invokevirtual 177, 3) := by decide +kernel
theorem dX3_press_32 : decode cX3_press 32 = .ok (.aload_n 0, 1) := by decide +kernel
theorem dX3_press_33 : decode cX3_press 33 = .ok (.getfield 19, 3) := by decide +kernel
theorem dX3_press_36 : decode cX3_press 36 = .ok (.iload_n 1, 1) := by decide +kernel
theorem dX3_press_37 : decode cX3_press 37 = .ok (.invokevirtual 221, 3) := by decide +kernel
theorem dX3_press_40 : decode cX3_press 40 = .ok (.ireturn, 1) := by decide +kernel
theorem dX3_setEager_0 : decode cX3_setEager 0 = .ok (.aload_n 0, 1) := by decide +kernel
theorem dX3_setEager_1 : decode cX3_setEager 1 = .ok (.getfield 29, 3) := by decide +kernel
theorem dX3_setEager_4 : decode cX3_setEager 4 = .ok (.aload_n 0, 1) := by decide +kernel
theorem dX3_setEager_5 : decode cX3_setEager 5 = .ok (.getfield 19, 3) := by decide +kernel
theorem dX3_setEager_8 : decode cX3_setEager 8 = .ok (.invokevirtual 177, 3) := by decide +kernel
theorem dX3_setEager_11 : decode cX3_setEager 11 = .ok (.aload_n 0, 1) := by decide +kernel
theorem dX3_setEager_12 : decode cX3_setEager 12 = .ok (.getfield 19, 3) := by decide +kernel
theorem dX3_setEager_15 : decode cX3_setEager 15 = .ok (.iload_n 1, 1) := by decide +kernel
theorem dX3_setEager_16 : decode cX3_setEager 16 = .ok (.putfield 117, 3) := by decide +kernel
theorem dX3_setEager_19 : decode cX3_setEager 19 = .ok (.aload_n 0, 1) := by decide +kernel
theorem dX3_setEager_20 : decode cX3_setEager 20 = .ok (.getfield 19, 3) := by decide +kernel
theorem dX3_setEager_23 : decode cX3_setEager 23 = .ok (.invokevirtual 92, 3) := by decide +kernel
theorem dX3_setEager_26 : decode cX3_setEager 26 = .ok (.ireturn, 1) := by decide +kernel
theorem dX3_undo_0 : decode cX3_undo 0 = .ok (.aload_n 0, 1) := by decide +kernel
theorem dX3_undo_1 : decode cX3_undo 1 = .ok (.getfield 29, 3) := by decide +kernel
theorem dX3_undo_4 : decode cX3_undo 4 = .ok (.invokevirtual 224, 3) := by decide +kernel
theorem dX3_undo_7 : decode cX3_undo 7 = .ok (.ifCond .ne 13, 3) := by decide +kernel
theorem dX3_undo_10 : decode cX3_undo 10 = .ok (.new 52, 3) := by decide +kernel
theorem dX3_undo_13 : decode cX3_undo 13 = .ok (.dup, 1) := by decide +kernel
theorem dX3_undo_14 : decode cX3_undo 14 = .ok (.ldc 227, 2) := by decide +kernel
theorem dX3_undo_16 : decode cX3_undo 16 = .ok (.invokespecial 56, 3) := by decide +kernel
theorem dX3_undo_19 : decode cX3_undo 19 = .ok (.athrow, 1) := by decide +kernel
theorem dX3_undo_20 : decode cX3_undo 20 = .ok (.aload_n 0, 1) := by decide +kernel
theorem dX3_undo_21 : decode cX3_undo 21 = .ok (.getfield 29, 3) := by decide +kernel
theorem dX3_undo_24 : decode cX3_undo 24 = .ok (.aload_n 0, 1) := by decide +kernel
theorem dX3_undo_25 : decode cX3_undo 25 = .ok (.getfield 19, 3) := by decide +kernel
theorem dX3_undo_28 : decode cX3_undo 28 = .ok (.invokevirtual 229, 3) := by decide +kernel
theorem dX3_undo_31 : decode cX3_undo 31 = .ok (.aload_n 0, 1) := by decide +kernel
theorem dX3_undo_32 : decode cX3_undo 32 = .ok (.getfield 29, 3) := by decide +kernel
theorem dX3_undo_35 : decode cX3_undo 35 = .ok (.invokevirtual 224, 3) := by decide +kernel
theorem dX3_undo_38 : decode cX3_undo 38 = .ok (.ireturn, 1) := by decide +kernel
theorem dX3_whyNot_0 : decode cX3_whyNot 0 = .ok (.aload_n 0, 1) := by decide +kernel
theorem dX3_whyNot_1 : decode cX3_whyNot 1 = .ok (.iload_n 1, 1) := by decide +kernel
theorem dX3_whyNot_2 : decode cX3_whyNot 2 = .ok (.iload_n 2, 1) := by decide +kernel
theorem dX3_whyNot_3 : decode cX3_whyNot 3 = .ok (.invokevirtual 153, 3) := by decide +kernel
theorem dX3_whyNot_6 : decode cX3_whyNot 6 = .ok (.aload_n 0, 1) := by decide +kernel
theorem dX3_whyNot_7 : decode cX3_whyNot 7 = .ok (.getfield 19, 3) := by decide +kernel
theorem dX3_whyNot_10 : decode cX3_whyNot 10 = .ok (.iload_n 1, 1) := by decide +kernel
theorem dX3_whyNot_11 : decode cX3_whyNot 11 = .ok (.iload_n 2, 1) := by decide +kernel
theorem dX3_whyNot_12 : decode cX3_whyNot 12 = .ok (.invokevirtual 206, 3) := by decide +kernel
theorem dX3_whyNot_15 : decode cX3_whyNot 15 = .ok (.ireturn, 1) := by decide +kernel
theorem dX3_wouldDo_0 : decode cX3_wouldDo 0 = .ok (.aload_n 0, 1) := by decide +kernel
theorem dX3_wouldDo_1 : decode cX3_wouldDo 1 = .ok (.iload_n 1, 1) := by decide +kernel
theorem dX3_wouldDo_2 : decode cX3_wouldDo 2 = .ok (.iload_n 2, 1) := by decide +kernel
theorem dX3_wouldDo_3 : decode cX3_wouldDo 3 = .ok (.invokevirtual 123, 3) := by decide +kernel
theorem dX3_wouldDo_6 : decode cX3_wouldDo 6 = .ok (.aload_n 0, 1) := by decide +kernel
theorem dX3_wouldDo_7 : decode cX3_wouldDo 7 = .ok (.getfield 19, 3) := by decide +kernel
theorem dX3_wouldDo_10 : decode cX3_wouldDo 10 = .ok (.iload_n 1, 1) := by decide +kernel
theorem dX3_wouldDo_11 : decode cX3_wouldDo 11 = .ok (.iload_n 2, 1) := by decide +kernel
theorem dX3_wouldDo_12 : decode cX3_wouldDo 12 = .ok (.invokevirtual 172, 3) := by decide +kernel
theorem dX3_wouldDo_15 : decode cX3_wouldDo 15 = .ok (.ireturn, 1) := by decide +kernel
theorem dX3_marriages_0 : decode cX3_marriages 0 = .ok (.aload_n 0, 1) := by decide +kernel
theorem dX3_marriages_1 : decode cX3_marriages 1 = .ok (.getfield 23, 3) := by decide +kernel
theorem dX3_marriages_4 : decode cX3_marriages 4 = .ok (.aload_n 0, 1) := by decide +kernel
theorem dX3_marriages_5 : decode cX3_marriages 5 = .ok (.getfield 19, 3) := by decide +kernel
theorem dX3_marriages_8 : decode cX3_marriages 8 = .ok (.invokevirtual 232, 3) := by decide +kernel
theorem dX3_marriages_11 : decode cX3_marriages 11 = .ok (.iconst 0, 1) := by decide +kernel
theorem dX3_marriages_12 : decode cX3_marriages 12 = .ok (.istore_n 1, 1) := by decide +kernel
theorem dX3_marriages_13 : decode cX3_marriages 13 = .ok (.iload_n 1, 1) := by decide +kernel
theorem dX3_marriages_14 : decode cX3_marriages 14 = .ok (.bipush 16, 2) := by decide +kernel
theorem dX3_marriages_16 : decode cX3_marriages 16 = .ok (.if_icmp .ge 19, 3) := by decide +kernel
theorem dX3_marriages_19 : decode cX3_marriages 19 = .ok (.aload_n 0, 1) := by decide +kernel
theorem dX3_marriages_20 : decode cX3_marriages 20 = .ok (.getfield 23, 3) := by decide +kernel
theorem dX3_marriages_23 : decode cX3_marriages 23 = .ok (.invokevirtual 235, 3) := by decide +kernel
theorem dX3_marriages_26 : decode cX3_marriages 26 = .ok (.ifCond .eq 9, 3) := by decide +kernel
theorem dX3_marriages_29 : decode cX3_marriages 29 = .ok (.iinc 1 1, 3) := by decide +kernel
theorem dX3_marriages_32 : decode cX3_marriages 32 = .ok (.goto (-19), 3) := by decide +kernel
theorem dX3_marriages_35 : decode cX3_marriages 35 = .ok (.iload_n 1, 1) := by decide +kernel
theorem dX3_marriages_36 : decode cX3_marriages 36 = .ok (.ireturn, 1) := by decide +kernel
theorem dX3_mostFree_0 : decode cX3_mostFree 0 = .ok (.aload_n 0, 1) := by decide +kernel
theorem dX3_mostFree_1 : decode cX3_mostFree 1 = .ok (.getfield 23, 3) := by decide +kernel
theorem dX3_mostFree_4 : decode cX3_mostFree 4 = .ok (.aload_n 0, 1) := by decide +kernel
theorem dX3_mostFree_5 : decode cX3_mostFree 5 = .ok (.getfield 19, 3) := by decide +kernel
theorem dX3_mostFree_8 : decode cX3_mostFree 8 = .ok (.invokevirtual 232, 3) := by decide +kernel
theorem dX3_mostFree_11 : decode cX3_mostFree 11 = .ok (.aload_n 0, 1) := by decide +kernel
theorem dX3_mostFree_12 : decode cX3_mostFree 12 = .ok (.getfield 23, 3) := by decide +kernel
theorem dX3_mostFree_15 : decode cX3_mostFree 15 = .ok (.bipush 32, 2) := by decide +kernel
theorem dX3_mostFree_17 : decode cX3_mostFree 17 = .ok (.invokevirtual 221, 3) := by decide +kernel
theorem dX3_mostFree_20 : decode cX3_mostFree 20 = .ok (.ireturn, 1) := by decide +kernel
theorem dX3_writable_0 : decode cX3_writable 0 = .ok (.aload_n 0, 1) := by decide +kernel
theorem dX3_writable_1 : decode cX3_writable 1 = .ok (.iload_n 1, 1) := by decide +kernel
theorem dX3_writable_2 : decode cX3_writable 2 = .ok (.invokevirtual 185, 3) := by decide +kernel
theorem dX3_writable_5 : decode cX3_writable 5 = .ok (.aload_n 0, 1) := by decide +kernel
theorem dX3_writable_6 : decode cX3_writable 6 = .ok (.getfield 23, 3) := by decide +kernel
theorem dX3_writable_9 : decode cX3_writable 9 = .ok (.aload_n 0, 1) := by decide +kernel
theorem dX3_writable_10 : decode cX3_writable 10 = .ok (.getfield 19, 3) := by decide +kernel
theorem dX3_writable_13 : decode cX3_writable 13 = .ok (.invokevirtual 232, 3) := by decide +kernel
theorem dX3_writable_16 : decode cX3_writable 16 = .ok (.iconst 0, 1) := by decide +kernel
theorem dX3_writable_17 : decode cX3_writable 17 = .ok (.istore_n 2, 1) := by decide +kernel
theorem dX3_writable_18 : decode cX3_writable 18 = .ok (.iload_n 2, 1) := by decide +kernel
theorem dX3_writable_19 : decode cX3_writable 19 = .ok (.bipush 16, 2) := by decide +kernel
theorem dX3_writable_21 : decode cX3_writable 21 = .ok (.if_icmp .ge 23, 3) := by decide +kernel
theorem dX3_writable_24 : decode cX3_writable 24 = .ok (.aload_n 0, 1) := by decide +kernel
theorem dX3_writable_25 : decode cX3_writable 25 = .ok (.getfield 23, 3) := by decide +kernel
theorem dX3_writable_28 : decode cX3_writable 28 = .ok (.iload_n 1, 1) := by decide +kernel
theorem dX3_writable_29 : decode cX3_writable 29 = .ok (.iload_n 2, 1) := by decide +kernel
theorem dX3_writable_30 : decode cX3_writable 30 = .ok (.iconst 1, 1) := by decide +kernel
theorem dX3_writable_31 : decode cX3_writable 31 = .ok (.invokevirtual 181, 3) := by decide +kernel
theorem dX3_writable_34 : decode cX3_writable 34 = .ok (.iconst (-1), 1) := by decide +kernel
theorem dX3_writable_35 : decode cX3_writable 35 = .ok (.if_icmp .eq 9, 3) := by decide +kernel
theorem dX3_writable_38 : decode cX3_writable 38 = .ok (.iinc 2 1, 3) := by decide +kernel
theorem dX3_writable_41 : decode cX3_writable 41 = .ok (.goto (-23), 3) := by decide +kernel
theorem dX3_writable_44 : decode cX3_writable 44 = .ok (.iload_n 2, 1) := by decide +kernel
theorem dX3_writable_45 : decode cX3_writable 45 = .ok (.ireturn, 1) := by decide +kernel
theorem dX3_runScript_0 : decode cX3_runScript 0 = .ok (.iload_n 1, 1) := by decide +kernel
theorem dX3_runScript_1 : decode cX3_runScript 1 = .ok (.iconst 1, 1) := by decide +kernel
theorem dX3_runScript_2 : decode cX3_runScript 2 = .ok (.if_icmp .lt 8, 3) := by decide +kernel
theorem dX3_runScript_5 : decode cX3_runScript 5 = .ok (.iload_n 1, 1) := by decide +kernel
theorem dX3_runScript_6 : decode cX3_runScript 6 = .ok (.iconst 3, 1) := by decide +kernel
theorem dX3_runScript_7 : decode cX3_runScript 7 = .ok (.if_icmp .le 13, 3) := by decide +kernel
theorem dX3_runScript_10 : decode cX3_runScript 10 = .ok (.new 41, 3) := by decide +kernel
theorem dX3_runScript_13 : decode cX3_runScript 13 = .ok (.dup, 1) := by decide +kernel
theorem dX3_runScript_14 : decode cX3_runScript 14 = .ok (.ldc 239, 2) := by decide +kernel
theorem dX3_runScript_16 : decode cX3_runScript 16 = .ok (.invokespecial 45, 3) := by decide +kernel
theorem dX3_runScript_19 : decode cX3_runScript 19 = .ok (.athrow, 1) := by decide +kernel
theorem dX3_runScript_20 : decode cX3_runScript 20 = .ok (.lload_n 2, 1) := by decide +kernel
theorem dX3_runScript_21 : decode cX3_runScript 21 = .ok (.lconst 0, 1) := by decide +kernel
theorem dX3_runScript_22 : decode cX3_runScript 22 = .ok (.lcmp, 1) := by decide +kernel
theorem dX3_runScript_23 : decode cX3_runScript 23 = .ok (.ifCond .lt 13, 3) := by decide +kernel
theorem dX3_runScript_26 : decode cX3_runScript 26 = .ok (.lload_n 2, 1) := by decide +kernel
theorem dX3_runScript_27 : decode cX3_runScript 27 = .ok (.iload_n 1, 1) := by decide +kernel
theorem dX3_runScript_28 : decode cX3_runScript 28 = .ok (.invokestatic 241, 3) := by decide +kernel
theorem dX3_runScript_31 : decode cX3_runScript 31 = .ok (.lconst 0, 1) := by decide +kernel
theorem dX3_runScript_32 : decode cX3_runScript 32 = .ok (.lcmp, 1) := by decide +kernel
theorem dX3_runScript_33 : decode cX3_runScript 33 = .ok (.ifCond .eq 13, 3) := by decide +kernel
theorem dX3_runScript_36 : decode cX3_runScript 36 = .ok (.new 41, 3) := by decide +kernel
theorem dX3_runScript_39 : decode cX3_runScript 39 = .ok (.dup, 1) := by decide +kernel
theorem dX3_runScript_40 : decode cX3_runScript 40 = .ok (.ldc 245, 2) := by decide +kernel
theorem dX3_runScript_42 : decode cX3_runScript 42 = .ok (.invokespecial 45, 3) := by decide +kernel
theorem dX3_runScript_45 : decode cX3_runScript 45 = .ok (.athrow, 1) := by decide +kernel
theorem dX3_runScript_46 : decode cX3_runScript 46 = .ok (.aload_n 0, 1) := by decide +kernel
theorem dX3_runScript_47 : decode cX3_runScript 47 = .ok (.getfield 23, 3) := by decide +kernel
theorem dX3_runScript_50 : decode cX3_runScript 50 = .ok (.aload_n 0, 1) := by decide +kernel
theorem dX3_runScript_51 : decode cX3_runScript 51 = .ok (.getfield 19, 3) := by decide +kernel
theorem dX3_runScript_54 : decode cX3_runScript 54 = .ok (.invokevirtual 232, 3) := by decide +kernel
theorem dX3_runScript_57 : decode cX3_runScript 57 = .ok (.iconst 0, 1) := by decide +kernel
theorem dX3_runScript_58 : decode cX3_runScript 58 = .ok (.istore 4, 2) := by decide +kernel
theorem dX3_runScript_60 : decode cX3_runScript 60 = .ok (.iload 4, 2) := by decide +kernel
theorem dX3_runScript_62 : decode cX3_runScript 62 = .ok (.iload_n 1, 1) := by decide +kernel
theorem dX3_runScript_63 : decode cX3_runScript 63 = .ok (.if_icmp .ge 38, 3) := by decide +kernel
theorem dX3_runScript_66 : decode cX3_runScript 66 = .ok (.lload_n 2, 1) := by decide +kernel
theorem dX3_runScript_67 : decode cX3_runScript 67 = .ok (.iload_n 1, 1) := by decide +kernel
theorem dX3_runScript_68 : decode cX3_runScript 68 = .ok (.iconst 1, 1) := by decide +kernel
theorem dX3_runScript_69 : decode cX3_runScript 69 = .ok (.isub, 1) := by decide +kernel
theorem dX3_runScript_70 : decode cX3_runScript 70 = .ok (.iload 4, 2) := by decide +kernel
theorem dX3_runScript_72 : decode cX3_runScript 72 = .ok (.isub, 1) := by decide +kernel
theorem dX3_runScript_73 : decode cX3_runScript 73 = .ok (.invokestatic 241, 3) := by decide +kernel
theorem dX3_runScript_76 : decode cX3_runScript 76 = .ok (.lstore 5, 2) := by decide +kernel
theorem dX3_runScript_78 : decode cX3_runScript 78 = .ok (.aload_n 0, 1) := by decide +kernel
theorem dX3_runScript_79 : decode cX3_runScript 79 = .ok (.lload 5, 2) := by decide +kernel
theorem dX3_runScript_81 : decode cX3_runScript 81 = .ok (.ldc2_w 247, 3) := by decide +kernel
theorem dX3_runScript_84 : decode cX3_runScript 84 = .ok (.lrem, 1) := by decide +kernel
theorem dX3_runScript_85 : decode cX3_runScript 85 = .ok (.l2i, 1) := by decide +kernel
theorem dX3_runScript_86 : decode cX3_runScript 86 = .ok (.invokevirtual 249, 3) := by decide +kernel
theorem dX3_runScript_89 : decode cX3_runScript 89 = .ok (.ifCond .ne 6, 3) := by decide +kernel
theorem dX3_runScript_92 : decode cX3_runScript 92 = .ok (.iload 4, 2) := by decide +kernel
theorem dX3_runScript_94 : decode cX3_runScript 94 = .ok (.ireturn, 1) := by decide +kernel
theorem dX3_runScript_95 : decode cX3_runScript 95 = .ok (.iinc 4 1, 3) := by decide +kernel
theorem dX3_runScript_98 : decode cX3_runScript 98 = .ok (.goto (-38), 3) := by decide +kernel
theorem dX3_runScript_101 : decode cX3_runScript 101 = .ok (.iconst (-1), 1) := by decide +kernel
theorem dX3_runScript_102 : decode cX3_runScript 102 = .ok (.ireturn, 1) := by decide +kernel
theorem dX3_simulate_0 : decode cX3_simulate 0 = .ok (.iload_n 3, 1) := by decide +kernel
theorem dX3_simulate_1 : decode cX3_simulate 1 = .ok (.iconst 1, 1) := by decide +kernel
theorem dX3_simulate_2 : decode cX3_simulate 2 = .ok (.if_icmp .lt 9, 3) := by decide +kernel
theorem dX3_simulate_5 : decode cX3_simulate 5 = .ok (.iload_n 3, 1) := by decide +kernel
theorem dX3_simulate_6 : decode cX3_simulate 6 = .ok (.bipush 99, 2) := by decide +kernel
theorem dX3_simulate_8 : decode cX3_simulate 8 = .ok (.if_icmp .le 13, 3) := by decide +kernel
theorem dX3_simulate_11 : decode cX3_simulate 11 = .ok (.new 41, 3) := by decide +kernel
theorem dX3_simulate_14 : decode cX3_simulate 14 = .ok (.dup, 1) := by decide +kernel
theorem dX3_simulate_15 : decode cX3_simulate 15 = .ok (.ldc 252, 2) := by decide +kernel
theorem dX3_simulate_17 : decode cX3_simulate 17 = .ok (.invokespecial 45, 3) := by decide +kernel
theorem dX3_simulate_20 : decode cX3_simulate 20 = .ok (.athrow, 1) := by decide +kernel
theorem dX3_simulate_21 : decode cX3_simulate 21 = .ok (.aload_n 0, 1) := by decide +kernel
theorem dX3_simulate_22 : decode cX3_simulate 22 = .ok (.getfield 23, 3) := by decide +kernel
theorem dX3_simulate_25 : decode cX3_simulate 25 = .ok (.aload_n 0, 1) := by decide +kernel
theorem dX3_simulate_26 : decode cX3_simulate 26 = .ok (.getfield 19, 3) := by decide +kernel
theorem dX3_simulate_29 : decode cX3_simulate 29 = .ok (.invokevirtual 232, 3) := by decide +kernel
theorem dX3_simulate_32 : decode cX3_simulate 32 = .ok (.lload_n 1, 1) := by decide +kernel
theorem dX3_simulate_33 : decode cX3_simulate 33 = .ok (.lstore 4, 2) := by decide +kernel
theorem dX3_simulate_35 : decode cX3_simulate 35 = .ok (.iconst 0, 1) := by decide +kernel
theorem dX3_simulate_36 : decode cX3_simulate 36 = .ok (.istore 6, 2) := by decide +kernel
theorem dX3_simulate_38 : decode cX3_simulate 38 = .ok (.iload 6, 2) := by decide +kernel
theorem dX3_simulate_40 : decode cX3_simulate 40 = .ok (.iload_n 3, 1) := by decide +kernel
theorem dX3_simulate_41 : decode cX3_simulate 41 = .ok (.if_icmp .ge 31, 3) := by decide +kernel
theorem dX3_simulate_44 : decode cX3_simulate 44 = .ok (.lload 4, 2) := by decide +kernel
theorem dX3_simulate_46 : decode cX3_simulate 46 = .ok (.ldc2_w 254, 3) := by decide +kernel
theorem dX3_simulate_49 : decode cX3_simulate 49 = .ok (.lmul, 1) := by decide +kernel
theorem dX3_simulate_50 : decode cX3_simulate 50 = .ok (.ldc2_w 256, 3) := by decide +kernel
theorem dX3_simulate_53 : decode cX3_simulate 53 = .ok (.ladd, 1) := by decide +kernel
theorem dX3_simulate_54 : decode cX3_simulate 54 = .ok (.lstore 4, 2) := by decide +kernel
theorem dX3_simulate_56 : decode cX3_simulate 56 = .ok (.aload_n 0, 1) := by decide +kernel
theorem dX3_simulate_57 : decode cX3_simulate 57 = .ok (.lload 4, 2) := by decide +kernel
theorem dX3_simulate_59 : decode cX3_simulate 59 = .ok (.bipush 33, 2) := by decide +kernel
theorem dX3_simulate_61 : decode cX3_simulate 61 = .ok (.lushr, 1) := by decide +kernel
theorem dX3_simulate_62 : decode cX3_simulate 62 = .ok (.l2i, 1) := by decide +kernel
theorem dX3_simulate_63 : decode cX3_simulate 63 = .ok (.invokevirtual 258, 3) := by decide +kernel
theorem dX3_simulate_66 : decode cX3_simulate 66 = .ok (.iinc 6 1, 3) := by decide +kernel
theorem dX3_simulate_69 : decode cX3_simulate 69 = .ok (.goto (-31), 3) := by decide +kernel
theorem dX3_simulate_72 : decode cX3_simulate 72 = .ok (.sipush 999, 3) := by decide +kernel
theorem dX3_simulate_75 : decode cX3_simulate 75 = .ok (.aload_n 0, 1) := by decide +kernel
theorem dX3_simulate_76 : decode cX3_simulate 76 = .ok (.getfield 23, 3) := by decide +kernel
theorem dX3_simulate_79 : decode cX3_simulate 79 = .ok (.getfield 104, 3) := by decide +kernel
theorem dX3_simulate_82 : decode cX3_simulate 82 = .ok (.aload_n 0, 1) := by decide +kernel
theorem dX3_simulate_83 : decode cX3_simulate 83 = .ok (.getfield 19, 3) := by decide +kernel
theorem dX3_simulate_86 : decode cX3_simulate 86 = .ok (.getfield 104, 3) := by decide +kernel
theorem dX3_simulate_89 : decode cX3_simulate 89 = .ok (.isub, 1) := by decide +kernel
theorem dX3_simulate_90 : decode cX3_simulate 90 = .ok (.invokestatic 261, 3) := by decide +kernel
theorem dX3_simulate_93 : decode cX3_simulate 93 = .ok (.istore 6, 2) := by decide +kernel
theorem dX3_simulate_95 : decode cX3_simulate 95 = .ok (.sipush 999, 3) := by decide +kernel
theorem dX3_simulate_98 : decode cX3_simulate 98 = .ok (.aload_n 0, 1) := by decide +kernel
theorem dX3_simulate_99 : decode cX3_simulate 99 = .ok (.getfield 23, 3) := by decide +kernel
theorem dX3_simulate_102 : decode cX3_simulate 102 = .ok (.getfield 111, 3) := by decide +kernel
theorem dX3_simulate_105 : decode cX3_simulate 105 = .ok (.aload_n 0, 1) := by decide +kernel
theorem dX3_simulate_106 : decode cX3_simulate 106 = .ok (.getfield 19, 3) := by decide +kernel
theorem dX3_simulate_109 : decode cX3_simulate 109 = .ok (.getfield 111, 3) := by decide +kernel
theorem dX3_simulate_112 : decode cX3_simulate 112 = .ok (.isub, 1) := by decide +kernel
theorem dX3_simulate_113 : decode cX3_simulate 113 = .ok (.invokestatic 261, 3) := by decide +kernel
theorem dX3_simulate_116 : decode cX3_simulate 116 = .ok (.istore 7, 2) := by decide +kernel
theorem dX3_simulate_118 : decode cX3_simulate 118 = .ok (.sipush 1000, 3) := by decide +kernel
theorem dX3_simulate_121 : decode cX3_simulate 121 = .ok (.iload 6, 2) := by decide +kernel
theorem dX3_simulate_123 : decode cX3_simulate 123 = .ok (.imul, 1) := by decide +kernel
theorem dX3_simulate_124 : decode cX3_simulate 124 = .ok (.iload 7, 2) := by decide +kernel
theorem dX3_simulate_126 : decode cX3_simulate 126 = .ok (.iadd, 1) := by decide +kernel
theorem dX3_simulate_127 : decode cX3_simulate 127 = .ok (.ireturn, 1) := by decide +kernel
theorem dX3_save_0 : decode cX3_save 0 = .ok (.aload_n 0, 1) := by decide +kernel
theorem dX3_save_1 : decode cX3_save 1 = .ok (.iload_n 1, 1) := by decide +kernel
theorem dX3_save_2 : decode cX3_save 2 = .ok (.invokevirtual 266, 3) := by decide +kernel
theorem dX3_save_5 : decode cX3_save 5 = .ok (.aload_n 0, 1) := by decide +kernel
theorem dX3_save_6 : decode cX3_save 6 = .ok (.getfield 33, 3) := by decide +kernel
theorem dX3_save_9 : decode cX3_save 9 = .ok (.iload_n 1, 1) := by decide +kernel
theorem dX3_save_10 : decode cX3_save 10 = .ok (.aaload, 1) := by decide +kernel
theorem dX3_save_11 : decode cX3_save 11 = .ok (.aload_n 0, 1) := by decide +kernel
theorem dX3_save_12 : decode cX3_save 12 = .ok (.getfield 19, 3) := by decide +kernel
theorem dX3_save_15 : decode cX3_save 15 = .ok (.invokevirtual 232, 3) := by decide +kernel
theorem dX3_save_18 : decode cX3_save 18 = .ok (.aload_n 0, 1) := by decide +kernel
theorem dX3_save_19 : decode cX3_save 19 = .ok (.getfield 37, 3) := by decide +kernel
theorem dX3_save_22 : decode cX3_save 22 = .ok (.iload_n 1, 1) := by decide +kernel
theorem dX3_save_23 : decode cX3_save 23 = .ok (.iconst 1, 1) := by decide +kernel
theorem dX3_save_24 : decode cX3_save 24 = .ok (.bastore, 1) := by decide +kernel
theorem dX3_save_25 : decode cX3_save 25 = .ok (.aload_n 0, 1) := by decide +kernel
theorem dX3_save_26 : decode cX3_save 26 = .ok (.getfield 19, 3) := by decide +kernel
theorem dX3_save_29 : decode cX3_save 29 = .ok (.invokevirtual 89, 3) := by decide +kernel
theorem dX3_save_32 : decode cX3_save 32 = .ok (.ireturn, 1) := by decide +kernel
theorem dX3_restore_0 : decode cX3_restore 0 = .ok (.aload_n 0, 1) := by decide +kernel
theorem dX3_restore_1 : decode cX3_restore 1 = .ok (.iload_n 1, 1) := by decide +kernel
theorem dX3_restore_2 : decode cX3_restore 2 = .ok (.invokevirtual 266, 3) := by decide +kernel
theorem dX3_restore_5 : decode cX3_restore 5 = .ok (.aload_n 0, 1) := by decide +kernel
theorem dX3_restore_6 : decode cX3_restore 6 = .ok (.getfield 37, 3) := by decide +kernel
theorem dX3_restore_9 : decode cX3_restore 9 = .ok (.iload_n 1, 1) := by decide +kernel
theorem dX3_restore_10 : decode cX3_restore 10 = .ok (.baload, 1) := by decide +kernel
theorem dX3_restore_11 : decode cX3_restore 11 = .ok (.ifCond .ne 14, 3) := by decide +kernel
theorem dX3_restore_14 : decode cX3_restore 14 = .ok (.new 52, 3) := by decide +kernel
theorem dX3_restore_17 : decode cX3_restore 17 = .ok (.dup, 1) := by decide +kernel
theorem dX3_restore_18 : decode cX3_restore 18 = .ok (.ldc_w 269, 3) := by decide +kernel
theorem dX3_restore_21 : decode cX3_restore 21 = .ok (.invokespecial 56, 3) := by decide +kernel
theorem dX3_restore_24 : decode cX3_restore 24 = .ok (.athrow, 1) := by decide +kernel
theorem dX3_restore_25 : decode cX3_restore 25 = .ok (.aload_n 0, 1) := by decide +kernel
theorem dX3_restore_26 : decode cX3_restore 26 = .ok (.getfield 19, 3) := by decide +kernel
theorem dX3_restore_29 : decode cX3_restore 29 = .ok (.aload_n 0, 1) := by decide +kernel
theorem dX3_restore_30 : decode cX3_restore 30 = .ok (.getfield 33, 3) := by decide +kernel
theorem dX3_restore_33 : decode cX3_restore 33 = .ok (.iload_n 1, 1) := by decide +kernel
theorem dX3_restore_34 : decode cX3_restore 34 = .ok (.aaload, 1) := by decide +kernel
theorem dX3_restore_35 : decode cX3_restore 35 = .ok (.invokevirtual 232, 3) := by decide +kernel
theorem dX3_restore_38 : decode cX3_restore 38 = .ok (.aload_n 0, 1) := by decide +kernel
theorem dX3_restore_39 : decode cX3_restore 39 = .ok (.getfield 29, 3) := by decide +kernel
theorem dX3_restore_42 : decode cX3_restore 42 = .ok (.invokevirtual 72, 3) := by decide +kernel
theorem dX3_restore_45 : decode cX3_restore 45 = .ok (.aload_n 0, 1) := by decide +kernel
theorem dX3_restore_46 : decode cX3_restore 46 = .ok (.getfield 19, 3) := by decide +kernel
theorem dX3_restore_49 : decode cX3_restore 49 = .ok (.invokevirtual 89, 3) := by decide +kernel
theorem dX3_restore_52 : decode cX3_restore 52 = .ok (.ireturn, 1) := by decide +kernel
theorem dX3_requireProcess_0 : decode cX3_requireProcess 0 = .ok (.aload_n 0, 1) := by decide +kernel
theorem dX3_requireProcess_1 : decode cX3_requireProcess 1 = .ok (.getfield 19, 3) := by decide +kernel
theorem dX3_requireProcess_4 : decode cX3_requireProcess 4 = .ok (.iload_n 1, 1) := by decide +kernel
theorem dX3_requireProcess_5 : decode cX3_requireProcess 5 = .ok (.invokevirtual 271, 3) := by decide +kernel
theorem dX3_requireProcess_8 : decode cX3_requireProcess 8 = .ok (.ifCond .ne 14, 3) := by decide +kernel
theorem dX3_requireProcess_11 : decode cX3_requireProcess 11 = .ok (.new 143, 3) := by decide +kernel
theorem dX3_requireProcess_14 : decode cX3_requireProcess 14 = .ok (.dup, 1) := by decide +kernel
theorem dX3_requireProcess_15 : decode cX3_requireProcess 15 = .ok (.ldc_w 274, 3) := by decide +kernel
theorem dX3_requireProcess_18 : decode cX3_requireProcess 18 = .ok (.invokespecial 147, 3) := by decide +kernel
theorem dX3_requireProcess_21 : decode cX3_requireProcess 21 = .ok (.athrow, 1) := by decide +kernel
theorem dX3_requireProcess_22 : decode cX3_requireProcess 22 = .ok (.return_, 1) := by decide +kernel
theorem dX3_requirePage_0 : decode cX3_requirePage 0 = .ok (.aload_n 0, 1) := by decide +kernel
theorem dX3_requirePage_1 : decode cX3_requirePage 1 = .ok (.getfield 19, 3) := by decide +kernel
theorem dX3_requirePage_4 : decode cX3_requirePage 4 = .ok (.iload_n 1, 1) := by decide +kernel
theorem dX3_requirePage_5 : decode cX3_requirePage 5 = .ok (.iload_n 2, 1) := by decide +kernel
theorem dX3_requirePage_6 : decode cX3_requirePage 6 = .ok (.invokevirtual 276, 3) := by decide +kernel
theorem dX3_requirePage_9 : decode cX3_requirePage 9 = .ok (.ifCond .ne 14, 3) := by decide +kernel
theorem dX3_requirePage_12 : decode cX3_requirePage 12 = .ok (.new 143, 3) := by decide +kernel
theorem dX3_requirePage_15 : decode cX3_requirePage 15 = .ok (.dup, 1) := by decide +kernel
theorem dX3_requirePage_16 : decode cX3_requirePage 16 = .ok (.ldc_w 279, 3) := by decide +kernel
theorem dX3_requirePage_19 : decode cX3_requirePage 19 = .ok (.invokespecial 147, 3) := by decide +kernel
theorem dX3_requirePage_22 : decode cX3_requirePage 22 = .ok (.athrow, 1) := by decide +kernel
theorem dX3_requirePage_23 : decode cX3_requirePage 23 = .ok (.return_, 1) := by decide +kernel
theorem dX3_requireGroup_0 : decode cX3_requireGroup 0 = .ok (.aload_n 0, 1) := by decide +kernel
theorem dX3_requireGroup_1 : decode cX3_requireGroup 1 = .ok (.getfield 19, 3) := by decide +kernel
theorem dX3_requireGroup_4 : decode cX3_requireGroup 4 = .ok (.iload_n 1, 1) := by decide +kernel
theorem dX3_requireGroup_5 : decode cX3_requireGroup 5 = .ok (.iload_n 2, 1) := by decide +kernel
theorem dX3_requireGroup_6 : decode cX3_requireGroup 6 = .ok (.invokevirtual 281, 3) := by decide +kernel
theorem dX3_requireGroup_9 : decode cX3_requireGroup 9 = .ok (.ifCond .ne 14, 3) := by decide +kernel
theorem dX3_requireGroup_12 : decode cX3_requireGroup 12 = .ok (.new 143, 3) := by decide +kernel
theorem dX3_requireGroup_15 : decode cX3_requireGroup 15 = .ok (.dup, 1) := by decide +kernel
theorem dX3_requireGroup_16 : decode cX3_requireGroup 16 = .ok (.ldc_w 284, 3) := by decide +kernel
theorem dX3_requireGroup_19 : decode cX3_requireGroup 19 = .ok (.invokespecial 147, 3) := by decide +kernel
theorem dX3_requireGroup_22 : decode cX3_requireGroup 22 = .ok (.athrow, 1) := by decide +kernel
theorem dX3_requireGroup_23 : decode cX3_requireGroup 23 = .ok (.return_, 1) := by decide +kernel
theorem dX3_requireSlot_0 : decode cX3_requireSlot 0 = .ok (.iload_n 1, 1) := by decide +kernel
theorem dX3_requireSlot_1 : decode cX3_requireSlot 1 = .ok (.ifCond .lt 8, 3) := by decide +kernel
theorem dX3_requireSlot_4 : decode cX3_requireSlot 4 = .ok (.iload_n 1, 1) := by decide +kernel
theorem dX3_requireSlot_5 : decode cX3_requireSlot 5 = .ok (.iconst 2, 1) := by decide +kernel
theorem dX3_requireSlot_6 : decode cX3_requireSlot 6 = .ok (.if_icmp .lt 14, 3) := by decide +kernel
theorem dX3_requireSlot_9 : decode cX3_requireSlot 9 = .ok (.new 143, 3) := by decide +kernel
theorem dX3_requireSlot_12 : decode cX3_requireSlot 12 = .ok (.dup, 1) := by decide +kernel
theorem dX3_requireSlot_13 : decode cX3_requireSlot 13 = .ok (.ldc_w 286, 3) := by decide +kernel
theorem dX3_requireSlot_16 : decode cX3_requireSlot 16 = .ok (.invokespecial 147, 3) := by decide +kernel
theorem dX3_requireSlot_19 : decode cX3_requireSlot 19 = .ok (.athrow, 1) := by decide +kernel
theorem dX3_requireSlot_20 : decode cX3_requireSlot 20 = .ok (.return_, 1) := by decide +kernel
theorem dX3_doCommandOfText_0 : decode cX3_doCommandOfText 0 = .ok (.aload_n 0, 1) := by decide +kernel
theorem dX3_doCommandOfText_1 : decode cX3_doCommandOfText 1 = .ok (.getfield 10, 3) := by decide +kernel
theorem dX3_doCommandOfText_4 : decode cX3_doCommandOfText 4 = .ok (.iload_n 1, 1) := by decide +kernel
theorem dX3_doCommandOfText_5 : decode cX3_doCommandOfText 5 = .ok (.iconst 1, 1) := by decide +kernel
theorem dX3_doCommandOfText_6 : decode cX3_doCommandOfText 6 = .ok (.iadd, 1) := by decide +kernel
theorem dX3_doCommandOfText_7 : decode cX3_doCommandOfText 7 = .ok (.invokevirtual 288, 3) := by decide +kernel
theorem dX3_doCommandOfText_10 : decode cX3_doCommandOfText 10 = .ok (.istore_n 2, 1) := by decide +kernel
theorem dX3_doCommandOfText_11 : decode cX3_doCommandOfText 11 = .ok (.aload_n 0, 1) := by decide +kernel
theorem dX3_doCommandOfText_12 : decode cX3_doCommandOfText 12 = .ok (.getfield 10, 3) := by decide +kernel
theorem dX3_doCommandOfText_15 : decode cX3_doCommandOfText 15 = .ok (.iload_n 1, 1) := by decide +kernel
theorem dX3_doCommandOfText_16 : decode cX3_doCommandOfText 16 = .ok (.invokevirtual 75, 3) := by decide +kernel
theorem dX3_doCommandOfText_19 : decode cX3_doCommandOfText 19 = .ok (.lookupswitch 161 #[(101, 151), (102, 87), (109, 123), (119, 49), (120, 105)], 49) := by decide +kernel
theorem dX3_doCommandOfText_68 : decode cX3_doCommandOfText 68 = .ok (.aload_n 0, 1) := by decide +kernel
theorem dX3_doCommandOfText_69 : decode cX3_doCommandOfText 69 = .ok (.getfield 19, 3) := by decide +kernel
theorem dX3_doCommandOfText_72 : decode cX3_doCommandOfText 72 = .ok (.iload_n 2, 1) := by decide +kernel
theorem dX3_doCommandOfText_73 : decode cX3_doCommandOfText 73 = .ok (.aload_n 0, 1) := by decide +kernel
theorem dX3_doCommandOfText_74 : decode cX3_doCommandOfText 74 = .ok (.getfield 10, 3) := by decide +kernel
theorem dX3_doCommandOfText_77 : decode cX3_doCommandOfText 77 = .ok (.iload_n 1, 1) := by decide +kernel
theorem dX3_doCommandOfText_78 : decode cX3_doCommandOfText 78 = .ok (.iconst 2, 1) := by decide +kernel
theorem dX3_doCommandOfText_79 : decode cX3_doCommandOfText 79 = .ok (.iadd, 1) := by decide +kernel
theorem dX3_doCommandOfText_80 : decode cX3_doCommandOfText 80 = .ok (.invokevirtual 291, 3) := by decide +kernel
theorem dX3_doCommandOfText_83 : decode cX3_doCommandOfText 83 = .ok (.aload_n 0, 1) := by decide +kernel
theorem dX3_doCommandOfText_84 : decode cX3_doCommandOfText 84 = .ok (.getfield 10, 3) := by decide +kernel
theorem dX3_doCommandOfText_87 : decode cX3_doCommandOfText 87 = .ok (.iload_n 1, 1) := by decide +kernel
theorem dX3_doCommandOfText_88 : decode cX3_doCommandOfText 88 = .ok (.iconst 4, 1) := by decide +kernel
theorem dX3_doCommandOfText_89 : decode cX3_doCommandOfText 89 = .ok (.iadd, 1) := by decide +kernel
theorem dX3_doCommandOfText_90 : decode cX3_doCommandOfText 90 = .ok (.invokevirtual 291, 3) := by decide +kernel
theorem dX3_doCommandOfText_93 : decode cX3_doCommandOfText 93 = .ok (.invokevirtual 181, 3) := by decide +kernel
theorem dX3_doCommandOfText_96 : decode cX3_doCommandOfText 96 = .ok (.iconst (-1), 1) := by decide +kernel
theorem dX3_doCommandOfText_97 : decode cX3_doCommandOfText 97 = .ok (.if_icmp .eq 7, 3) := by decide +kernel
theorem dX3_doCommandOfText_100 : decode cX3_doCommandOfText 100 = .ok (.iconst 1, 1) := by decide +kernel
theorem dX3_doCommandOfText_101 : decode cX3_doCommandOfText 101 = .ok (.goto 4, 3) := by decide +kernel
theorem dX3_doCommandOfText_104 : decode cX3_doCommandOfText 104 = .ok (.iconst 0, 1) := by decide +kernel
theorem dX3_doCommandOfText_105 : decode cX3_doCommandOfText 105 = .ok (.ireturn, 1) := by decide +kernel
theorem dX3_doCommandOfText_106 : decode cX3_doCommandOfText 106 = .ok (.aload_n 0, 1) := by decide +kernel
theorem dX3_doCommandOfText_107 : decode cX3_doCommandOfText 107 = .ok (.getfield 19, 3) := by decide +kernel
theorem dX3_doCommandOfText_110 : decode cX3_doCommandOfText 110 = .ok (.iload_n 2, 1) := by decide +kernel
theorem dX3_doCommandOfText_111 : decode cX3_doCommandOfText 111 = .ok (.invokevirtual 194, 3) := by decide +kernel
theorem dX3_doCommandOfText_114 : decode cX3_doCommandOfText 114 = .ok (.iconst (-1), 1) := by decide +kernel
theorem dX3_doCommandOfText_115 : decode cX3_doCommandOfText 115 = .ok (.if_icmp .eq 7, 3) := by decide +kernel
theorem dX3_doCommandOfText_118 : decode cX3_doCommandOfText 118 = .ok (.iconst 1, 1) := by decide +kernel
theorem dX3_doCommandOfText_119 : decode cX3_doCommandOfText 119 = .ok (.goto 4, 3) := by decide +kernel
theorem dX3_doCommandOfText_122 : decode cX3_doCommandOfText 122 = .ok (.iconst 0, 1) := by decide +kernel
theorem dX3_doCommandOfText_123 : decode cX3_doCommandOfText 123 = .ok (.ireturn, 1) := by decide +kernel
theorem dX3_doCommandOfText_124 : decode cX3_doCommandOfText 124 = .ok (.aload_n 0, 1) := by decide +kernel
theorem dX3_doCommandOfText_125 : decode cX3_doCommandOfText 125 = .ok (.getfield 19, 3) := by decide +kernel
theorem dX3_doCommandOfText_128 : decode cX3_doCommandOfText 128 = .ok (.iload_n 2, 1) := by decide +kernel
theorem dX3_doCommandOfText_129 : decode cX3_doCommandOfText 129 = .ok (.invokevirtual 203, 3) := by decide +kernel
theorem dX3_doCommandOfText_132 : decode cX3_doCommandOfText 132 = .ok (.iconst (-1), 1) := by decide +kernel
theorem dX3_doCommandOfText_133 : decode cX3_doCommandOfText 133 = .ok (.if_icmp .eq 7, 3) := by decide +kernel
theorem dX3_doCommandOfText_136 : decode cX3_doCommandOfText 136 = .ok (.iconst 1, 1) := by decide +kernel
theorem dX3_doCommandOfText_137 : decode cX3_doCommandOfText 137 = .ok (.goto 4, 3) := by decide +kernel
theorem dX3_doCommandOfText_140 : decode cX3_doCommandOfText 140 = .ok (.iconst 0, 1) := by decide +kernel
theorem dX3_doCommandOfText_141 : decode cX3_doCommandOfText 141 = .ok (.ireturn, 1) := by decide +kernel
theorem dX3_doCommandOfText_142 : decode cX3_doCommandOfText 142 = .ok (.aload_n 0, 1) := by decide +kernel
theorem dX3_doCommandOfText_143 : decode cX3_doCommandOfText 143 = .ok (.getfield 19, 3) := by decide +kernel
theorem dX3_doCommandOfText_146 : decode cX3_doCommandOfText 146 = .ok (.iload_n 2, 1) := by decide +kernel
theorem dX3_doCommandOfText_147 : decode cX3_doCommandOfText 147 = .ok (.aload_n 0, 1) := by decide +kernel
theorem dX3_doCommandOfText_148 : decode cX3_doCommandOfText 148 = .ok (.getfield 10, 3) := by decide +kernel
theorem dX3_doCommandOfText_151 : decode cX3_doCommandOfText 151 = .ok (.iload_n 1, 1) := by decide +kernel
theorem dX3_doCommandOfText_152 : decode cX3_doCommandOfText 152 = .ok (.iconst 2, 1) := by decide +kernel
theorem dX3_doCommandOfText_153 : decode cX3_doCommandOfText 153 = .ok (.iadd, 1) := by decide +kernel
theorem dX3_doCommandOfText_154 : decode cX3_doCommandOfText 154 = .ok (.invokevirtual 288, 3) := by decide +kernel
theorem dX3_doCommandOfText_157 : decode cX3_doCommandOfText 157 = .ok (.invokevirtual 211, 3) := by decide +kernel
theorem dX3_doCommandOfText_160 : decode cX3_doCommandOfText 160 = .ok (.iconst (-1), 1) := by decide +kernel
theorem dX3_doCommandOfText_161 : decode cX3_doCommandOfText 161 = .ok (.if_icmp .eq 7, 3) := by decide +kernel
theorem dX3_doCommandOfText_164 : decode cX3_doCommandOfText 164 = .ok (.iconst 1, 1) := by decide +kernel
theorem dX3_doCommandOfText_165 : decode cX3_doCommandOfText 165 = .ok (.goto 4, 3) := by decide +kernel
theorem dX3_doCommandOfText_168 : decode cX3_doCommandOfText 168 = .ok (.iconst 0, 1) := by decide +kernel
theorem dX3_doCommandOfText_169 : decode cX3_doCommandOfText 169 = .ok (.ireturn, 1) := by decide +kernel
theorem dX3_doCommandOfText_170 : decode cX3_doCommandOfText 170 = .ok (.aload_n 0, 1) := by decide +kernel
theorem dX3_doCommandOfText_171 : decode cX3_doCommandOfText 171 = .ok (.getfield 19, 3) := by decide +kernel
theorem dX3_doCommandOfText_174 : decode cX3_doCommandOfText 174 = .ok (.iconst 1, 1) := by decide +kernel
theorem dX3_doCommandOfText_175 : decode cX3_doCommandOfText 175 = .ok (.putfield 117, 3) := by decide +kernel
theorem dX3_doCommandOfText_178 : decode cX3_doCommandOfText 178 = .ok (.iconst 1, 1) := by decide +kernel
theorem dX3_doCommandOfText_179 : decode cX3_doCommandOfText 179 = .ok (.ireturn, 1) := by decide +kernel
theorem dX3_doCommandOfText_180 : decode cX3_doCommandOfText 180 = .ok (.iconst 0, 1) := by decide +kernel
theorem dX3_doCommandOfText_181 : decode cX3_doCommandOfText 181 = .ok (.ireturn, 1) := by decide +kernel
theorem dX3_withoutLastCommands_0 : decode cX3_withoutLastCommands 0 = .ok (.lload_n 0, 1) := by decide +kernel
theorem dX3_withoutLastCommands_1 : decode cX3_withoutLastCommands 1 = .ok (.lstore_n 3, 1) := by decide +kernel
theorem dX3_withoutLastCommands_2 : decode cX3_withoutLastCommands 2 = .ok (.iconst 0, 1) := by decide +kernel
theorem dX3_withoutLastCommands_3 : decode cX3_withoutLastCommands 3 = .ok (.istore 5, 2) := by decide +kernel
theorem dX3_withoutLastCommands_5 : decode cX3_withoutLastCommands 5 = .ok (.iload 5, 2) := by decide +kernel
theorem dX3_withoutLastCommands_7 : decode cX3_withoutLastCommands 7 = .ok (.iload_n 2, 1) := by decide +kernel
theorem dX3_withoutLastCommands_8 : decode cX3_withoutLastCommands 8 = .ok (.if_icmp .ge 15, 3) := by decide +kernel
theorem dX3_withoutLastCommands_11 : decode cX3_withoutLastCommands 11 = .ok (.lload_n 3, 1) := by decide +kernel
theorem dX3_withoutLastCommands_12 : decode cX3_withoutLastCommands 12 = .ok (.ldc2_w 247, 3) := by decide +kernel
theorem dX3_withoutLastCommands_15 : decode cX3_withoutLastCommands 15 = .ok (.ldiv, 1) := by decide +kernel
theorem dX3_withoutLastCommands_16 : decode cX3_withoutLastCommands 16 = .ok (.lstore_n 3, 1) := by decide +kernel
theorem dX3_withoutLastCommands_17 : decode cX3_withoutLastCommands 17 = .ok (.iinc 5 1, 3) := by decide +kernel
theorem dX3_withoutLastCommands_20 : decode cX3_withoutLastCommands 20 = .ok (.goto (-15), 3) := by decide +kernel
theorem dX3_withoutLastCommands_23 : decode cX3_withoutLastCommands 23 = .ok (.lload_n 3, 1) := by decide +kernel
theorem dX3_withoutLastCommands_24 : decode cX3_withoutLastCommands 24 = .ok (.lreturn, 1) := by decide +kernel
theorem dX3_doCommandOfScript_0 : decode cX3_doCommandOfScript 0 = .ok (.iload_n 1, 1) := by decide +kernel
theorem dX3_doCommandOfScript_1 : decode cX3_doCommandOfScript 1 = .ok (.sipush 10000, 3) := by decide +kernel
theorem dX3_doCommandOfScript_4 : decode cX3_doCommandOfScript 4 = .ok (.idiv, 1) := by decide +kernel
theorem dX3_doCommandOfScript_5 : decode cX3_doCommandOfScript 5 = .ok (.istore_n 2, 1) := by decide +kernel
theorem dX3_doCommandOfScript_6 : decode cX3_doCommandOfScript 6 = .ok (.iload_n 1, 1) := by decide +kernel
theorem dX3_doCommandOfScript_7 : decode cX3_doCommandOfScript 7 = .ok (.sipush 1000, 3) := by decide +kernel
theorem dX3_doCommandOfScript_10 : decode cX3_doCommandOfScript 10 = .ok (.idiv, 1) := by decide +kernel
theorem dX3_doCommandOfScript_11 : decode cX3_doCommandOfScript 11 = .ok (.bipush 10, 2) := by decide +kernel
theorem dX3_doCommandOfScript_13 : decode cX3_doCommandOfScript 13 = .ok (.irem, 1) := by decide +kernel
theorem dX3_doCommandOfScript_14 : decode cX3_doCommandOfScript 14 = .ok (.istore_n 3, 1) := by decide +kernel
theorem dX3_doCommandOfScript_15 : decode cX3_doCommandOfScript 15 = .ok (.iload_n 1, 1) := by decide +kernel
theorem dX3_doCommandOfScript_16 : decode cX3_doCommandOfScript 16 = .ok (.bipush 100, 2) := by decide +kernel
theorem dX3_doCommandOfScript_18 : decode cX3_doCommandOfScript 18 = .ok (.idiv, 1) := by decide +kernel
theorem dX3_doCommandOfScript_19 : decode cX3_doCommandOfScript 19 = .ok (.bipush 10, 2) := by decide +kernel
theorem dX3_doCommandOfScript_21 : decode cX3_doCommandOfScript 21 = .ok (.irem, 1) := by decide +kernel
theorem dX3_doCommandOfScript_22 : decode cX3_doCommandOfScript 22 = .ok (.istore 4, 2) := by decide +kernel
theorem dX3_doCommandOfScript_24 : decode cX3_doCommandOfScript 24 = .ok (.iload_n 1, 1) := by decide +kernel
theorem dX3_doCommandOfScript_25 : decode cX3_doCommandOfScript 25 = .ok (.bipush 10, 2) := by decide +kernel
theorem dX3_doCommandOfScript_27 : decode cX3_doCommandOfScript 27 = .ok (.idiv, 1) := by decide +kernel
theorem dX3_doCommandOfScript_28 : decode cX3_doCommandOfScript 28 = .ok (.bipush 100, 2) := by decide +kernel
theorem dX3_doCommandOfScript_30 : decode cX3_doCommandOfScript 30 = .ok (.irem, 1) := by decide +kernel
theorem dX3_doCommandOfScript_31 : decode cX3_doCommandOfScript 31 = .ok (.istore 5, 2) := by decide +kernel
theorem dX3_doCommandOfScript_33 : decode cX3_doCommandOfScript 33 = .ok (.iload_n 1, 1) := by decide +kernel
theorem dX3_doCommandOfScript_34 : decode cX3_doCommandOfScript 34 = .ok (.bipush 10, 2) := by decide +kernel
theorem dX3_doCommandOfScript_36 : decode cX3_doCommandOfScript 36 = .ok (.irem, 1) := by decide +kernel
theorem dX3_doCommandOfScript_37 : decode cX3_doCommandOfScript 37 = .ok (.istore 6, 2) := by decide +kernel
theorem dX3_doCommandOfScript_39 : decode cX3_doCommandOfScript 39 = .ok (.iload_n 1, 1) := by decide +kernel
theorem dX3_doCommandOfScript_40 : decode cX3_doCommandOfScript 40 = .ok (.bipush 100, 2) := by decide +kernel
theorem dX3_doCommandOfScript_42 : decode cX3_doCommandOfScript 42 = .ok (.irem, 1) := by decide +kernel
theorem dX3_doCommandOfScript_43 : decode cX3_doCommandOfScript 43 = .ok (.istore 7, 2) := by decide +kernel
theorem dX3_doCommandOfScript_45 : decode cX3_doCommandOfScript 45 = .ok (.iload_n 1, 1) := by decide +kernel
theorem dX3_doCommandOfScript_46 : decode cX3_doCommandOfScript 46 = .ok (.sipush 1000, 3) := by decide +kernel
theorem dX3_doCommandOfScript_49 : decode cX3_doCommandOfScript 49 = .ok (.irem, 1) := by decide +kernel
theorem dX3_doCommandOfScript_50 : decode cX3_doCommandOfScript 50 = .ok (.istore 8, 2) := by decide +kernel
theorem dX3_doCommandOfScript_52 : decode cX3_doCommandOfScript 52 = .ok (.iload_n 1, 1) := by decide +kernel
theorem dX3_doCommandOfScript_53 : decode cX3_doCommandOfScript 53 = .ok (.sipush 10000, 3) := by decide +kernel
theorem dX3_doCommandOfScript_56 : decode cX3_doCommandOfScript 56 = .ok (.irem, 1) := by decide +kernel
theorem dX3_doCommandOfScript_57 : decode cX3_doCommandOfScript 57 = .ok (.istore 9, 2) := by decide +kernel
theorem dX3_doCommandOfScript_59 : decode cX3_doCommandOfScript 59 = .ok (.iload_n 2, 1) := by decide +kernel
theorem dX3_doCommandOfScript_60 : decode cX3_doCommandOfScript 60 = .ok (.tableswitch 304 1 9 #[52, 74, 97, 120, 145, 170, 196, 230, 279], 52) := by decide +kernel
theorem dX3_doCommandOfScript_112 : decode cX3_doCommandOfScript 112 = .ok (.aload_n 0, 1) := by decide +kernel
theorem dX3_doCommandOfScript_113 : decode cX3_doCommandOfScript 113 = .ok (.getfield 23, 3) := by decide +kernel
theorem dX3_doCommandOfScript_116 : decode cX3_doCommandOfScript 116 = .ok (.iload_n 3, 1) := by decide +kernel
theorem dX3_doCommandOfScript_117 : decode cX3_doCommandOfScript 117 = .ok (.iload 5, 2) := by decide +kernel
theorem dX3_doCommandOfScript_119 : decode cX3_doCommandOfScript 119 = .ok (.iload 6, 2) := by decide +kernel
theorem dX3_doCommandOfScript_121 : decode cX3_doCommandOfScript 121 = .ok (.invokevirtual 181, 3) := by decide +kernel
theorem dX3_doCommandOfScript_124 : decode cX3_doCommandOfScript 124 = .ok (.iconst (-1), 1) := by decide +kernel
theorem dX3_doCommandOfScript_125 : decode cX3_doCommandOfScript 125 = .ok (.if_icmp .eq 7, 3) := by decide +kernel
theorem dX3_doCommandOfScript_128 : decode cX3_doCommandOfScript 128 = .ok (.iconst 1, 1) := by decide +kernel
theorem dX3_doCommandOfScript_129 : decode cX3_doCommandOfScript 129 = .ok (.goto 4, 3) := by decide +kernel
theorem dX3_doCommandOfScript_132 : decode cX3_doCommandOfScript 132 = .ok (.iconst 0, 1) := by decide +kernel
theorem dX3_doCommandOfScript_133 : decode cX3_doCommandOfScript 133 = .ok (.ireturn, 1) := by decide +kernel
theorem dX3_doCommandOfScript_134 : decode cX3_doCommandOfScript 134 = .ok (.iload 8, 2) := by decide +kernel
theorem dX3_doCommandOfScript_136 : decode cX3_doCommandOfScript 136 = .ok (.ifCond .ne 19, 3) := by decide +kernel
theorem dX3_doCommandOfScript_139 : decode cX3_doCommandOfScript 139 = .ok (.aload_n 0, 1) := by decide +kernel
theorem dX3_doCommandOfScript_140 : decode cX3_doCommandOfScript 140 = .ok (.getfield 23, 3) := by decide +kernel
theorem dX3_doCommandOfScript_143 : decode cX3_doCommandOfScript 143 = .ok (.iload_n 3, 1) := by decide +kernel
theorem dX3_doCommandOfScript_144 : decode cX3_doCommandOfScript 144 = .ok (.invokevirtual 194, 3) := by decide +kernel
theorem dX3_doCommandOfScript_147 : decode cX3_doCommandOfScript 147 = .ok (.iconst (-1), 1) := by decide +kernel
theorem dX3_doCommandOfScript_148 : decode cX3_doCommandOfScript 148 = .ok (.if_icmp .eq 7, 3) := by decide +kernel
theorem dX3_doCommandOfScript_151 : decode cX3_doCommandOfScript 151 = .ok (.iconst 1, 1) := by decide +kernel
theorem dX3_doCommandOfScript_152 : decode cX3_doCommandOfScript 152 = .ok (.goto 4, 3) := by decide +kernel
theorem dX3_doCommandOfScript_155 : decode cX3_doCommandOfScript 155 = .ok (.iconst 0, 1) := by decide +kernel
theorem dX3_doCommandOfScript_156 : decode cX3_doCommandOfScript 156 = .ok (.ireturn, 1) := by decide +kernel
theorem dX3_doCommandOfScript_157 : decode cX3_doCommandOfScript 157 = .ok (.iload 8, 2) := by decide +kernel
theorem dX3_doCommandOfScript_159 : decode cX3_doCommandOfScript 159 = .ok (.ifCond .ne 19, 3) := by decide +kernel
theorem dX3_doCommandOfScript_162 : decode cX3_doCommandOfScript 162 = .ok (.aload_n 0, 1) := by decide +kernel
theorem dX3_doCommandOfScript_163 : decode cX3_doCommandOfScript 163 = .ok (.getfield 23, 3) := by decide +kernel
theorem dX3_doCommandOfScript_166 : decode cX3_doCommandOfScript 166 = .ok (.iload_n 3, 1) := by decide +kernel
theorem dX3_doCommandOfScript_167 : decode cX3_doCommandOfScript 167 = .ok (.invokevirtual 203, 3) := by decide +kernel
theorem dX3_doCommandOfScript_170 : decode cX3_doCommandOfScript 170 = .ok (.iconst (-1), 1) := by decide +kernel
theorem dX3_doCommandOfScript_171 : decode cX3_doCommandOfScript 171 = .ok (.if_icmp .eq 7, 3) := by decide +kernel
theorem dX3_doCommandOfScript_174 : decode cX3_doCommandOfScript 174 = .ok (.iconst 1, 1) := by decide +kernel
theorem dX3_doCommandOfScript_175 : decode cX3_doCommandOfScript 175 = .ok (.goto 4, 3) := by decide +kernel
theorem dX3_doCommandOfScript_178 : decode cX3_doCommandOfScript 178 = .ok (.iconst 0, 1) := by decide +kernel
theorem dX3_doCommandOfScript_179 : decode cX3_doCommandOfScript 179 = .ok (.ireturn, 1) := by decide +kernel
theorem dX3_doCommandOfScript_180 : decode cX3_doCommandOfScript 180 = .ok (.iload 7, 2) := by decide +kernel
theorem dX3_doCommandOfScript_182 : decode cX3_doCommandOfScript 182 = .ok (.ifCond .ne 21, 3) := by decide +kernel
theorem dX3_doCommandOfScript_185 : decode cX3_doCommandOfScript 185 = .ok (.aload_n 0, 1) := by decide +kernel
theorem dX3_doCommandOfScript_186 : decode cX3_doCommandOfScript 186 = .ok (.getfield 23, 3) := by decide +kernel
theorem dX3_doCommandOfScript_189 : decode cX3_doCommandOfScript 189 = .ok (.iload_n 3, 1) := by decide +kernel
theorem dX3_doCommandOfScript_190 : decode cX3_doCommandOfScript 190 = .ok (.iload 4, 2) := by decide +kernel
theorem dX3_doCommandOfScript_192 : decode cX3_doCommandOfScript 192 = .ok (.invokevirtual 211, 3) := by decide +kernel
theorem dX3_doCommandOfScript_195 : decode cX3_doCommandOfScript 195 = .ok (.iconst (-1), 1) := by decide +kernel
theorem dX3_doCommandOfScript_196 : decode cX3_doCommandOfScript 196 = .ok (.if_icmp .eq 7, 3) := by decide +kernel
theorem dX3_doCommandOfScript_199 : decode cX3_doCommandOfScript 199 = .ok (.iconst 1, 1) := by decide +kernel
theorem dX3_doCommandOfScript_200 : decode cX3_doCommandOfScript 200 = .ok (.goto 4, 3) := by decide +kernel
theorem dX3_doCommandOfScript_203 : decode cX3_doCommandOfScript 203 = .ok (.iconst 0, 1) := by decide +kernel
theorem dX3_doCommandOfScript_204 : decode cX3_doCommandOfScript 204 = .ok (.ireturn, 1) := by decide +kernel
theorem dX3_doCommandOfScript_205 : decode cX3_doCommandOfScript 205 = .ok (.iload 7, 2) := by decide +kernel
theorem dX3_doCommandOfScript_207 : decode cX3_doCommandOfScript 207 = .ok (.ifCond .ne 21, 3) := by decide +kernel
theorem dX3_doCommandOfScript_210 : decode cX3_doCommandOfScript 210 = .ok (.aload_n 0, 1) := by decide +kernel
theorem dX3_doCommandOfScript_211 : decode cX3_doCommandOfScript 211 = .ok (.getfield 23, 3) := by decide +kernel
theorem dX3_doCommandOfScript_214 : decode cX3_doCommandOfScript 214 = .ok (.iload_n 3, 1) := by decide +kernel
theorem dX3_doCommandOfScript_215 : decode cX3_doCommandOfScript 215 = .ok (.iload 4, 2) := by decide +kernel
theorem dX3_doCommandOfScript_217 : decode cX3_doCommandOfScript 217 = .ok (.invokevirtual 216, 3) := by decide +kernel
theorem dX3_doCommandOfScript_220 : decode cX3_doCommandOfScript 220 = .ok (.iconst (-1), 1) := by decide +kernel
theorem dX3_doCommandOfScript_221 : decode cX3_doCommandOfScript 221 = .ok (.if_icmp .eq 7, 3) := by decide +kernel
theorem dX3_doCommandOfScript_224 : decode cX3_doCommandOfScript 224 = .ok (.iconst 1, 1) := by decide +kernel
theorem dX3_doCommandOfScript_225 : decode cX3_doCommandOfScript 225 = .ok (.goto 4, 3) := by decide +kernel
theorem dX3_doCommandOfScript_228 : decode cX3_doCommandOfScript 228 = .ok (.iconst 0, 1) := by decide +kernel
theorem dX3_doCommandOfScript_229 : decode cX3_doCommandOfScript 229 = .ok (.ireturn, 1) := by decide +kernel
theorem dX3_doCommandOfScript_230 : decode cX3_doCommandOfScript 230 = .ok (.iload 9, 2) := by decide +kernel
theorem dX3_doCommandOfScript_232 : decode cX3_doCommandOfScript 232 = .ok (.bipush 100, 2) := by decide +kernel
theorem dX3_doCommandOfScript_234 : decode cX3_doCommandOfScript 234 = .ok (.if_icmp .ge 20, 3) := by decide +kernel
theorem dX3_doCommandOfScript_237 : decode cX3_doCommandOfScript 237 = .ok (.aload_n 0, 1) := by decide +kernel
theorem dX3_doCommandOfScript_238 : decode cX3_doCommandOfScript 238 = .ok (.getfield 23, 3) := by decide +kernel
theorem dX3_doCommandOfScript_241 : decode cX3_doCommandOfScript 241 = .ok (.iload 7, 2) := by decide +kernel
theorem dX3_doCommandOfScript_243 : decode cX3_doCommandOfScript 243 = .ok (.invokevirtual 221, 3) := by decide +kernel
theorem dX3_doCommandOfScript_246 : decode cX3_doCommandOfScript 246 = .ok (.iconst (-1), 1) := by decide +kernel
theorem dX3_doCommandOfScript_247 : decode cX3_doCommandOfScript 247 = .ok (.if_icmp .eq 7, 3) := by decide +kernel
theorem dX3_doCommandOfScript_250 : decode cX3_doCommandOfScript 250 = .ok (.iconst 1, 1) := by decide +kernel
theorem dX3_doCommandOfScript_251 : decode cX3_doCommandOfScript 251 = .ok (.goto 4, 3) := by decide +kernel
theorem dX3_doCommandOfScript_254 : decode cX3_doCommandOfScript 254 = .ok (.iconst 0, 1) := by decide +kernel
theorem dX3_doCommandOfScript_255 : decode cX3_doCommandOfScript 255 = .ok (.ireturn, 1) := by decide +kernel
theorem dX3_doCommandOfScript_256 : decode cX3_doCommandOfScript 256 = .ok (.aload_n 0, 1) := by decide +kernel
theorem dX3_doCommandOfScript_257 : decode cX3_doCommandOfScript 257 = .ok (.getfield 23, 3) := by decide +kernel
theorem dX3_doCommandOfScript_260 : decode cX3_doCommandOfScript 260 = .ok (.iload_n 3, 1) := by decide +kernel
theorem dX3_doCommandOfScript_261 : decode cX3_doCommandOfScript 261 = .ok (.iload 5, 2) := by decide +kernel
theorem dX3_doCommandOfScript_263 : decode cX3_doCommandOfScript 263 = .ok (.invokevirtual 276, 3) := by decide +kernel
theorem dX3_doCommandOfScript_266 : decode cX3_doCommandOfScript 266 = .ok (.ifCond .eq 22, 3) := by decide +kernel
theorem dX3_doCommandOfScript_269 : decode cX3_doCommandOfScript 269 = .ok (.aload_n 0, 1) := by decide +kernel
theorem dX3_doCommandOfScript_270 : decode cX3_doCommandOfScript 270 = .ok (.getfield 23, 3) := by decide +kernel
theorem dX3_doCommandOfScript_273 : decode cX3_doCommandOfScript 273 = .ok (.iload_n 3, 1) := by decide +kernel
theorem dX3_doCommandOfScript_274 : decode cX3_doCommandOfScript 274 = .ok (.iload 5, 2) := by decide +kernel
theorem dX3_doCommandOfScript_276 : decode cX3_doCommandOfScript 276 = .ok (.invokevirtual 131, 3) := by decide +kernel
theorem dX3_doCommandOfScript_279 : decode cX3_doCommandOfScript 279 = .ok (.iload 6, 2) := by decide +kernel
theorem dX3_doCommandOfScript_281 : decode cX3_doCommandOfScript 281 = .ok (.if_icmp .ne 7, 3) := by decide +kernel
theorem dX3_doCommandOfScript_284 : decode cX3_doCommandOfScript 284 = .ok (.iconst 1, 1) := by decide +kernel
theorem dX3_doCommandOfScript_285 : decode cX3_doCommandOfScript 285 = .ok (.goto 4, 3) := by decide +kernel
theorem dX3_doCommandOfScript_288 : decode cX3_doCommandOfScript 288 = .ok (.iconst 0, 1) := by decide +kernel
theorem dX3_doCommandOfScript_289 : decode cX3_doCommandOfScript 289 = .ok (.ireturn, 1) := by decide +kernel
theorem dX3_doCommandOfScript_290 : decode cX3_doCommandOfScript 290 = .ok (.iload 7, 2) := by decide +kernel
theorem dX3_doCommandOfScript_292 : decode cX3_doCommandOfScript 292 = .ok (.iconst 1, 1) := by decide +kernel
theorem dX3_doCommandOfScript_293 : decode cX3_doCommandOfScript 293 = .ok (.if_icmp .gt 44, 3) := by decide +kernel
theorem dX3_doCommandOfScript_296 : decode cX3_doCommandOfScript 296 = .ok (.aload_n 0, 1) := by decide +kernel
theorem dX3_doCommandOfScript_297 : decode cX3_doCommandOfScript 297 = .ok (.getfield 23, 3) := by decide +kernel
theorem dX3_doCommandOfScript_300 : decode cX3_doCommandOfScript 300 = .ok (.iload_n 3, 1) := by decide +kernel
theorem dX3_doCommandOfScript_301 : decode cX3_doCommandOfScript 301 = .ok (.iload 4, 2) := by decide +kernel
theorem dX3_doCommandOfScript_303 : decode cX3_doCommandOfScript 303 = .ok (.invokevirtual 281, 3) := by decide +kernel
theorem dX3_doCommandOfScript_306 : decode cX3_doCommandOfScript 306 = .ok (.ifCond .eq 31, 3) := by decide +kernel
theorem dX3_doCommandOfScript_309 : decode cX3_doCommandOfScript 309 = .ok (.aload_n 0, 1) := by decide +kernel
theorem dX3_doCommandOfScript_310 : decode cX3_doCommandOfScript 310 = .ok (.getfield 23, 3) := by decide +kernel
theorem dX3_doCommandOfScript_313 : decode cX3_doCommandOfScript 313 = .ok (.iload_n 3, 1) := by decide +kernel
theorem dX3_doCommandOfScript_314 : decode cX3_doCommandOfScript 314 = .ok (.iload 4, 2) := by decide +kernel
theorem dX3_doCommandOfScript_316 : decode cX3_doCommandOfScript 316 = .ok (.invokevirtual 137, 3) := by decide +kernel
theorem dX3_doCommandOfScript_319 : decode cX3_doCommandOfScript 319 = .ok (.iload 7, 2) := by decide +kernel
theorem dX3_doCommandOfScript_321 : decode cX3_doCommandOfScript 321 = .ok (.iconst 1, 1) := by decide +kernel
theorem dX3_doCommandOfScript_322 : decode cX3_doCommandOfScript 322 = .ok (.if_icmp .ne 7, 3) := by decide +kernel
theorem dX3_doCommandOfScript_325 : decode cX3_doCommandOfScript 325 = .ok (.iconst 1, 1) := by decide +kernel
theorem dX3_doCommandOfScript_326 : decode cX3_doCommandOfScript 326 = .ok (.goto 4, 3) := by decide +kernel
theorem dX3_doCommandOfScript_329 : decode cX3_doCommandOfScript 329 = .ok (.iconst 0, 1) := by decide +kernel
theorem dX3_doCommandOfScript_330 : decode cX3_doCommandOfScript 330 = .ok (.if_icmp .ne 7, 3) := by decide +kernel
theorem dX3_doCommandOfScript_333 : decode cX3_doCommandOfScript 333 = .ok (.iconst 1, 1) := by decide +kernel
theorem dX3_doCommandOfScript_334 : decode cX3_doCommandOfScript 334 = .ok (.goto 4, 3) := by decide +kernel
theorem dX3_doCommandOfScript_337 : decode cX3_doCommandOfScript 337 = .ok (.iconst 0, 1) := by decide +kernel
theorem dX3_doCommandOfScript_338 : decode cX3_doCommandOfScript 338 = .ok (.ireturn, 1) := by decide +kernel
theorem dX3_doCommandOfScript_339 : decode cX3_doCommandOfScript 339 = .ok (.iload 9, 2) := by decide +kernel
theorem dX3_doCommandOfScript_341 : decode cX3_doCommandOfScript 341 = .ok (.bipush 100, 2) := by decide +kernel
theorem dX3_doCommandOfScript_343 : decode cX3_doCommandOfScript 343 = .ok (.if_icmp .ge 19, 3) := by decide +kernel
theorem dX3_doCommandOfScript_346 : decode cX3_doCommandOfScript 346 = .ok (.aload_n 0, 1) := by decide +kernel
theorem dX3_doCommandOfScript_347 : decode cX3_doCommandOfScript 347 = .ok (.getfield 23, 3) := by decide +kernel
theorem dX3_doCommandOfScript_350 : decode cX3_doCommandOfScript 350 = .ok (.invokevirtual 89, 3) := by decide +kernel
theorem dX3_doCommandOfScript_353 : decode cX3_doCommandOfScript 353 = .ok (.iload 7, 2) := by decide +kernel
theorem dX3_doCommandOfScript_355 : decode cX3_doCommandOfScript 355 = .ok (.if_icmp .lt 7, 3) := by decide +kernel
theorem dX3_doCommandOfScript_358 : decode cX3_doCommandOfScript 358 = .ok (.iconst 1, 1) := by decide +kernel
theorem dX3_doCommandOfScript_359 : decode cX3_doCommandOfScript 359 = .ok (.goto 4, 3) := by decide +kernel
theorem dX3_doCommandOfScript_362 : decode cX3_doCommandOfScript 362 = .ok (.iconst 0, 1) := by decide +kernel
theorem dX3_doCommandOfScript_363 : decode cX3_doCommandOfScript 363 = .ok (.ireturn, 1) := by decide +kernel
theorem dX3_doCommandOfScript_364 : decode cX3_doCommandOfScript 364 = .ok (.iconst 0, 1) := by decide +kernel
theorem dX3_doCommandOfScript_365 : decode cX3_doCommandOfScript 365 = .ok (.ireturn, 1) := by decide +kernel
theorem dX3_doStep_0 : decode cX3_doStep 0 = .ok (.iload_n 1, 1) := by decide +kernel
theorem dX3_doStep_1 : decode cX3_doStep 1 = .ok (.bipush 16, 2) := by decide +kernel
theorem dX3_doStep_3 : decode cX3_doStep 3 = .ok (.idiv, 1) := by decide +kernel
theorem dX3_doStep_4 : decode cX3_doStep 4 = .ok (.iconst 4, 1) := by decide +kernel
theorem dX3_doStep_5 : decode cX3_doStep 5 = .ok (.irem, 1) := by decide +kernel
theorem dX3_doStep_6 : decode cX3_doStep 6 = .ok (.istore_n 2, 1) := by decide +kernel
theorem dX3_doStep_7 : decode cX3_doStep 7 = .ok (.aload_n 0, 1) := by decide +kernel
theorem dX3_doStep_8 : decode cX3_doStep 8 = .ok (.getfield 23, 3) := by decide +kernel
theorem dX3_doStep_11 : decode cX3_doStep 11 = .ok (.iload_n 2, 1) := by decide +kernel
theorem dX3_doStep_12 : decode cX3_doStep 12 = .ok (.invokevirtual 271, 3) := by decide +kernel
theorem dX3_doStep_15 : decode cX3_doStep 15 = .ok (.ifCond .ne 4, 3) := by decide +kernel
theorem dX3_doStep_18 : decode cX3_doStep 18 = .ok (.return_, 1) := by decide +kernel
theorem dX3_doStep_19 : decode cX3_doStep 19 = .ok (.iload_n 1, 1) := by decide +kernel
theorem dX3_doStep_20 : decode cX3_doStep 20 = .ok (.bipush 8, 2) := by decide +kernel
theorem dX3_doStep_22 : decode cX3_doStep 22 = .ok (.irem, 1) := by decide +kernel
theorem dX3_doStep_23 : decode cX3_doStep 23 = .ok (.tableswitch 91 0 3 #[29, 41, 53, 71], 29) := by decide +kernel
theorem dX3_doStep_52 : decode cX3_doStep 52 = .ok (.aload_n 0, 1) := by decide +kernel
theorem dX3_doStep_53 : decode cX3_doStep 53 = .ok (.getfield 23, 3) := by decide +kernel
theorem dX3_doStep_56 : decode cX3_doStep 56 = .ok (.iload_n 2, 1) := by decide +kernel
theorem dX3_doStep_57 : decode cX3_doStep 57 = .ok (.invokevirtual 194, 3) := by decide +kernel
theorem dX3_doStep_60 : decode cX3_doStep 60 = .ok (.pop, 1) := by decide +kernel
theorem dX3_doStep_61 : decode cX3_doStep 61 = .ok (.goto 77, 3) := by decide +kernel
theorem dX3_doStep_64 : decode cX3_doStep 64 = .ok (.aload_n 0, 1) := by decide +kernel
theorem dX3_doStep_65 : decode cX3_doStep 65 = .ok (.getfield 23, 3) := by decide +kernel
theorem dX3_doStep_68 : decode cX3_doStep 68 = .ok (.iload_n 2, 1) := by decide +kernel
theorem dX3_doStep_69 : decode cX3_doStep 69 = .ok (.invokevirtual 203, 3) := by decide +kernel
theorem dX3_doStep_72 : decode cX3_doStep 72 = .ok (.pop, 1) := by decide +kernel
theorem dX3_doStep_73 : decode cX3_doStep 73 = .ok (.goto 65, 3) := by decide +kernel
theorem dX3_doStep_76 : decode cX3_doStep 76 = .ok (.aload_n 0, 1) := by decide +kernel
theorem dX3_doStep_77 : decode cX3_doStep 77 = .ok (.getfield 23, 3) := by decide +kernel
theorem dX3_doStep_80 : decode cX3_doStep 80 = .ok (.iload_n 2, 1) := by decide +kernel
theorem dX3_doStep_81 : decode cX3_doStep 81 = .ok (.iload_n 1, 1) := by decide +kernel
theorem dX3_doStep_82 : decode cX3_doStep 82 = .ok (.bipush 64, 2) := by decide +kernel
theorem dX3_doStep_84 : decode cX3_doStep 84 = .ok (.idiv, 1) := by decide +kernel
theorem dX3_doStep_85 : decode cX3_doStep 85 = .ok (.iconst 4, 1) := by decide +kernel
theorem dX3_doStep_86 : decode cX3_doStep 86 = .ok (.irem, 1) := by decide +kernel
theorem dX3_doStep_87 : decode cX3_doStep 87 = .ok (.invokevirtual 211, 3) := by decide +kernel
theorem dX3_doStep_90 : decode cX3_doStep 90 = .ok (.pop, 1) := by decide +kernel
theorem dX3_doStep_91 : decode cX3_doStep 91 = .ok (.goto 47, 3) := by decide +kernel
theorem dX3_doStep_94 : decode cX3_doStep 94 = .ok (.aload_n 0, 1) := by decide +kernel
theorem dX3_doStep_95 : decode cX3_doStep 95 = .ok (.getfield 23, 3) := by decide +kernel
theorem dX3_doStep_98 : decode cX3_doStep 98 = .ok (.iconst 1, 1) := by decide +kernel
theorem dX3_doStep_99 : decode cX3_doStep 99 = .ok (.iload_n 1, 1) := by decide +kernel
theorem dX3_doStep_100 : decode cX3_doStep 100 = .ok (.bipush 64, 2) := by decide +kernel
theorem dX3_doStep_102 : decode cX3_doStep 102 = .ok (.idiv, 1) := by decide +kernel
theorem dX3_doStep_103 : decode cX3_doStep 103 = .ok (.bipush 8, 2) := by decide +kernel
theorem dX3_doStep_105 : decode cX3_doStep 105 = .ok (.irem, 1) := by decide +kernel
theorem dX3_doStep_106 : decode cX3_doStep 106 = .ok (.iadd, 1) := by decide +kernel
theorem dX3_doStep_107 : decode cX3_doStep 107 = .ok (.invokevirtual 221, 3) := by decide +kernel
theorem dX3_doStep_110 : decode cX3_doStep 110 = .ok (.pop, 1) := by decide +kernel
theorem dX3_doStep_111 : decode cX3_doStep 111 = .ok (.goto 27, 3) := by decide +kernel
theorem dX3_doStep_114 : decode cX3_doStep 114 = .ok (.aload_n 0, 1) := by decide +kernel
theorem dX3_doStep_115 : decode cX3_doStep 115 = .ok (.getfield 23, 3) := by decide +kernel
theorem dX3_doStep_118 : decode cX3_doStep 118 = .ok (.iload_n 2, 1) := by decide +kernel
theorem dX3_doStep_119 : decode cX3_doStep 119 = .ok (.iload_n 1, 1) := by decide +kernel
theorem dX3_doStep_120 : decode cX3_doStep 120 = .ok (.bipush 64, 2) := by decide +kernel
theorem dX3_doStep_122 : decode cX3_doStep 122 = .ok (.idiv, 1) := by decide +kernel
theorem dX3_doStep_123 : decode cX3_doStep 123 = .ok (.bipush 16, 2) := by decide +kernel
theorem dX3_doStep_125 : decode cX3_doStep 125 = .ok (.irem, 1) := by decide +kernel
theorem dX3_doStep_126 : decode cX3_doStep 126 = .ok (.iload_n 1, 1) := by decide +kernel
theorem dX3_doStep_127 : decode cX3_doStep 127 = .ok (.sipush 1024, 3) := by decide +kernel
theorem dX3_doStep_130 : decode cX3_doStep 130 = .ok (.idiv, 1) := by decide +kernel
theorem dX3_doStep_131 : decode cX3_doStep 131 = .ok (.bipush 100, 2) := by decide +kernel
theorem dX3_doStep_133 : decode cX3_doStep 133 = .ok (.irem, 1) := by decide +kernel
theorem dX3_doStep_134 : decode cX3_doStep 134 = .ok (.invokevirtual 181, 3) := by decide +kernel
theorem dX3_doStep_137 : decode cX3_doStep 137 = .ok (.pop, 1) := by decide +kernel
theorem dX3_doStep_138 : decode cX3_doStep 138 = .ok (.return_, 1) := by decide +kernel
theorem dX4_init_0 : decode cX4_init 0 = .ok (.aload_n 0, 1) := by decide +kernel
theorem dX4_init_1 : decode cX4_init 1 = .ok (.invokespecial 1, 3) := by decide +kernel
theorem dX4_init_4 : decode cX4_init 4 = .ok (.aload_n 0, 1) := by decide +kernel
theorem dX4_init_5 : decode cX4_init 5 = .ok (.bipush 121, 2) := by decide +kernel
theorem dX4_init_7 : decode cX4_init 7 = .ok (.newarray .int, 2) := by decide +kernel
theorem dX4_init_9 : decode cX4_init 9 = .ok (.putfield 7, 3) := by decide +kernel
theorem dX4_init_12 : decode cX4_init 12 = .ok (.aload_n 0, 1) := by decide +kernel
theorem dX4_init_13 : decode cX4_init 13 = .ok (.bipush 121, 2) := by decide +kernel
theorem dX4_init_15 : decode cX4_init 15 = .ok (.newarray .int, 2) := by decide +kernel
theorem dX4_init_17 : decode cX4_init 17 = .ok (.putfield 13, 3) := by decide +kernel
theorem dX4_init_20 : decode cX4_init 20 = .ok (.aload_n 0, 1) := by decide +kernel
theorem dX4_init_21 : decode cX4_init 21 = .ok (.bipush 121, 2) := by decide +kernel
theorem dX4_init_23 : decode cX4_init 23 = .ok (.newarray .int, 2) := by decide +kernel
theorem dX4_init_25 : decode cX4_init 25 = .ok (.putfield 16, 3) := by decide +kernel
theorem dX4_init_28 : decode cX4_init 28 = .ok (.aload_n 0, 1) := by decide +kernel
theorem dX4_init_29 : decode cX4_init 29 = .ok (.sipush 1694, 3) := by decide +kernel
theorem dX4_init_32 : decode cX4_init 32 = .ok (.newarray .int, 2) := by decide +kernel
theorem dX4_init_34 : decode cX4_init 34 = .ok (.putfield 19, 3) := by decide +kernel
theorem dX4_init_37 : decode cX4_init 37 = .ok (.aload_n 0, 1) := by decide +kernel
theorem dX4_init_38 : decode cX4_init 38 = .ok (.sipush 242, 3) := by decide +kernel
theorem dX4_init_41 : decode cX4_init 41 = .ok (.newarray .int, 2) := by decide +kernel
theorem dX4_init_43 : decode cX4_init 43 = .ok (.putfield 22, 3) := by decide +kernel
theorem dX4_init_46 : decode cX4_init 46 = .ok (.aload_n 0, 1) := by decide +kernel
theorem dX4_init_47 : decode cX4_init 47 = .ok (.iconst 2, 1) := by decide +kernel
theorem dX4_init_48 : decode cX4_init 48 = .ok (.newarray .int, 2) := by decide +kernel
theorem dX4_init_50 : decode cX4_init 50 = .ok (.putfield 25, 3) := by decide +kernel
theorem dX4_init_53 : decode cX4_init 53 = .ok (.aload_n 0, 1) := by decide +kernel
theorem dX4_init_54 : decode cX4_init 54 = .ok (.bipush 100, 2) := by decide +kernel
theorem dX4_init_56 : decode cX4_init 56 = .ok (.newarray .int, 2) := by decide +kernel
theorem dX4_init_58 : decode cX4_init 58 = .ok (.putfield 28, 3) := by decide +kernel
theorem dX4_init_61 : decode cX4_init 61 = .ok (.aload_n 0, 1) := by decide +kernel
theorem dX4_init_62 : decode cX4_init 62 = .ok (.invokevirtual 31, 3) := by decide +kernel
theorem dX4_init_65 : decode cX4_init 65 = .ok (.return_, 1) := by decide +kernel
theorem dX4_thrown_0 : decode cX4_thrown 0 = .ok (.aload_n 0, 1) := by decide +kernel
theorem dX4_thrown_1 : decode cX4_thrown 1 = .ok (.getfield 34, 3) := by decide +kernel
theorem dX4_thrown_4 : decode cX4_thrown 4 = .ok (.ireturn, 1) := by decide +kernel
theorem dX4_copy_0 : decode cX4_copy 0 = .ok (.iconst 0, 1) := by decide +kernel
theorem dX4_copy_1 : decode cX4_copy 1 = .ok (.istore 4, 2) := by decide +kernel
theorem dX4_copy_3 : decode cX4_copy 3 = .ok (.iload 4, 2) := by decide +kernel
theorem dX4_copy_5 : decode cX4_copy 5 = .ok (.bipush 121, 2) := by decide +kernel
theorem dX4_copy_7 : decode cX4_copy 7 = .ok (.if_icmp .ge 21, 3) := by decide +kernel
theorem dX4_copy_10 : decode cX4_copy 10 = .ok (.aload_n 2, 1) := by decide +kernel
theorem dX4_copy_11 : decode cX4_copy 11 = .ok (.iload_n 3, 1) := by decide +kernel
theorem dX4_copy_12 : decode cX4_copy 12 = .ok (.iload 4, 2) := by decide +kernel
theorem dX4_copy_14 : decode cX4_copy 14 = .ok (.iadd, 1) := by decide +kernel
theorem dX4_copy_15 : decode cX4_copy 15 = .ok (.aload_n 0, 1) := by decide +kernel
theorem dX4_copy_16 : decode cX4_copy 16 = .ok (.iload_n 1, 1) := by decide +kernel
theorem dX4_copy_17 : decode cX4_copy 17 = .ok (.iload 4, 2) := by decide +kernel
theorem dX4_copy_19 : decode cX4_copy 19 = .ok (.iadd, 1) := by decide +kernel
theorem dX4_copy_20 : decode cX4_copy 20 = .ok (.iaload, 1) := by decide +kernel
theorem dX4_copy_21 : decode cX4_copy 21 = .ok (.iastore, 1) := by decide +kernel
theorem dX4_copy_22 : decode cX4_copy 22 = .ok (.iinc 4 1, 3) := by decide +kernel
theorem dX4_copy_25 : decode cX4_copy 25 = .ok (.goto (-22), 3) := by decide +kernel
theorem dX4_copy_28 : decode cX4_copy 28 = .ok (.return_, 1) := by decide +kernel
theorem dX4_within_0 : decode cX4_within 0 = .ok (.iload_n 0, 1) := by decide +kernel
theorem dX4_within_1 : decode cX4_within 1 = .ok (.iload_n 1, 1) := by decide +kernel
theorem dX4_within_2 : decode cX4_within 2 = .ok (.if_icmp .lt 12, 3) := by decide +kernel
theorem dX4_within_5 : decode cX4_within 5 = .ok (.iload_n 0, 1) := by decide +kernel
theorem dX4_within_6 : decode cX4_within 6 = .ok (.iload_n 2, 1) := by decide +kernel
theorem dX4_within_7 : decode cX4_within 7 = .ok (.if_icmp .gt 7, 3) := by decide +kernel
theorem dX4_within_10 : decode cX4_within 10 = .ok (.iconst 1, 1) := by decide +kernel
theorem dX4_within_11 : decode cX4_within 11 = .ok (.goto 4, 3) := by decide +kernel
theorem dX4_within_14 : decode cX4_within 14 = .ok (.iconst 0, 1) := by decide +kernel
theorem dX4_within_15 : decode cX4_within 15 = .ok (.ireturn, 1) := by decide +kernel
theorem dX4_renew_0 : decode cX4_renew 0 = .ok (.iconst 0, 1) := by decide +kernel
theorem dX4_renew_1 : decode cX4_renew 1 = .ok (.istore_n 1, 1) := by decide +kernel
theorem dX4_renew_2 : decode cX4_renew 2 = .ok (.iload_n 1, 1) := by decide +kernel
theorem dX4_renew_3 : decode cX4_renew 3 = .ok (.bipush 121, 2) := by decide +kernel
theorem dX4_renew_5 : decode cX4_renew 5 = .ok (.if_icmp .ge 16, 3) := by decide +kernel
theorem dX4_renew_8 : decode cX4_renew 8 = .ok (.aload_n 0, 1) := by decide +kernel
theorem dX4_renew_9 : decode cX4_renew 9 = .ok (.getfield 7, 3) := by decide +kernel
theorem dX4_renew_12 : decode cX4_renew 12 = .ok (.iload_n 1, 1) := by decide +kernel
theorem dX4_renew_13 : decode cX4_renew 13 = .ok (.iconst 0, 1) := by decide +kernel
theorem dX4_renew_14 : decode cX4_renew 14 = .ok (.iastore, 1) := by decide +kernel
theorem dX4_renew_15 : decode cX4_renew 15 = .ok (.iinc 1 1, 3) := by decide +kernel
theorem dX4_renew_18 : decode cX4_renew 18 = .ok (.goto (-16), 3) := by decide +kernel
theorem dX4_renew_21 : decode cX4_renew 21 = .ok (.iconst 0, 1) := by decide +kernel
theorem dX4_renew_22 : decode cX4_renew 22 = .ok (.istore_n 1, 1) := by decide +kernel
theorem dX4_renew_23 : decode cX4_renew 23 = .ok (.iload_n 1, 1) := by decide +kernel
theorem dX4_renew_24 : decode cX4_renew 24 = .ok (.bipush 64, 2) := by decide +kernel
theorem dX4_renew_26 : decode cX4_renew 26 = .ok (.if_icmp .ge 18, 3) := by decide +kernel
theorem dX4_renew_29 : decode cX4_renew 29 = .ok (.aload_n 0, 1) := by decide +kernel
theorem dX4_renew_30 : decode cX4_renew 30 = .ok (.getfield 7, 3) := by decide +kernel
theorem dX4_renew_33 : decode cX4_renew 33 = .ok (.iconst 4, 1) := by decide +kernel
theorem dX4_renew_34 : decode cX4_renew 34 = .ok (.iload_n 1, 1) := by decide +kernel
theorem dX4_renew_35 : decode cX4_renew 35 = .ok (.iadd, 1) := by decide +kernel
theorem dX4_renew_36 : decode cX4_renew 36 = .ok (.iconst (-1), 1) := by decide +kernel
theorem dX4_renew_37 : decode cX4_renew 37 = .ok (.iastore, 1) := by decide +kernel
theorem dX4_renew_38 : decode cX4_renew 38 = .ok (.iinc 1 1, 3) := by decide +kernel
theorem dX4_renew_41 : decode cX4_renew 41 = .ok (.goto (-18), 3) := by decide +kernel
theorem dX4_renew_44 : decode cX4_renew 44 = .ok (.aload_n 0, 1) := by decide +kernel
theorem dX4_renew_45 : decode cX4_renew 45 = .ok (.getfield 7, 3) := by decide +kernel
theorem dX4_renew_48 : decode cX4_renew 48 = .ok (.iconst 0, 1) := by decide +kernel
theorem dX4_renew_49 : decode cX4_renew 49 = .ok (.iconst 1, 1) := by decide +kernel
theorem dX4_renew_50 : decode cX4_renew 50 = .ok (.iastore, 1) := by decide +kernel
theorem dX4_renew_51 : decode cX4_renew 51 = .ok (.return_, 1) := by decide +kernel
theorem dX4_isProcess_0 : decode cX4_isProcess 0 = .ok (.iload_n 1, 1) := by decide +kernel
theorem dX4_isProcess_1 : decode cX4_isProcess 1 = .ok (.iconst 0, 1) := by decide +kernel
theorem dX4_isProcess_2 : decode cX4_isProcess 2 = .ok (.iconst 3, 1) := by decide +kernel
theorem dX4_isProcess_3 : decode cX4_isProcess 3 = .ok (.invokestatic 38, 3) := by decide +kernel
theorem dX4_isProcess_6 : decode cX4_isProcess 6 = .ok (.ifCond .eq 19, 3) := by decide +kernel
theorem dX4_isProcess_9 : decode cX4_isProcess 9 = .ok (.aload_n 0, 1) := by decide +kernel
theorem dX4_isProcess_10 : decode cX4_isProcess 10 = .ok (.getfield 7, 3) := by decide +kernel
theorem dX4_isProcess_13 : decode cX4_isProcess 13 = .ok (.iconst 0, 1) := by decide +kernel
theorem dX4_isProcess_14 : decode cX4_isProcess 14 = .ok (.iload_n 1, 1) := by decide +kernel
theorem dX4_isProcess_15 : decode cX4_isProcess 15 = .ok (.iadd, 1) := by decide +kernel
theorem dX4_isProcess_16 : decode cX4_isProcess 16 = .ok (.iaload, 1) := by decide +kernel
theorem dX4_isProcess_17 : decode cX4_isProcess 17 = .ok (.iconst 1, 1) := by decide +kernel
theorem dX4_isProcess_18 : decode cX4_isProcess 18 = .ok (.if_icmp .ne 7, 3) := by decide +kernel
theorem dX4_isProcess_21 : decode cX4_isProcess 21 = .ok (.iconst 1, 1) := by decide +kernel
theorem dX4_isProcess_22 : decode cX4_isProcess 22 = .ok (.goto 4, 3) := by decide +kernel
theorem dX4_isProcess_25 : decode cX4_isProcess 25 = .ok (.iconst 0, 1) := by decide +kernel
theorem dX4_isProcess_26 : decode cX4_isProcess 26 = .ok (.ireturn, 1) := by decide +kernel
theorem dX4_isPage_0 : decode cX4_isPage 0 = .ok (.aload_n 0, 1) := by decide +kernel
theorem dX4_isPage_1 : decode cX4_isPage 1 = .ok (.iload_n 1, 1) := by decide +kernel
theorem dX4_isPage_2 : decode cX4_isPage 2 = .ok (.invokevirtual 42, 3) := by decide +kernel
theorem dX4_isPage_5 : decode cX4_isPage 5 = .ok (.ifCond .eq 17, 3) := by decide +kernel
theorem dX4_isPage_8 : decode cX4_isPage 8 = .ok (.iload_n 2, 1) := by decide +kernel
theorem dX4_isPage_9 : decode cX4_isPage 9 = .ok (.iconst 0, 1) := by decide +kernel
theorem dX4_isPage_10 : decode cX4_isPage 10 = .ok (.bipush 15, 2) := by decide +kernel
theorem dX4_isPage_12 : decode cX4_isPage 12 = .ok (.invokestatic 38, 3) := by decide +kernel
theorem dX4_isPage_15 : decode cX4_isPage 15 = .ok (.ifCond .eq 7, 3) := by decide +kernel
theorem dX4_isPage_18 : decode cX4_isPage 18 = .ok (.iconst 1, 1) := by decide +kernel
theorem dX4_isPage_19 : decode cX4_isPage 19 = .ok (.goto 4, 3) := by decide +kernel
theorem dX4_isPage_22 : decode cX4_isPage 22 = .ok (.iconst 0, 1) := by decide +kernel
theorem dX4_isPage_23 : decode cX4_isPage 23 = .ok (.ireturn, 1) := by decide +kernel
theorem dX4_isGroup_0 : decode cX4_isGroup 0 = .ok (.aload_n 0, 1) := by decide +kernel
theorem dX4_isGroup_1 : decode cX4_isGroup 1 = .ok (.iload_n 1, 1) := by decide +kernel
theorem dX4_isGroup_2 : decode cX4_isGroup 2 = .ok (.invokevirtual 42, 3) := by decide +kernel
theorem dX4_isGroup_5 : decode cX4_isGroup 5 = .ok (.ifCond .eq 16, 3) := by decide +kernel
theorem dX4_isGroup_8 : decode cX4_isGroup 8 = .ok (.iload_n 2, 1) := by decide +kernel
theorem dX4_isGroup_9 : decode cX4_isGroup 9 = .ok (.iconst 0, 1) := by decide +kernel
theorem dX4_isGroup_10 : decode cX4_isGroup 10 = .ok (.iconst 3, 1) := by decide +kernel
theorem dX4_isGroup_11 : decode cX4_isGroup 11 = .ok (.invokestatic 38, 3) := by decide +kernel
theorem dX4_isGroup_14 : decode cX4_isGroup 14 = .ok (.ifCond .eq 7, 3) := by decide +kernel
theorem dX4_isGroup_17 : decode cX4_isGroup 17 = .ok (.iconst 1, 1) := by decide +kernel
theorem dX4_isGroup_18 : decode cX4_isGroup 18 = .ok (.goto 4, 3) := by decide +kernel
theorem dX4_isGroup_21 : decode cX4_isGroup 21 = .ok (.iconst 0, 1) := by decide +kernel
theorem dX4_isGroup_22 : decode cX4_isGroup 22 = .ok (.ireturn, 1) := by decide +kernel
theorem dX4_frameOf_0 : decode cX4_frameOf 0 = .ok (.aload_n 0, 1) := by decide +kernel
theorem dX4_frameOf_1 : decode cX4_frameOf 1 = .ok (.getfield 7, 3) := by decide +kernel
theorem dX4_frameOf_4 : decode cX4_frameOf 4 = .ok (.iconst 4, 1) := by decide +kernel
theorem dX4_frameOf_5 : decode cX4_frameOf 5 = .ok (.bipush 16, 2) := by decide +kernel
theorem dX4_frameOf_7 : decode cX4_frameOf 7 = .ok (.iload_n 1, 1) := by decide +kernel
theorem dX4_frameOf_8 : decode cX4_frameOf 8 = .ok (.imul, 1) := by decide +kernel
theorem dX4_frameOf_9 : decode cX4_frameOf 9 = .ok (.iadd, 1) := by decide +kernel
theorem dX4_frameOf_10 : decode cX4_frameOf 10 = .ok (.iload_n 2, 1) := by decide +kernel
theorem dX4_frameOf_11 : decode cX4_frameOf 11 = .ok (.iadd, 1) := by decide +kernel
theorem dX4_frameOf_12 : decode cX4_frameOf 12 = .ok (.iaload, 1) := by decide +kernel
theorem dX4_frameOf_13 : decode cX4_frameOf 13 = .ok (.ireturn, 1) := by decide +kernel
theorem dX4_setFrame_0 : decode cX4_setFrame 0 = .ok (.aload_n 0, 1) := by decide +kernel
theorem dX4_setFrame_1 : decode cX4_setFrame 1 = .ok (.getfield 7, 3) := by decide +kernel
theorem dX4_setFrame_4 : decode cX4_setFrame 4 = .ok (.iconst 4, 1) := by decide +kernel
theorem dX4_setFrame_5 : decode cX4_setFrame 5 = .ok (.bipush 16, 2) := by decide +kernel
theorem dX4_setFrame_7 : decode cX4_setFrame 7 = .ok (.iload_n 1, 1) := by decide +kernel
theorem dX4_setFrame_8 : decode cX4_setFrame 8 = .ok (.imul, 1) := by decide +kernel
theorem dX4_setFrame_9 : decode cX4_setFrame 9 = .ok (.iadd, 1) := by decide +kernel
theorem dX4_setFrame_10 : decode cX4_setFrame 10 = .ok (.iload_n 2, 1) := by decide +kernel
theorem dX4_setFrame_11 : decode cX4_setFrame 11 = .ok (.iadd, 1) := by decide +kernel
theorem dX4_setFrame_12 : decode cX4_setFrame 12 = .ok (.iload_n 3, 1) := by decide +kernel
theorem dX4_setFrame_13 : decode cX4_setFrame 13 = .ok (.iastore, 1) := by decide +kernel
theorem dX4_setFrame_14 : decode cX4_setFrame 14 = .ok (.return_, 1) := by decide +kernel
theorem dX4_isBig_0 : decode cX4_isBig 0 = .ok (.aload_n 0, 1) := by decide +kernel
theorem dX4_isBig_1 : decode cX4_isBig 1 = .ok (.getfield 7, 3) := by decide +kernel
theorem dX4_isBig_4 : decode cX4_isBig 4 = .ok (.bipush 68, 2) := by decide +kernel
theorem dX4_isBig_6 : decode cX4_isBig 6 = .ok (.iconst 4, 1) := by decide +kernel
theorem dX4_isBig_7 : decode cX4_isBig 7 = .ok (.iload_n 1, 1) := by decide +kernel
theorem dX4_isBig_8 : decode cX4_isBig 8 = .ok (.imul, 1) := by decide +kernel
theorem dX4_isBig_9 : decode cX4_isBig 9 = .ok (.iadd, 1) := by decide +kernel
theorem dX4_isBig_10 : decode cX4_isBig 10 = .ok (.iload_n 2, 1) := by decide +kernel
theorem dX4_isBig_11 : decode cX4_isBig 11 = .ok (.iadd, 1) := by decide +kernel
theorem dX4_isBig_12 : decode cX4_isBig 12 = .ok (.iaload, 1) := by decide +kernel
theorem dX4_isBig_13 : decode cX4_isBig 13 = .ok (.iconst 1, 1) := by decide +kernel
theorem dX4_isBig_14 : decode cX4_isBig 14 = .ok (.if_icmp .ne 7, 3) := by decide +kernel
theorem dX4_isBig_17 : decode cX4_isBig 17 = .ok (.iconst 1, 1) := by decide +kernel
theorem dX4_isBig_18 : decode cX4_isBig 18 = .ok (.goto 4, 3) := by decide +kernel
theorem dX4_isBig_21 : decode cX4_isBig 21 = .ok (.iconst 0, 1) := by decide +kernel
theorem dX4_isBig_22 : decode cX4_isBig 22 = .ok (.ireturn, 1) := by decide +kernel
theorem dX4_setBig_0 : decode cX4_setBig 0 = .ok (.aload_n 0, 1) := by decide +kernel
theorem dX4_setBig_1 : decode cX4_setBig 1 = .ok (.getfield 7, 3) := by decide +kernel
theorem dX4_setBig_4 : decode cX4_setBig 4 = .ok (.bipush 68, 2) := by decide +kernel
theorem dX4_setBig_6 : decode cX4_setBig 6 = .ok (.iconst 4, 1) := by decide +kernel
theorem dX4_setBig_7 : decode cX4_setBig 7 = .ok (.iload_n 1, 1) := by decide +kernel
theorem dX4_setBig_8 : decode cX4_setBig 8 = .ok (.imul, 1) := by decide +kernel
theorem dX4_setBig_9 : decode cX4_setBig 9 = .ok (.iadd, 1) := by decide +kernel
theorem dX4_setBig_10 : decode cX4_setBig 10 = .ok (.iload_n 2, 1) := by decide +kernel
theorem dX4_setBig_11 : decode cX4_setBig 11 = .ok (.iadd, 1) := by decide +kernel
theorem dX4_setBig_12 : decode cX4_setBig 12 = .ok (.iload_n 3, 1) := by decide +kernel
theorem dX4_setBig_13 : decode cX4_setBig 13 = .ok (.iastore, 1) := by decide +kernel
theorem dX4_setBig_14 : decode cX4_setBig 14 = .ok (.return_, 1) := by decide +kernel
theorem dX4_valueOf_0 : decode cX4_valueOf 0 = .ok (.aload_n 0, 1) := by decide +kernel
theorem dX4_valueOf_1 : decode cX4_valueOf 1 = .ok (.getfield 7, 3) := by decide +kernel
theorem dX4_valueOf_4 : decode cX4_valueOf 4 = .ok (.bipush 84, 2) := by decide +kernel
theorem dX4_valueOf_6 : decode cX4_valueOf 6 = .ok (.iload_n 1, 1) := by decide +kernel
theorem dX4_valueOf_7 : decode cX4_valueOf 7 = .ok (.iadd, 1) := by decide +kernel
theorem dX4_valueOf_8 : decode cX4_valueOf 8 = .ok (.iaload, 1) := by decide +kernel
theorem dX4_valueOf_9 : decode cX4_valueOf 9 = .ok (.ireturn, 1) := by decide +kernel
theorem dX4_uses_0 : decode cX4_uses 0 = .ok (.iconst 0, 1) := by decide +kernel
theorem dX4_uses_1 : decode cX4_uses 1 = .ok (.istore_n 2, 1) := by decide +kernel
theorem dX4_uses_2 : decode cX4_uses 2 = .ok (.iconst 0, 1) := by decide +kernel
theorem dX4_uses_3 : decode cX4_uses 3 = .ok (.istore_n 3, 1) := by decide +kernel
theorem dX4_uses_4 : decode cX4_uses 4 = .ok (.iload_n 3, 1) := by decide +kernel
theorem dX4_uses_5 : decode cX4_uses 5 = .ok (.bipush 64, 2) := by decide +kernel
theorem dX4_uses_7 : decode cX4_uses 7 = .ok (.if_icmp .ge 29, 3) := by decide +kernel
theorem dX4_uses_10 : decode cX4_uses 10 = .ok (.iload_n 2, 1) := by decide +kernel
theorem dX4_uses_11 : decode cX4_uses 11 = .ok (.aload_n 0, 1) := by decide +kernel
theorem dX4_uses_12 : decode cX4_uses 12 = .ok (.getfield 7, 3) := by decide +kernel
theorem dX4_uses_15 : decode cX4_uses 15 = .ok (.iconst 4, 1) := by decide +kernel
theorem dX4_uses_16 : decode cX4_uses 16 = .ok (.iload_n 3, 1) := by decide +kernel
theorem dX4_uses_17 : decode cX4_uses 17 = .ok (.iadd, 1) := by decide +kernel
theorem dX4_uses_18 : decode cX4_uses 18 = .ok (.iaload, 1) := by decide +kernel
theorem dX4_uses_19 : decode cX4_uses 19 = .ok (.iload_n 1, 1) := by decide +kernel
theorem dX4_uses_20 : decode cX4_uses 20 = .ok (.if_icmp .ne 7, 3) := by decide +kernel
theorem dX4_uses_23 : decode cX4_uses 23 = .ok (.iconst 1, 1) := by decide +kernel
theorem dX4_uses_24 : decode cX4_uses 24 = .ok (.goto 4, 3) := by decide +kernel
theorem dX4_uses_27 : decode cX4_uses 27 = .ok (.iconst 0, 1) := by decide +kernel
theorem dX4_uses_28 : decode cX4_uses 28 = .ok (.iadd, 1) := by decide +kernel
theorem dX4_uses_29 : decode cX4_uses 29 = .ok (.istore_n 2, 1) := by decide +kernel
theorem dX4_uses_30 : decode cX4_uses 30 = .ok (.iinc 3 1, 3) := by decide +kernel
theorem dX4_uses_33 : decode cX4_uses 33 = .ok (.goto (-29), 3) := by decide +kernel
theorem dX4_uses_36 : decode cX4_uses 36 = .ok (.iload_n 2, 1) := by decide +kernel
theorem dX4_uses_37 : decode cX4_uses 37 = .ok (.ireturn, 1) := by decide +kernel
theorem dX4_isShared_0 : decode cX4_isShared 0 = .ok (.iload_n 1, 1) := by decide +kernel
theorem dX4_isShared_1 : decode cX4_isShared 1 = .ok (.iconst (-1), 1) := by decide +kernel
theorem dX4_isShared_2 : decode cX4_isShared 2 = .ok (.if_icmp .eq 16, 3) := by decide +kernel
theorem dX4_isShared_5 : decode cX4_isShared 5 = .ok (.aload_n 0, 1) := by decide +kernel
theorem dX4_isShared_6 : decode cX4_isShared 6 = .ok (.iload_n 1, 1) := by decide +kernel
theorem dX4_isShared_7 : decode cX4_isShared 7 = .ok (.invokevirtual 46, 3) := by decide +kernel
theorem dX4_isShared_10 : decode cX4_isShared 10 = .ok (.iconst 1, 1) := by decide +kernel
theorem dX4_isShared_11 : decode cX4_isShared 11 = .ok (.if_icmp .le 7, 3) := by decide +kernel
theorem dX4_isShared_14 : decode cX4_isShared 14 = .ok (.iconst 1, 1) := by decide +kernel
theorem dX4_isShared_15 : decode cX4_isShared 15 = .ok (.goto 4, 3) := by decide +kernel
theorem dX4_isShared_18 : decode cX4_isShared 18 = .ok (.iconst 0, 1) := by decide +kernel
theorem dX4_isShared_19 : decode cX4_isShared 19 = .ok (.ireturn, 1) := by decide +kernel
theorem dX4_isFreeRun_0 : decode cX4_isFreeRun 0 = .ok (.iconst 1, 1) := by decide +kernel
theorem dX4_isFreeRun_1 : decode cX4_isFreeRun 1 = .ok (.istore_n 2, 1) := by decide +kernel
theorem dX4_isFreeRun_2 : decode cX4_isFreeRun 2 = .ok (.iconst 0, 1) := by decide +kernel
theorem dX4_isFreeRun_3 : decode cX4_isFreeRun 3 = .ok (.istore_n 3, 1) := by decide +kernel
theorem dX4_isFreeRun_4 : decode cX4_isFreeRun 4 = .ok (.iload_n 3, 1) := by decide +kernel
theorem dX4_isFreeRun_5 : decode cX4_isFreeRun 5 = .ok (.iconst 4, 1) := by decide +kernel
theorem dX4_isFreeRun_6 : decode cX4_isFreeRun 6 = .ok (.if_icmp .ge 31, 3) := by decide +kernel
theorem dX4_isFreeRun_9 : decode cX4_isFreeRun 9 = .ok (.iload_n 2, 1) := by decide +kernel
theorem dX4_isFreeRun_10 : decode cX4_isFreeRun 10 = .ok (.ifCond .eq 19, 3) := by decide +kernel
theorem dX4_isFreeRun_13 : decode cX4_isFreeRun 13 = .ok (.aload_n 0, 1) := by decide +kernel
theorem dX4_isFreeRun_14 : decode cX4_isFreeRun 14 = .ok (.iconst 4, 1) := by decide +kernel
theorem dX4_isFreeRun_15 : decode cX4_isFreeRun 15 = .ok (.iload_n 1, 1) := by decide +kernel
theorem dX4_isFreeRun_16 : decode cX4_isFreeRun 16 = .ok (.imul, 1) := by decide +kernel
theorem dX4_isFreeRun_17 : decode cX4_isFreeRun 17 = .ok (.iload_n 3, 1) := by decide +kernel
theorem dX4_isFreeRun_18 : decode cX4_isFreeRun 18 = .ok (.iadd, 1) := by decide +kernel
theorem dX4_isFreeRun_19 : decode cX4_isFreeRun 19 = .ok (.invokevirtual 46, 3) := by decide +kernel
theorem dX4_isFreeRun_22 : decode cX4_isFreeRun 22 = .ok (.ifCond .ne 7, 3) := by decide +kernel
theorem dX4_isFreeRun_25 : decode cX4_isFreeRun 25 = .ok (.iconst 1, 1) := by decide +kernel
theorem dX4_isFreeRun_26 : decode cX4_isFreeRun 26 = .ok (.goto 4, 3) := by decide +kernel
theorem dX4_isFreeRun_29 : decode cX4_isFreeRun 29 = .ok (.iconst 0, 1) := by decide +kernel
theorem dX4_isFreeRun_30 : decode cX4_isFreeRun 30 = .ok (.istore_n 2, 1) := by decide +kernel
theorem dX4_isFreeRun_31 : decode cX4_isFreeRun 31 = .ok (.iinc 3 1, 3) := by decide +kernel
theorem dX4_isFreeRun_34 : decode cX4_isFreeRun 34 = .ok (.goto (-30), 3) := by decide +kernel
theorem dX4_isFreeRun_37 : decode cX4_isFreeRun 37 = .ok (.iload_n 2, 1) := by decide +kernel
theorem dX4_isFreeRun_38 : decode cX4_isFreeRun 38 = .ok (.ireturn, 1) := by decide +kernel
theorem dX4_freeRun_0 : decode cX4_freeRun 0 = .ok (.iconst (-1), 1) := by decide +kernel
theorem dX4_freeRun_1 : decode cX4_freeRun 1 = .ok (.istore_n 1, 1) := by decide +kernel
theorem dX4_freeRun_2 : decode cX4_freeRun 2 = .ok (.bipush 7, 2) := by decide +kernel
theorem dX4_freeRun_4 : decode cX4_freeRun 4 = .ok (.istore_n 2, 1) := by decide +kernel
theorem dX4_freeRun_5 : decode cX4_freeRun 5 = .ok (.iload_n 2, 1) := by decide +kernel
theorem dX4_freeRun_6 : decode cX4_freeRun 6 = .ok (.ifCond .lt 23, 3) := by decide +kernel
theorem dX4_freeRun_9 : decode cX4_freeRun 9 = .ok (.aload_n 0, 1) := by decide +kernel
theorem dX4_freeRun_10 : decode cX4_freeRun 10 = .ok (.iload_n 2, 1) := by decide +kernel
theorem dX4_freeRun_11 : decode cX4_freeRun 11 = .ok (.invokevirtual 50, 3) := by decide +kernel
theorem dX4_freeRun_14 : decode cX4_freeRun 14 = .ok (.ifCond .eq 7, 3) := by decide +kernel
theorem dX4_freeRun_17 : decode cX4_freeRun 17 = .ok (.iload_n 2, 1) := by decide +kernel
theorem dX4_freeRun_18 : decode cX4_freeRun 18 = .ok (.goto 4, 3) := by decide +kernel
theorem dX4_freeRun_21 : decode cX4_freeRun 21 = .ok (.iload_n 1, 1) := by decide +kernel
theorem dX4_freeRun_22 : decode cX4_freeRun 22 = .ok (.istore_n 1, 1) := by decide +kernel
theorem dX4_freeRun_23 : decode cX4_freeRun 23 = .ok (.iinc 2 (-1), 3) := by decide +kernel
theorem dX4_freeRun_26 : decode cX4_freeRun 26 = .ok (.goto (-21), 3) := by decide +kernel
theorem dX4_freeRun_29 : decode cX4_freeRun 29 = .ok (.iload_n 1, 1) := by decide +kernel
theorem dX4_freeRun_30 : decode cX4_freeRun 30 = .ok (.ireturn, 1) := by decide +kernel
theorem dX4_freeRuns_0 : decode cX4_freeRuns 0 = .ok (.iconst 0, 1) := by decide +kernel
theorem dX4_freeRuns_1 : decode cX4_freeRuns 1 = .ok (.istore_n 1, 1) := by decide +kernel
theorem dX4_freeRuns_2 : decode cX4_freeRuns 2 = .ok (.iconst 0, 1) := by decide +kernel
theorem dX4_freeRuns_3 : decode cX4_freeRuns 3 = .ok (.istore_n 2, 1) := by decide +kernel
theorem dX4_freeRuns_4 : decode cX4_freeRuns 4 = .ok (.iload_n 2, 1) := by decide +kernel
theorem dX4_freeRuns_5 : decode cX4_freeRuns 5 = .ok (.bipush 8, 2) := by decide +kernel
theorem dX4_freeRuns_7 : decode cX4_freeRuns 7 = .ok (.if_icmp .ge 25, 3) := by decide +kernel
theorem dX4_freeRuns_10 : decode cX4_freeRuns 10 = .ok (.iload_n 1, 1) := by decide +kernel
theorem dX4_freeRuns_11 : decode cX4_freeRuns 11 = .ok (.aload_n 0, 1) := by decide +kernel
theorem dX4_freeRuns_12 : decode cX4_freeRuns 12 = .ok (.iload_n 2, 1) := by decide +kernel
theorem dX4_freeRuns_13 : decode cX4_freeRuns 13 = .ok (.invokevirtual 50, 3) := by decide +kernel
theorem dX4_freeRuns_16 : decode cX4_freeRuns 16 = .ok (.ifCond .eq 7, 3) := by decide +kernel
theorem dX4_freeRuns_19 : decode cX4_freeRuns 19 = .ok (.iconst 1, 1) := by decide +kernel
theorem dX4_freeRuns_20 : decode cX4_freeRuns 20 = .ok (.goto 4, 3) := by decide +kernel
theorem dX4_freeRuns_23 : decode cX4_freeRuns 23 = .ok (.iconst 0, 1) := by decide +kernel
theorem dX4_freeRuns_24 : decode cX4_freeRuns 24 = .ok (.iadd, 1) := by decide +kernel
theorem dX4_freeRuns_25 : decode cX4_freeRuns 25 = .ok (.istore_n 1, 1) := by decide +kernel
theorem dX4_freeRuns_26 : decode cX4_freeRuns 26 = .ok (.iinc 2 1, 3) := by decide +kernel
theorem dX4_freeRuns_29 : decode cX4_freeRuns 29 = .ok (.goto (-25), 3) := by decide +kernel
theorem dX4_freeRuns_32 : decode cX4_freeRuns 32 = .ok (.iload_n 1, 1) := by decide +kernel
theorem dX4_freeRuns_33 : decode cX4_freeRuns 33 = .ok (.ireturn, 1) := by decide +kernel
theorem dX4_freeFrames_0 : decode cX4_freeFrames 0 = .ok (.iconst 0, 1) := by decide +kernel
theorem dX4_freeFrames_1 : decode cX4_freeFrames 1 = .ok (.istore_n 1, 1) := by decide +kernel
theorem dX4_freeFrames_2 : decode cX4_freeFrames 2 = .ok (.iconst 0, 1) := by decide +kernel
theorem dX4_freeFrames_3 : decode cX4_freeFrames 3 = .ok (.istore_n 2, 1) := by decide +kernel
theorem dX4_freeFrames_4 : decode cX4_freeFrames 4 = .ok (.iload_n 2, 1) := by decide +kernel
theorem dX4_freeFrames_5 : decode cX4_freeFrames 5 = .ok (.bipush 32, 2) := by decide +kernel
theorem dX4_freeFrames_7 : decode cX4_freeFrames 7 = .ok (.if_icmp .ge 25, 3) := by decide +kernel
theorem dX4_freeFrames_10 : decode cX4_freeFrames 10 = .ok (.iload_n 1, 1) := by decide +kernel
theorem dX4_freeFrames_11 : decode cX4_freeFrames 11 = .ok (.aload_n 0, 1) := by decide +kernel
theorem dX4_freeFrames_12 : decode cX4_freeFrames 12 = .ok (.iload_n 2, 1) := by decide +kernel
theorem dX4_freeFrames_13 : decode cX4_freeFrames 13 = .ok (.invokevirtual 46, 3) := by decide +kernel
theorem dX4_freeFrames_16 : decode cX4_freeFrames 16 = .ok (.ifCond .ne 7, 3) := by decide +kernel
theorem dX4_freeFrames_19 : decode cX4_freeFrames 19 = .ok (.iconst 1, 1) := by decide +kernel
theorem dX4_freeFrames_20 : decode cX4_freeFrames 20 = .ok (.goto 4, 3) := by decide +kernel
theorem dX4_freeFrames_23 : decode cX4_freeFrames 23 = .ok (.iconst 0, 1) := by decide +kernel
theorem dX4_freeFrames_24 : decode cX4_freeFrames 24 = .ok (.iadd, 1) := by decide +kernel
theorem dX4_freeFrames_25 : decode cX4_freeFrames 25 = .ok (.istore_n 1, 1) := by decide +kernel
theorem dX4_freeFrames_26 : decode cX4_freeFrames 26 = .ok (.iinc 2 1, 3) := by decide +kernel
theorem dX4_freeFrames_29 : decode cX4_freeFrames 29 = .ok (.goto (-25), 3) := by decide +kernel
theorem dX4_freeFrames_32 : decode cX4_freeFrames 32 = .ok (.iload_n 1, 1) := by decide +kernel
theorem dX4_freeFrames_33 : decode cX4_freeFrames 33 = .ok (.ireturn, 1) := by decide +kernel
theorem dX4_singleFrame_0 : decode cX4_singleFrame 0 = .ok (.iconst (-1), 1) := by decide +kernel
theorem dX4_singleFrame_1 : decode cX4_singleFrame 1 = .ok (.istore_n 1, 1) := by decide +kernel
theorem dX4_singleFrame_2 : decode cX4_singleFrame 2 = .ok (.iconst (-1), 1) := by decide +kernel
theorem dX4_singleFrame_3 : decode cX4_singleFrame 3 = .ok (.istore_n 2, 1) := by decide +kernel
theorem dX4_singleFrame_4 : decode cX4_singleFrame 4 = .ok (.bipush 31, 2) := by decide +kernel
theorem dX4_singleFrame_6 : decode cX4_singleFrame 6 = .ok (.istore_n 3, 1) := by decide +kernel
theorem dX4_singleFrame_7 : decode cX4_singleFrame 7 = .ok (.iload_n 3, 1) := by decide +kernel
theorem dX4_singleFrame_8 : decode cX4_singleFrame 8 = .ok (.ifCond .lt 56, 3) := by decide +kernel
theorem dX4_singleFrame_11 : decode cX4_singleFrame 11 = .ok (.aload_n 0, 1) := by decide +kernel
theorem dX4_singleFrame_12 : decode cX4_singleFrame 12 = .ok (.iload_n 3, 1) := by decide +kernel
theorem dX4_singleFrame_13 : decode cX4_singleFrame 13 = .ok (.invokevirtual 46, 3) := by decide +kernel
theorem dX4_singleFrame_16 : decode cX4_singleFrame 16 = .ok (.ifCond .ne 7, 3) := by decide +kernel
theorem dX4_singleFrame_19 : decode cX4_singleFrame 19 = .ok (.iconst 1, 1) := by decide +kernel
theorem dX4_singleFrame_20 : decode cX4_singleFrame 20 = .ok (.goto 4, 3) := by decide +kernel
theorem dX4_singleFrame_23 : decode cX4_singleFrame 23 = .ok (.iconst 0, 1) := by decide +kernel
theorem dX4_singleFrame_24 : decode cX4_singleFrame 24 = .ok (.istore 4, 2) := by decide +kernel
theorem dX4_singleFrame_26 : decode cX4_singleFrame 26 = .ok (.iload 4, 2) := by decide +kernel
theorem dX4_singleFrame_28 : decode cX4_singleFrame 28 = .ok (.ifCond .eq 7, 3) := by decide +kernel
theorem dX4_singleFrame_31 : decode cX4_singleFrame 31 = .ok (.iload_n 3, 1) := by decide +kernel
theorem dX4_singleFrame_32 : decode cX4_singleFrame 32 = .ok (.goto 4, 3) := by decide +kernel
theorem dX4_singleFrame_35 : decode cX4_singleFrame 35 = .ok (.iload_n 2, 1) := by decide +kernel
theorem dX4_singleFrame_36 : decode cX4_singleFrame 36 = .ok (.istore_n 2, 1) := by decide +kernel
theorem dX4_singleFrame_37 : decode cX4_singleFrame 37 = .ok (.iload 4, 2) := by decide +kernel
theorem dX4_singleFrame_39 : decode cX4_singleFrame 39 = .ok (.ifCond .eq 17, 3) := by decide +kernel
theorem dX4_singleFrame_42 : decode cX4_singleFrame 42 = .ok (.aload_n 0, 1) := by decide +kernel
theorem dX4_singleFrame_43 : decode cX4_singleFrame 43 = .ok (.iload_n 3, 1) := by decide +kernel
theorem dX4_singleFrame_44 : decode cX4_singleFrame 44 = .ok (.iconst 4, 1) := by decide +kernel
theorem dX4_singleFrame_45 : decode cX4_singleFrame 45 = .ok (.idiv, 1) := by decide +kernel
theorem dX4_singleFrame_46 : decode cX4_singleFrame 46 = .ok (.invokevirtual 50, 3) := by decide +kernel
theorem dX4_singleFrame_49 : decode cX4_singleFrame 49 = .ok (.ifCond .ne 7, 3) := by decide +kernel
theorem dX4_singleFrame_52 : decode cX4_singleFrame 52 = .ok (.iload_n 3, 1) := by decide +kernel
theorem dX4_singleFrame_53 : decode cX4_singleFrame 53 = .ok (.goto 4, 3) := by decide +kernel
theorem dX4_singleFrame_56 : decode cX4_singleFrame 56 = .ok (.iload_n 1, 1) := by decide +kernel
theorem dX4_singleFrame_57 : decode cX4_singleFrame 57 = .ok (.istore_n 1, 1) := by decide +kernel
theorem dX4_singleFrame_58 : decode cX4_singleFrame 58 = .ok (.iinc 3 (-1), 3) := by decide +kernel
theorem dX4_singleFrame_61 : decode cX4_singleFrame 61 = .ok (.goto (-54), 3) := by decide +kernel
theorem dX4_singleFrame_64 : decode cX4_singleFrame 64 = .ok (.iload_n 1, 1) := by decide +kernel
theorem dX4_singleFrame_65 : decode cX4_singleFrame 65 = .ok (.iconst (-1), 1) := by decide +kernel
theorem dX4_singleFrame_66 : decode cX4_singleFrame 66 = .ok (.if_icmp .eq 7, 3) := by decide +kernel
theorem dX4_singleFrame_69 : decode cX4_singleFrame 69 = .ok (.iload_n 1, 1) := by decide +kernel
theorem dX4_singleFrame_70 : decode cX4_singleFrame 70 = .ok (.goto 4, 3) := by decide +kernel
theorem dX4_singleFrame_73 : decode cX4_singleFrame 73 = .ok (.iload_n 2, 1) := by decide +kernel
theorem dX4_singleFrame_74 : decode cX4_singleFrame 74 = .ok (.ireturn, 1) := by decide +kernel
theorem dX4_placedIn_0 : decode cX4_placedIn 0 = .ok (.iconst 0, 1) := by decide +kernel
theorem dX4_placedIn_1 : decode cX4_placedIn 1 = .ok (.istore_n 3, 1) := by decide +kernel
theorem dX4_placedIn_2 : decode cX4_placedIn 2 = .ok (.iconst 0, 1) := by decide +kernel
theorem dX4_placedIn_3 : decode cX4_placedIn 3 = .ok (.istore 4, 2) := by decide +kernel
theorem dX4_placedIn_5 : decode cX4_placedIn 5 = .ok (.iload 4, 2) := by decide +kernel
theorem dX4_placedIn_7 : decode cX4_placedIn 7 = .ok (.iconst 4, 1) := by decide +kernel
theorem dX4_placedIn_8 : decode cX4_placedIn 8 = .ok (.if_icmp .ge 32, 3) := by decide +kernel
theorem dX4_placedIn_11 : decode cX4_placedIn 11 = .ok (.iload_n 3, 1) := by decide +kernel
theorem dX4_placedIn_12 : decode cX4_placedIn 12 = .ok (.aload_n 0, 1) := by decide +kernel
theorem dX4_placedIn_13 : decode cX4_placedIn 13 = .ok (.iload_n 1, 1) := by decide +kernel
theorem dX4_placedIn_14 : decode cX4_placedIn 14 = .ok (.iconst 4, 1) := by decide +kernel
theorem dX4_placedIn_15 : decode cX4_placedIn 15 = .ok (.iload_n 2, 1) := by decide +kernel
theorem dX4_placedIn_16 : decode cX4_placedIn 16 = .ok (.imul, 1) := by decide +kernel
theorem dX4_placedIn_17 : decode cX4_placedIn 17 = .ok (.iload 4, 2) := by decide +kernel
theorem dX4_placedIn_19 : decode cX4_placedIn 19 = .ok (.iadd, 1) := by decide +kernel
theorem dX4_placedIn_20 : decode cX4_placedIn 20 = .ok (.invokevirtual 53, 3) := by decide +kernel
theorem dX4_placedIn_23 : decode cX4_placedIn 23 = .ok (.iconst (-1), 1) := by decide +kernel
theorem dX4_placedIn_24 : decode cX4_placedIn 24 = .ok (.if_icmp .ne 7, 3) := by decide +kernel
theorem dX4_placedIn_27 : decode cX4_placedIn 27 = .ok (.iconst 0, 1) := by decide +kernel
theorem dX4_placedIn_28 : decode cX4_placedIn 28 = .ok (.goto 4, 3) := by decide +kernel
theorem dX4_placedIn_31 : decode cX4_placedIn 31 = .ok (.iconst 1, 1) := by decide +kernel
theorem dX4_placedIn_32 : decode cX4_placedIn 32 = .ok (.iadd, 1) := by decide +kernel
theorem dX4_placedIn_33 : decode cX4_placedIn 33 = .ok (.istore_n 3, 1) := by decide +kernel
theorem dX4_placedIn_34 : decode cX4_placedIn 34 = .ok (.iinc 4 1, 3) := by decide +kernel
theorem dX4_placedIn_37 : decode cX4_placedIn 37 = .ok (.goto (-32), 3) := by decide +kernel
theorem dX4_placedIn_40 : decode cX4_placedIn 40 = .ok (.iload_n 3, 1) := by decide +kernel
theorem dX4_placedIn_41 : decode cX4_placedIn 41 = .ok (.ireturn, 1) := by decide +kernel
theorem dX4_sharedIn_0 : decode cX4_sharedIn 0 = .ok (.iconst 0, 1) := by decide +kernel
theorem dX4_sharedIn_1 : decode cX4_sharedIn 1 = .ok (.istore_n 3, 1) := by decide +kernel
theorem dX4_sharedIn_2 : decode cX4_sharedIn 2 = .ok (.iconst 0, 1) := by decide +kernel
theorem dX4_sharedIn_3 : decode cX4_sharedIn 3 = .ok (.istore 4, 2) := by decide +kernel
theorem dX4_sharedIn_5 : decode cX4_sharedIn 5 = .ok (.iload 4, 2) := by decide +kernel
theorem dX4_sharedIn_7 : decode cX4_sharedIn 7 = .ok (.iconst 4, 1) := by decide +kernel
theorem dX4_sharedIn_8 : decode cX4_sharedIn 8 = .ok (.if_icmp .ge 35, 3) := by decide +kernel
theorem dX4_sharedIn_11 : decode cX4_sharedIn 11 = .ok (.iload_n 3, 1) := by decide +kernel
theorem dX4_sharedIn_12 : decode cX4_sharedIn 12 = .ok (.aload_n 0, 1) := by decide +kernel
theorem dX4_sharedIn_13 : decode cX4_sharedIn 13 = .ok (.aload_n 0, 1) := by decide +kernel
theorem dX4_sharedIn_14 : decode cX4_sharedIn 14 = .ok (.iload_n 1, 1) := by decide +kernel
theorem dX4_sharedIn_15 : decode cX4_sharedIn 15 = .ok (.iconst 4, 1) := by decide +kernel
theorem dX4_sharedIn_16 : decode cX4_sharedIn 16 = .ok (.iload_n 2, 1) := by decide +kernel
theorem dX4_sharedIn_17 : decode cX4_sharedIn 17 = .ok (.imul, 1) := by decide +kernel
theorem dX4_sharedIn_18 : decode cX4_sharedIn 18 = .ok (.iload 4, 2) := by decide +kernel
theorem dX4_sharedIn_20 : decode cX4_sharedIn 20 = .ok (.iadd, 1) := by decide +kernel
theorem dX4_sharedIn_21 : decode cX4_sharedIn 21 = .ok (.invokevirtual 53, 3) := by decide +kernel
theorem dX4_sharedIn_24 : decode cX4_sharedIn 24 = .ok (.invokevirtual 57, 3) := by decide +kernel
theorem dX4_sharedIn_27 : decode cX4_sharedIn 27 = .ok (.ifCond .eq 7, 3) := by decide +kernel
theorem dX4_sharedIn_30 : decode cX4_sharedIn 30 = .ok (.iconst 1, 1) := by decide +kernel
theorem dX4_sharedIn_31 : decode cX4_sharedIn 31 = .ok (.goto 4, 3) := by decide +kernel
theorem dX4_sharedIn_34 : decode cX4_sharedIn 34 = .ok (.iconst 0, 1) := by decide +kernel
theorem dX4_sharedIn_35 : decode cX4_sharedIn 35 = .ok (.iadd, 1) := by decide +kernel
theorem dX4_sharedIn_36 : decode cX4_sharedIn 36 = .ok (.istore_n 3, 1) := by decide +kernel
theorem dX4_sharedIn_37 : decode cX4_sharedIn 37 = .ok (.iinc 4 1, 3) := by decide +kernel
theorem dX4_sharedIn_40 : decode cX4_sharedIn 40 = .ok (.goto (-35), 3) := by decide +kernel
theorem dX4_sharedIn_43 : decode cX4_sharedIn 43 = .ok (.iload_n 3, 1) := by decide +kernel
theorem dX4_sharedIn_44 : decode cX4_sharedIn 44 = .ok (.ireturn, 1) := by decide +kernel
theorem dX4_runOf_0 : decode cX4_runOf 0 = .ok (.aload_n 0, 1) := by decide +kernel
theorem dX4_runOf_1 : decode cX4_runOf 1 = .ok (.iload_n 1, 1) := by decide +kernel
theorem dX4_runOf_2 : decode cX4_runOf 2 = .ok (.iload_n 2, 1) := by decide +kernel
theorem dX4_runOf_3 : decode cX4_runOf 3 = .ok (.invokevirtual 60, 3) := by decide +kernel
theorem dX4_runOf_6 : decode cX4_runOf 6 = .ok (.ifCond .eq 16, 3) := by decide +kernel
theorem dX4_runOf_9 : decode cX4_runOf 9 = .ok (.aload_n 0, 1) := by decide +kernel
theorem dX4_runOf_10 : decode cX4_runOf 10 = .ok (.iload_n 1, 1) := by decide +kernel
theorem dX4_runOf_11 : decode cX4_runOf 11 = .ok (.iconst 4, 1) := by decide +kernel
theorem dX4_runOf_12 : decode cX4_runOf 12 = .ok (.iload_n 2, 1) := by decide +kernel
theorem dX4_runOf_13 : decode cX4_runOf 13 = .ok (.imul, 1) := by decide +kernel
theorem dX4_runOf_14 : decode cX4_runOf 14 = .ok (.invokevirtual 53, 3) := by decide +kernel
theorem dX4_runOf_17 : decode cX4_runOf 17 = .ok (.iconst 4, 1) := by decide +kernel
theorem dX4_runOf_18 : decode cX4_runOf 18 = .ok (.idiv, 1) := by decide +kernel
theorem dX4_runOf_19 : decode cX4_runOf 19 = .ok (.goto 4, 3) := by decide +kernel
theorem dX4_runOf_22 : decode cX4_runOf 22 = .ok (.iconst (-1), 1) := by decide +kernel
theorem dX4_runOf_23 : decode cX4_runOf 23 = .ok (.ireturn, 1) := by decide +kernel
theorem dX4_isWidow_0 : decode cX4_isWidow 0 = .ok (.aload_n 0, 1) := by decide +kernel
theorem dX4_isWidow_1 : decode cX4_isWidow 1 = .ok (.iload_n 1, 1) := by decide +kernel
theorem dX4_isWidow_2 : decode cX4_isWidow 2 = .ok (.iload_n 2, 1) := by decide +kernel
theorem dX4_isWidow_3 : decode cX4_isWidow 3 = .ok (.invokevirtual 60, 3) := by decide +kernel
theorem dX4_isWidow_6 : decode cX4_isWidow 6 = .ok (.ifCond .eq 12, 3) := by decide +kernel
theorem dX4_isWidow_9 : decode cX4_isWidow 9 = .ok (.aload_n 0, 1) := by decide +kernel
theorem dX4_isWidow_10 : decode cX4_isWidow 10 = .ok (.iload_n 1, 1) := by decide +kernel
theorem dX4_isWidow_11 : decode cX4_isWidow 11 = .ok (.iload_n 2, 1) := by decide +kernel
theorem dX4_isWidow_12 : decode cX4_isWidow 12 = .ok (.invokevirtual 64, 3) := by decide +kernel
theorem dX4_isWidow_15 : decode cX4_isWidow 15 = .ok (.ifCond .ne 5, 3) := by decide +kernel
theorem dX4_isWidow_18 : decode cX4_isWidow 18 = .ok (.iconst 0, 1) := by decide +kernel
theorem dX4_isWidow_19 : decode cX4_isWidow 19 = .ok (.ireturn, 1) := by decide +kernel
theorem dX4_isWidow_20 : decode cX4_isWidow 20 = .ok (.iconst 0, 1) := by decide +kernel
theorem dX4_isWidow_21 : decode cX4_isWidow 21 = .ok (.istore_n 3, 1) := by decide +kernel
theorem dX4_isWidow_22 : decode cX4_isWidow 22 = .ok (.iconst 0, 1) := by decide +kernel
theorem dX4_isWidow_23 : decode cX4_isWidow 23 = .ok (.istore 4, 2) := by decide +kernel
theorem dX4_isWidow_25 : decode cX4_isWidow 25 = .ok (.iload 4, 2) := by decide +kernel
theorem dX4_isWidow_27 : decode cX4_isWidow 27 = .ok (.iconst 4, 1) := by decide +kernel
theorem dX4_isWidow_28 : decode cX4_isWidow 28 = .ok (.if_icmp .ge 49, 3) := by decide +kernel
theorem dX4_isWidow_31 : decode cX4_isWidow 31 = .ok (.iconst 0, 1) := by decide +kernel
theorem dX4_isWidow_32 : decode cX4_isWidow 32 = .ok (.istore 5, 2) := by decide +kernel
theorem dX4_isWidow_34 : decode cX4_isWidow 34 = .ok (.iload 5, 2) := by decide +kernel
theorem dX4_isWidow_36 : decode cX4_isWidow 36 = .ok (.iconst 4, 1) := by decide +kernel
theorem dX4_isWidow_37 : decode cX4_isWidow 37 = .ok (.if_icmp .ge 34, 3) := by decide +kernel
theorem dX4_isWidow_40 : decode cX4_isWidow 40 = .ok (.iload_n 3, 1) := by decide +kernel
theorem dX4_isWidow_41 : decode cX4_isWidow 41 = .ok (.aload_n 0, 1) := by decide +kernel
theorem dX4_isWidow_42 : decode cX4_isWidow 42 = .ok (.iload 4, 2) := by decide +kernel
theorem dX4_isWidow_44 : decode cX4_isWidow 44 = .ok (.iload 5, 2) := by decide +kernel
theorem dX4_isWidow_46 : decode cX4_isWidow 46 = .ok (.invokevirtual 67, 3) := by decide +kernel
theorem dX4_isWidow_49 : decode cX4_isWidow 49 = .ok (.aload_n 0, 1) := by decide +kernel
theorem dX4_isWidow_50 : decode cX4_isWidow 50 = .ok (.iload_n 1, 1) := by decide +kernel
theorem dX4_isWidow_51 : decode cX4_isWidow 51 = .ok (.iload_n 2, 1) := by decide +kernel
theorem dX4_isWidow_52 : decode cX4_isWidow 52 = .ok (.invokevirtual 67, 3) := by decide +kernel
theorem dX4_isWidow_55 : decode cX4_isWidow 55 = .ok (.if_icmp .ne 7, 3) := by decide +kernel
theorem dX4_isWidow_58 : decode cX4_isWidow 58 = .ok (.iconst 1, 1) := by decide +kernel
theorem dX4_isWidow_59 : decode cX4_isWidow 59 = .ok (.goto 4, 3) := by decide +kernel
theorem dX4_isWidow_62 : decode cX4_isWidow 62 = .ok (.iconst 0, 1) := by decide +kernel
theorem dX4_isWidow_63 : decode cX4_isWidow 63 = .ok (.iadd, 1) := by decide +kernel
theorem dX4_isWidow_64 : decode cX4_isWidow 64 = .ok (.istore_n 3, 1) := by decide +kernel
theorem dX4_isWidow_65 : decode cX4_isWidow 65 = .ok (.iinc 5 1, 3) := by decide +kernel
theorem dX4_isWidow_68 : decode cX4_isWidow 68 = .ok (.goto (-34), 3) := by decide +kernel
theorem dX4_isWidow_71 : decode cX4_isWidow 71 = .ok (.iinc 4 1, 3) := by decide +kernel
theorem dX4_isWidow_74 : decode cX4_isWidow 74 = .ok (.goto (-49), 3) := by decide +kernel
theorem dX4_isWidow_77 : decode cX4_isWidow 77 = .ok (.iload_n 3, 1) := by decide +kernel
theorem dX4_isWidow_78 : decode cX4_isWidow 78 = .ok (.iconst 1, 1) := by decide +kernel
theorem dX4_isWidow_79 : decode cX4_isWidow 79 = .ok (.if_icmp .ne 7, 3) := by decide +kernel
theorem dX4_isWidow_82 : decode cX4_isWidow 82 = .ok (.iconst 1, 1) := by decide +kernel
theorem dX4_isWidow_83 : decode cX4_isWidow 83 = .ok (.goto 4, 3) := by decide +kernel
theorem dX4_isWidow_86 : decode cX4_isWidow 86 = .ok (.iconst 0, 1) := by decide +kernel
theorem dX4_isWidow_87 : decode cX4_isWidow 87 = .ok (.ireturn, 1) := by decide +kernel
theorem dX4_isEagerFault_0 : decode cX4_isEagerFault 0 = .ok (.aload_n 0, 1) := by decide +kernel
theorem dX4_isEagerFault_1 : decode cX4_isEagerFault 1 = .ok (.getfield 7, 3) := by decide +kernel
theorem dX4_isEagerFault_4 : decode cX4_isEagerFault 4 = .ok (.bipush 120, 2) := by decide +kernel
theorem dX4_isEagerFault_6 : decode cX4_isEagerFault 6 = .ok (.iaload, 1) := by decide +kernel
theorem dX4_isEagerFault_7 : decode cX4_isEagerFault 7 = .ok (.iconst 1, 1) := by decide +kernel
theorem dX4_isEagerFault_8 : decode cX4_isEagerFault 8 = .ok (.if_icmp .ne 26, 3) := by decide +kernel
theorem dX4_isEagerFault_11 : decode cX4_isEagerFault 11 = .ok (.aload_n 0, 1) := by decide +kernel
theorem dX4_isEagerFault_12 : decode cX4_isEagerFault 12 = .ok (.iload_n 1, 1) := by decide +kernel
theorem dX4_isEagerFault_13 : decode cX4_isEagerFault 13 = .ok (.iload_n 2, 1) := by decide +kernel
theorem dX4_isEagerFault_14 : decode cX4_isEagerFault 14 = .ok (.iconst 4, 1) := by decide +kernel
theorem dX4_isEagerFault_15 : decode cX4_isEagerFault 15 = .ok (.idiv, 1) := by decide +kernel
theorem dX4_isEagerFault_16 : decode cX4_isEagerFault 16 = .ok (.invokevirtual 70, 3) := by decide +kernel
theorem dX4_isEagerFault_19 : decode cX4_isEagerFault 19 = .ok (.ifCond .ne 15, 3) := by decide +kernel
theorem dX4_isEagerFault_22 : decode cX4_isEagerFault 22 = .ok (.aload_n 0, 1) := by decide +kernel
theorem dX4_isEagerFault_23 : decode cX4_isEagerFault 23 = .ok (.invokevirtual 73, 3) := by decide +kernel
theorem dX4_isEagerFault_26 : decode cX4_isEagerFault 26 = .ok (.iconst (-1), 1) := by decide +kernel
theorem dX4_isEagerFault_27 : decode cX4_isEagerFault 27 = .ok (.if_icmp .eq 7, 3) := by decide +kernel
theorem dX4_isEagerFault_30 : decode cX4_isEagerFault 30 = .ok (.iconst 1, 1) := by decide +kernel
theorem dX4_isEagerFault_31 : decode cX4_isEagerFault 31 = .ok (.goto 4, 3) := by decide +kernel
theorem dX4_isEagerFault_34 : decode cX4_isEagerFault 34 = .ok (.iconst 0, 1) := by decide +kernel
theorem dX4_isEagerFault_35 : decode cX4_isEagerFault 35 = .ok (.ireturn, 1) := by decide +kernel
theorem dX4_outcome_0 : decode cX4_outcome 0 = .ok (.aload_n 0, 1) := by decide +kernel
theorem dX4_outcome_1 : decode cX4_outcome 1 = .ok (.iload_n 1, 1) := by decide +kernel
theorem dX4_outcome_2 : decode cX4_outcome 2 = .ok (.iload_n 2, 1) := by decide +kernel
theorem dX4_outcome_3 : decode cX4_outcome 3 = .ok (.invokevirtual 53, 3) := by decide +kernel
theorem dX4_outcome_6 : decode cX4_outcome 6 = .ok (.istore_n 3, 1) := by decide +kernel
theorem dX4_outcome_7 : decode cX4_outcome 7 = .ok (.iload_n 3, 1) := by decide +kernel
theorem dX4_outcome_8 : decode cX4_outcome 8 = .ok (.iconst (-1), 1) := by decide +kernel
theorem dX4_outcome_9 : decode cX4_outcome 9 = .ok (.if_icmp .ne 26, 3) := by decide +kernel
theorem dX4_outcome_12 : decode cX4_outcome 12 = .ok (.aload_n 0, 1) := by decide +kernel
theorem dX4_outcome_13 : decode cX4_outcome 13 = .ok (.iload_n 1, 1) := by decide +kernel
theorem dX4_outcome_14 : decode cX4_outcome 14 = .ok (.iload_n 2, 1) := by decide +kernel
theorem dX4_outcome_15 : decode cX4_outcome 15 = .ok (.invokevirtual 77, 3) := by decide +kernel
theorem dX4_outcome_18 : decode cX4_outcome 18 = .ok (.ifCond .ne 11, 3) := by decide +kernel
theorem dX4_outcome_21 : decode cX4_outcome 21 = .ok (.aload_n 0, 1) := by decide +kernel
theorem dX4_outcome_22 : decode cX4_outcome 22 = .ok (.invokevirtual 80, 3) := by decide +kernel
theorem dX4_outcome_25 : decode cX4_outcome 25 = .ok (.iconst (-1), 1) := by decide +kernel
theorem dX4_outcome_26 : decode cX4_outcome 26 = .ok (.if_icmp .eq 7, 3) := by decide +kernel
theorem dX4_outcome_29 : decode cX4_outcome 29 = .ok (.iconst 1, 1) := by decide +kernel
theorem dX4_outcome_30 : decode cX4_outcome 30 = .ok (.goto 4, 3) := by decide +kernel
theorem dX4_outcome_33 : decode cX4_outcome 33 = .ok (.iconst (-1), 1) := by decide +kernel
theorem dX4_outcome_34 : decode cX4_outcome 34 = .ok (.ireturn, 1) := by decide +kernel
theorem dX4_outcome_35 : decode cX4_outcome 35 = .ok (.aload_n 0, 1) := by decide +kernel
theorem dX4_outcome_36 : decode cX4_outcome 36 = .ok (.iload_n 3, 1) := by decide +kernel
theorem dX4_outcome_37 : decode cX4_outcome 37 = .ok (.invokevirtual 57, 3) := by decide +kernel
theorem dX4_outcome_40 : decode cX4_outcome 40 = .ok (.ifCond .ne 5, 3) := by decide +kernel
theorem dX4_outcome_43 : decode cX4_outcome 43 = .ok (.iconst 0, 1) := by decide +kernel
theorem dX4_outcome_44 : decode cX4_outcome 44 = .ok (.ireturn, 1) := by decide +kernel
theorem dX4_outcome_45 : decode cX4_outcome 45 = .ok (.aload_n 0, 1) := by decide +kernel
theorem dX4_outcome_46 : decode cX4_outcome 46 = .ok (.invokevirtual 80, 3) := by decide +kernel
theorem dX4_outcome_49 : decode cX4_outcome 49 = .ok (.iconst (-1), 1) := by decide +kernel
theorem dX4_outcome_50 : decode cX4_outcome 50 = .ok (.if_icmp .ne 7, 3) := by decide +kernel
theorem dX4_outcome_53 : decode cX4_outcome 53 = .ok (.iconst (-1), 1) := by decide +kernel
theorem dX4_outcome_54 : decode cX4_outcome 54 = .ok (.goto 19, 3) := by decide +kernel
theorem dX4_outcome_57 : decode cX4_outcome 57 = .ok (.aload_n 0, 1) := by decide +kernel
theorem dX4_outcome_58 : decode cX4_outcome 58 = .ok (.iload_n 1, 1) := by decide +kernel
theorem dX4_outcome_59 : decode cX4_outcome 59 = .ok (.iload_n 2, 1) := by decide +kernel
theorem dX4_outcome_60 : decode cX4_outcome 60 = .ok (.iconst 4, 1) := by decide +kernel
theorem dX4_outcome_61 : decode cX4_outcome 61 = .ok (.idiv, 1) := by decide +kernel
theorem dX4_outcome_62 : decode cX4_outcome 62 = .ok (.invokevirtual 60, 3) := by decide +kernel
theorem dX4_outcome_65 : decode cX4_outcome 65 = .ok (.ifCond .eq 7, 3) := by decide +kernel
theorem dX4_outcome_68 : decode cX4_outcome 68 = .ok (.iconst 3, 1) := by decide +kernel
theorem dX4_outcome_69 : decode cX4_outcome 69 = .ok (.goto 4, 3) := by decide +kernel
theorem dX4_outcome_72 : decode cX4_outcome 72 = .ok (.iconst 2, 1) := by decide +kernel
theorem dX4_outcome_73 : decode cX4_outcome 73 = .ok (.ireturn, 1) := by decide +kernel
theorem dX4_makeBig_0 : decode cX4_makeBig 0 = .ok (.aload_n 0, 1) := by decide +kernel
theorem dX4_makeBig_1 : decode cX4_makeBig 1 = .ok (.invokevirtual 73, 3) := by decide +kernel
theorem dX4_makeBig_4 : decode cX4_makeBig 4 = .ok (.istore_n 3, 1) := by decide +kernel
theorem dX4_makeBig_5 : decode cX4_makeBig 5 = .ok (.iconst 0, 1) := by decide +kernel
theorem dX4_makeBig_6 : decode cX4_makeBig 6 = .ok (.istore 4, 2) := by decide +kernel
theorem dX4_makeBig_8 : decode cX4_makeBig 8 = .ok (.iload 4, 2) := by decide +kernel
theorem dX4_makeBig_10 : decode cX4_makeBig 10 = .ok (.iconst 4, 1) := by decide +kernel
theorem dX4_makeBig_11 : decode cX4_makeBig 11 = .ok (.if_icmp .ge 41, 3) := by decide +kernel
theorem dX4_makeBig_14 : decode cX4_makeBig 14 = .ok (.aload_n 0, 1) := by decide +kernel
theorem dX4_makeBig_15 : decode cX4_makeBig 15 = .ok (.iload_n 1, 1) := by decide +kernel
theorem dX4_makeBig_16 : decode cX4_makeBig 16 = .ok (.iconst 4, 1) := by decide +kernel
theorem dX4_makeBig_17 : decode cX4_makeBig 17 = .ok (.iload_n 2, 1) := by decide +kernel
theorem dX4_makeBig_18 : decode cX4_makeBig 18 = .ok (.imul, 1) := by decide +kernel
theorem dX4_makeBig_19 : decode cX4_makeBig 19 = .ok (.iload 4, 2) := by decide +kernel
theorem dX4_makeBig_21 : decode cX4_makeBig 21 = .ok (.iadd, 1) := by decide +kernel
theorem dX4_makeBig_22 : decode cX4_makeBig 22 = .ok (.iconst 4, 1) := by decide +kernel
theorem dX4_makeBig_23 : decode cX4_makeBig 23 = .ok (.iload_n 3, 1) := by decide +kernel
theorem dX4_makeBig_24 : decode cX4_makeBig 24 = .ok (.imul, 1) := by decide +kernel
theorem dX4_makeBig_25 : decode cX4_makeBig 25 = .ok (.iload 4, 2) := by decide +kernel
theorem dX4_makeBig_27 : decode cX4_makeBig 27 = .ok (.iadd, 1) := by decide +kernel
theorem dX4_makeBig_28 : decode cX4_makeBig 28 = .ok (.invokevirtual 83, 3) := by decide +kernel
theorem dX4_makeBig_31 : decode cX4_makeBig 31 = .ok (.aload_n 0, 1) := by decide +kernel
theorem dX4_makeBig_32 : decode cX4_makeBig 32 = .ok (.getfield 7, 3) := by decide +kernel
theorem dX4_makeBig_35 : decode cX4_makeBig 35 = .ok (.bipush 84, 2) := by decide +kernel
theorem dX4_makeBig_37 : decode cX4_makeBig 37 = .ok (.iconst 4, 1) := by decide +kernel
theorem dX4_makeBig_38 : decode cX4_makeBig 38 = .ok (.iload_n 3, 1) := by decide +kernel
theorem dX4_makeBig_39 : decode cX4_makeBig 39 = .ok (.imul, 1) := by decide +kernel
theorem dX4_makeBig_40 : decode cX4_makeBig 40 = .ok (.iadd, 1) := by decide +kernel
theorem dX4_makeBig_41 : decode cX4_makeBig 41 = .ok (.iload 4, 2) := by decide +kernel
theorem dX4_makeBig_43 : decode cX4_makeBig 43 = .ok (.iadd, 1) := by decide +kernel
theorem dX4_makeBig_44 : decode cX4_makeBig 44 = .ok (.iconst 0, 1) := by decide +kernel
theorem dX4_makeBig_45 : decode cX4_makeBig 45 = .ok (.iastore, 1) := by decide +kernel
theorem dX4_makeBig_46 : decode cX4_makeBig 46 = .ok (.iinc 4 1, 3) := by decide +kernel
theorem dX4_makeBig_49 : decode cX4_makeBig 49 = .ok (.goto (-41), 3) := by decide +kernel
theorem dX4_makeBig_52 : decode cX4_makeBig 52 = .ok (.aload_n 0, 1) := by decide +kernel
theorem dX4_makeBig_53 : decode cX4_makeBig 53 = .ok (.iload_n 1, 1) := by decide +kernel
theorem dX4_makeBig_54 : decode cX4_makeBig 54 = .ok (.iload_n 2, 1) := by decide +kernel
theorem dX4_makeBig_55 : decode cX4_makeBig 55 = .ok (.iconst 1, 1) := by decide +kernel
theorem dX4_makeBig_56 : decode cX4_makeBig 56 = .ok (.invokevirtual 87, 3) := by decide +kernel
theorem dX4_makeBig_59 : decode cX4_makeBig 59 = .ok (.return_, 1) := by decide +kernel
theorem dX4_written_0 : decode cX4_written 0 = .ok (.aload_n 0, 1) := by decide +kernel
theorem dX4_written_1 : decode cX4_written 1 = .ok (.iload_n 1, 1) := by decide +kernel
theorem dX4_written_2 : decode cX4_written 2 = .ok (.iload_n 2, 1) := by decide +kernel
theorem dX4_written_3 : decode cX4_written 3 = .ok (.invokevirtual 90, 3) := by decide +kernel
theorem dX4_written_6 : decode cX4_written 6 = .ok (.istore 4, 2) := by decide +kernel
theorem dX4_written_8 : decode cX4_written 8 = .ok (.iload 4, 2) := by decide +kernel
theorem dX4_written_10 : decode cX4_written 10 = .ok (.iconst 1, 1) := by decide +kernel
theorem dX4_written_11 : decode cX4_written 11 = .ok (.if_icmp .ne 23, 3) := by decide +kernel
theorem dX4_written_14 : decode cX4_written 14 = .ok (.aload_n 0, 1) := by decide +kernel
theorem dX4_written_15 : decode cX4_written 15 = .ok (.iload_n 1, 1) := by decide +kernel
theorem dX4_written_16 : decode cX4_written 16 = .ok (.iload_n 2, 1) := by decide +kernel
theorem dX4_written_17 : decode cX4_written 17 = .ok (.invokevirtual 77, 3) := by decide +kernel
theorem dX4_written_20 : decode cX4_written 20 = .ok (.ifCond .eq 14, 3) := by decide +kernel
theorem dX4_written_23 : decode cX4_written 23 = .ok (.aload_n 0, 1) := by decide +kernel
theorem dX4_written_24 : decode cX4_written 24 = .ok (.iload_n 1, 1) := by decide +kernel
theorem dX4_written_25 : decode cX4_written 25 = .ok (.iload_n 2, 1) := by decide +kernel
theorem dX4_written_26 : decode cX4_written 26 = .ok (.iconst 4, 1) := by decide +kernel
theorem dX4_written_27 : decode cX4_written 27 = .ok (.idiv, 1) := by decide +kernel
theorem dX4_written_28 : decode cX4_written 28 = .ok (.invokevirtual 93, 3) := by decide +kernel
theorem dX4_written_31 : decode cX4_written 31 = .ok (.goto 18, 3) := by decide +kernel
theorem dX4_written_34 : decode cX4_written 34 = .ok (.iload 4, 2) := by decide +kernel
theorem dX4_written_36 : decode cX4_written 36 = .ok (.ifCond .eq 13, 3) := by decide +kernel
theorem dX4_written_39 : decode cX4_written 39 = .ok (.aload_n 0, 1) := by decide +kernel
theorem dX4_written_40 : decode cX4_written 40 = .ok (.iload_n 1, 1) := by decide +kernel
theorem dX4_written_41 : decode cX4_written 41 = .ok (.iload_n 2, 1) := by decide +kernel
theorem dX4_written_42 : decode cX4_written 42 = .ok (.aload_n 0, 1) := by decide +kernel
theorem dX4_written_43 : decode cX4_written 43 = .ok (.invokevirtual 80, 3) := by decide +kernel
theorem dX4_written_46 : decode cX4_written 46 = .ok (.invokevirtual 83, 3) := by decide +kernel
theorem dX4_written_49 : decode cX4_written 49 = .ok (.iload 4, 2) := by decide +kernel
theorem dX4_written_51 : decode cX4_written 51 = .ok (.iconst 3, 1) := by decide +kernel
theorem dX4_written_52 : decode cX4_written 52 = .ok (.if_icmp .ne 23, 3) := by decide +kernel
theorem dX4_written_55 : decode cX4_written 55 = .ok (.aload_n 0, 1) := by decide +kernel
theorem dX4_written_56 : decode cX4_written 56 = .ok (.iload_n 1, 1) := by decide +kernel
theorem dX4_written_57 : decode cX4_written 57 = .ok (.iload_n 2, 1) := by decide +kernel
theorem dX4_written_58 : decode cX4_written 58 = .ok (.iconst 4, 1) := by decide +kernel
theorem dX4_written_59 : decode cX4_written 59 = .ok (.idiv, 1) := by decide +kernel
theorem dX4_written_60 : decode cX4_written 60 = .ok (.iconst 0, 1) := by decide +kernel
theorem dX4_written_61 : decode cX4_written 61 = .ok (.invokevirtual 87, 3) := by decide +kernel
theorem dX4_written_64 : decode cX4_written 64 = .ok (.aload_n 0, 1) := by decide +kernel
theorem dX4_written_65 : decode cX4_written 65 = .ok (.getfield 7, 3) := by decide +kernel
theorem dX4_written_68 : decode cX4_written 68 = .ok (.bipush 118, 2) := by decide +kernel
theorem dX4_written_70 : decode cX4_written 70 = .ok (.dup2, 1) := by decide +kernel
theorem dX4_written_71 : decode cX4_written 71 = .ok (.iaload, 1) := by decide +kernel
theorem dX4_written_72 : decode cX4_written 72 = .ok (.iconst 1, 1) := by decide +kernel
theorem dX4_written_73 : decode cX4_written 73 = .ok (.iadd, 1) := by decide +kernel
theorem dX4_written_74 : decode cX4_written 74 = .ok (.iastore, 1) := by decide +kernel
theorem dX4_written_75 : decode cX4_written 75 = .ok (.aload_n 0, 1) := by decide +kernel
theorem dX4_written_76 : decode cX4_written 76 = .ok (.getfield 7, 3) := by decide +kernel
theorem dX4_written_79 : decode cX4_written 79 = .ok (.bipush 117, 2) := by decide +kernel
theorem dX4_written_81 : decode cX4_written 81 = .ok (.dup2, 1) := by decide +kernel
theorem dX4_written_82 : decode cX4_written 82 = .ok (.iaload, 1) := by decide +kernel
theorem dX4_written_83 : decode cX4_written 83 = .ok (.iload 4, 2) := by decide +kernel
theorem dX4_written_85 : decode cX4_written 85 = .ok (.iconst 1, 1) := by decide +kernel
theorem dX4_written_86 : decode cX4_written 86 = .ok (.if_icmp .ne 7, 3) := by decide +kernel
theorem dX4_written_89 : decode cX4_written 89 = .ok (.iconst 1, 1) := by decide +kernel
theorem dX4_written_90 : decode cX4_written 90 = .ok (.goto 4, 3) := by decide +kernel
theorem dX4_written_93 : decode cX4_written 93 = .ok (.iconst 0, 1) := by decide +kernel
theorem dX4_written_94 : decode cX4_written 94 = .ok (.iadd, 1) := by decide +kernel
theorem dX4_written_95 : decode cX4_written 95 = .ok (.iastore, 1) := by decide +kernel
theorem dX4_written_96 : decode cX4_written 96 = .ok (.aload_n 0, 1) := by decide +kernel
theorem dX4_written_97 : decode cX4_written 97 = .ok (.getfield 7, 3) := by decide +kernel
theorem dX4_written_100 : decode cX4_written 100 = .ok (.bipush 116, 2) := by decide +kernel
theorem dX4_written_102 : decode cX4_written 102 = .ok (.dup2, 1) := by decide +kernel
theorem dX4_written_103 : decode cX4_written 103 = .ok (.iaload, 1) := by decide +kernel
theorem dX4_written_104 : decode cX4_written 104 = .ok (.iload 4, 2) := by decide +kernel
theorem dX4_written_106 : decode cX4_written 106 = .ok (.iconst 2, 1) := by decide +kernel
theorem dX4_written_107 : decode cX4_written 107 = .ok (.if_icmp .lt 7, 3) := by decide +kernel
theorem dX4_written_110 : decode cX4_written 110 = .ok (.iconst 1, 1) := by decide +kernel
theorem dX4_written_111 : decode cX4_written 111 = .ok (.goto 4, 3) := by decide +kernel
theorem dX4_written_114 : decode cX4_written 114 = .ok (.iconst 0, 1) := by decide +kernel
theorem dX4_written_115 : decode cX4_written 115 = .ok (.iadd, 1) := by decide +kernel
theorem dX4_written_116 : decode cX4_written 116 = .ok (.iastore, 1) := by decide +kernel
theorem dX4_written_117 : decode cX4_written 117 = .ok (.aload_n 0, 1) := by decide +kernel
theorem dX4_written_118 : decode cX4_written 118 = .ok (.getfield 7, 3) := by decide +kernel
theorem dX4_written_121 : decode cX4_written 121 = .ok (.bipush 84, 2) := by decide +kernel
theorem dX4_written_123 : decode cX4_written 123 = .ok (.aload_n 0, 1) := by decide +kernel
theorem dX4_written_124 : decode cX4_written 124 = .ok (.iload_n 1, 1) := by decide +kernel
theorem dX4_written_125 : decode cX4_written 125 = .ok (.iload_n 2, 1) := by decide +kernel
theorem dX4_written_126 : decode cX4_written 126 = .ok (.invokevirtual 53, 3) := by decide +kernel
theorem dX4_written_129 : decode cX4_written 129 = .ok (.iadd, 1) := by decide +kernel
theorem dX4_written_130 : decode cX4_written 130 = .ok (.iload_n 3, 1) := by decide +kernel
theorem dX4_written_131 : decode cX4_written 131 = .ok (.iastore, 1) := by decide +kernel
theorem dX4_written_132 : decode cX4_written 132 = .ok (.iload 4, 2) := by decide +kernel
theorem dX4_written_134 : decode cX4_written 134 = .ok (.ireturn, 1) := by decide +kernel
theorem dX4_freeProcess_0 : decode cX4_freeProcess 0 = .ok (.iconst (-1), 1) := by decide +kernel
theorem dX4_freeProcess_1 : decode cX4_freeProcess 1 = .ok (.istore_n 1, 1) := by decide +kernel
theorem dX4_freeProcess_2 : decode cX4_freeProcess 2 = .ok (.iconst 3, 1) := by decide +kernel
theorem dX4_freeProcess_3 : decode cX4_freeProcess 3 = .ok (.istore_n 2, 1) := by decide +kernel
theorem dX4_freeProcess_4 : decode cX4_freeProcess 4 = .ok (.iload_n 2, 1) := by decide +kernel
theorem dX4_freeProcess_5 : decode cX4_freeProcess 5 = .ok (.ifCond .lt 26, 3) := by decide +kernel
theorem dX4_freeProcess_8 : decode cX4_freeProcess 8 = .ok (.aload_n 0, 1) := by decide +kernel
theorem dX4_freeProcess_9 : decode cX4_freeProcess 9 = .ok (.getfield 7, 3) := by decide +kernel
theorem dX4_freeProcess_12 : decode cX4_freeProcess 12 = .ok (.iconst 0, 1) := by decide +kernel
theorem dX4_freeProcess_13 : decode cX4_freeProcess 13 = .ok (.iload_n 2, 1) := by decide +kernel
theorem dX4_freeProcess_14 : decode cX4_freeProcess 14 = .ok (.iadd, 1) := by decide +kernel
theorem dX4_freeProcess_15 : decode cX4_freeProcess 15 = .ok (.iaload, 1) := by decide +kernel
theorem dX4_freeProcess_16 : decode cX4_freeProcess 16 = .ok (.ifCond .ne 7, 3) := by decide +kernel
theorem dX4_freeProcess_19 : decode cX4_freeProcess 19 = .ok (.iload_n 2, 1) := by decide +kernel
theorem dX4_freeProcess_20 : decode cX4_freeProcess 20 = .ok (.goto 4, 3) := by decide +kernel
theorem dX4_freeProcess_23 : decode cX4_freeProcess 23 = .ok (.iload_n 1, 1) := by decide +kernel
theorem dX4_freeProcess_24 : decode cX4_freeProcess 24 = .ok (.istore_n 1, 1) := by decide +kernel
theorem dX4_freeProcess_25 : decode cX4_freeProcess 25 = .ok (.iinc 2 (-1), 3) := by decide +kernel
theorem dX4_freeProcess_28 : decode cX4_freeProcess 28 = .ok (.goto (-24), 3) := by decide +kernel
theorem dX4_freeProcess_31 : decode cX4_freeProcess 31 = .ok (.iload_n 1, 1) := by decide +kernel
theorem dX4_freeProcess_32 : decode cX4_freeProcess 32 = .ok (.ireturn, 1) := by decide +kernel
theorem dX4_whyNotForked_0 : decode cX4_whyNotForked 0 = .ok (.aload_n 0, 1) := by decide +kernel
theorem dX4_whyNotForked_1 : decode cX4_whyNotForked 1 = .ok (.iload_n 1, 1) := by decide +kernel
theorem dX4_whyNotForked_2 : decode cX4_whyNotForked 2 = .ok (.invokevirtual 42, 3) := by decide +kernel
theorem dX4_whyNotForked_5 : decode cX4_whyNotForked 5 = .ok (.ifCond .ne 7, 3) := by decide +kernel
theorem dX4_whyNotForked_8 : decode cX4_whyNotForked 8 = .ok (.iconst 1, 1) := by decide +kernel
theorem dX4_whyNotForked_9 : decode cX4_whyNotForked 9 = .ok (.goto 16, 3) := by decide +kernel
theorem dX4_whyNotForked_12 : decode cX4_whyNotForked 12 = .ok (.aload_n 0, 1) := by decide +kernel
theorem dX4_whyNotForked_13 : decode cX4_whyNotForked 13 = .ok (.invokevirtual 97, 3) := by decide +kernel
theorem dX4_whyNotForked_16 : decode cX4_whyNotForked 16 = .ok (.iconst (-1), 1) := by decide +kernel
theorem dX4_whyNotForked_17 : decode cX4_whyNotForked 17 = .ok (.if_icmp .ne 7, 3) := by decide +kernel
theorem dX4_whyNotForked_20 : decode cX4_whyNotForked 20 = .ok (.iconst 2, 1) := by decide +kernel
theorem dX4_whyNotForked_21 : decode cX4_whyNotForked 21 = .ok (.goto 4, 3) := by decide +kernel
theorem dX4_whyNotForked_24 : decode cX4_whyNotForked 24 = .ok (.iconst 0, 1) := by decide +kernel
theorem dX4_whyNotForked_25 : decode cX4_whyNotForked 25 = .ok (.ireturn, 1) := by decide +kernel
theorem dX4_forked_0 : decode cX4_forked 0 = .ok (.aload_n 0, 1) := by decide +kernel
theorem dX4_forked_1 : decode cX4_forked 1 = .ok (.invokevirtual 97, 3) := by decide +kernel
theorem dX4_forked_4 : decode cX4_forked 4 = .ok (.istore_n 2, 1) := by decide +kernel
theorem dX4_forked_5 : decode cX4_forked 5 = .ok (.aload_n 0, 1) := by decide +kernel
theorem dX4_forked_6 : decode cX4_forked 6 = .ok (.getfield 7, 3) := by decide +kernel
theorem dX4_forked_9 : decode cX4_forked 9 = .ok (.iconst 0, 1) := by decide +kernel
theorem dX4_forked_10 : decode cX4_forked 10 = .ok (.iload_n 2, 1) := by decide +kernel
theorem dX4_forked_11 : decode cX4_forked 11 = .ok (.iadd, 1) := by decide +kernel
theorem dX4_forked_12 : decode cX4_forked 12 = .ok (.iconst 1, 1) := by decide +kernel
theorem dX4_forked_13 : decode cX4_forked 13 = .ok (.iastore, 1) := by decide +kernel
theorem dX4_forked_14 : decode cX4_forked 14 = .ok (.iconst 0, 1) := by decide +kernel
theorem dX4_forked_15 : decode cX4_forked 15 = .ok (.istore_n 3, 1) := by decide +kernel
theorem dX4_forked_16 : decode cX4_forked 16 = .ok (.iload_n 3, 1) := by decide +kernel
theorem dX4_forked_17 : decode cX4_forked 17 = .ok (.bipush 16, 2) := by decide +kernel
theorem dX4_forked_19 : decode cX4_forked 19 = .ok (.if_icmp .ge 21, 3) := by decide +kernel
theorem dX4_forked_22 : decode cX4_forked 22 = .ok (.aload_n 0, 1) := by decide +kernel
theorem dX4_forked_23 : decode cX4_forked 23 = .ok (.iload_n 2, 1) := by decide +kernel
theorem dX4_forked_24 : decode cX4_forked 24 = .ok (.iload_n 3, 1) := by decide +kernel
theorem dX4_forked_25 : decode cX4_forked 25 = .ok (.aload_n 0, 1) := by decide +kernel
theorem dX4_forked_26 : decode cX4_forked 26 = .ok (.iload_n 1, 1) := by decide +kernel
theorem dX4_forked_27 : decode cX4_forked 27 = .ok (.iload_n 3, 1) := by decide +kernel
theorem dX4_forked_28 : decode cX4_forked 28 = .ok (.invokevirtual 53, 3) := by decide +kernel
theorem dX4_forked_31 : decode cX4_forked 31 = .ok (.invokevirtual 83, 3) := by decide +kernel
theorem dX4_forked_34 : decode cX4_forked 34 = .ok (.iinc 3 1, 3) := by decide +kernel
theorem dX4_forked_37 : decode cX4_forked 37 = .ok (.goto (-21), 3) := by decide +kernel
theorem dX4_forked_40 : decode cX4_forked 40 = .ok (.iconst 0, 1) := by decide +kernel
theorem dX4_forked_41 : decode cX4_forked 41 = .ok (.istore_n 3, 1) := by decide +kernel
theorem dX4_forked_42 : decode cX4_forked 42 = .ok (.iload_n 3, 1) := by decide +kernel
theorem dX4_forked_43 : decode cX4_forked 43 = .ok (.iconst 4, 1) := by decide +kernel
theorem dX4_forked_44 : decode cX4_forked 44 = .ok (.if_icmp .ge 29, 3) := by decide +kernel
theorem dX4_forked_47 : decode cX4_forked 47 = .ok (.aload_n 0, 1) := by decide +kernel
theorem dX4_forked_48 : decode cX4_forked 48 = .ok (.iload_n 2, 1) := by decide +kernel
theorem dX4_forked_49 : decode cX4_forked 49 = .ok (.iload_n 3, 1) := by decide +kernel
theorem dX4_forked_50 : decode cX4_forked 50 = .ok (.aload_n 0, 1) := by decide +kernel
theorem dX4_forked_51 : decode cX4_forked 51 = .ok (.iload_n 1, 1) := by decide +kernel
theorem dX4_forked_52 : decode cX4_forked 52 = .ok (.iload_n 3, 1) := by decide +kernel
theorem dX4_forked_53 : decode cX4_forked 53 = .ok (.invokevirtual 60, 3) := by decide +kernel
theorem dX4_forked_56 : decode cX4_forked 56 = .ok (.ifCond .eq 7, 3) := by decide +kernel
theorem dX4_forked_59 : decode cX4_forked 59 = .ok (.iconst 1, 1) := by decide +kernel
theorem dX4_forked_60 : decode cX4_forked 60 = .ok (.goto 4, 3) := by decide +kernel
theorem dX4_forked_63 : decode cX4_forked 63 = .ok (.iconst 0, 1) := by decide +kernel
theorem dX4_forked_64 : decode cX4_forked 64 = .ok (.invokevirtual 87, 3) := by decide +kernel
theorem dX4_forked_67 : decode cX4_forked 67 = .ok (.iinc 3 1, 3) := by decide +kernel
theorem dX4_forked_70 : decode cX4_forked 70 = .ok (.goto (-28), 3) := by decide +kernel
theorem dX4_forked_73 : decode cX4_forked 73 = .ok (.iload_n 2, 1) := by decide +kernel
theorem dX4_forked_74 : decode cX4_forked 74 = .ok (.ireturn, 1) := by decide +kernel
theorem dX4_processMany_0 : decode cX4_processMany 0 = .ok (.aload_n 0, 1) := by decide +kernel
theorem dX4_processMany_1 : decode cX4_processMany 1 = .ok (.getfield 7, 3) := by decide +kernel
theorem dX4_processMany_4 : decode cX4_processMany 4 = .ok (.iconst 0, 1) := by decide +kernel
theorem dX4_processMany_5 : decode cX4_processMany 5 = .ok (.iaload, 1) := by decide +kernel
theorem dX4_processMany_6 : decode cX4_processMany 6 = .ok (.aload_n 0, 1) := by decide +kernel
theorem dX4_processMany_7 : decode cX4_processMany 7 = .ok (.getfield 7, 3) := by decide +kernel
theorem dX4_processMany_10 : decode cX4_processMany 10 = .ok (.iconst 1, 1) := by decide +kernel
theorem dX4_processMany_11 : decode cX4_processMany 11 = .ok (.iaload, 1) := by decide +kernel
theorem dX4_processMany_12 : decode cX4_processMany 12 = .ok (.iadd, 1) := by decide +kernel
theorem dX4_processMany_13 : decode cX4_processMany 13 = .ok (.aload_n 0, 1) := by decide +kernel
theorem dX4_processMany_14 : decode cX4_processMany 14 = .ok (.getfield 7, 3) := by decide +kernel
theorem dX4_processMany_17 : decode cX4_processMany 17 = .ok (.iconst 2, 1) := by decide +kernel
theorem dX4_processMany_18 : decode cX4_processMany 18 = .ok (.iaload, 1) := by decide +kernel
theorem dX4_processMany_19 : decode cX4_processMany 19 = .ok (.iadd, 1) := by decide +kernel
theorem dX4_processMany_20 : decode cX4_processMany 20 = .ok (.aload_n 0, 1) := by decide +kernel
theorem dX4_processMany_21 : decode cX4_processMany 21 = .ok (.getfield 7, 3) := by decide +kernel
theorem dX4_processMany_24 : decode cX4_processMany 24 = .ok (.iconst 3, 1) := by decide +kernel
theorem dX4_processMany_25 : decode cX4_processMany 25 = .ok (.iaload, 1) := by decide +kernel
theorem dX4_processMany_26 : decode cX4_processMany 26 = .ok (.iadd, 1) := by decide +kernel
theorem dX4_processMany_27 : decode cX4_processMany 27 = .ok (.ireturn, 1) := by decide +kernel
theorem dX4_whyNotEnded_0 : decode cX4_whyNotEnded 0 = .ok (.aload_n 0, 1) := by decide +kernel
theorem dX4_whyNotEnded_1 : decode cX4_whyNotEnded 1 = .ok (.iload_n 1, 1) := by decide +kernel
theorem dX4_whyNotEnded_2 : decode cX4_whyNotEnded 2 = .ok (.invokevirtual 42, 3) := by decide +kernel
theorem dX4_whyNotEnded_5 : decode cX4_whyNotEnded 5 = .ok (.ifCond .ne 7, 3) := by decide +kernel
theorem dX4_whyNotEnded_8 : decode cX4_whyNotEnded 8 = .ok (.iconst 1, 1) := by decide +kernel
theorem dX4_whyNotEnded_9 : decode cX4_whyNotEnded 9 = .ok (.goto 16, 3) := by decide +kernel
theorem dX4_whyNotEnded_12 : decode cX4_whyNotEnded 12 = .ok (.aload_n 0, 1) := by decide +kernel
theorem dX4_whyNotEnded_13 : decode cX4_whyNotEnded 13 = .ok (.invokevirtual 100, 3) := by decide +kernel
theorem dX4_whyNotEnded_16 : decode cX4_whyNotEnded 16 = .ok (.iconst 1, 1) := by decide +kernel
theorem dX4_whyNotEnded_17 : decode cX4_whyNotEnded 17 = .ok (.if_icmp .ne 7, 3) := by decide +kernel
theorem dX4_whyNotEnded_20 : decode cX4_whyNotEnded 20 = .ok (.iconst 2, 1) := by decide +kernel
theorem dX4_whyNotEnded_21 : decode cX4_whyNotEnded 21 = .ok (.goto 4, 3) := by decide +kernel
theorem dX4_whyNotEnded_24 : decode cX4_whyNotEnded 24 = .ok (.iconst 0, 1) := by decide +kernel
theorem dX4_whyNotEnded_25 : decode cX4_whyNotEnded 25 = .ok (.ireturn, 1) := by decide +kernel
theorem dX4_ended_0 : decode cX4_ended 0 = .ok (.aload_n 0, 1) := by decide +kernel
theorem dX4_ended_1 : decode cX4_ended 1 = .ok (.invokevirtual 103, 3) := by decide +kernel
theorem dX4_ended_4 : decode cX4_ended 4 = .ok (.istore_n 2, 1) := by decide +kernel
theorem dX4_ended_5 : decode cX4_ended 5 = .ok (.iconst 0, 1) := by decide +kernel
theorem dX4_ended_6 : decode cX4_ended 6 = .ok (.istore_n 3, 1) := by decide +kernel
theorem dX4_ended_7 : decode cX4_ended 7 = .ok (.iload_n 3, 1) := by decide +kernel
theorem dX4_ended_8 : decode cX4_ended 8 = .ok (.bipush 16, 2) := by decide +kernel
theorem dX4_ended_10 : decode cX4_ended 10 = .ok (.if_icmp .ge 16, 3) := by decide +kernel
theorem dX4_ended_13 : decode cX4_ended 13 = .ok (.aload_n 0, 1) := by decide +kernel
theorem dX4_ended_14 : decode cX4_ended 14 = .ok (.iload_n 1, 1) := by decide +kernel
theorem dX4_ended_15 : decode cX4_ended 15 = .ok (.iload_n 3, 1) := by decide +kernel
theorem dX4_ended_16 : decode cX4_ended 16 = .ok (.iconst (-1), 1) := by decide +kernel
theorem dX4_ended_17 : decode cX4_ended 17 = .ok (.invokevirtual 83, 3) := by decide +kernel
theorem dX4_ended_20 : decode cX4_ended 20 = .ok (.iinc 3 1, 3) := by decide +kernel
theorem dX4_ended_23 : decode cX4_ended 23 = .ok (.goto (-16), 3) := by decide +kernel
theorem dX4_ended_26 : decode cX4_ended 26 = .ok (.iconst 0, 1) := by decide +kernel
theorem dX4_ended_27 : decode cX4_ended 27 = .ok (.istore_n 3, 1) := by decide +kernel
theorem dX4_ended_28 : decode cX4_ended 28 = .ok (.iload_n 3, 1) := by decide +kernel
theorem dX4_ended_29 : decode cX4_ended 29 = .ok (.iconst 4, 1) := by decide +kernel
theorem dX4_ended_30 : decode cX4_ended 30 = .ok (.if_icmp .ge 16, 3) := by decide +kernel
theorem dX4_ended_33 : decode cX4_ended 33 = .ok (.aload_n 0, 1) := by decide +kernel
theorem dX4_ended_34 : decode cX4_ended 34 = .ok (.iload_n 1, 1) := by decide +kernel
theorem dX4_ended_35 : decode cX4_ended 35 = .ok (.iload_n 3, 1) := by decide +kernel
theorem dX4_ended_36 : decode cX4_ended 36 = .ok (.iconst 0, 1) := by decide +kernel
theorem dX4_ended_37 : decode cX4_ended 37 = .ok (.invokevirtual 87, 3) := by decide +kernel
theorem dX4_ended_40 : decode cX4_ended 40 = .ok (.iinc 3 1, 3) := by decide +kernel
theorem dX4_ended_43 : decode cX4_ended 43 = .ok (.goto (-15), 3) := by decide +kernel
theorem dX4_ended_46 : decode cX4_ended 46 = .ok (.aload_n 0, 1) := by decide +kernel
theorem dX4_ended_47 : decode cX4_ended 47 = .ok (.getfield 7, 3) := by decide +kernel
theorem dX4_ended_50 : decode cX4_ended 50 = .ok (.iconst 0, 1) := by decide +kernel
theorem dX4_ended_51 : decode cX4_ended 51 = .ok (.iload_n 1, 1) := by decide +kernel
theorem dX4_ended_52 : decode cX4_ended 52 = .ok (.iadd, 1) := by decide +kernel
theorem dX4_ended_53 : decode cX4_ended 53 = .ok (.iconst 0, 1) := by decide +kernel
theorem dX4_ended_54 : decode cX4_ended 54 = .ok (.iastore, 1) := by decide +kernel
theorem dX4_ended_55 : decode cX4_ended 55 = .ok (.aload_n 0, 1) := by decide +kernel
theorem dX4_ended_56 : decode cX4_ended 56 = .ok (.invokevirtual 103, 3) := by decide +kernel
theorem dX4_ended_59 : decode cX4_ended 59 = .ok (.iload_n 2, 1) := by decide +kernel
theorem dX4_ended_60 : decode cX4_ended 60 = .ok (.isub, 1) := by decide +kernel
theorem dX4_ended_61 : decode cX4_ended 61 = .ok (.ireturn, 1) := by decide +kernel
theorem dX4_isInPlace_0 : decode cX4_isInPlace 0 = .ok (.aload_n 0, 1) := by decide +kernel
theorem dX4_isInPlace_1 : decode cX4_isInPlace 1 = .ok (.iload_n 1, 1) := by decide +kernel
theorem dX4_isInPlace_2 : decode cX4_isInPlace 2 = .ok (.iconst 4, 1) := by decide +kernel
theorem dX4_isInPlace_3 : decode cX4_isInPlace 3 = .ok (.iload_n 2, 1) := by decide +kernel
theorem dX4_isInPlace_4 : decode cX4_isInPlace 4 = .ok (.imul, 1) := by decide +kernel
theorem dX4_isInPlace_5 : decode cX4_isInPlace 5 = .ok (.invokevirtual 53, 3) := by decide +kernel
theorem dX4_isInPlace_8 : decode cX4_isInPlace 8 = .ok (.istore_n 3, 1) := by decide +kernel
theorem dX4_isInPlace_9 : decode cX4_isInPlace 9 = .ok (.iload_n 3, 1) := by decide +kernel
theorem dX4_isInPlace_10 : decode cX4_isInPlace 10 = .ok (.iconst (-1), 1) := by decide +kernel
theorem dX4_isInPlace_11 : decode cX4_isInPlace 11 = .ok (.if_icmp .eq 13, 3) := by decide +kernel
theorem dX4_isInPlace_14 : decode cX4_isInPlace 14 = .ok (.iload_n 3, 1) := by decide +kernel
theorem dX4_isInPlace_15 : decode cX4_isInPlace 15 = .ok (.iconst 4, 1) := by decide +kernel
theorem dX4_isInPlace_16 : decode cX4_isInPlace 16 = .ok (.irem, 1) := by decide +kernel
theorem dX4_isInPlace_17 : decode cX4_isInPlace 17 = .ok (.ifCond .ne 7, 3) := by decide +kernel
theorem dX4_isInPlace_20 : decode cX4_isInPlace 20 = .ok (.iconst 1, 1) := by decide +kernel
theorem dX4_isInPlace_21 : decode cX4_isInPlace 21 = .ok (.goto 4, 3) := by decide +kernel
theorem dX4_isInPlace_24 : decode cX4_isInPlace 24 = .ok (.iconst 0, 1) := by decide +kernel
theorem dX4_isInPlace_25 : decode cX4_isInPlace 25 = .ok (.istore 4, 2) := by decide +kernel
theorem dX4_isInPlace_27 : decode cX4_isInPlace 27 = .ok (.iconst 1, 1) := by decide +kernel
theorem dX4_isInPlace_28 : decode cX4_isInPlace 28 = .ok (.istore 5, 2) := by decide +kernel
theorem dX4_isInPlace_30 : decode cX4_isInPlace 30 = .ok (.iload 5, 2) := by decide +kernel
theorem dX4_isInPlace_32 : decode cX4_isInPlace 32 = .ok (.iconst 4, 1) := by decide +kernel
theorem dX4_isInPlace_33 : decode cX4_isInPlace 33 = .ok (.if_icmp .ge 39, 3) := by decide +kernel
theorem dX4_isInPlace_36 : decode cX4_isInPlace 36 = .ok (.iload 4, 2) := by decide +kernel
theorem dX4_isInPlace_38 : decode cX4_isInPlace 38 = .ok (.ifCond .eq 25, 3) := by decide +kernel
theorem dX4_isInPlace_41 : decode cX4_isInPlace 41 = .ok (.aload_n 0, 1) := by decide +kernel
theorem dX4_isInPlace_42 : decode cX4_isInPlace 42 = .ok (.iload_n 1, 1) := by decide +kernel
theorem dX4_isInPlace_43 : decode cX4_isInPlace 43 = .ok (.iconst 4, 1) := by decide +kernel
theorem dX4_isInPlace_44 : decode cX4_isInPlace 44 = .ok (.iload_n 2, 1) := by decide +kernel
theorem dX4_isInPlace_45 : decode cX4_isInPlace 45 = .ok (.imul, 1) := by decide +kernel
theorem dX4_isInPlace_46 : decode cX4_isInPlace 46 = .ok (.iload 5, 2) := by decide +kernel
theorem dX4_isInPlace_48 : decode cX4_isInPlace 48 = .ok (.iadd, 1) := by decide +kernel
theorem dX4_isInPlace_49 : decode cX4_isInPlace 49 = .ok (.invokevirtual 53, 3) := by decide +kernel
theorem dX4_isInPlace_52 : decode cX4_isInPlace 52 = .ok (.iload_n 3, 1) := by decide +kernel
theorem dX4_isInPlace_53 : decode cX4_isInPlace 53 = .ok (.iload 5, 2) := by decide +kernel
theorem dX4_isInPlace_55 : decode cX4_isInPlace 55 = .ok (.iadd, 1) := by decide +kernel
theorem dX4_isInPlace_56 : decode cX4_isInPlace 56 = .ok (.if_icmp .ne 7, 3) := by decide +kernel
theorem dX4_isInPlace_59 : decode cX4_isInPlace 59 = .ok (.iconst 1, 1) := by decide +kernel
theorem dX4_isInPlace_60 : decode cX4_isInPlace 60 = .ok (.goto 4, 3) := by decide +kernel
theorem dX4_isInPlace_63 : decode cX4_isInPlace 63 = .ok (.iconst 0, 1) := by decide +kernel
theorem dX4_isInPlace_64 : decode cX4_isInPlace 64 = .ok (.istore 4, 2) := by decide +kernel
theorem dX4_isInPlace_66 : decode cX4_isInPlace 66 = .ok (.iinc 5 1, 3) := by decide +kernel
theorem dX4_isInPlace_69 : decode cX4_isInPlace 69 = .ok (.goto (-39), 3) := by decide +kernel
theorem dX4_isInPlace_72 : decode cX4_isInPlace 72 = .ok (.iload 4, 2) := by decide +kernel
theorem dX4_isInPlace_74 : decode cX4_isInPlace 74 = .ok (.ireturn, 1) := by decide +kernel
theorem dX4_whyNoMarriage_0 : decode cX4_whyNoMarriage 0 = .ok (.aload_n 0, 1) := by decide +kernel
theorem dX4_whyNoMarriage_1 : decode cX4_whyNoMarriage 1 = .ok (.iload_n 1, 1) := by decide +kernel
theorem dX4_whyNoMarriage_2 : decode cX4_whyNoMarriage 2 = .ok (.iload_n 2, 1) := by decide +kernel
theorem dX4_whyNoMarriage_3 : decode cX4_whyNoMarriage 3 = .ok (.invokevirtual 60, 3) := by decide +kernel
theorem dX4_whyNoMarriage_6 : decode cX4_whyNoMarriage 6 = .ok (.ifCond .eq 5, 3) := by decide +kernel
theorem dX4_whyNoMarriage_9 : decode cX4_whyNoMarriage 9 = .ok (.iconst 1, 1) := by decide +kernel
theorem dX4_whyNoMarriage_10 : decode cX4_whyNoMarriage 10 = .ok (.ireturn, 1) := by decide +kernel
theorem dX4_whyNoMarriage_11 : decode cX4_whyNoMarriage 11 = .ok (.aload_n 0, 1) := by decide +kernel
theorem dX4_whyNoMarriage_12 : decode cX4_whyNoMarriage 12 = .ok (.iload_n 1, 1) := by decide +kernel
theorem dX4_whyNoMarriage_13 : decode cX4_whyNoMarriage 13 = .ok (.iload_n 2, 1) := by decide +kernel
theorem dX4_whyNoMarriage_14 : decode cX4_whyNoMarriage 14 = .ok (.invokevirtual 70, 3) := by decide +kernel
theorem dX4_whyNoMarriage_17 : decode cX4_whyNoMarriage 17 = .ok (.iconst 4, 1) := by decide +kernel
theorem dX4_whyNoMarriage_18 : decode cX4_whyNoMarriage 18 = .ok (.if_icmp .ge 5, 3) := by decide +kernel
theorem dX4_whyNoMarriage_21 : decode cX4_whyNoMarriage 21 = .ok (.iconst 2, 1) := by decide +kernel
theorem dX4_whyNoMarriage_22 : decode cX4_whyNoMarriage 22 = .ok (.ireturn, 1) := by decide +kernel
theorem dX4_whyNoMarriage_23 : decode cX4_whyNoMarriage 23 = .ok (.aload_n 0, 1) := by decide +kernel
theorem dX4_whyNoMarriage_24 : decode cX4_whyNoMarriage 24 = .ok (.iload_n 1, 1) := by decide +kernel
theorem dX4_whyNoMarriage_25 : decode cX4_whyNoMarriage 25 = .ok (.iload_n 2, 1) := by decide +kernel
theorem dX4_whyNoMarriage_26 : decode cX4_whyNoMarriage 26 = .ok (.invokevirtual 64, 3) := by decide +kernel
theorem dX4_whyNoMarriage_29 : decode cX4_whyNoMarriage 29 = .ok (.ifCond .le 7, 3) := by decide +kernel
theorem dX4_whyNoMarriage_32 : decode cX4_whyNoMarriage 32 = .ok (.iconst 3, 1) := by decide +kernel
theorem dX4_whyNoMarriage_33 : decode cX4_whyNoMarriage 33 = .ok (.goto 25, 3) := by decide +kernel
theorem dX4_whyNoMarriage_36 : decode cX4_whyNoMarriage 36 = .ok (.aload_n 0, 1) := by decide +kernel
theorem dX4_whyNoMarriage_37 : decode cX4_whyNoMarriage 37 = .ok (.iload_n 1, 1) := by decide +kernel
theorem dX4_whyNoMarriage_38 : decode cX4_whyNoMarriage 38 = .ok (.iload_n 2, 1) := by decide +kernel
theorem dX4_whyNoMarriage_39 : decode cX4_whyNoMarriage 39 = .ok (.invokevirtual 106, 3) := by decide +kernel
theorem dX4_whyNoMarriage_42 : decode cX4_whyNoMarriage 42 = .ok (.ifCond .ne 15, 3) := by decide +kernel
theorem dX4_whyNoMarriage_45 : decode cX4_whyNoMarriage 45 = .ok (.aload_n 0, 1) := by decide +kernel
theorem dX4_whyNoMarriage_46 : decode cX4_whyNoMarriage 46 = .ok (.invokevirtual 73, 3) := by decide +kernel
theorem dX4_whyNoMarriage_49 : decode cX4_whyNoMarriage 49 = .ok (.iconst (-1), 1) := by decide +kernel
theorem dX4_whyNoMarriage_50 : decode cX4_whyNoMarriage 50 = .ok (.if_icmp .ne 7, 3) := by decide +kernel
theorem dX4_whyNoMarriage_53 : decode cX4_whyNoMarriage 53 = .ok (.iconst 4, 1) := by decide +kernel
theorem dX4_whyNoMarriage_54 : decode cX4_whyNoMarriage 54 = .ok (.goto 4, 3) := by decide +kernel
theorem dX4_whyNoMarriage_57 : decode cX4_whyNoMarriage 57 = .ok (.iconst 0, 1) := by decide +kernel
theorem dX4_whyNoMarriage_58 : decode cX4_whyNoMarriage 58 = .ok (.ireturn, 1) := by decide +kernel
theorem dX4_married_0 : decode cX4_married 0 = .ok (.aload_n 0, 1) := by decide +kernel
theorem dX4_married_1 : decode cX4_married 1 = .ok (.iload_n 1, 1) := by decide +kernel
theorem dX4_married_2 : decode cX4_married 2 = .ok (.iload_n 2, 1) := by decide +kernel
theorem dX4_married_3 : decode cX4_married 3 = .ok (.invokevirtual 106, 3) := by decide +kernel
theorem dX4_married_6 : decode cX4_married 6 = .ok (.ifCond .eq 7, 3) := by decide +kernel
theorem dX4_married_9 : decode cX4_married 9 = .ok (.iconst 0, 1) := by decide +kernel
theorem dX4_married_10 : decode cX4_married 10 = .ok (.goto 4, 3) := by decide +kernel
theorem dX4_married_13 : decode cX4_married 13 = .ok (.iconst 4, 1) := by decide +kernel
theorem dX4_married_14 : decode cX4_married 14 = .ok (.istore_n 3, 1) := by decide +kernel
theorem dX4_married_15 : decode cX4_married 15 = .ok (.aload_n 0, 1) := by decide +kernel
theorem dX4_married_16 : decode cX4_married 16 = .ok (.invokevirtual 73, 3) := by decide +kernel
theorem dX4_married_19 : decode cX4_married 19 = .ok (.istore 4, 2) := by decide +kernel
theorem dX4_married_21 : decode cX4_married 21 = .ok (.iconst 0, 1) := by decide +kernel
theorem dX4_married_22 : decode cX4_married 22 = .ok (.istore 5, 2) := by decide +kernel
theorem dX4_married_24 : decode cX4_married 24 = .ok (.iload 5, 2) := by decide +kernel
theorem dX4_married_26 : decode cX4_married 26 = .ok (.iload_n 3, 1) := by decide +kernel
theorem dX4_married_27 : decode cX4_married 27 = .ok (.if_icmp .ge 57, 3) := by decide +kernel
theorem dX4_married_30 : decode cX4_married 30 = .ok (.aload_n 0, 1) := by decide +kernel
theorem dX4_married_31 : decode cX4_married 31 = .ok (.getfield 7, 3) := by decide +kernel
theorem dX4_married_34 : decode cX4_married 34 = .ok (.bipush 84, 2) := by decide +kernel
theorem dX4_married_36 : decode cX4_married 36 = .ok (.iconst 4, 1) := by decide +kernel
theorem dX4_married_37 : decode cX4_married 37 = .ok (.iload 4, 2) := by decide +kernel
theorem dX4_married_39 : decode cX4_married 39 = .ok (.imul, 1) := by decide +kernel
theorem dX4_married_40 : decode cX4_married 40 = .ok (.iadd, 1) := by decide +kernel
theorem dX4_married_41 : decode cX4_married 41 = .ok (.iload 5, 2) := by decide +kernel
theorem dX4_married_43 : decode cX4_married 43 = .ok (.iadd, 1) := by decide +kernel
theorem dX4_married_44 : decode cX4_married 44 = .ok (.aload_n 0, 1) := by decide +kernel
theorem dX4_married_45 : decode cX4_married 45 = .ok (.aload_n 0, 1) := by decide +kernel
theorem dX4_married_46 : decode cX4_married 46 = .ok (.iload_n 1, 1) := by decide +kernel
theorem dX4_married_47 : decode cX4_married 47 = .ok (.iconst 4, 1) := by decide +kernel
theorem dX4_married_48 : decode cX4_married 48 = .ok (.iload_n 2, 1) := by decide +kernel
theorem dX4_married_49 : decode cX4_married 49 = .ok (.imul, 1) := by decide +kernel
theorem dX4_married_50 : decode cX4_married 50 = .ok (.iload 5, 2) := by decide +kernel
theorem dX4_married_52 : decode cX4_married 52 = .ok (.iadd, 1) := by decide +kernel
theorem dX4_married_53 : decode cX4_married 53 = .ok (.invokevirtual 53, 3) := by decide +kernel
theorem dX4_married_56 : decode cX4_married 56 = .ok (.invokevirtual 109, 3) := by decide +kernel
theorem dX4_married_59 : decode cX4_married 59 = .ok (.iastore, 1) := by decide +kernel
theorem dX4_married_60 : decode cX4_married 60 = .ok (.aload_n 0, 1) := by decide +kernel
theorem dX4_married_61 : decode cX4_married 61 = .ok (.iload_n 1, 1) := by decide +kernel
theorem dX4_married_62 : decode cX4_married 62 = .ok (.iconst 4, 1) := by decide +kernel
theorem dX4_married_63 : decode cX4_married 63 = .ok (.iload_n 2, 1) := by decide +kernel
theorem dX4_married_64 : decode cX4_married 64 = .ok (.imul, 1) := by decide +kernel
theorem dX4_married_65 : decode cX4_married 65 = .ok (.iload 5, 2) := by decide +kernel
theorem dX4_married_67 : decode cX4_married 67 = .ok (.iadd, 1) := by decide +kernel
theorem dX4_married_68 : decode cX4_married 68 = .ok (.iconst 4, 1) := by decide +kernel
theorem dX4_married_69 : decode cX4_married 69 = .ok (.iload 4, 2) := by decide +kernel
theorem dX4_married_71 : decode cX4_married 71 = .ok (.imul, 1) := by decide +kernel
theorem dX4_married_72 : decode cX4_married 72 = .ok (.iload 5, 2) := by decide +kernel
theorem dX4_married_74 : decode cX4_married 74 = .ok (.iadd, 1) := by decide +kernel
theorem dX4_married_75 : decode cX4_married 75 = .ok (.invokevirtual 83, 3) := by decide +kernel
theorem dX4_married_78 : decode cX4_married 78 = .ok (.iinc 5 1, 3) := by decide +kernel
theorem dX4_married_81 : decode cX4_married 81 = .ok (.goto (-57), 3) := by decide +kernel
theorem dX4_married_84 : decode cX4_married 84 = .ok (.aload_n 0, 1) := by decide +kernel
theorem dX4_married_85 : decode cX4_married 85 = .ok (.iload_n 1, 1) := by decide +kernel
theorem dX4_married_86 : decode cX4_married 86 = .ok (.iload_n 2, 1) := by decide +kernel
theorem dX4_married_87 : decode cX4_married 87 = .ok (.iconst 1, 1) := by decide +kernel
theorem dX4_married_88 : decode cX4_married 88 = .ok (.invokevirtual 87, 3) := by decide +kernel
theorem dX4_married_91 : decode cX4_married 91 = .ok (.aload_n 0, 1) := by decide +kernel
theorem dX4_married_92 : decode cX4_married 92 = .ok (.getfield 7, 3) := by decide +kernel
theorem dX4_married_95 : decode cX4_married 95 = .ok (.bipush 116, 2) := by decide +kernel
theorem dX4_married_97 : decode cX4_married 97 = .ok (.dup2, 1) := by decide +kernel
theorem dX4_married_98 : decode cX4_married 98 = .ok (.iaload, 1) := by decide +kernel
theorem dX4_married_99 : decode cX4_married 99 = .ok (.iload_n 3, 1) := by decide +kernel
theorem dX4_married_100 : decode cX4_married 100 = .ok (.iadd, 1) := by decide +kernel
theorem dX4_married_101 : decode cX4_married 101 = .ok (.iastore, 1) := by decide +kernel
theorem dX4_married_102 : decode cX4_married 102 = .ok (.iload_n 3, 1) := by decide +kernel
theorem dX4_married_103 : decode cX4_married 103 = .ok (.ireturn, 1) := by decide +kernel
theorem dX4_torn_0 : decode cX4_torn 0 = .ok (.aload_n 0, 1) := by decide +kernel
theorem dX4_torn_1 : decode cX4_torn 1 = .ok (.iload_n 1, 1) := by decide +kernel
theorem dX4_torn_2 : decode cX4_torn 2 = .ok (.iload_n 2, 1) := by decide +kernel
theorem dX4_torn_3 : decode cX4_torn 3 = .ok (.invokevirtual 67, 3) := by decide +kernel
theorem dX4_torn_6 : decode cX4_torn 6 = .ok (.istore_n 3, 1) := by decide +kernel
theorem dX4_torn_7 : decode cX4_torn 7 = .ok (.aload_n 0, 1) := by decide +kernel
theorem dX4_torn_8 : decode cX4_torn 8 = .ok (.iload_n 1, 1) := by decide +kernel
theorem dX4_torn_9 : decode cX4_torn 9 = .ok (.iload_n 2, 1) := by decide +kernel
theorem dX4_torn_10 : decode cX4_torn 10 = .ok (.iconst 0, 1) := by decide +kernel
theorem dX4_torn_11 : decode cX4_torn 11 = .ok (.invokevirtual 87, 3) := by decide +kernel
theorem dX4_torn_14 : decode cX4_torn 14 = .ok (.aload_n 0, 1) := by decide +kernel
theorem dX4_torn_15 : decode cX4_torn 15 = .ok (.getfield 7, 3) := by decide +kernel
theorem dX4_torn_18 : decode cX4_torn 18 = .ok (.bipush 118, 2) := by decide +kernel
theorem dX4_torn_20 : decode cX4_torn 20 = .ok (.dup2, 1) := by decide +kernel
theorem dX4_torn_21 : decode cX4_torn 21 = .ok (.iaload, 1) := by decide +kernel
theorem dX4_torn_22 : decode cX4_torn 22 = .ok (.iconst 1, 1) := by decide +kernel
theorem dX4_torn_23 : decode cX4_torn 23 = .ok (.iadd, 1) := by decide +kernel
theorem dX4_torn_24 : decode cX4_torn 24 = .ok (.iastore, 1) := by decide +kernel
theorem dX4_torn_25 : decode cX4_torn 25 = .ok (.iload_n 3, 1) := by decide +kernel
theorem dX4_torn_26 : decode cX4_torn 26 = .ok (.ireturn, 1) := by decide +kernel
theorem dX4_isEmpty_0 : decode cX4_isEmpty 0 = .ok (.iload_n 1, 1) := by decide +kernel
theorem dX4_isEmpty_1 : decode cX4_isEmpty 1 = .ok (.iconst (-1), 1) := by decide +kernel
theorem dX4_isEmpty_2 : decode cX4_isEmpty 2 = .ok (.if_icmp .eq 24, 3) := by decide +kernel
theorem dX4_isEmpty_5 : decode cX4_isEmpty 5 = .ok (.aload_n 0, 1) := by decide +kernel
theorem dX4_isEmpty_6 : decode cX4_isEmpty 6 = .ok (.iload_n 1, 1) := by decide +kernel
theorem dX4_isEmpty_7 : decode cX4_isEmpty 7 = .ok (.invokevirtual 46, 3) := by decide +kernel
theorem dX4_isEmpty_10 : decode cX4_isEmpty 10 = .ok (.iconst 1, 1) := by decide +kernel
theorem dX4_isEmpty_11 : decode cX4_isEmpty 11 = .ok (.if_icmp .ne 15, 3) := by decide +kernel
theorem dX4_isEmpty_14 : decode cX4_isEmpty 14 = .ok (.aload_n 0, 1) := by decide +kernel
theorem dX4_isEmpty_15 : decode cX4_isEmpty 15 = .ok (.iload_n 1, 1) := by decide +kernel
theorem dX4_isEmpty_16 : decode cX4_isEmpty 16 = .ok (.invokevirtual 109, 3) := by decide +kernel
theorem dX4_isEmpty_19 : decode cX4_isEmpty 19 = .ok (.ifCond .ne 7, 3) := by decide +kernel
theorem dX4_isEmpty_22 : decode cX4_isEmpty 22 = .ok (.iconst 1, 1) := by decide +kernel
theorem dX4_isEmpty_23 : decode cX4_isEmpty 23 = .ok (.goto 4, 3) := by decide +kernel
theorem dX4_isEmpty_26 : decode cX4_isEmpty 26 = .ok (.iconst 0, 1) := by decide +kernel
theorem dX4_isEmpty_27 : decode cX4_isEmpty 27 = .ok (.ireturn, 1) := by decide +kernel
theorem dX4_firstLoser_0 : decode cX4_firstLoser 0 = .ok (.iconst (-1), 1) := by decide +kernel
theorem dX4_firstLoser_1 : decode cX4_firstLoser 1 = .ok (.istore_n 1, 1) := by decide +kernel
theorem dX4_firstLoser_2 : decode cX4_firstLoser 2 = .ok (.bipush 63, 2) := by decide +kernel
theorem dX4_firstLoser_4 : decode cX4_firstLoser 4 = .ok (.istore_n 2, 1) := by decide +kernel
theorem dX4_firstLoser_5 : decode cX4_firstLoser 5 = .ok (.iload_n 2, 1) := by decide +kernel
theorem dX4_firstLoser_6 : decode cX4_firstLoser 6 = .ok (.ifCond .lt 57, 3) := by decide +kernel
theorem dX4_firstLoser_9 : decode cX4_firstLoser 9 = .ok (.aload_n 0, 1) := by decide +kernel
theorem dX4_firstLoser_10 : decode cX4_firstLoser 10 = .ok (.iload_n 2, 1) := by decide +kernel
theorem dX4_firstLoser_11 : decode cX4_firstLoser 11 = .ok (.bipush 16, 2) := by decide +kernel
theorem dX4_firstLoser_13 : decode cX4_firstLoser 13 = .ok (.idiv, 1) := by decide +kernel
theorem dX4_firstLoser_14 : decode cX4_firstLoser 14 = .ok (.iload_n 2, 1) := by decide +kernel
theorem dX4_firstLoser_15 : decode cX4_firstLoser 15 = .ok (.bipush 16, 2) := by decide +kernel
theorem dX4_firstLoser_17 : decode cX4_firstLoser 17 = .ok (.irem, 1) := by decide +kernel
theorem dX4_firstLoser_18 : decode cX4_firstLoser 18 = .ok (.iconst 4, 1) := by decide +kernel
theorem dX4_firstLoser_19 : decode cX4_firstLoser 19 = .ok (.idiv, 1) := by decide +kernel
theorem dX4_firstLoser_20 : decode cX4_firstLoser 20 = .ok (.invokevirtual 60, 3) := by decide +kernel
theorem dX4_firstLoser_23 : decode cX4_firstLoser 23 = .ok (.ifCond .ne 22, 3) := by decide +kernel
theorem dX4_firstLoser_26 : decode cX4_firstLoser 26 = .ok (.aload_n 0, 1) := by decide +kernel
theorem dX4_firstLoser_27 : decode cX4_firstLoser 27 = .ok (.aload_n 0, 1) := by decide +kernel
theorem dX4_firstLoser_28 : decode cX4_firstLoser 28 = .ok (.getfield 7, 3) := by decide +kernel
theorem dX4_firstLoser_31 : decode cX4_firstLoser 31 = .ok (.iconst 4, 1) := by decide +kernel
theorem dX4_firstLoser_32 : decode cX4_firstLoser 32 = .ok (.iload_n 2, 1) := by decide +kernel
theorem dX4_firstLoser_33 : decode cX4_firstLoser 33 = .ok (.iadd, 1) := by decide +kernel
theorem dX4_firstLoser_34 : decode cX4_firstLoser 34 = .ok (.iaload, 1) := by decide +kernel
theorem dX4_firstLoser_35 : decode cX4_firstLoser 35 = .ok (.invokevirtual 112, 3) := by decide +kernel
theorem dX4_firstLoser_38 : decode cX4_firstLoser 38 = .ok (.ifCond .eq 7, 3) := by decide +kernel
theorem dX4_firstLoser_41 : decode cX4_firstLoser 41 = .ok (.iconst 1, 1) := by decide +kernel
theorem dX4_firstLoser_42 : decode cX4_firstLoser 42 = .ok (.goto 4, 3) := by decide +kernel
theorem dX4_firstLoser_45 : decode cX4_firstLoser 45 = .ok (.iconst 0, 1) := by decide +kernel
theorem dX4_firstLoser_46 : decode cX4_firstLoser 46 = .ok (.istore_n 3, 1) := by decide +kernel
theorem dX4_firstLoser_47 : decode cX4_firstLoser 47 = .ok (.iload_n 3, 1) := by decide +kernel
theorem dX4_firstLoser_48 : decode cX4_firstLoser 48 = .ok (.ifCond .eq 7, 3) := by decide +kernel
theorem dX4_firstLoser_51 : decode cX4_firstLoser 51 = .ok (.iload_n 2, 1) := by decide +kernel
theorem dX4_firstLoser_52 : decode cX4_firstLoser 52 = .ok (.goto 4, 3) := by decide +kernel
theorem dX4_firstLoser_55 : decode cX4_firstLoser 55 = .ok (.iload_n 1, 1) := by decide +kernel
theorem dX4_firstLoser_56 : decode cX4_firstLoser 56 = .ok (.istore_n 1, 1) := by decide +kernel
theorem dX4_firstLoser_57 : decode cX4_firstLoser 57 = .ok (.iinc 2 (-1), 3) := by decide +kernel
theorem dX4_firstLoser_60 : decode cX4_firstLoser 60 = .ok (.goto (-55), 3) := by decide +kernel
theorem dX4_firstLoser_63 : decode cX4_firstLoser 63 = .ok (.iload_n 1, 1) := by decide +kernel
theorem dX4_firstLoser_64 : decode cX4_firstLoser 64 = .ok (.ireturn, 1) := by decide +kernel
theorem dX4_firstTorn_0 : decode cX4_firstTorn 0 = .ok (.iconst (-1), 1) := by decide +kernel
theorem dX4_firstTorn_1 : decode cX4_firstTorn 1 = .ok (.istore_n 1, 1) := by decide +kernel
theorem dX4_firstTorn_2 : decode cX4_firstTorn 2 = .ok (.iconst 0, 1) := by decide +kernel
theorem dX4_firstTorn_3 : decode cX4_firstTorn 3 = .ok (.istore_n 2, 1) := by decide +kernel
theorem dX4_firstTorn_4 : decode cX4_firstTorn 4 = .ok (.iconst 0, 1) := by decide +kernel
theorem dX4_firstTorn_5 : decode cX4_firstTorn 5 = .ok (.istore_n 3, 1) := by decide +kernel
theorem dX4_firstTorn_6 : decode cX4_firstTorn 6 = .ok (.iload_n 3, 1) := by decide +kernel
theorem dX4_firstTorn_7 : decode cX4_firstTorn 7 = .ok (.bipush 16, 2) := by decide +kernel
theorem dX4_firstTorn_9 : decode cX4_firstTorn 9 = .ok (.if_icmp .ge 120, 3) := by decide +kernel
theorem dX4_firstTorn_12 : decode cX4_firstTorn 12 = .ok (.iconst 0, 1) := by decide +kernel
theorem dX4_firstTorn_13 : decode cX4_firstTorn 13 = .ok (.istore 4, 2) := by decide +kernel
theorem dX4_firstTorn_15 : decode cX4_firstTorn 15 = .ok (.aload_n 0, 1) := by decide +kernel
theorem dX4_firstTorn_16 : decode cX4_firstTorn 16 = .ok (.getfield 7, 3) := by decide +kernel
theorem dX4_firstTorn_19 : decode cX4_firstTorn 19 = .ok (.bipush 68, 2) := by decide +kernel
theorem dX4_firstTorn_21 : decode cX4_firstTorn 21 = .ok (.iload_n 3, 1) := by decide +kernel
theorem dX4_firstTorn_22 : decode cX4_firstTorn 22 = .ok (.iadd, 1) := by decide +kernel
theorem dX4_firstTorn_23 : decode cX4_firstTorn 23 = .ok (.iaload, 1) := by decide +kernel
theorem dX4_firstTorn_24 : decode cX4_firstTorn 24 = .ok (.iconst 1, 1) := by decide +kernel
theorem dX4_firstTorn_25 : decode cX4_firstTorn 25 = .ok (.if_icmp .ne 20, 3) := by decide +kernel
theorem dX4_firstTorn_28 : decode cX4_firstTorn 28 = .ok (.aload_n 0, 1) := by decide +kernel
theorem dX4_firstTorn_29 : decode cX4_firstTorn 29 = .ok (.iload_n 3, 1) := by decide +kernel
theorem dX4_firstTorn_30 : decode cX4_firstTorn 30 = .ok (.iconst 4, 1) := by decide +kernel
theorem dX4_firstTorn_31 : decode cX4_firstTorn 31 = .ok (.idiv, 1) := by decide +kernel
theorem dX4_firstTorn_32 : decode cX4_firstTorn 32 = .ok (.iload_n 3, 1) := by decide +kernel
theorem dX4_firstTorn_33 : decode cX4_firstTorn 33 = .ok (.iconst 4, 1) := by decide +kernel
theorem dX4_firstTorn_34 : decode cX4_firstTorn 34 = .ok (.irem, 1) := by decide +kernel
theorem dX4_firstTorn_35 : decode cX4_firstTorn 35 = .ok (.invokevirtual 64, 3) := by decide +kernel
theorem dX4_firstTorn_38 : decode cX4_firstTorn 38 = .ok (.ifCond .ne 7, 3) := by decide +kernel
theorem dX4_firstTorn_41 : decode cX4_firstTorn 41 = .ok (.iconst 1, 1) := by decide +kernel
theorem dX4_firstTorn_42 : decode cX4_firstTorn 42 = .ok (.goto 4, 3) := by decide +kernel
theorem dX4_firstTorn_45 : decode cX4_firstTorn 45 = .ok (.iconst 0, 1) := by decide +kernel
theorem dX4_firstTorn_46 : decode cX4_firstTorn 46 = .ok (.istore 5, 2) := by decide +kernel
theorem dX4_firstTorn_48 : decode cX4_firstTorn 48 = .ok (.iconst 0, 1) := by decide +kernel
theorem dX4_firstTorn_49 : decode cX4_firstTorn 49 = .ok (.istore 6, 2) := by decide +kernel
theorem dX4_firstTorn_51 : decode cX4_firstTorn 51 = .ok (.iload 6, 2) := by decide +kernel
theorem dX4_firstTorn_53 : decode cX4_firstTorn 53 = .ok (.iconst 4, 1) := by decide +kernel
theorem dX4_firstTorn_54 : decode cX4_firstTorn 54 = .ok (.if_icmp .ge 44, 3) := by decide +kernel
theorem dX4_firstTorn_57 : decode cX4_firstTorn 57 = .ok (.iload 5, 2) := by decide +kernel
theorem dX4_firstTorn_59 : decode cX4_firstTorn 59 = .ok (.ifCond .eq 39, 3) := by decide +kernel
theorem dX4_firstTorn_62 : decode cX4_firstTorn 62 = .ok (.iload 4, 2) := by decide +kernel
theorem dX4_firstTorn_64 : decode cX4_firstTorn 64 = .ok (.aload_n 0, 1) := by decide +kernel
theorem dX4_firstTorn_65 : decode cX4_firstTorn 65 = .ok (.aload_n 0, 1) := by decide +kernel
theorem dX4_firstTorn_66 : decode cX4_firstTorn 66 = .ok (.getfield 7, 3) := by decide +kernel
theorem dX4_firstTorn_69 : decode cX4_firstTorn 69 = .ok (.iconst 4, 1) := by decide +kernel
theorem dX4_firstTorn_70 : decode cX4_firstTorn 70 = .ok (.iconst 4, 1) := by decide +kernel
theorem dX4_firstTorn_71 : decode cX4_firstTorn 71 = .ok (.iload_n 3, 1) := by decide +kernel
theorem dX4_firstTorn_72 : decode cX4_firstTorn 72 = .ok (.imul, 1) := by decide +kernel
theorem dX4_firstTorn_73 : decode cX4_firstTorn 73 = .ok (.iadd, 1) := by decide +kernel
theorem dX4_firstTorn_74 : decode cX4_firstTorn 74 = .ok (.iload 6, 2) := by decide +kernel
theorem dX4_firstTorn_76 : decode cX4_firstTorn 76 = .ok (.iadd, 1) := by decide +kernel
theorem dX4_firstTorn_77 : decode cX4_firstTorn 77 = .ok (.iaload, 1) := by decide +kernel
theorem dX4_firstTorn_78 : decode cX4_firstTorn 78 = .ok (.invokevirtual 112, 3) := by decide +kernel
theorem dX4_firstTorn_81 : decode cX4_firstTorn 81 = .ok (.ifCond .eq 7, 3) := by decide +kernel
theorem dX4_firstTorn_84 : decode cX4_firstTorn 84 = .ok (.iconst 1, 1) := by decide +kernel
theorem dX4_firstTorn_85 : decode cX4_firstTorn 85 = .ok (.goto 4, 3) := by decide +kernel
theorem dX4_firstTorn_88 : decode cX4_firstTorn 88 = .ok (.iconst 0, 1) := by decide +kernel
theorem dX4_firstTorn_89 : decode cX4_firstTorn 89 = .ok (.iadd, 1) := by decide +kernel
theorem dX4_firstTorn_90 : decode cX4_firstTorn 90 = .ok (.istore 4, 2) := by decide +kernel
theorem dX4_firstTorn_92 : decode cX4_firstTorn 92 = .ok (.iinc 6 1, 3) := by decide +kernel
theorem dX4_firstTorn_95 : decode cX4_firstTorn 95 = .ok (.goto (-44), 3) := by decide +kernel
theorem dX4_firstTorn_98 : decode cX4_firstTorn 98 = .ok (.iload 4, 2) := by decide +kernel
theorem dX4_firstTorn_100 : decode cX4_firstTorn 100 = .ok (.iload_n 2, 1) := by decide +kernel
theorem dX4_firstTorn_101 : decode cX4_firstTorn 101 = .ok (.if_icmp .le 7, 3) := by decide +kernel
theorem dX4_firstTorn_104 : decode cX4_firstTorn 104 = .ok (.iload_n 3, 1) := by decide +kernel
theorem dX4_firstTorn_105 : decode cX4_firstTorn 105 = .ok (.goto 4, 3) := by decide +kernel
theorem dX4_firstTorn_108 : decode cX4_firstTorn 108 = .ok (.iload_n 1, 1) := by decide +kernel
theorem dX4_firstTorn_109 : decode cX4_firstTorn 109 = .ok (.istore_n 1, 1) := by decide +kernel
theorem dX4_firstTorn_110 : decode cX4_firstTorn 110 = .ok (.iload 4, 2) := by decide +kernel
theorem dX4_firstTorn_112 : decode cX4_firstTorn 112 = .ok (.iload_n 2, 1) := by decide +kernel
theorem dX4_firstTorn_113 : decode cX4_firstTorn 113 = .ok (.if_icmp .le 8, 3) := by decide +kernel
theorem dX4_firstTorn_116 : decode cX4_firstTorn 116 = .ok (.iload 4, 2) := by decide +kernel
theorem dX4_firstTorn_118 : decode cX4_firstTorn 118 = .ok (.goto 4, 3) := by decide +kernel
theorem dX4_firstTorn_121 : decode cX4_firstTorn 121 = .ok (.iload_n 2, 1) := by decide +kernel
theorem dX4_firstTorn_122 : decode cX4_firstTorn 122 = .ok (.istore_n 2, 1) := by decide +kernel
theorem dX4_firstTorn_123 : decode cX4_firstTorn 123 = .ok (.iinc 3 1, 3) := by decide +kernel
theorem dX4_firstTorn_126 : decode cX4_firstTorn 126 = .ok (.goto (-120), 3) := by decide +kernel
theorem dX4_firstTorn_129 : decode cX4_firstTorn 129 = .ok (.iload_n 1, 1) := by decide +kernel
theorem dX4_firstTorn_130 : decode cX4_firstTorn 130 = .ok (.ireturn, 1) := by decide +kernel
theorem dX4_pressed_0 : decode cX4_pressed 0 = .ok (.iconst 1, 1) := by decide +kernel
theorem dX4_pressed_1 : decode cX4_pressed 1 = .ok (.istore_n 2, 1) := by decide +kernel
theorem dX4_pressed_2 : decode cX4_pressed 2 = .ok (.iload_n 2, 1) := by decide +kernel
theorem dX4_pressed_3 : decode cX4_pressed 3 = .ok (.ifCond .eq 98, 3) := by decide +kernel
theorem dX4_pressed_6 : decode cX4_pressed 6 = .ok (.aload_n 0, 1) := by decide +kernel
theorem dX4_pressed_7 : decode cX4_pressed 7 = .ok (.invokevirtual 103, 3) := by decide +kernel
theorem dX4_pressed_10 : decode cX4_pressed 10 = .ok (.iload_n 1, 1) := by decide +kernel
theorem dX4_pressed_11 : decode cX4_pressed 11 = .ok (.if_icmp .ge 90, 3) := by decide +kernel
theorem dX4_pressed_14 : decode cX4_pressed 14 = .ok (.aload_n 0, 1) := by decide +kernel
theorem dX4_pressed_15 : decode cX4_pressed 15 = .ok (.invokevirtual 115, 3) := by decide +kernel
theorem dX4_pressed_18 : decode cX4_pressed 18 = .ok (.istore_n 3, 1) := by decide +kernel
theorem dX4_pressed_19 : decode cX4_pressed 19 = .ok (.iload_n 3, 1) := by decide +kernel
theorem dX4_pressed_20 : decode cX4_pressed 20 = .ok (.iconst (-1), 1) := by decide +kernel
theorem dX4_pressed_21 : decode cX4_pressed 21 = .ok (.if_icmp .ne 10, 3) := by decide +kernel
theorem dX4_pressed_24 : decode cX4_pressed 24 = .ok (.aload_n 0, 1) := by decide +kernel
theorem dX4_pressed_25 : decode cX4_pressed 25 = .ok (.invokevirtual 118, 3) := by decide +kernel
theorem dX4_pressed_28 : decode cX4_pressed 28 = .ok (.goto 4, 3) := by decide +kernel
theorem dX4_pressed_31 : decode cX4_pressed 31 = .ok (.iconst (-1), 1) := by decide +kernel
theorem dX4_pressed_32 : decode cX4_pressed 32 = .ok (.istore 4, 2) := by decide +kernel
theorem dX4_pressed_34 : decode cX4_pressed 34 = .ok (.iload_n 3, 1) := by decide +kernel
theorem dX4_pressed_35 : decode cX4_pressed 35 = .ok (.iconst (-1), 1) := by decide +kernel
theorem dX4_pressed_36 : decode cX4_pressed 36 = .ok (.if_icmp .ne 9, 3) := by decide +kernel
theorem dX4_pressed_39 : decode cX4_pressed 39 = .ok (.iload 4, 2) := by decide +kernel
theorem dX4_pressed_41 : decode cX4_pressed 41 = .ok (.iconst (-1), 1) := by decide +kernel
theorem dX4_pressed_42 : decode cX4_pressed 42 = .ok (.if_icmp .eq 7, 3) := by decide +kernel
theorem dX4_pressed_45 : decode cX4_pressed 45 = .ok (.iconst 1, 1) := by decide +kernel
theorem dX4_pressed_46 : decode cX4_pressed 46 = .ok (.goto 4, 3) := by decide +kernel
theorem dX4_pressed_49 : decode cX4_pressed 49 = .ok (.iconst 0, 1) := by decide +kernel
theorem dX4_pressed_50 : decode cX4_pressed 50 = .ok (.istore_n 2, 1) := by decide +kernel
theorem dX4_pressed_51 : decode cX4_pressed 51 = .ok (.iload_n 3, 1) := by decide +kernel
theorem dX4_pressed_52 : decode cX4_pressed 52 = .ok (.iconst (-1), 1) := by decide +kernel
theorem dX4_pressed_53 : decode cX4_pressed 53 = .ok (.if_icmp .eq 26, 3) := by decide +kernel
theorem dX4_pressed_56 : decode cX4_pressed 56 = .ok (.aload_n 0, 1) := by decide +kernel
theorem dX4_pressed_57 : decode cX4_pressed 57 = .ok (.getfield 7, 3) := by decide +kernel
theorem dX4_pressed_60 : decode cX4_pressed 60 = .ok (.iconst 4, 1) := by decide +kernel
theorem dX4_pressed_61 : decode cX4_pressed 61 = .ok (.iload_n 3, 1) := by decide +kernel
theorem dX4_pressed_62 : decode cX4_pressed 62 = .ok (.iadd, 1) := by decide +kernel
theorem dX4_pressed_63 : decode cX4_pressed 63 = .ok (.iconst (-1), 1) := by decide +kernel
theorem dX4_pressed_64 : decode cX4_pressed 64 = .ok (.iastore, 1) := by decide +kernel
theorem dX4_pressed_65 : decode cX4_pressed 65 = .ok (.aload_n 0, 1) := by decide +kernel
theorem dX4_pressed_66 : decode cX4_pressed 66 = .ok (.getfield 7, 3) := by decide +kernel
theorem dX4_pressed_69 : decode cX4_pressed 69 = .ok (.bipush 119, 2) := by decide +kernel
theorem dX4_pressed_71 : decode cX4_pressed 71 = .ok (.dup2, 1) := by decide +kernel
theorem dX4_pressed_72 : decode cX4_pressed 72 = .ok (.iaload, 1) := by decide +kernel
theorem dX4_pressed_73 : decode cX4_pressed 73 = .ok (.iconst 1, 1) := by decide +kernel
theorem dX4_pressed_74 : decode cX4_pressed 74 = .ok (.iadd, 1) := by decide +kernel
theorem dX4_pressed_75 : decode cX4_pressed 75 = .ok (.iastore, 1) := by decide +kernel
theorem dX4_pressed_76 : decode cX4_pressed 76 = .ok (.goto 22, 3) := by decide +kernel
theorem dX4_pressed_79 : decode cX4_pressed 79 = .ok (.iload 4, 2) := by decide +kernel
theorem dX4_pressed_81 : decode cX4_pressed 81 = .ok (.iconst (-1), 1) := by decide +kernel
theorem dX4_pressed_82 : decode cX4_pressed 82 = .ok (.if_icmp .eq 16, 3) := by decide +kernel
theorem dX4_pressed_85 : decode cX4_pressed 85 = .ok (.aload_n 0, 1) := by decide +kernel
theorem dX4_pressed_86 : decode cX4_pressed 86 = .ok (.iload 4, 2) := by decide +kernel
theorem dX4_pressed_88 : decode cX4_pressed 88 = .ok (.iconst 4, 1) := by decide +kernel
theorem dX4_pressed_89 : decode cX4_pressed 89 = .ok (.idiv, 1) := by decide +kernel
theorem dX4_pressed_90 : decode cX4_pressed 90 = .ok (.iload 4, 2) := by decide +kernel
theorem dX4_pressed_92 : decode cX4_pressed 92 = .ok (.iconst 4, 1) := by decide +kernel
theorem dX4_pressed_93 : decode cX4_pressed 93 = .ok (.irem, 1) := by decide +kernel
theorem dX4_pressed_94 : decode cX4_pressed 94 = .ok (.invokevirtual 121, 3) := by decide +kernel
theorem dX4_pressed_97 : decode cX4_pressed 97 = .ok (.pop, 1) := by decide +kernel
theorem dX4_pressed_98 : decode cX4_pressed 98 = .ok (.goto (-96), 3) := by decide +kernel
theorem dX4_pressed_101 : decode cX4_pressed 101 = .ok (.aload_n 0, 1) := by decide +kernel
theorem dX4_pressed_102 : decode cX4_pressed 102 = .ok (.invokevirtual 103, 3) := by decide +kernel
theorem dX4_pressed_105 : decode cX4_pressed 105 = .ok (.ireturn, 1) := by decide +kernel
theorem dX4_append_0 : decode cX4_append 0 = .ok (.aload_n 0, 1) := by decide +kernel
theorem dX4_append_1 : decode cX4_append 1 = .ok (.iload_n 1, 1) := by decide +kernel
theorem dX4_append_2 : decode cX4_append 2 = .ok (.iconst 0, 1) := by decide +kernel
theorem dX4_append_3 : decode cX4_append 3 = .ok (.sipush 255, 3) := by decide +kernel
theorem dX4_append_6 : decode cX4_append 6 = .ok (.invokestatic 38, 3) := by decide +kernel
theorem dX4_append_9 : decode cX4_append 9 = .ok (.ifCond .ne 7, 3) := by decide +kernel
theorem dX4_append_12 : decode cX4_append 12 = .ok (.iconst 1, 1) := by decide +kernel
theorem dX4_append_13 : decode cX4_append 13 = .ok (.goto 17, 3) := by decide +kernel
theorem dX4_append_16 : decode cX4_append 16 = .ok (.aload_n 0, 1) := by decide +kernel
theorem dX4_append_17 : decode cX4_append 17 = .ok (.getfield 124, 3) := by decide +kernel
theorem dX4_append_20 : decode cX4_append 20 = .ok (.bipush 100, 2) := by decide +kernel
theorem dX4_append_22 : decode cX4_append 22 = .ok (.if_icmp .ne 7, 3) := by decide +kernel
theorem dX4_append_25 : decode cX4_append 25 = .ok (.iconst 2, 1) := by decide +kernel
theorem dX4_append_26 : decode cX4_append 26 = .ok (.goto 4, 3) := by decide +kernel
theorem dX4_append_29 : decode cX4_append 29 = .ok (.iconst 0, 1) := by decide +kernel
theorem dX4_append_30 : decode cX4_append 30 = .ok (.putfield 34, 3) := by decide +kernel
theorem dX4_append_33 : decode cX4_append 33 = .ok (.aload_n 0, 1) := by decide +kernel
theorem dX4_append_34 : decode cX4_append 34 = .ok (.getfield 34, 3) := by decide +kernel
theorem dX4_append_37 : decode cX4_append 37 = .ok (.ifCond .le 5, 3) := by decide +kernel
theorem dX4_append_40 : decode cX4_append 40 = .ok (.iconst 0, 1) := by decide +kernel
theorem dX4_append_41 : decode cX4_append 41 = .ok (.ireturn, 1) := by decide +kernel
theorem dX4_append_42 : decode cX4_append 42 = .ok (.aload_n 0, 1) := by decide +kernel
theorem dX4_append_43 : decode cX4_append 43 = .ok (.getfield 28, 3) := by decide +kernel
theorem dX4_append_46 : decode cX4_append 46 = .ok (.aload_n 0, 1) := by decide +kernel
theorem dX4_append_47 : decode cX4_append 47 = .ok (.getfield 124, 3) := by decide +kernel
theorem dX4_append_50 : decode cX4_append 50 = .ok (.iload_n 1, 1) := by decide +kernel
theorem dX4_append_51 : decode cX4_append 51 = .ok (.iastore, 1) := by decide +kernel
theorem dX4_append_52 : decode cX4_append 52 = .ok (.aload_n 0, 1) := by decide +kernel
theorem dX4_append_53 : decode cX4_append 53 = .ok (.dup, 1) := by decide +kernel
theorem dX4_append_54 : decode cX4_append 54 = .ok (.getfield 124, 3) := by decide +kernel
theorem dX4_append_57 : decode cX4_append 57 = .ok (.iconst 1, 1) := by decide +kernel
theorem dX4_append_58 : decode cX4_append 58 = .ok (.iadd, 1) := by decide +kernel
theorem dX4_append_59 : decode cX4_append 59 = .ok (.putfield 124, 3) := by decide +kernel
theorem dX4_append_62 : decode cX4_append 62 = .ok (.aload_n 0, 1) := by decide +kernel
theorem dX4_append_63 : decode cX4_append 63 = .ok (.getfield 124, 3) := by decide +kernel
theorem dX4_append_66 : decode cX4_append 66 = .ok (.ireturn, 1) := by decide +kernel
theorem dX4_clearText_0 : decode cX4_clearText 0 = .ok (.aload_n 0, 1) := by decide +kernel
theorem dX4_clearText_1 : decode cX4_clearText 1 = .ok (.iconst 0, 1) := by decide +kernel
theorem dX4_clearText_2 : decode cX4_clearText 2 = .ok (.putfield 34, 3) := by decide +kernel
theorem dX4_clearText_5 : decode cX4_clearText 5 = .ok (.aload_n 0, 1) := by decide +kernel
theorem dX4_clearText_6 : decode cX4_clearText 6 = .ok (.getfield 124, 3) := by decide +kernel
theorem dX4_clearText_9 : decode cX4_clearText 9 = .ok (.istore_n 1, 1) := by decide +kernel
theorem dX4_clearText_10 : decode cX4_clearText 10 = .ok (.aload_n 0, 1) := by decide +kernel
theorem dX4_clearText_11 : decode cX4_clearText 11 = .ok (.iconst 0, 1) := by decide +kernel
theorem dX4_clearText_12 : decode cX4_clearText 12 = .ok (.putfield 124, 3) := by decide +kernel
theorem dX4_clearText_15 : decode cX4_clearText 15 = .ok (.iload_n 1, 1) := by decide +kernel
theorem dX4_clearText_16 : decode cX4_clearText 16 = .ok (.ireturn, 1) := by decide +kernel
theorem dX4_digit_0 : decode cX4_digit 0 = .ok (.iload_n 1, 1) := by decide +kernel
theorem dX4_digit_1 : decode cX4_digit 1 = .ok (.aload_n 0, 1) := by decide +kernel
theorem dX4_digit_2 : decode cX4_digit 2 = .ok (.getfield 124, 3) := by decide +kernel
theorem dX4_digit_5 : decode cX4_digit 5 = .ok (.if_icmp .ge 31, 3) := by decide +kernel
theorem dX4_digit_8 : decode cX4_digit 8 = .ok (.aload_n 0, 1) := by decide +kernel
theorem dX4_digit_9 : decode cX4_digit 9 = .ok (.getfield 28, 3) := by decide +kernel
theorem dX4_digit_12 : decode cX4_digit 12 = .ok (.iload_n 1, 1) := by decide +kernel
theorem dX4_digit_13 : decode cX4_digit 13 = .ok (.iaload, 1) := by decide +kernel
theorem dX4_digit_14 : decode cX4_digit 14 = .ok (.bipush 48, 2) := by decide +kernel
theorem dX4_digit_16 : decode cX4_digit 16 = .ok (.bipush 57, 2) := by decide +kernel
theorem dX4_digit_18 : decode cX4_digit 18 = .ok (.invokestatic 38, 3) := by decide +kernel
theorem dX4_digit_21 : decode cX4_digit 21 = .ok (.ifCond .eq 15, 3) := by decide +kernel
theorem dX4_digit_24 : decode cX4_digit 24 = .ok (.aload_n 0, 1) := by decide +kernel
theorem dX4_digit_25 : decode cX4_digit 25 = .ok (.getfield 28, 3) := by decide +kernel
theorem dX4_digit_28 : decode cX4_digit 28 = .ok (.iload_n 1, 1) := by decide +kernel
theorem dX4_digit_29 : decode cX4_digit 29 = .ok (.iaload, 1) := by decide +kernel
theorem dX4_digit_30 : decode cX4_digit 30 = .ok (.bipush 48, 2) := by decide +kernel
theorem dX4_digit_32 : decode cX4_digit 32 = .ok (.isub, 1) := by decide +kernel
theorem dX4_digit_33 : decode cX4_digit 33 = .ok (.goto 4, 3) := by decide +kernel
theorem dX4_digit_36 : decode cX4_digit 36 = .ok (.iconst (-1), 1) := by decide +kernel
theorem dX4_digit_37 : decode cX4_digit 37 = .ok (.ireturn, 1) := by decide +kernel
theorem dX4_mostAt_0 : decode cX4_mostAt 0 = .ok (.aload_n 0, 1) := by decide +kernel
theorem dX4_mostAt_1 : decode cX4_mostAt 1 = .ok (.getfield 28, 3) := by decide +kernel
theorem dX4_mostAt_4 : decode cX4_mostAt 4 = .ok (.iload_n 1, 1) := by decide +kernel
theorem dX4_mostAt_5 : decode cX4_mostAt 5 = .ok (.iaload, 1) := by decide +kernel
theorem dX4_mostAt_6 : decode cX4_mostAt 6 = .ok (.istore_n 3, 1) := by decide +kernel
theorem dX4_mostAt_7 : decode cX4_mostAt 7 = .ok (.iload_n 3, 1) := by decide +kernel
theorem dX4_mostAt_8 : decode cX4_mostAt 8 = .ok (.bipush 119, 2) := by decide +kernel
theorem dX4_mostAt_10 : decode cX4_mostAt 10 = .ok (.if_icmp .ne 59, 3) := by decide +kernel
theorem dX4_mostAt_13 : decode cX4_mostAt 13 = .ok (.iload_n 2, 1) := by decide +kernel
theorem dX4_mostAt_14 : decode cX4_mostAt 14 = .ok (.iconst 1, 1) := by decide +kernel
theorem dX4_mostAt_15 : decode cX4_mostAt 15 = .ok (.if_icmp .ne 7, 3) := by decide +kernel
theorem dX4_mostAt_18 : decode cX4_mostAt 18 = .ok (.iconst 3, 1) := by decide +kernel
theorem dX4_mostAt_19 : decode cX4_mostAt 19 = .ok (.goto 49, 3) := by decide +kernel
theorem dX4_mostAt_22 : decode cX4_mostAt 22 = .ok (.iload_n 2, 1) := by decide +kernel
theorem dX4_mostAt_23 : decode cX4_mostAt 23 = .ok (.iconst 2, 1) := by decide +kernel
theorem dX4_mostAt_24 : decode cX4_mostAt 24 = .ok (.if_icmp .ne 7, 3) := by decide +kernel
theorem dX4_mostAt_27 : decode cX4_mostAt 27 = .ok (.iconst 1, 1) := by decide +kernel
theorem dX4_mostAt_28 : decode cX4_mostAt 28 = .ok (.goto 40, 3) := by decide +kernel
theorem dX4_mostAt_31 : decode cX4_mostAt 31 = .ok (.iload_n 2, 1) := by decide +kernel
theorem dX4_mostAt_32 : decode cX4_mostAt 32 = .ok (.iconst 3, 1) := by decide +kernel
theorem dX4_mostAt_33 : decode cX4_mostAt 33 = .ok (.if_icmp .ne 23, 3) := by decide +kernel
theorem dX4_mostAt_36 : decode cX4_mostAt 36 = .ok (.aload_n 0, 1) := by decide +kernel
theorem dX4_mostAt_37 : decode cX4_mostAt 37 = .ok (.iload_n 1, 1) := by decide +kernel
theorem dX4_mostAt_38 : decode cX4_mostAt 38 = .ok (.iconst 2, 1) := by decide +kernel
theorem dX4_mostAt_39 : decode cX4_mostAt 39 = .ok (.iadd, 1) := by decide +kernel
theorem dX4_mostAt_40 : decode cX4_mostAt 40 = .ok (.invokevirtual 127, 3) := by decide +kernel
theorem dX4_mostAt_43 : decode cX4_mostAt 43 = .ok (.iconst 1, 1) := by decide +kernel
theorem dX4_mostAt_44 : decode cX4_mostAt 44 = .ok (.if_icmp .ne 7, 3) := by decide +kernel
theorem dX4_mostAt_47 : decode cX4_mostAt 47 = .ok (.iconst 5, 1) := by decide +kernel
theorem dX4_mostAt_48 : decode cX4_mostAt 48 = .ok (.goto 20, 3) := by decide +kernel
theorem dX4_mostAt_51 : decode cX4_mostAt 51 = .ok (.bipush 9, 2) := by decide +kernel
theorem dX4_mostAt_53 : decode cX4_mostAt 53 = .ok (.goto 15, 3) := by decide +kernel
theorem dX4_mostAt_56 : decode cX4_mostAt 56 = .ok (.iload_n 2, 1) := by decide +kernel
theorem dX4_mostAt_57 : decode cX4_mostAt 57 = .ok (.bipush 6, 2) := by decide +kernel
theorem dX4_mostAt_59 : decode cX4_mostAt 59 = .ok (.if_icmp .ge 8, 3) := by decide +kernel
theorem dX4_mostAt_62 : decode cX4_mostAt 62 = .ok (.bipush 9, 2) := by decide +kernel
theorem dX4_mostAt_64 : decode cX4_mostAt 64 = .ok (.goto 4, 3) := by decide +kernel
theorem dX4_mostAt_67 : decode cX4_mostAt 67 = .ok (.iconst (-1), 1) := by decide +kernel
theorem dX4_mostAt_68 : decode cX4_mostAt 68 = .ok (.ireturn, 1) := by decide +kernel
theorem dX4_mostAt_69 : decode cX4_mostAt 69 = .ok (.iload_n 3, 1) := by decide +kernel
theorem dX4_mostAt_70 : decode cX4_mostAt 70 = .ok (.bipush 102, 2) := by decide +kernel
theorem dX4_mostAt_72 : decode cX4_mostAt 72 = .ok (.if_icmp .eq 9, 3) := by decide +kernel
theorem dX4_mostAt_75 : decode cX4_mostAt 75 = .ok (.iload_n 3, 1) := by decide +kernel
theorem dX4_mostAt_76 : decode cX4_mostAt 76 = .ok (.bipush 120, 2) := by decide +kernel
theorem dX4_mostAt_78 : decode cX4_mostAt 78 = .ok (.if_icmp .ne 14, 3) := by decide +kernel
theorem dX4_mostAt_81 : decode cX4_mostAt 81 = .ok (.iload_n 2, 1) := by decide +kernel
theorem dX4_mostAt_82 : decode cX4_mostAt 82 = .ok (.iconst 1, 1) := by decide +kernel
theorem dX4_mostAt_83 : decode cX4_mostAt 83 = .ok (.if_icmp .ne 7, 3) := by decide +kernel
theorem dX4_mostAt_86 : decode cX4_mostAt 86 = .ok (.iconst 3, 1) := by decide +kernel
theorem dX4_mostAt_87 : decode cX4_mostAt 87 = .ok (.goto 4, 3) := by decide +kernel
theorem dX4_mostAt_90 : decode cX4_mostAt 90 = .ok (.iconst (-1), 1) := by decide +kernel
theorem dX4_mostAt_91 : decode cX4_mostAt 91 = .ok (.ireturn, 1) := by decide +kernel
theorem dX4_mostAt_92 : decode cX4_mostAt 92 = .ok (.iload_n 3, 1) := by decide +kernel
theorem dX4_mostAt_93 : decode cX4_mostAt 93 = .ok (.bipush 109, 2) := by decide +kernel
theorem dX4_mostAt_95 : decode cX4_mostAt 95 = .ok (.if_icmp .ne 12, 3) := by decide +kernel
theorem dX4_mostAt_98 : decode cX4_mostAt 98 = .ok (.iload_n 2, 1) := by decide +kernel
theorem dX4_mostAt_99 : decode cX4_mostAt 99 = .ok (.iconst 3, 1) := by decide +kernel
theorem dX4_mostAt_100 : decode cX4_mostAt 100 = .ok (.if_icmp .ge 7, 3) := by decide +kernel
theorem dX4_mostAt_103 : decode cX4_mostAt 103 = .ok (.iconst 3, 1) := by decide +kernel
theorem dX4_mostAt_104 : decode cX4_mostAt 104 = .ok (.goto 4, 3) := by decide +kernel
theorem dX4_mostAt_107 : decode cX4_mostAt 107 = .ok (.iconst (-1), 1) := by decide +kernel
theorem dX4_mostAt_108 : decode cX4_mostAt 108 = .ok (.ireturn, 1) := by decide +kernel
theorem dX4_isLetter_0 : decode cX4_isLetter 0 = .ok (.aload_n 0, 1) := by decide +kernel
theorem dX4_isLetter_1 : decode cX4_isLetter 1 = .ok (.getfield 28, 3) := by decide +kernel
theorem dX4_isLetter_4 : decode cX4_isLetter 4 = .ok (.iload_n 1, 1) := by decide +kernel
theorem dX4_isLetter_5 : decode cX4_isLetter 5 = .ok (.iaload, 1) := by decide +kernel
theorem dX4_isLetter_6 : decode cX4_isLetter 6 = .ok (.istore_n 2, 1) := by decide +kernel
theorem dX4_isLetter_7 : decode cX4_isLetter 7 = .ok (.iload_n 2, 1) := by decide +kernel
theorem dX4_isLetter_8 : decode cX4_isLetter 8 = .ok (.bipush 119, 2) := by decide +kernel
theorem dX4_isLetter_10 : decode cX4_isLetter 10 = .ok (.if_icmp .eq 27, 3) := by decide +kernel
theorem dX4_isLetter_13 : decode cX4_isLetter 13 = .ok (.iload_n 2, 1) := by decide +kernel
theorem dX4_isLetter_14 : decode cX4_isLetter 14 = .ok (.bipush 102, 2) := by decide +kernel
theorem dX4_isLetter_16 : decode cX4_isLetter 16 = .ok (.if_icmp .eq 21, 3) := by decide +kernel
theorem dX4_isLetter_19 : decode cX4_isLetter 19 = .ok (.iload_n 2, 1) := by decide +kernel
theorem dX4_isLetter_20 : decode cX4_isLetter 20 = .ok (.bipush 120, 2) := by decide +kernel
theorem dX4_isLetter_22 : decode cX4_isLetter 22 = .ok (.if_icmp .eq 15, 3) := by decide +kernel
theorem dX4_isLetter_25 : decode cX4_isLetter 25 = .ok (.iload_n 2, 1) := by decide +kernel
theorem dX4_isLetter_26 : decode cX4_isLetter 26 = .ok (.bipush 109, 2) := by decide +kernel
theorem dX4_isLetter_28 : decode cX4_isLetter 28 = .ok (.if_icmp .eq 9, 3) := by decide +kernel
theorem dX4_isLetter_31 : decode cX4_isLetter 31 = .ok (.iload_n 2, 1) := by decide +kernel
theorem dX4_isLetter_32 : decode cX4_isLetter 32 = .ok (.bipush 101, 2) := by decide +kernel
theorem dX4_isLetter_34 : decode cX4_isLetter 34 = .ok (.if_icmp .ne 7, 3) := by decide +kernel
theorem dX4_isLetter_37 : decode cX4_isLetter 37 = .ok (.iconst 1, 1) := by decide +kernel
theorem dX4_isLetter_38 : decode cX4_isLetter 38 = .ok (.goto 4, 3) := by decide +kernel
theorem dX4_isLetter_41 : decode cX4_isLetter 41 = .ok (.iconst 0, 1) := by decide +kernel
theorem dX4_isLetter_42 : decode cX4_isLetter 42 = .ok (.ireturn, 1) := by decide +kernel
theorem dX4_lengthAt_0 : decode cX4_lengthAt 0 = .ok (.iconst 1, 1) := by decide +kernel
theorem dX4_lengthAt_1 : decode cX4_lengthAt 1 = .ok (.istore_n 2, 1) := by decide +kernel
theorem dX4_lengthAt_2 : decode cX4_lengthAt 2 = .ok (.aload_n 0, 1) := by decide +kernel
theorem dX4_lengthAt_3 : decode cX4_lengthAt 3 = .ok (.iload_n 1, 1) := by decide +kernel
theorem dX4_lengthAt_4 : decode cX4_lengthAt 4 = .ok (.iload_n 2, 1) := by decide +kernel
theorem dX4_lengthAt_5 : decode cX4_lengthAt 5 = .ok (.invokevirtual 130, 3) := by decide +kernel
theorem dX4_lengthAt_8 : decode cX4_lengthAt 8 = .ok (.ifCond .lt 9, 3) := by decide +kernel
theorem dX4_lengthAt_11 : decode cX4_lengthAt 11 = .ok (.iinc 2 1, 3) := by decide +kernel
theorem dX4_lengthAt_14 : decode cX4_lengthAt 14 = .ok (.goto (-12), 3) := by decide +kernel
theorem dX4_lengthAt_17 : decode cX4_lengthAt 17 = .ok (.iload_n 2, 1) := by decide +kernel
theorem dX4_lengthAt_18 : decode cX4_lengthAt 18 = .ok (.ireturn, 1) := by decide +kernel
theorem dX4_findError_0 : decode cX4_findError 0 = .ok (.aload_n 0, 1) := by decide +kernel
theorem dX4_findError_1 : decode cX4_findError 1 = .ok (.getfield 124, 3) := by decide +kernel
theorem dX4_findError_4 : decode cX4_findError 4 = .ok (.ifCond .eq 14, 3) := by decide +kernel
theorem dX4_findError_7 : decode cX4_findError 7 = .ok (.aload_n 0, 1) := by decide +kernel
theorem dX4_findError_8 : decode cX4_findError 8 = .ok (.getfield 28, 3) := by decide +kernel
theorem dX4_findError_11 : decode cX4_findError 11 = .ok (.iconst 0, 1) := by decide +kernel
theorem dX4_findError_12 : decode cX4_findError 12 = .ok (.iaload, 1) := by decide +kernel
theorem dX4_findError_13 : decode cX4_findError 13 = .ok (.bipush 77, 2) := by decide +kernel
theorem dX4_findError_15 : decode cX4_findError 15 = .ok (.if_icmp .eq 5, 3) := by decide +kernel
theorem dX4_findError_18 : decode cX4_findError 18 = .ok (.iconst 0, 1) := by decide +kernel
theorem dX4_findError_19 : decode cX4_findError 19 = .ok (.ireturn, 1) := by decide +kernel
theorem dX4_findError_20 : decode cX4_findError 20 = .ok (.iconst 1, 1) := by decide +kernel
theorem dX4_findError_21 : decode cX4_findError 21 = .ok (.istore_n 1, 1) := by decide +kernel
theorem dX4_findError_22 : decode cX4_findError 22 = .ok (.iload_n 1, 1) := by decide +kernel
theorem dX4_findError_23 : decode cX4_findError 23 = .ok (.aload_n 0, 1) := by decide +kernel
theorem dX4_findError_24 : decode cX4_findError 24 = .ok (.getfield 124, 3) := by decide +kernel
theorem dX4_findError_27 : decode cX4_findError 27 = .ok (.if_icmp .ge 65, 3) := by decide +kernel
theorem dX4_findError_30 : decode cX4_findError 30 = .ok (.aload_n 0, 1) := by decide +kernel
theorem dX4_findError_31 : decode cX4_findError 31 = .ok (.iload_n 1, 1) := by decide +kernel
theorem dX4_findError_32 : decode cX4_findError 32 = .ok (.invokevirtual 133, 3) := by decide +kernel
theorem dX4_findError_35 : decode cX4_findError 35 = .ok (.ifCond .ne 5, 3) := by decide +kernel
theorem dX4_findError_38 : decode cX4_findError 38 = .ok (.iload_n 1, 1) := by decide +kernel
theorem dX4_findError_39 : decode cX4_findError 39 = .ok (.ireturn, 1) := by decide +kernel
theorem dX4_findError_40 : decode cX4_findError 40 = .ok (.iconst 1, 1) := by decide +kernel
theorem dX4_findError_41 : decode cX4_findError 41 = .ok (.istore_n 2, 1) := by decide +kernel
theorem dX4_findError_42 : decode cX4_findError 42 = .ok (.aload_n 0, 1) := by decide +kernel
theorem dX4_findError_43 : decode cX4_findError 43 = .ok (.iload_n 1, 1) := by decide +kernel
theorem dX4_findError_44 : decode cX4_findError 44 = .ok (.iload_n 2, 1) := by decide +kernel
theorem dX4_findError_45 : decode cX4_findError 45 = .ok (.invokevirtual 130, 3) := by decide +kernel
theorem dX4_findError_48 : decode cX4_findError 48 = .ok (.ifCond .lt 33, 3) := by decide +kernel
theorem dX4_findError_51 : decode cX4_findError 51 = .ok (.aload_n 0, 1) := by decide +kernel
theorem dX4_findError_52 : decode cX4_findError 52 = .ok (.iload_n 1, 1) := by decide +kernel
theorem dX4_findError_53 : decode cX4_findError 53 = .ok (.iload_n 2, 1) := by decide +kernel
theorem dX4_findError_54 : decode cX4_findError 54 = .ok (.iadd, 1) := by decide +kernel
theorem dX4_findError_55 : decode cX4_findError 55 = .ok (.invokevirtual 127, 3) := by decide +kernel
theorem dX4_findError_58 : decode cX4_findError 58 = .ok (.iconst 0, 1) := by decide +kernel
theorem dX4_findError_59 : decode cX4_findError 59 = .ok (.aload_n 0, 1) := by decide +kernel
theorem dX4_findError_60 : decode cX4_findError 60 = .ok (.iload_n 1, 1) := by decide +kernel
theorem dX4_findError_61 : decode cX4_findError 61 = .ok (.iload_n 2, 1) := by decide +kernel
theorem dX4_findError_62 : decode cX4_findError 62 = .ok (.invokevirtual 130, 3) := by decide +kernel
theorem dX4_findError_65 : decode cX4_findError 65 = .ok (.invokestatic 38, 3) := by decide +kernel
theorem dX4_findError_68 : decode cX4_findError 68 = .ok (.ifCond .ne 7, 3) := by decide +kernel
theorem dX4_findError_71 : decode cX4_findError 71 = .ok (.iload_n 1, 1) := by decide +kernel
theorem dX4_findError_72 : decode cX4_findError 72 = .ok (.iload_n 2, 1) := by decide +kernel
theorem dX4_findError_73 : decode cX4_findError 73 = .ok (.iadd, 1) := by decide +kernel
theorem dX4_findError_74 : decode cX4_findError 74 = .ok (.ireturn, 1) := by decide +kernel
theorem dX4_findError_75 : decode cX4_findError 75 = .ok (.iinc 2 1, 3) := by decide +kernel
theorem dX4_findError_78 : decode cX4_findError 78 = .ok (.goto (-36), 3) := by decide +kernel
theorem dX4_findError_81 : decode cX4_findError 81 = .ok (.iload_n 1, 1) := by decide +kernel
theorem dX4_findError_82 : decode cX4_findError 82 = .ok (.aload_n 0, 1) := by decide +kernel
theorem dX4_findError_83 : decode cX4_findError 83 = .ok (.iload_n 1, 1) := by decide +kernel
theorem dX4_findError_84 : decode cX4_findError 84 = .ok (.invokevirtual 136, 3) := by decide +kernel
theorem dX4_findError_87 : decode cX4_findError 87 = .ok (.iadd, 1) := by decide +kernel
theorem dX4_findError_88 : decode cX4_findError 88 = .ok (.istore_n 1, 1) := by decide +kernel
theorem dX4_findError_89 : decode cX4_findError 89 = .ok (.goto (-67), 3) := by decide +kernel
theorem dX4_findError_92 : decode cX4_findError 92 = .ok (.iconst (-1), 1) := by decide +kernel
theorem dX4_findError_93 : decode cX4_findError 93 = .ok (.ireturn, 1) := by decide +kernel
theorem dX4_errorPosition_0 : decode cX4_errorPosition 0 = .ok (.aload_n 0, 1) := by decide +kernel
theorem dX4_errorPosition_1 : decode cX4_errorPosition 1 = .ok (.iconst 0, 1) := by decide +kernel
theorem dX4_errorPosition_2 : decode cX4_errorPosition 2 = .ok (.putfield 34, 3) := by decide +kernel
theorem dX4_errorPosition_5 : decode cX4_errorPosition 5 = .ok (.aload_n 0, 1) := by decide +kernel
theorem dX4_errorPosition_6 : decode cX4_errorPosition 6 = .ok (.invokevirtual 139, 3) := by decide +kernel
theorem dX4_errorPosition_9 : decode cX4_errorPosition 9 = .ok (.ireturn, 1) := by decide +kernel
theorem dX4_commandAt_0 : decode cX4_commandAt 0 = .ok (.aload_n 0, 1) := by decide +kernel
theorem dX4_commandAt_1 : decode cX4_commandAt 1 = .ok (.iload_n 1, 1) := by decide +kernel
theorem dX4_commandAt_2 : decode cX4_commandAt 2 = .ok (.iconst 1, 1) := by decide +kernel
theorem dX4_commandAt_3 : decode cX4_commandAt 3 = .ok (.iadd, 1) := by decide +kernel
theorem dX4_commandAt_4 : decode cX4_commandAt 4 = .ok (.invokevirtual 127, 3) := by decide +kernel
theorem dX4_commandAt_7 : decode cX4_commandAt 7 = .ok (.istore_n 2, 1) := by decide +kernel
theorem dX4_commandAt_8 : decode cX4_commandAt 8 = .ok (.aload_n 0, 1) := by decide +kernel
theorem dX4_commandAt_9 : decode cX4_commandAt 9 = .ok (.getfield 28, 3) := by decide +kernel
theorem dX4_commandAt_12 : decode cX4_commandAt 12 = .ok (.iload_n 1, 1) := by decide +kernel
theorem dX4_commandAt_13 : decode cX4_commandAt 13 = .ok (.iaload, 1) := by decide +kernel
theorem dX4_commandAt_14 : decode cX4_commandAt 14 = .ok (.lookupswitch 109 #[(102, 84), (109, 96), (119, 42), (120, 90)], 42) := by decide +kernel
theorem dX4_commandAt_56 : decode cX4_commandAt 56 = .ok (.aload_n 0, 1) := by decide +kernel
theorem dX4_commandAt_57 : decode cX4_commandAt 57 = .ok (.iload_n 2, 1) := by decide +kernel
theorem dX4_commandAt_58 : decode cX4_commandAt 58 = .ok (.bipush 10, 2) := by decide +kernel
theorem dX4_commandAt_60 : decode cX4_commandAt 60 = .ok (.aload_n 0, 1) := by decide +kernel
theorem dX4_commandAt_61 : decode cX4_commandAt 61 = .ok (.iload_n 1, 1) := by decide +kernel
theorem dX4_commandAt_62 : decode cX4_commandAt 62 = .ok (.iconst 2, 1) := by decide +kernel
theorem dX4_commandAt_63 : decode cX4_commandAt 63 = .ok (.iadd, 1) := by decide +kernel
theorem dX4_commandAt_64 : decode cX4_commandAt 64 = .ok (.invokevirtual 127, 3) := by decide +kernel
theorem dX4_commandAt_67 : decode cX4_commandAt 67 = .ok (.imul, 1) := by decide +kernel
theorem dX4_commandAt_68 : decode cX4_commandAt 68 = .ok (.aload_n 0, 1) := by decide +kernel
theorem dX4_commandAt_69 : decode cX4_commandAt 69 = .ok (.iload_n 1, 1) := by decide +kernel
theorem dX4_commandAt_70 : decode cX4_commandAt 70 = .ok (.iconst 3, 1) := by decide +kernel
theorem dX4_commandAt_71 : decode cX4_commandAt 71 = .ok (.iadd, 1) := by decide +kernel
theorem dX4_commandAt_72 : decode cX4_commandAt 72 = .ok (.invokevirtual 127, 3) := by decide +kernel
theorem dX4_commandAt_75 : decode cX4_commandAt 75 = .ok (.iadd, 1) := by decide +kernel
theorem dX4_commandAt_76 : decode cX4_commandAt 76 = .ok (.bipush 10, 2) := by decide +kernel
theorem dX4_commandAt_78 : decode cX4_commandAt 78 = .ok (.aload_n 0, 1) := by decide +kernel
theorem dX4_commandAt_79 : decode cX4_commandAt 79 = .ok (.iload_n 1, 1) := by decide +kernel
theorem dX4_commandAt_80 : decode cX4_commandAt 80 = .ok (.iconst 4, 1) := by decide +kernel
theorem dX4_commandAt_81 : decode cX4_commandAt 81 = .ok (.iadd, 1) := by decide +kernel
theorem dX4_commandAt_82 : decode cX4_commandAt 82 = .ok (.invokevirtual 127, 3) := by decide +kernel
theorem dX4_commandAt_85 : decode cX4_commandAt 85 = .ok (.imul, 1) := by decide +kernel
theorem dX4_commandAt_86 : decode cX4_commandAt 86 = .ok (.aload_n 0, 1) := by decide +kernel
theorem dX4_commandAt_87 : decode cX4_commandAt 87 = .ok (.iload_n 1, 1) := by decide +kernel
theorem dX4_commandAt_88 : decode cX4_commandAt 88 = .ok (.iconst 5, 1) := by decide +kernel
theorem dX4_commandAt_89 : decode cX4_commandAt 89 = .ok (.iadd, 1) := by decide +kernel
theorem dX4_commandAt_90 : decode cX4_commandAt 90 = .ok (.invokevirtual 127, 3) := by decide +kernel
theorem dX4_commandAt_93 : decode cX4_commandAt 93 = .ok (.iadd, 1) := by decide +kernel
theorem dX4_commandAt_94 : decode cX4_commandAt 94 = .ok (.invokevirtual 142, 3) := by decide +kernel
theorem dX4_commandAt_97 : decode cX4_commandAt 97 = .ok (.ireturn, 1) := by decide +kernel
theorem dX4_commandAt_98 : decode cX4_commandAt 98 = .ok (.aload_n 0, 1) := by decide +kernel
theorem dX4_commandAt_99 : decode cX4_commandAt 99 = .ok (.iload_n 2, 1) := by decide +kernel
theorem dX4_commandAt_100 : decode cX4_commandAt 100 = .ok (.invokevirtual 145, 3) := by decide +kernel
theorem dX4_commandAt_103 : decode cX4_commandAt 103 = .ok (.ireturn, 1) := by decide +kernel
theorem dX4_commandAt_104 : decode cX4_commandAt 104 = .ok (.aload_n 0, 1) := by decide +kernel
theorem dX4_commandAt_105 : decode cX4_commandAt 105 = .ok (.iload_n 2, 1) := by decide +kernel
theorem dX4_commandAt_106 : decode cX4_commandAt 106 = .ok (.invokevirtual 148, 3) := by decide +kernel
theorem dX4_commandAt_109 : decode cX4_commandAt 109 = .ok (.ireturn, 1) := by decide +kernel
theorem dX4_commandAt_110 : decode cX4_commandAt 110 = .ok (.aload_n 0, 1) := by decide +kernel
theorem dX4_commandAt_111 : decode cX4_commandAt 111 = .ok (.iload_n 2, 1) := by decide +kernel
theorem dX4_commandAt_112 : decode cX4_commandAt 112 = .ok (.aload_n 0, 1) := by decide +kernel
theorem dX4_commandAt_113 : decode cX4_commandAt 113 = .ok (.iload_n 1, 1) := by decide +kernel
theorem dX4_commandAt_114 : decode cX4_commandAt 114 = .ok (.iconst 2, 1) := by decide +kernel
theorem dX4_commandAt_115 : decode cX4_commandAt 115 = .ok (.iadd, 1) := by decide +kernel
theorem dX4_commandAt_116 : decode cX4_commandAt 116 = .ok (.invokevirtual 127, 3) := by decide +kernel
theorem dX4_commandAt_119 : decode cX4_commandAt 119 = .ok (.invokevirtual 151, 3) := by decide +kernel
theorem dX4_commandAt_122 : decode cX4_commandAt 122 = .ok (.ireturn, 1) := by decide +kernel
theorem dX4_commandAt_123 : decode cX4_commandAt 123 = .ok (.aload_n 0, 1) := by decide +kernel
theorem dX4_commandAt_124 : decode cX4_commandAt 124 = .ok (.getfield 7, 3) := by decide +kernel
theorem dX4_commandAt_127 : decode cX4_commandAt 127 = .ok (.bipush 120, 2) := by decide +kernel
theorem dX4_commandAt_129 : decode cX4_commandAt 129 = .ok (.iconst 1, 1) := by decide +kernel
theorem dX4_commandAt_130 : decode cX4_commandAt 130 = .ok (.iastore, 1) := by decide +kernel
theorem dX4_commandAt_131 : decode cX4_commandAt 131 = .ok (.iconst 1, 1) := by decide +kernel
theorem dX4_commandAt_132 : decode cX4_commandAt 132 = .ok (.ireturn, 1) := by decide +kernel
theorem dX4_load_0 : decode cX4_load 0 = .ok (.aload_n 0, 1) := by decide +kernel
theorem dX4_load_1 : decode cX4_load 1 = .ok (.aload_n 0, 1) := by decide +kernel
theorem dX4_load_2 : decode cX4_load 2 = .ok (.invokevirtual 139, 3) := by decide +kernel
theorem dX4_load_5 : decode cX4_load 5 = .ok (.iconst (-1), 1) := by decide +kernel
theorem dX4_load_6 : decode cX4_load 6 = .ok (.if_icmp .ne 7, 3) := by decide +kernel
theorem dX4_load_9 : decode cX4_load 9 = .ok (.iconst 0, 1) := by decide +kernel
theorem dX4_load_10 : decode cX4_load 10 = .ok (.goto 4, 3) := by decide +kernel
theorem dX4_load_13 : decode cX4_load 13 = .ok (.iconst 1, 1) := by decide +kernel
theorem dX4_load_14 : decode cX4_load 14 = .ok (.putfield 34, 3) := by decide +kernel
theorem dX4_load_17 : decode cX4_load 17 = .ok (.aload_n 0, 1) := by decide +kernel
theorem dX4_load_18 : decode cX4_load 18 = .ok (.getfield 34, 3) := by decide +kernel
theorem dX4_load_21 : decode cX4_load 21 = .ok (.ifCond .le 5, 3) := by decide +kernel
theorem dX4_load_24 : decode cX4_load 24 = .ok (.iconst 0, 1) := by decide +kernel
theorem dX4_load_25 : decode cX4_load 25 = .ok (.ireturn, 1) := by decide +kernel
theorem dX4_load_26 : decode cX4_load 26 = .ok (.aload_n 0, 1) := by decide +kernel
theorem dX4_load_27 : decode cX4_load 27 = .ok (.invokevirtual 31, 3) := by decide +kernel
theorem dX4_load_30 : decode cX4_load 30 = .ok (.aload_n 0, 1) := by decide +kernel
theorem dX4_load_31 : decode cX4_load 31 = .ok (.iconst 0, 1) := by decide +kernel
theorem dX4_load_32 : decode cX4_load 32 = .ok (.putfield 154, 3) := by decide +kernel
theorem dX4_load_35 : decode cX4_load 35 = .ok (.aload_n 0, 1) := by decide +kernel
theorem dX4_load_36 : decode cX4_load 36 = .ok (.getfield 25, 3) := by decide +kernel
theorem dX4_load_39 : decode cX4_load 39 = .ok (.iconst 0, 1) := by decide +kernel
theorem dX4_load_40 : decode cX4_load 40 = .ok (.iconst 0, 1) := by decide +kernel
theorem dX4_load_41 : decode cX4_load 41 = .ok (.iastore, 1) := by decide +kernel
theorem dX4_load_42 : decode cX4_load 42 = .ok (.aload_n 0, 1) := by decide +kernel
theorem dX4_load_43 : decode cX4_load 43 = .ok (.getfield 25, 3) := by decide +kernel
theorem dX4_load_46 : decode cX4_load 46 = .ok (.iconst 1, 1) := by decide +kernel
theorem dX4_load_47 : decode cX4_load 47 = .ok (.iconst 0, 1) := by decide +kernel
theorem dX4_load_48 : decode cX4_load 48 = .ok (.iastore, 1) := by decide +kernel
theorem dX4_load_49 : decode cX4_load 49 = .ok (.iconst 0, 1) := by decide +kernel
theorem dX4_load_50 : decode cX4_load 50 = .ok (.istore_n 1, 1) := by decide +kernel
theorem dX4_load_51 : decode cX4_load 51 = .ok (.iconst 1, 1) := by decide +kernel
theorem dX4_load_52 : decode cX4_load 52 = .ok (.istore_n 2, 1) := by decide +kernel
theorem dX4_load_53 : decode cX4_load 53 = .ok (.iload_n 2, 1) := by decide +kernel
theorem dX4_load_54 : decode cX4_load 54 = .ok (.aload_n 0, 1) := by decide +kernel
theorem dX4_load_55 : decode cX4_load 55 = .ok (.getfield 124, 3) := by decide +kernel
theorem dX4_load_58 : decode cX4_load 58 = .ok (.if_icmp .ge 30, 3) := by decide +kernel
theorem dX4_load_61 : decode cX4_load 61 = .ok (.iload_n 1, 1) := by decide +kernel
theorem dX4_load_62 : decode cX4_load 62 = .ok (.aload_n 0, 1) := by decide +kernel
theorem dX4_load_63 : decode cX4_load 63 = .ok (.iload_n 2, 1) := by decide +kernel
theorem dX4_load_64 : decode cX4_load 64 = .ok (.invokevirtual 157, 3) := by decide +kernel
theorem dX4_load_67 : decode cX4_load 67 = .ok (.ifCond .eq 7, 3) := by decide +kernel
theorem dX4_load_70 : decode cX4_load 70 = .ok (.iconst 0, 1) := by decide +kernel
theorem dX4_load_71 : decode cX4_load 71 = .ok (.goto 4, 3) := by decide +kernel
theorem dX4_load_74 : decode cX4_load 74 = .ok (.iconst 1, 1) := by decide +kernel
theorem dX4_load_75 : decode cX4_load 75 = .ok (.iadd, 1) := by decide +kernel
theorem dX4_load_76 : decode cX4_load 76 = .ok (.istore_n 1, 1) := by decide +kernel
theorem dX4_load_77 : decode cX4_load 77 = .ok (.iload_n 2, 1) := by decide +kernel
theorem dX4_load_78 : decode cX4_load 78 = .ok (.aload_n 0, 1) := by decide +kernel
theorem dX4_load_79 : decode cX4_load 79 = .ok (.iload_n 2, 1) := by decide +kernel
theorem dX4_load_80 : decode cX4_load 80 = .ok (.invokevirtual 136, 3) := by decide +kernel
theorem dX4_load_83 : decode cX4_load 83 = .ok (.iadd, 1) := by decide +kernel
theorem dX4_load_84 : decode cX4_load 84 = .ok (.istore_n 2, 1) := by decide +kernel
theorem dX4_load_85 : decode cX4_load 85 = .ok (.goto (-32), 3) := by decide +kernel
theorem dX4_load_88 : decode cX4_load 88 = .ok (.iload_n 1, 1) := by decide +kernel
theorem dX4_load_89 : decode cX4_load 89 = .ok (.ireturn, 1) := by decide +kernel
theorem dX4_about_0 : decode cX4_about 0 = .ok (.aload_n 0, 1) := by decide +kernel
theorem dX4_about_1 : decode cX4_about 1 = .ok (.iload_n 1, 1) := by decide +kernel
theorem dX4_about_2 : decode cX4_about 2 = .ok (.iconst 0, 1) := by decide +kernel
theorem dX4_about_3 : decode cX4_about 3 = .ok (.bipush 10, 2) := by decide +kernel
theorem dX4_about_5 : decode cX4_about 5 = .ok (.invokestatic 38, 3) := by decide +kernel
theorem dX4_about_8 : decode cX4_about 8 = .ok (.ifCond .eq 7, 3) := by decide +kernel
theorem dX4_about_11 : decode cX4_about 11 = .ok (.iconst 0, 1) := by decide +kernel
theorem dX4_about_12 : decode cX4_about 12 = .ok (.goto 4, 3) := by decide +kernel
theorem dX4_about_15 : decode cX4_about 15 = .ok (.iconst 1, 1) := by decide +kernel
theorem dX4_about_16 : decode cX4_about 16 = .ok (.putfield 34, 3) := by decide +kernel
theorem dX4_about_19 : decode cX4_about 19 = .ok (.iconst 0, 1) := by decide +kernel
theorem dX4_about_20 : decode cX4_about 20 = .ok (.istore_n 2, 1) := by decide +kernel
theorem dX4_about_21 : decode cX4_about 21 = .ok (.iconst 0, 1) := by decide +kernel
theorem dX4_about_22 : decode cX4_about 22 = .ok (.istore_n 3, 1) := by decide +kernel
theorem dX4_about_23 : decode cX4_about 23 = .ok (.iconst 0, 1) := by decide +kernel
theorem dX4_about_24 : decode cX4_about 24 = .ok (.istore 4, 2) := by decide +kernel
theorem dX4_about_26 : decode cX4_about 26 = .ok (.iload 4, 2) := by decide +kernel
theorem dX4_about_28 : decode cX4_about 28 = .ok (.bipush 16, 2) := by decide +kernel
theorem dX4_about_30 : decode cX4_about 30 = .ok (.if_icmp .ge 45, 3) := by decide +kernel
theorem dX4_about_33 : decode cX4_about 33 = .ok (.iload_n 2, 1) := by decide +kernel
theorem dX4_about_34 : decode cX4_about 34 = .ok (.aload_n 0, 1) := by decide +kernel
theorem dX4_about_35 : decode cX4_about 35 = .ok (.getfield 7, 3) := by decide +kernel
theorem dX4_about_38 : decode cX4_about 38 = .ok (.bipush 68, 2) := by decide +kernel
theorem dX4_about_40 : decode cX4_about 40 = .ok (.iload 4, 2) := by decide +kernel
theorem dX4_about_42 : decode cX4_about 42 = .ok (.iadd, 1) := by decide +kernel
theorem dX4_about_43 : decode cX4_about 43 = .ok (.iaload, 1) := by decide +kernel
theorem dX4_about_44 : decode cX4_about 44 = .ok (.iadd, 1) := by decide +kernel
theorem dX4_about_45 : decode cX4_about 45 = .ok (.istore_n 2, 1) := by decide +kernel
theorem dX4_about_46 : decode cX4_about 46 = .ok (.iload_n 3, 1) := by decide +kernel
theorem dX4_about_47 : decode cX4_about 47 = .ok (.aload_n 0, 1) := by decide +kernel
theorem dX4_about_48 : decode cX4_about 48 = .ok (.iload 4, 2) := by decide +kernel
theorem dX4_about_50 : decode cX4_about 50 = .ok (.iconst 4, 1) := by decide +kernel
theorem dX4_about_51 : decode cX4_about 51 = .ok (.idiv, 1) := by decide +kernel
theorem dX4_about_52 : decode cX4_about 52 = .ok (.iload 4, 2) := by decide +kernel
theorem dX4_about_54 : decode cX4_about 54 = .ok (.iconst 4, 1) := by decide +kernel
theorem dX4_about_55 : decode cX4_about 55 = .ok (.irem, 1) := by decide +kernel
theorem dX4_about_56 : decode cX4_about 56 = .ok (.invokevirtual 160, 3) := by decide +kernel
theorem dX4_about_59 : decode cX4_about 59 = .ok (.ifCond .eq 7, 3) := by decide +kernel
theorem dX4_about_62 : decode cX4_about 62 = .ok (.iconst 1, 1) := by decide +kernel
theorem dX4_about_63 : decode cX4_about 63 = .ok (.goto 4, 3) := by decide +kernel
theorem dX4_about_66 : decode cX4_about 66 = .ok (.iconst 0, 1) := by decide +kernel
theorem dX4_about_67 : decode cX4_about 67 = .ok (.iadd, 1) := by decide +kernel
theorem dX4_about_68 : decode cX4_about 68 = .ok (.istore_n 3, 1) := by decide +kernel
theorem dX4_about_69 : decode cX4_about 69 = .ok (.iinc 4 1, 3) := by decide +kernel
theorem dX4_about_72 : decode cX4_about 72 = .ok (.goto (-46), 3) := by decide +kernel
theorem dX4_about_75 : decode cX4_about 75 = .ok (.iconst 0, 1) := by decide +kernel
theorem dX4_about_76 : decode cX4_about 76 = .ok (.istore 4, 2) := by decide +kernel
theorem dX4_about_78 : decode cX4_about 78 = .ok (.iconst 0, 1) := by decide +kernel
theorem dX4_about_79 : decode cX4_about 79 = .ok (.istore 5, 2) := by decide +kernel
theorem dX4_about_81 : decode cX4_about 81 = .ok (.iload 5, 2) := by decide +kernel
theorem dX4_about_83 : decode cX4_about 83 = .ok (.bipush 32, 2) := by decide +kernel
theorem dX4_about_85 : decode cX4_about 85 = .ok (.if_icmp .ge 28, 3) := by decide +kernel
theorem dX4_about_88 : decode cX4_about 88 = .ok (.iload 4, 2) := by decide +kernel
theorem dX4_about_90 : decode cX4_about 90 = .ok (.aload_n 0, 1) := by decide +kernel
theorem dX4_about_91 : decode cX4_about 91 = .ok (.iload 5, 2) := by decide +kernel
theorem dX4_about_93 : decode cX4_about 93 = .ok (.invokevirtual 57, 3) := by decide +kernel
theorem dX4_about_96 : decode cX4_about 96 = .ok (.ifCond .eq 7, 3) := by decide +kernel
theorem dX4_about_99 : decode cX4_about 99 = .ok (.iconst 1, 1) := by decide +kernel
theorem dX4_about_100 : decode cX4_about 100 = .ok (.goto 4, 3) := by decide +kernel
theorem dX4_about_103 : decode cX4_about 103 = .ok (.iconst 0, 1) := by decide +kernel
theorem dX4_about_104 : decode cX4_about 104 = .ok (.iadd, 1) := by decide +kernel
theorem dX4_about_105 : decode cX4_about 105 = .ok (.istore 4, 2) := by decide +kernel
theorem dX4_about_107 : decode cX4_about 107 = .ok (.iinc 5 1, 3) := by decide +kernel
theorem dX4_about_110 : decode cX4_about 110 = .ok (.goto (-29), 3) := by decide +kernel
theorem dX4_about_113 : decode cX4_about 113 = .ok (.iload_n 1, 1) := by decide +kernel
theorem dX4_about_114 : decode cX4_about 114 = .ok (.tableswitch 123 0 10 #[58, 93, 98, 103, 105, 107, 110, 110, 110, 110, 110], 58) := by decide +kernel
theorem dX4_about_172 : decode cX4_about 172 = .ok (.aload_n 0, 1) := by decide +kernel
theorem dX4_about_173 : decode cX4_about 173 = .ok (.getfield 7, 3) := by decide +kernel
theorem dX4_about_176 : decode cX4_about 176 = .ok (.iconst 0, 1) := by decide +kernel
theorem dX4_about_177 : decode cX4_about 177 = .ok (.iaload, 1) := by decide +kernel
theorem dX4_about_178 : decode cX4_about 178 = .ok (.iconst 2, 1) := by decide +kernel
theorem dX4_about_179 : decode cX4_about 179 = .ok (.aload_n 0, 1) := by decide +kernel
theorem dX4_about_180 : decode cX4_about 180 = .ok (.getfield 7, 3) := by decide +kernel
theorem dX4_about_183 : decode cX4_about 183 = .ok (.iconst 1, 1) := by decide +kernel
theorem dX4_about_184 : decode cX4_about 184 = .ok (.iaload, 1) := by decide +kernel
theorem dX4_about_185 : decode cX4_about 185 = .ok (.imul, 1) := by decide +kernel
theorem dX4_about_186 : decode cX4_about 186 = .ok (.iadd, 1) := by decide +kernel
theorem dX4_about_187 : decode cX4_about 187 = .ok (.iconst 4, 1) := by decide +kernel
theorem dX4_about_188 : decode cX4_about 188 = .ok (.aload_n 0, 1) := by decide +kernel
theorem dX4_about_189 : decode cX4_about 189 = .ok (.getfield 7, 3) := by decide +kernel
theorem dX4_about_192 : decode cX4_about 192 = .ok (.iconst 2, 1) := by decide +kernel
theorem dX4_about_193 : decode cX4_about 193 = .ok (.iaload, 1) := by decide +kernel
theorem dX4_about_194 : decode cX4_about 194 = .ok (.imul, 1) := by decide +kernel
theorem dX4_about_195 : decode cX4_about 195 = .ok (.iadd, 1) := by decide +kernel
theorem dX4_about_196 : decode cX4_about 196 = .ok (.bipush 8, 2) := by decide +kernel
theorem dX4_about_198 : decode cX4_about 198 = .ok (.aload_n 0, 1) := by decide +kernel
theorem dX4_about_199 : decode cX4_about 199 = .ok (.getfield 7, 3) := by decide +kernel
theorem dX4_about_202 : decode cX4_about 202 = .ok (.iconst 3, 1) := by decide +kernel
theorem dX4_about_203 : decode cX4_about 203 = .ok (.iaload, 1) := by decide +kernel
theorem dX4_about_204 : decode cX4_about 204 = .ok (.imul, 1) := by decide +kernel
theorem dX4_about_205 : decode cX4_about 205 = .ok (.iadd, 1) := by decide +kernel
theorem dX4_about_206 : decode cX4_about 206 = .ok (.ireturn, 1) := by decide +kernel
theorem dX4_about_207 : decode cX4_about 207 = .ok (.aload_n 0, 1) := by decide +kernel
theorem dX4_about_208 : decode cX4_about 208 = .ok (.invokevirtual 103, 3) := by decide +kernel
theorem dX4_about_211 : decode cX4_about 211 = .ok (.ireturn, 1) := by decide +kernel
theorem dX4_about_212 : decode cX4_about 212 = .ok (.aload_n 0, 1) := by decide +kernel
theorem dX4_about_213 : decode cX4_about 213 = .ok (.invokevirtual 163, 3) := by decide +kernel
theorem dX4_about_216 : decode cX4_about 216 = .ok (.ireturn, 1) := by decide +kernel
theorem dX4_about_217 : decode cX4_about 217 = .ok (.iload_n 2, 1) := by decide +kernel
theorem dX4_about_218 : decode cX4_about 218 = .ok (.ireturn, 1) := by decide +kernel
theorem dX4_about_219 : decode cX4_about 219 = .ok (.iload_n 3, 1) := by decide +kernel
theorem dX4_about_220 : decode cX4_about 220 = .ok (.ireturn, 1) := by decide +kernel
theorem dX4_about_221 : decode cX4_about 221 = .ok (.iload 4, 2) := by decide +kernel
theorem dX4_about_223 : decode cX4_about 223 = .ok (.ireturn, 1) := by decide +kernel
theorem dX4_about_224 : decode cX4_about 224 = .ok (.aload_n 0, 1) := by decide +kernel
theorem dX4_about_225 : decode cX4_about 225 = .ok (.getfield 7, 3) := by decide +kernel
theorem dX4_about_228 : decode cX4_about 228 = .ok (.bipush 116, 2) := by decide +kernel
theorem dX4_about_230 : decode cX4_about 230 = .ok (.iload_n 1, 1) := by decide +kernel
theorem dX4_about_231 : decode cX4_about 231 = .ok (.iadd, 1) := by decide +kernel
theorem dX4_about_232 : decode cX4_about 232 = .ok (.bipush 6, 2) := by decide +kernel
theorem dX4_about_234 : decode cX4_about 234 = .ok (.isub, 1) := by decide +kernel
theorem dX4_about_235 : decode cX4_about 235 = .ok (.iaload, 1) := by decide +kernel
theorem dX4_about_236 : decode cX4_about 236 = .ok (.ireturn, 1) := by decide +kernel
theorem dX4_about_237 : decode cX4_about 237 = .ok (.iconst 0, 1) := by decide +kernel
theorem dX4_about_238 : decode cX4_about 238 = .ok (.ireturn, 1) := by decide +kernel
theorem dX4_page_0 : decode cX4_page 0 = .ok (.aload_n 0, 1) := by decide +kernel
theorem dX4_page_1 : decode cX4_page 1 = .ok (.aload_n 0, 1) := by decide +kernel
theorem dX4_page_2 : decode cX4_page 2 = .ok (.iload_n 1, 1) := by decide +kernel
theorem dX4_page_3 : decode cX4_page 3 = .ok (.iload_n 2, 1) := by decide +kernel
theorem dX4_page_4 : decode cX4_page 4 = .ok (.invokevirtual 166, 3) := by decide +kernel
theorem dX4_page_7 : decode cX4_page 7 = .ok (.ifCond .ne 7, 3) := by decide +kernel
theorem dX4_page_10 : decode cX4_page 10 = .ok (.iconst 1, 1) := by decide +kernel
theorem dX4_page_11 : decode cX4_page 11 = .ok (.goto 17, 3) := by decide +kernel
theorem dX4_page_14 : decode cX4_page 14 = .ok (.iload_n 3, 1) := by decide +kernel
theorem dX4_page_15 : decode cX4_page 15 = .ok (.iconst 0, 1) := by decide +kernel
theorem dX4_page_16 : decode cX4_page 16 = .ok (.iconst 3, 1) := by decide +kernel
theorem dX4_page_17 : decode cX4_page 17 = .ok (.invokestatic 38, 3) := by decide +kernel
theorem dX4_page_20 : decode cX4_page 20 = .ok (.ifCond .eq 7, 3) := by decide +kernel
theorem dX4_page_23 : decode cX4_page 23 = .ok (.iconst 0, 1) := by decide +kernel
theorem dX4_page_24 : decode cX4_page 24 = .ok (.goto 4, 3) := by decide +kernel
theorem dX4_page_27 : decode cX4_page 27 = .ok (.iconst 2, 1) := by decide +kernel
theorem dX4_page_28 : decode cX4_page 28 = .ok (.putfield 34, 3) := by decide +kernel
theorem dX4_page_31 : decode cX4_page 31 = .ok (.aload_n 0, 1) := by decide +kernel
theorem dX4_page_32 : decode cX4_page 32 = .ok (.getfield 34, 3) := by decide +kernel
theorem dX4_page_35 : decode cX4_page 35 = .ok (.ifCond .le 5, 3) := by decide +kernel
theorem dX4_page_38 : decode cX4_page 38 = .ok (.iconst 0, 1) := by decide +kernel
theorem dX4_page_39 : decode cX4_page 39 = .ok (.ireturn, 1) := by decide +kernel
theorem dX4_page_40 : decode cX4_page 40 = .ok (.aload_n 0, 1) := by decide +kernel
theorem dX4_page_41 : decode cX4_page 41 = .ok (.iload_n 1, 1) := by decide +kernel
theorem dX4_page_42 : decode cX4_page 42 = .ok (.iload_n 2, 1) := by decide +kernel
theorem dX4_page_43 : decode cX4_page 43 = .ok (.invokevirtual 53, 3) := by decide +kernel
theorem dX4_page_46 : decode cX4_page 46 = .ok (.istore 4, 2) := by decide +kernel
theorem dX4_page_48 : decode cX4_page 48 = .ok (.iload_n 3, 1) := by decide +kernel
theorem dX4_page_49 : decode cX4_page 49 = .ok (.iconst 3, 1) := by decide +kernel
theorem dX4_page_50 : decode cX4_page 50 = .ok (.if_icmp .ne 20, 3) := by decide +kernel
theorem dX4_page_53 : decode cX4_page 53 = .ok (.aload_n 0, 1) := by decide +kernel
theorem dX4_page_54 : decode cX4_page 54 = .ok (.iload_n 1, 1) := by decide +kernel
theorem dX4_page_55 : decode cX4_page 55 = .ok (.iload_n 2, 1) := by decide +kernel
theorem dX4_page_56 : decode cX4_page 56 = .ok (.iconst 4, 1) := by decide +kernel
theorem dX4_page_57 : decode cX4_page 57 = .ok (.idiv, 1) := by decide +kernel
theorem dX4_page_58 : decode cX4_page 58 = .ok (.invokevirtual 60, 3) := by decide +kernel
theorem dX4_page_61 : decode cX4_page 61 = .ok (.ifCond .eq 7, 3) := by decide +kernel
theorem dX4_page_64 : decode cX4_page 64 = .ok (.iconst 1, 1) := by decide +kernel
theorem dX4_page_65 : decode cX4_page 65 = .ok (.goto 4, 3) := by decide +kernel
theorem dX4_page_68 : decode cX4_page 68 = .ok (.iconst 0, 1) := by decide +kernel
theorem dX4_page_69 : decode cX4_page 69 = .ok (.ireturn, 1) := by decide +kernel
theorem dX4_page_70 : decode cX4_page 70 = .ok (.iload 4, 2) := by decide +kernel
theorem dX4_page_72 : decode cX4_page 72 = .ok (.iconst (-1), 1) := by decide +kernel
theorem dX4_page_73 : decode cX4_page 73 = .ok (.if_icmp .ne 7, 3) := by decide +kernel
theorem dX4_page_76 : decode cX4_page 76 = .ok (.iconst (-1), 1) := by decide +kernel
theorem dX4_page_77 : decode cX4_page 77 = .ok (.goto 32, 3) := by decide +kernel
theorem dX4_page_80 : decode cX4_page 80 = .ok (.iload_n 3, 1) := by decide +kernel
theorem dX4_page_81 : decode cX4_page 81 = .ok (.ifCond .ne 8, 3) := by decide +kernel
theorem dX4_page_84 : decode cX4_page 84 = .ok (.iload 4, 2) := by decide +kernel
theorem dX4_page_86 : decode cX4_page 86 = .ok (.goto 23, 3) := by decide +kernel
theorem dX4_page_89 : decode cX4_page 89 = .ok (.iload_n 3, 1) := by decide +kernel
theorem dX4_page_90 : decode cX4_page 90 = .ok (.iconst 1, 1) := by decide +kernel
theorem dX4_page_91 : decode cX4_page 91 = .ok (.if_icmp .ne 12, 3) := by decide +kernel
theorem dX4_page_94 : decode cX4_page 94 = .ok (.aload_n 0, 1) := by decide +kernel
theorem dX4_page_95 : decode cX4_page 95 = .ok (.iload 4, 2) := by decide +kernel
theorem dX4_page_97 : decode cX4_page 97 = .ok (.invokevirtual 109, 3) := by decide +kernel
theorem dX4_page_100 : decode cX4_page 100 = .ok (.goto 9, 3) := by decide +kernel
theorem dX4_page_103 : decode cX4_page 103 = .ok (.aload_n 0, 1) := by decide +kernel
theorem dX4_page_104 : decode cX4_page 104 = .ok (.iload 4, 2) := by decide +kernel
theorem dX4_page_106 : decode cX4_page 106 = .ok (.invokevirtual 46, 3) := by decide +kernel
theorem dX4_page_109 : decode cX4_page 109 = .ok (.ireturn, 1) := by decide +kernel
theorem dX4_user_0 : decode cX4_user 0 = .ok (.aload_n 0, 1) := by decide +kernel
theorem dX4_user_1 : decode cX4_user 1 = .ok (.iload_n 1, 1) := by decide +kernel
theorem dX4_user_2 : decode cX4_user 2 = .ok (.iconst 0, 1) := by decide +kernel
theorem dX4_user_3 : decode cX4_user 3 = .ok (.bipush 31, 2) := by decide +kernel
theorem dX4_user_5 : decode cX4_user 5 = .ok (.invokestatic 38, 3) := by decide +kernel
theorem dX4_user_8 : decode cX4_user 8 = .ok (.ifCond .ne 7, 3) := by decide +kernel
theorem dX4_user_11 : decode cX4_user 11 = .ok (.iconst 1, 1) := by decide +kernel
theorem dX4_user_12 : decode cX4_user 12 = .ok (.goto 12, 3) := by decide +kernel
theorem dX4_user_15 : decode cX4_user 15 = .ok (.iload_n 2, 1) := by decide +kernel
theorem dX4_user_16 : decode cX4_user 16 = .ok (.ifCond .ge 7, 3) := by decide +kernel
theorem dX4_user_19 : decode cX4_user 19 = .ok (.iconst 2, 1) := by decide +kernel
theorem dX4_user_20 : decode cX4_user 20 = .ok (.goto 4, 3) := by decide +kernel
theorem dX4_user_23 : decode cX4_user 23 = .ok (.iconst 0, 1) := by decide +kernel
theorem dX4_user_24 : decode cX4_user 24 = .ok (.putfield 34, 3) := by decide +kernel
theorem dX4_user_27 : decode cX4_user 27 = .ok (.aload_n 0, 1) := by decide +kernel
theorem dX4_user_28 : decode cX4_user 28 = .ok (.getfield 34, 3) := by decide +kernel
theorem dX4_user_31 : decode cX4_user 31 = .ok (.ifCond .le 5, 3) := by decide +kernel
theorem dX4_user_34 : decode cX4_user 34 = .ok (.iconst 0, 1) := by decide +kernel
theorem dX4_user_35 : decode cX4_user 35 = .ok (.ireturn, 1) := by decide +kernel
theorem dX4_user_36 : decode cX4_user 36 = .ok (.iconst (-1), 1) := by decide +kernel
theorem dX4_user_37 : decode cX4_user 37 = .ok (.istore_n 3, 1) := by decide +kernel
theorem dX4_user_38 : decode cX4_user 38 = .ok (.iconst 0, 1) := by decide +kernel
theorem dX4_user_39 : decode cX4_user 39 = .ok (.istore 4, 2) := by decide +kernel
theorem dX4_user_41 : decode cX4_user 41 = .ok (.iconst 0, 1) := by decide +kernel
theorem dX4_user_42 : decode cX4_user 42 = .ok (.istore 5, 2) := by decide +kernel
theorem dX4_user_44 : decode cX4_user 44 = .ok (.iload 5, 2) := by decide +kernel
theorem dX4_user_46 : decode cX4_user 46 = .ok (.bipush 64, 2) := by decide +kernel
theorem dX4_user_48 : decode cX4_user 48 = .ok (.if_icmp .ge 50, 3) := by decide +kernel
theorem dX4_user_51 : decode cX4_user 51 = .ok (.aload_n 0, 1) := by decide +kernel
theorem dX4_user_52 : decode cX4_user 52 = .ok (.getfield 7, 3) := by decide +kernel
theorem dX4_user_55 : decode cX4_user 55 = .ok (.iconst 4, 1) := by decide +kernel
theorem dX4_user_56 : decode cX4_user 56 = .ok (.iload 5, 2) := by decide +kernel
theorem dX4_user_58 : decode cX4_user 58 = .ok (.iadd, 1) := by decide +kernel
theorem dX4_user_59 : decode cX4_user 59 = .ok (.iaload, 1) := by decide +kernel
theorem dX4_user_60 : decode cX4_user 60 = .ok (.iload_n 1, 1) := by decide +kernel
theorem dX4_user_61 : decode cX4_user 61 = .ok (.if_icmp .ne 31, 3) := by decide +kernel
theorem dX4_user_64 : decode cX4_user 64 = .ok (.iload 4, 2) := by decide +kernel
theorem dX4_user_66 : decode cX4_user 66 = .ok (.iload_n 2, 1) := by decide +kernel
theorem dX4_user_67 : decode cX4_user 67 = .ok (.if_icmp .ne 20, 3) := by decide +kernel
theorem dX4_user_70 : decode cX4_user 70 = .ok (.bipush 100, 2) := by decide +kernel
theorem dX4_user_72 : decode cX4_user 72 = .ok (.iload 5, 2) := by decide +kernel
theorem dX4_user_74 : decode cX4_user 74 = .ok (.bipush 16, 2) := by decide +kernel
theorem dX4_user_76 : decode cX4_user 76 = .ok (.idiv, 1) := by decide +kernel
theorem dX4_user_77 : decode cX4_user 77 = .ok (.imul, 1) := by decide +kernel
theorem dX4_user_78 : decode cX4_user 78 = .ok (.iload 5, 2) := by decide +kernel
theorem dX4_user_80 : decode cX4_user 80 = .ok (.bipush 16, 2) := by decide +kernel
theorem dX4_user_82 : decode cX4_user 82 = .ok (.irem, 1) := by decide +kernel
theorem dX4_user_83 : decode cX4_user 83 = .ok (.iadd, 1) := by decide +kernel
theorem dX4_user_84 : decode cX4_user 84 = .ok (.goto 4, 3) := by decide +kernel
theorem dX4_user_87 : decode cX4_user 87 = .ok (.iload_n 3, 1) := by decide +kernel
theorem dX4_user_88 : decode cX4_user 88 = .ok (.istore_n 3, 1) := by decide +kernel
theorem dX4_user_89 : decode cX4_user 89 = .ok (.iinc 4 1, 3) := by decide +kernel
theorem dX4_user_92 : decode cX4_user 92 = .ok (.iinc 5 1, 3) := by decide +kernel
theorem dX4_user_95 : decode cX4_user 95 = .ok (.goto (-51), 3) := by decide +kernel
theorem dX4_user_98 : decode cX4_user 98 = .ok (.iload_n 3, 1) := by decide +kernel
theorem dX4_user_99 : decode cX4_user 99 = .ok (.ireturn, 1) := by decide +kernel
theorem dX4_group_0 : decode cX4_group 0 = .ok (.aload_n 0, 1) := by decide +kernel
theorem dX4_group_1 : decode cX4_group 1 = .ok (.aload_n 0, 1) := by decide +kernel
theorem dX4_group_2 : decode cX4_group 2 = .ok (.iload_n 1, 1) := by decide +kernel
theorem dX4_group_3 : decode cX4_group 3 = .ok (.iload_n 2, 1) := by decide +kernel
theorem dX4_group_4 : decode cX4_group 4 = .ok (.invokevirtual 169, 3) := by decide +kernel
theorem dX4_group_7 : decode cX4_group 7 = .ok (.ifCond .ne 7, 3) := by decide +kernel
theorem dX4_group_10 : decode cX4_group 10 = .ok (.iconst 1, 1) := by decide +kernel
theorem dX4_group_11 : decode cX4_group 11 = .ok (.goto 17, 3) := by decide +kernel
theorem dX4_group_14 : decode cX4_group 14 = .ok (.iload_n 3, 1) := by decide +kernel
theorem dX4_group_15 : decode cX4_group 15 = .ok (.iconst 0, 1) := by decide +kernel
theorem dX4_group_16 : decode cX4_group 16 = .ok (.iconst 4, 1) := by decide +kernel
theorem dX4_group_17 : decode cX4_group 17 = .ok (.invokestatic 38, 3) := by decide +kernel
theorem dX4_group_20 : decode cX4_group 20 = .ok (.ifCond .eq 7, 3) := by decide +kernel
theorem dX4_group_23 : decode cX4_group 23 = .ok (.iconst 0, 1) := by decide +kernel
theorem dX4_group_24 : decode cX4_group 24 = .ok (.goto 4, 3) := by decide +kernel
theorem dX4_group_27 : decode cX4_group 27 = .ok (.iconst 2, 1) := by decide +kernel
theorem dX4_group_28 : decode cX4_group 28 = .ok (.putfield 34, 3) := by decide +kernel
theorem dX4_group_31 : decode cX4_group 31 = .ok (.aload_n 0, 1) := by decide +kernel
theorem dX4_group_32 : decode cX4_group 32 = .ok (.getfield 34, 3) := by decide +kernel
theorem dX4_group_35 : decode cX4_group 35 = .ok (.ifCond .le 5, 3) := by decide +kernel
theorem dX4_group_38 : decode cX4_group 38 = .ok (.iconst 0, 1) := by decide +kernel
theorem dX4_group_39 : decode cX4_group 39 = .ok (.ireturn, 1) := by decide +kernel
theorem dX4_group_40 : decode cX4_group 40 = .ok (.iload_n 3, 1) := by decide +kernel
theorem dX4_group_41 : decode cX4_group 41 = .ok (.tableswitch 75 0 3 #[31, 38, 53, 68], 31) := by decide +kernel
theorem dX4_group_72 : decode cX4_group 72 = .ok (.aload_n 0, 1) := by decide +kernel
theorem dX4_group_73 : decode cX4_group 73 = .ok (.iload_n 1, 1) := by decide +kernel
theorem dX4_group_74 : decode cX4_group 74 = .ok (.iload_n 2, 1) := by decide +kernel
theorem dX4_group_75 : decode cX4_group 75 = .ok (.invokevirtual 70, 3) := by decide +kernel
theorem dX4_group_78 : decode cX4_group 78 = .ok (.ireturn, 1) := by decide +kernel
theorem dX4_group_79 : decode cX4_group 79 = .ok (.aload_n 0, 1) := by decide +kernel
theorem dX4_group_80 : decode cX4_group 80 = .ok (.iload_n 1, 1) := by decide +kernel
theorem dX4_group_81 : decode cX4_group 81 = .ok (.iload_n 2, 1) := by decide +kernel
theorem dX4_group_82 : decode cX4_group 82 = .ok (.invokevirtual 60, 3) := by decide +kernel
theorem dX4_group_85 : decode cX4_group 85 = .ok (.ifCond .eq 7, 3) := by decide +kernel
theorem dX4_group_88 : decode cX4_group 88 = .ok (.iconst 1, 1) := by decide +kernel
theorem dX4_group_89 : decode cX4_group 89 = .ok (.goto 4, 3) := by decide +kernel
theorem dX4_group_92 : decode cX4_group 92 = .ok (.iconst 0, 1) := by decide +kernel
theorem dX4_group_93 : decode cX4_group 93 = .ok (.ireturn, 1) := by decide +kernel
theorem dX4_group_94 : decode cX4_group 94 = .ok (.aload_n 0, 1) := by decide +kernel
theorem dX4_group_95 : decode cX4_group 95 = .ok (.iload_n 1, 1) := by decide +kernel
theorem dX4_group_96 : decode cX4_group 96 = .ok (.iload_n 2, 1) := by decide +kernel
theorem dX4_group_97 : decode cX4_group 97 = .ok (.invokevirtual 160, 3) := by decide +kernel
theorem dX4_group_100 : decode cX4_group 100 = .ok (.ifCond .eq 7, 3) := by decide +kernel
theorem dX4_group_103 : decode cX4_group 103 = .ok (.iconst 1, 1) := by decide +kernel
theorem dX4_group_104 : decode cX4_group 104 = .ok (.goto 4, 3) := by decide +kernel
theorem dX4_group_107 : decode cX4_group 107 = .ok (.iconst 0, 1) := by decide +kernel
theorem dX4_group_108 : decode cX4_group 108 = .ok (.ireturn, 1) := by decide +kernel
theorem dX4_group_109 : decode cX4_group 109 = .ok (.aload_n 0, 1) := by decide +kernel
theorem dX4_group_110 : decode cX4_group 110 = .ok (.iload_n 1, 1) := by decide +kernel
theorem dX4_group_111 : decode cX4_group 111 = .ok (.iload_n 2, 1) := by decide +kernel
theorem dX4_group_112 : decode cX4_group 112 = .ok (.invokevirtual 64, 3) := by decide +kernel
theorem dX4_group_115 : decode cX4_group 115 = .ok (.ireturn, 1) := by decide +kernel
theorem dX4_group_116 : decode cX4_group 116 = .ok (.aload_n 0, 1) := by decide +kernel
theorem dX4_group_117 : decode cX4_group 117 = .ok (.iload_n 1, 1) := by decide +kernel
theorem dX4_group_118 : decode cX4_group 118 = .ok (.iload_n 2, 1) := by decide +kernel
theorem dX4_group_119 : decode cX4_group 119 = .ok (.invokevirtual 67, 3) := by decide +kernel
theorem dX4_group_122 : decode cX4_group 122 = .ok (.ireturn, 1) := by decide +kernel
theorem dX4_remember_0 : decode cX4_remember 0 = .ok (.aload_n 0, 1) := by decide +kernel
theorem dX4_remember_1 : decode cX4_remember 1 = .ok (.getfield 154, 3) := by decide +kernel
theorem dX4_remember_4 : decode cX4_remember 4 = .ok (.bipush 14, 2) := by decide +kernel
theorem dX4_remember_6 : decode cX4_remember 6 = .ok (.if_icmp .ne 43, 3) := by decide +kernel
theorem dX4_remember_9 : decode cX4_remember 9 = .ok (.iconst 0, 1) := by decide +kernel
theorem dX4_remember_10 : decode cX4_remember 10 = .ok (.istore_n 1, 1) := by decide +kernel
theorem dX4_remember_11 : decode cX4_remember 11 = .ok (.iload_n 1, 1) := by decide +kernel
theorem dX4_remember_12 : decode cX4_remember 12 = .ok (.sipush 1573, 3) := by decide +kernel
theorem dX4_remember_15 : decode cX4_remember 15 = .ok (.if_icmp .ge 24, 3) := by decide +kernel
theorem dX4_remember_18 : decode cX4_remember 18 = .ok (.aload_n 0, 1) := by decide +kernel
theorem dX4_remember_19 : decode cX4_remember 19 = .ok (.getfield 19, 3) := by decide +kernel
theorem dX4_remember_22 : decode cX4_remember 22 = .ok (.iload_n 1, 1) := by decide +kernel
theorem dX4_remember_23 : decode cX4_remember 23 = .ok (.aload_n 0, 1) := by decide +kernel
theorem dX4_remember_24 : decode cX4_remember 24 = .ok (.getfield 19, 3) := by decide +kernel
theorem dX4_remember_27 : decode cX4_remember 27 = .ok (.iload_n 1, 1) := by decide +kernel
theorem dX4_remember_28 : decode cX4_remember 28 = .ok (.bipush 121, 2) := by decide +kernel
theorem dX4_remember_30 : decode cX4_remember 30 = .ok (.iadd, 1) := by decide +kernel
theorem dX4_remember_31 : decode cX4_remember 31 = .ok (.iaload, 1) := by decide +kernel
theorem dX4_remember_32 : decode cX4_remember 32 = .ok (.iastore, 1) := by decide +kernel
theorem dX4_remember_33 : decode cX4_remember 33 = .ok (.iinc 1 1, 3) := by decide +kernel
theorem dX4_remember_36 : decode cX4_remember 36 = .ok (.goto (-25), 3) := by decide +kernel
theorem dX4_remember_39 : decode cX4_remember 39 = .ok (.aload_n 0, 1) := by decide +kernel
theorem dX4_remember_40 : decode cX4_remember 40 = .ok (.dup, 1) := by decide +kernel
theorem dX4_remember_41 : decode cX4_remember 41 = .ok (.getfield 154, 3) := by decide +kernel
theorem dX4_remember_44 : decode cX4_remember 44 = .ok (.iconst 1, 1) := by decide +kernel
theorem dX4_remember_45 : decode cX4_remember 45 = .ok (.isub, 1) := by decide +kernel
theorem dX4_remember_46 : decode cX4_remember 46 = .ok (.putfield 154, 3) := by decide +kernel
theorem dX4_remember_49 : decode cX4_remember 49 = .ok (.aload_n 0, 1) := by decide +kernel
theorem dX4_remember_50 : decode cX4_remember 50 = .ok (.getfield 7, 3) := by decide +kernel
theorem dX4_remember_53 : decode cX4_remember 53 = .ok (.iconst 0, 1) := by decide +kernel
theorem dX4_remember_54 : decode cX4_remember 54 = .ok (.aload_n 0, 1) := by decide +kernel
theorem dX4_remember_55 : decode cX4_remember 55 = .ok (.getfield 19, 3) := by decide +kernel
theorem dX4_remember_58 : decode cX4_remember 58 = .ok (.aload_n 0, 1) := by decide +kernel
theorem dX4_remember_59 : decode cX4_remember 59 = .ok (.getfield 154, 3) := by decide +kernel
theorem dX4_remember_62 : decode cX4_remember 62 = .ok (.bipush 121, 2) := by decide +kernel
theorem dX4_remember_64 : decode cX4_remember 64 = .ok (.imul, 1) := by decide +kernel
theorem dX4_remember_65 : decode cX4_remember 65 = .ok (.invokestatic 172, 3) := by decide +kernel
theorem dX4_remember_68 : decode cX4_remember 68 = .ok (.aload_n 0, 1) := by decide +kernel
theorem dX4_remember_69 : decode cX4_remember 69 = .ok (.dup, 1) := by decide +kernel
theorem dX4_remember_70 : decode cX4_remember 70 = .ok (.getfield 154, 3) := by decide +kernel
theorem dX4_remember_73 : decode cX4_remember 73 = .ok (.iconst 1, 1) := by decide +kernel
theorem dX4_remember_74 : decode cX4_remember 74 = .ok (.iadd, 1) := by decide +kernel
theorem dX4_remember_75 : decode cX4_remember 75 = .ok (.putfield 154, 3) := by decide +kernel
theorem dX4_remember_78 : decode cX4_remember 78 = .ok (.return_, 1) := by decide +kernel
theorem dX4_write_0 : decode cX4_write 0 = .ok (.aload_n 0, 1) := by decide +kernel
theorem dX4_write_1 : decode cX4_write 1 = .ok (.aload_n 0, 1) := by decide +kernel
theorem dX4_write_2 : decode cX4_write 2 = .ok (.iload_n 1, 1) := by decide +kernel
theorem dX4_write_3 : decode cX4_write 3 = .ok (.iload_n 2, 1) := by decide +kernel
theorem dX4_write_4 : decode cX4_write 4 = .ok (.invokevirtual 166, 3) := by decide +kernel
theorem dX4_write_7 : decode cX4_write 7 = .ok (.ifCond .ne 7, 3) := by decide +kernel
theorem dX4_write_10 : decode cX4_write 10 = .ok (.iconst 1, 1) := by decide +kernel
theorem dX4_write_11 : decode cX4_write 11 = .ok (.goto 32, 3) := by decide +kernel
theorem dX4_write_14 : decode cX4_write 14 = .ok (.iload_n 3, 1) := by decide +kernel
theorem dX4_write_15 : decode cX4_write 15 = .ok (.iconst 0, 1) := by decide +kernel
theorem dX4_write_16 : decode cX4_write 16 = .ok (.bipush 99, 2) := by decide +kernel
theorem dX4_write_18 : decode cX4_write 18 = .ok (.invokestatic 38, 3) := by decide +kernel
theorem dX4_write_21 : decode cX4_write 21 = .ok (.ifCond .ne 7, 3) := by decide +kernel
theorem dX4_write_24 : decode cX4_write 24 = .ok (.iconst 2, 1) := by decide +kernel
theorem dX4_write_25 : decode cX4_write 25 = .ok (.goto 18, 3) := by decide +kernel
theorem dX4_write_28 : decode cX4_write 28 = .ok (.aload_n 0, 1) := by decide +kernel
theorem dX4_write_29 : decode cX4_write 29 = .ok (.iload_n 1, 1) := by decide +kernel
theorem dX4_write_30 : decode cX4_write 30 = .ok (.iload_n 2, 1) := by decide +kernel
theorem dX4_write_31 : decode cX4_write 31 = .ok (.invokevirtual 90, 3) := by decide +kernel
theorem dX4_write_34 : decode cX4_write 34 = .ok (.iconst (-1), 1) := by decide +kernel
theorem dX4_write_35 : decode cX4_write 35 = .ok (.if_icmp .ne 7, 3) := by decide +kernel
theorem dX4_write_38 : decode cX4_write 38 = .ok (.iconst 3, 1) := by decide +kernel
theorem dX4_write_39 : decode cX4_write 39 = .ok (.goto 4, 3) := by decide +kernel
theorem dX4_write_42 : decode cX4_write 42 = .ok (.iconst 0, 1) := by decide +kernel
theorem dX4_write_43 : decode cX4_write 43 = .ok (.putfield 34, 3) := by decide +kernel
theorem dX4_write_46 : decode cX4_write 46 = .ok (.aload_n 0, 1) := by decide +kernel
theorem dX4_write_47 : decode cX4_write 47 = .ok (.getfield 34, 3) := by decide +kernel
theorem dX4_write_50 : decode cX4_write 50 = .ok (.ifCond .le 5, 3) := by decide +kernel
theorem dX4_write_53 : decode cX4_write 53 = .ok (.iconst 0, 1) := by decide +kernel
theorem dX4_write_54 : decode cX4_write 54 = .ok (.ireturn, 1) := by decide +kernel
theorem dX4_write_55 : decode cX4_write 55 = .ok (.aload_n 0, 1) := by decide +kernel
theorem dX4_write_56 : decode cX4_write 56 = .ok (.invokevirtual 176, 3) := by decide +kernel
theorem dX4_write_59 : decode cX4_write 59 = .ok (.aload_n 0, 1) := by decide +kernel
theorem dX4_write_60 : decode cX4_write 60 = .ok (.iload_n 1, 1) := by decide +kernel
theorem dX4_write_61 : decode cX4_write 61 = .ok (.iload_n 2, 1) := by decide +kernel
theorem dX4_write_62 : decode cX4_write 62 = .ok (.iload_n 3, 1) := by decide +kernel
theorem dX4_write_63 : decode cX4_write 63 = .ok (.invokevirtual 179, 3) := by decide +kernel
theorem dX4_write_66 : decode cX4_write 66 = .ok (.ireturn, 1) := by decide +kernel
theorem dX4_fork_0 : decode cX4_fork 0 = .ok (.aload_n 0, 1) := by decide +kernel
theorem dX4_fork_1 : decode cX4_fork 1 = .ok (.aload_n 0, 1) := by decide +kernel
theorem dX4_fork_2 : decode cX4_fork 2 = .ok (.iload_n 1, 1) := by decide +kernel
theorem dX4_fork_3 : decode cX4_fork 3 = .ok (.invokevirtual 183, 3) := by decide +kernel
theorem dX4_fork_6 : decode cX4_fork 6 = .ok (.putfield 34, 3) := by decide +kernel
theorem dX4_fork_9 : decode cX4_fork 9 = .ok (.aload_n 0, 1) := by decide +kernel
theorem dX4_fork_10 : decode cX4_fork 10 = .ok (.getfield 34, 3) := by decide +kernel
theorem dX4_fork_13 : decode cX4_fork 13 = .ok (.ifCond .le 5, 3) := by decide +kernel
theorem dX4_fork_16 : decode cX4_fork 16 = .ok (.iconst 0, 1) := by decide +kernel
theorem dX4_fork_17 : decode cX4_fork 17 = .ok (.ireturn, 1) := by decide +kernel
theorem dX4_fork_18 : decode cX4_fork 18 = .ok (.aload_n 0, 1) := by decide +kernel
theorem dX4_fork_19 : decode cX4_fork 19 = .ok (.invokevirtual 176, 3) := by decide +kernel
theorem dX4_fork_22 : decode cX4_fork 22 = .ok (.aload_n 0, 1) := by decide +kernel
theorem dX4_fork_23 : decode cX4_fork 23 = .ok (.iload_n 1, 1) := by decide +kernel
theorem dX4_fork_24 : decode cX4_fork 24 = .ok (.invokevirtual 186, 3) := by decide +kernel
theorem dX4_fork_27 : decode cX4_fork 27 = .ok (.ireturn, 1) := by decide +kernel
theorem dX4_exit_0 : decode cX4_exit 0 = .ok (.aload_n 0, 1) := by decide +kernel
theorem dX4_exit_1 : decode cX4_exit 1 = .ok (.aload_n 0, 1) := by decide +kernel
theorem dX4_exit_2 : decode cX4_exit 2 = .ok (.iload_n 1, 1) := by decide +kernel
theorem dX4_exit_3 : decode cX4_exit 3 = .ok (.invokevirtual 189, 3) := by decide +kernel
theorem dX4_exit_6 : decode cX4_exit 6 = .ok (.putfield 34, 3) := by decide +kernel
theorem dX4_exit_9 : decode cX4_exit 9 = .ok (.aload_n 0, 1) := by decide +kernel
theorem dX4_exit_10 : decode cX4_exit 10 = .ok (.getfield 34, 3) := by decide +kernel
theorem dX4_exit_13 : decode cX4_exit 13 = .ok (.ifCond .le 5, 3) := by decide +kernel
theorem dX4_exit_16 : decode cX4_exit 16 = .ok (.iconst 0, 1) := by decide +kernel
theorem dX4_exit_17 : decode cX4_exit 17 = .ok (.ireturn, 1) := by decide +kernel
theorem dX4_exit_18 : decode cX4_exit 18 = .ok (.aload_n 0, 1) := by decide +kernel
theorem dX4_exit_19 : decode cX4_exit 19 = .ok (.invokevirtual 176, 3) := by decide +kernel
theorem dX4_exit_22 : decode cX4_exit 22 = .ok (.aload_n 0, 1) := by decide +kernel
theorem dX4_exit_23 : decode cX4_exit 23 = .ok (.iload_n 1, 1) := by decide +kernel
theorem dX4_exit_24 : decode cX4_exit 24 = .ok (.invokevirtual 192, 3) := by decide +kernel
theorem dX4_exit_27 : decode cX4_exit 27 = .ok (.ireturn, 1) := by decide +kernel
theorem dX4_marry_0 : decode cX4_marry 0 = .ok (.aload_n 0, 1) := by decide +kernel
theorem dX4_marry_1 : decode cX4_marry 1 = .ok (.aload_n 0, 1) := by decide +kernel
theorem dX4_marry_2 : decode cX4_marry 2 = .ok (.iload_n 1, 1) := by decide +kernel
theorem dX4_marry_3 : decode cX4_marry 3 = .ok (.iload_n 2, 1) := by decide +kernel
theorem dX4_marry_4 : decode cX4_marry 4 = .ok (.invokevirtual 169, 3) := by decide +kernel
theorem dX4_marry_7 : decode cX4_marry 7 = .ok (.ifCond .ne 7, 3) := by decide +kernel
theorem dX4_marry_10 : decode cX4_marry 10 = .ok (.iconst 1, 1) := by decide +kernel
theorem dX4_marry_11 : decode cX4_marry 11 = .ok (.goto 17, 3) := by decide +kernel
theorem dX4_marry_14 : decode cX4_marry 14 = .ok (.aload_n 0, 1) := by decide +kernel
theorem dX4_marry_15 : decode cX4_marry 15 = .ok (.iload_n 1, 1) := by decide +kernel
theorem dX4_marry_16 : decode cX4_marry 16 = .ok (.iload_n 2, 1) := by decide +kernel
theorem dX4_marry_17 : decode cX4_marry 17 = .ok (.invokevirtual 195, 3) := by decide +kernel
theorem dX4_marry_20 : decode cX4_marry 20 = .ok (.ifCond .le 7, 3) := by decide +kernel
theorem dX4_marry_23 : decode cX4_marry 23 = .ok (.iconst 2, 1) := by decide +kernel
theorem dX4_marry_24 : decode cX4_marry 24 = .ok (.goto 4, 3) := by decide +kernel
theorem dX4_marry_27 : decode cX4_marry 27 = .ok (.iconst 0, 1) := by decide +kernel
theorem dX4_marry_28 : decode cX4_marry 28 = .ok (.putfield 34, 3) := by decide +kernel
theorem dX4_marry_31 : decode cX4_marry 31 = .ok (.aload_n 0, 1) := by decide +kernel
theorem dX4_marry_32 : decode cX4_marry 32 = .ok (.getfield 34, 3) := by decide +kernel
theorem dX4_marry_35 : decode cX4_marry 35 = .ok (.ifCond .le 5, 3) := by decide +kernel
theorem dX4_marry_38 : decode cX4_marry 38 = .ok (.iconst 0, 1) := by decide +kernel
theorem dX4_marry_39 : decode cX4_marry 39 = .ok (.ireturn, 1) := by decide +kernel
theorem dX4_marry_40 : decode cX4_marry 40 = .ok (.aload_n 0, 1) := by decide +kernel
theorem dX4_marry_41 : decode cX4_marry 41 = .ok (.invokevirtual 176, 3) := by decide +kernel
theorem dX4_marry_44 : decode cX4_marry 44 = .ok (.aload_n 0, 1) := by decide +kernel
theorem dX4_marry_45 : decode cX4_marry 45 = .ok (.iload_n 1, 1) := by decide +kernel
theorem dX4_marry_46 : decode cX4_marry 46 = .ok (.iload_n 2, 1) := by decide +kernel
theorem dX4_marry_47 : decode cX4_marry 47 = .ok (.invokevirtual 198, 3) := by decide +kernel
theorem dX4_marry_50 : decode cX4_marry 50 = .ok (.ireturn, 1) := by decide +kernel
theorem dX4_tear_0 : decode cX4_tear 0 = .ok (.aload_n 0, 1) := by decide +kernel
theorem dX4_tear_1 : decode cX4_tear 1 = .ok (.aload_n 0, 1) := by decide +kernel
theorem dX4_tear_2 : decode cX4_tear 2 = .ok (.iload_n 1, 1) := by decide +kernel
theorem dX4_tear_3 : decode cX4_tear 3 = .ok (.iload_n 2, 1) := by decide +kernel
theorem dX4_tear_4 : decode cX4_tear 4 = .ok (.invokevirtual 169, 3) := by decide +kernel
theorem dX4_tear_7 : decode cX4_tear 7 = .ok (.ifCond .ne 7, 3) := by decide +kernel
theorem dX4_tear_10 : decode cX4_tear 10 = .ok (.iconst 1, 1) := by decide +kernel
theorem dX4_tear_11 : decode cX4_tear 11 = .ok (.goto 17, 3) := by decide +kernel
theorem dX4_tear_14 : decode cX4_tear 14 = .ok (.aload_n 0, 1) := by decide +kernel
theorem dX4_tear_15 : decode cX4_tear 15 = .ok (.iload_n 1, 1) := by decide +kernel
theorem dX4_tear_16 : decode cX4_tear 16 = .ok (.iload_n 2, 1) := by decide +kernel
theorem dX4_tear_17 : decode cX4_tear 17 = .ok (.invokevirtual 60, 3) := by decide +kernel
theorem dX4_tear_20 : decode cX4_tear 20 = .ok (.ifCond .eq 7, 3) := by decide +kernel
theorem dX4_tear_23 : decode cX4_tear 23 = .ok (.iconst 0, 1) := by decide +kernel
theorem dX4_tear_24 : decode cX4_tear 24 = .ok (.goto 4, 3) := by decide +kernel
theorem dX4_tear_27 : decode cX4_tear 27 = .ok (.iconst 2, 1) := by decide +kernel
theorem dX4_tear_28 : decode cX4_tear 28 = .ok (.putfield 34, 3) := by decide +kernel
theorem dX4_tear_31 : decode cX4_tear 31 = .ok (.aload_n 0, 1) := by decide +kernel
theorem dX4_tear_32 : decode cX4_tear 32 = .ok (.getfield 34, 3) := by decide +kernel
theorem dX4_tear_35 : decode cX4_tear 35 = .ok (.ifCond .le 5, 3) := by decide +kernel
theorem dX4_tear_38 : decode cX4_tear 38 = .ok (.iconst 0, 1) := by decide +kernel
theorem dX4_tear_39 : decode cX4_tear 39 = .ok (.ireturn, 1) := by decide +kernel
theorem dX4_tear_40 : decode cX4_tear 40 = .ok (.aload_n 0, 1) := by decide +kernel
theorem dX4_tear_41 : decode cX4_tear 41 = .ok (.invokevirtual 176, 3) := by decide +kernel
theorem dX4_tear_44 : decode cX4_tear 44 = .ok (.aload_n 0, 1) := by decide +kernel
theorem dX4_tear_45 : decode cX4_tear 45 = .ok (.iload_n 1, 1) := by decide +kernel
theorem dX4_tear_46 : decode cX4_tear 46 = .ok (.iload_n 2, 1) := by decide +kernel
theorem dX4_tear_47 : decode cX4_tear 47 = .ok (.invokevirtual 121, 3) := by decide +kernel
theorem dX4_tear_50 : decode cX4_tear 50 = .ok (.ireturn, 1) := by decide +kernel
theorem dX4_press_0 : decode cX4_press 0 = .ok (.aload_n 0, 1) := by decide +kernel
theorem dX4_press_1 : decode cX4_press 1 = .ok (.iload_n 1, 1) := by decide +kernel
theorem dX4_press_2 : decode cX4_press 2 = .ok (.iconst 1, 1) := by decide +kernel
theorem dX4_press_3 : decode cX4_press 3 = .ok (.bipush 32, 2) := by decide +kernel
theorem dX4_press_5 : decode cX4_press 5 = .ok (.invokestatic 38, 3) := by decide +kernel
theorem dX4_press_8 : decode cX4_press 8 = .ok (.ifCond .eq 7, 3) := by decide +kernel
theorem dX4_press_11 : decode cX4_press 11 = .ok (.iconst 0, 1) := by decide +kernel
theorem dX4_press_12 : decode cX4_press 12 = .ok (.goto 4, 3) := by decide +kernel
theorem dX4_press_15 : decode cX4_press 15 = .ok (.iconst 1, 1) := by decide +kernel
theorem dX4_press_16 : decode cX4_press 16 = .ok (.putfield 34, 3) := by decide +kernel
theorem dX4_press_19 : decode cX4_press 19 = .ok (.aload_n 0, 1) := by decide +kernel
theorem dX4_press_20 : decode cX4_press 20 = .ok (.getfield 34, 3) := by decide +kernel
theorem dX4_press_23 : decode cX4_press 23 = .ok (.ifCond .le 5, 3) := by decide +kernel
theorem dX4_press_26 : decode cX4_press 26 = .ok (.iconst 0, 1) := by decide +kernel
theorem dX4_press_27 : decode cX4_press 27 = .ok (.ireturn, 1) := by decide +kernel
theorem dX4_press_28 : decode cX4_press 28 = .ok (.aload_n 0, 1) := by decide +kernel
theorem dX4_press_29 : decode cX4_press 29 = .ok (.invokevirtual 176, 3) := by decide +kernel
theorem dX4_press_32 : decode cX4_press 32 = .ok (.aload_n 0, 1) := by decide +kernel
theorem dX4_press_33 : decode cX4_press 33 = .ok (.iload_n 1, 1) := by decide +kernel
theorem dX4_press_34 : decode cX4_press 34 = .ok (.invokevirtual 201, 3) := by decide +kernel
theorem dX4_press_37 : decode cX4_press 37 = .ok (.ireturn, 1) := by decide +kernel
theorem dX4_setEager_0 : decode cX4_setEager 0 = .ok (.aload_n 0, 1) := by decide +kernel
theorem dX4_setEager_1 : decode cX4_setEager 1 = .ok (.iconst 0, 1) := by decide +kernel
theorem dX4_setEager_2 : decode cX4_setEager 2 = .ok (.putfield 34, 3) := by decide +kernel
theorem dX4_setEager_5 : decode cX4_setEager 5 = .ok (.aload_n 0, 1) := by decide +kernel
theorem dX4_setEager_6 : decode cX4_setEager 6 = .ok (.invokevirtual 176, 3) := by decide +kernel
theorem dX4_setEager_9 : decode cX4_setEager 9 = .ok (.aload_n 0, 1) := by decide +kernel
theorem dX4_setEager_10 : decode cX4_setEager 10 = .ok (.getfield 7, 3) := by decide +kernel
theorem dX4_setEager_13 : decode cX4_setEager 13 = .ok (.bipush 120, 2) := by decide +kernel
theorem dX4_setEager_15 : decode cX4_setEager 15 = .ok (.iload_n 1, 1) := by decide +kernel
theorem dX4_setEager_16 : decode cX4_setEager 16 = .ok (.ifCond .eq 7, 3) := by decide +kernel
theorem dX4_setEager_19 : decode cX4_setEager 19 = .ok (.iconst 1, 1) := by decide +kernel
theorem dX4_setEager_20 : decode cX4_setEager 20 = .ok (.goto 4, 3) := by decide +kernel
theorem dX4_setEager_23 : decode cX4_setEager 23 = .ok (.iconst 0, 1) := by decide +kernel
theorem dX4_setEager_24 : decode cX4_setEager 24 = .ok (.iastore, 1) := by decide +kernel
theorem dX4_setEager_25 : decode cX4_setEager 25 = .ok (.aload_n 0, 1) := by decide +kernel
theorem dX4_setEager_26 : decode cX4_setEager 26 = .ok (.invokevirtual 163, 3) := by decide +kernel
theorem dX4_setEager_29 : decode cX4_setEager 29 = .ok (.ireturn, 1) := by decide +kernel
theorem dX4_undo_0 : decode cX4_undo 0 = .ok (.aload_n 0, 1) := by decide +kernel
theorem dX4_undo_1 : decode cX4_undo 1 = .ok (.aload_n 0, 1) := by decide +kernel
theorem dX4_undo_2 : decode cX4_undo 2 = .ok (.getfield 154, 3) := by decide +kernel
theorem dX4_undo_5 : decode cX4_undo 5 = .ok (.ifCond .le 7, 3) := by decide +kernel
theorem dX4_undo_8 : decode cX4_undo 8 = .ok (.iconst 0, 1) := by decide +kernel
theorem dX4_undo_9 : decode cX4_undo 9 = .ok (.goto 4, 3) := by decide +kernel
theorem dX4_undo_12 : decode cX4_undo 12 = .ok (.iconst 1, 1) := by decide +kernel
theorem dX4_undo_13 : decode cX4_undo 13 = .ok (.putfield 34, 3) := by decide +kernel
theorem dX4_undo_16 : decode cX4_undo 16 = .ok (.aload_n 0, 1) := by decide +kernel
theorem dX4_undo_17 : decode cX4_undo 17 = .ok (.getfield 34, 3) := by decide +kernel
theorem dX4_undo_20 : decode cX4_undo 20 = .ok (.ifCond .le 5, 3) := by decide +kernel
theorem dX4_undo_23 : decode cX4_undo 23 = .ok (.iconst 0, 1) := by decide +kernel
theorem dX4_undo_24 : decode cX4_undo 24 = .ok (.ireturn, 1) := by decide +kernel
theorem dX4_undo_25 : decode cX4_undo 25 = .ok (.aload_n 0, 1) := by decide +kernel
theorem dX4_undo_26 : decode cX4_undo 26 = .ok (.dup, 1) := by decide +kernel
theorem dX4_undo_27 : decode cX4_undo 27 = .ok (.getfield 154, 3) := by decide +kernel
theorem dX4_undo_30 : decode cX4_undo 30 = .ok (.iconst 1, 1) := by decide +kernel
theorem dX4_undo_31 : decode cX4_undo 31 = .ok (.isub, 1) := by decide +kernel
theorem dX4_undo_32 : decode cX4_undo 32 = .ok (.putfield 154, 3) := by decide +kernel
theorem dX4_undo_35 : decode cX4_undo 35 = .ok (.aload_n 0, 1) := by decide +kernel
theorem dX4_undo_36 : decode cX4_undo 36 = .ok (.getfield 19, 3) := by decide +kernel
theorem dX4_undo_39 : decode cX4_undo 39 = .ok (.aload_n 0, 1) := by decide +kernel
theorem dX4_undo_40 : decode cX4_undo 40 = .ok (.getfield 154, 3) := by decide +kernel
theorem dX4_undo_43 : decode cX4_undo 43 = .ok (.bipush 121, 2) := by decide +kernel
theorem dX4_undo_45 : decode cX4_undo 45 = .ok (.imul, 1) := by decide +kernel
theorem dX4_undo_46 : decode cX4_undo 46 = .ok (.aload_n 0, 1) := by decide +kernel
theorem dX4_undo_47 : decode cX4_undo 47 = .ok (.getfield 7, 3) := by decide +kernel
theorem dX4_undo_50 : decode cX4_undo 50 = .ok (.iconst 0, 1) := by decide +kernel
theorem dX4_undo_51 : decode cX4_undo 51 = .ok (.invokestatic 172, 3) := by decide +kernel
theorem dX4_undo_54 : decode cX4_undo 54 = .ok (.aload_n 0, 1) := by decide +kernel
theorem dX4_undo_55 : decode cX4_undo 55 = .ok (.getfield 154, 3) := by decide +kernel
theorem dX4_undo_58 : decode cX4_undo 58 = .ok (.ireturn, 1) := by decide +kernel
theorem dX4_whyNot_0 : decode cX4_whyNot 0 = .ok (.aload_n 0, 1) := by decide +kernel
theorem dX4_whyNot_1 : decode cX4_whyNot 1 = .ok (.aload_n 0, 1) := by decide +kernel
theorem dX4_whyNot_2 : decode cX4_whyNot 2 = .ok (.iload_n 1, 1) := by decide +kernel
theorem dX4_whyNot_3 : decode cX4_whyNot 3 = .ok (.iload_n 2, 1) := by decide +kernel
theorem dX4_whyNot_4 : decode cX4_whyNot 4 = .ok (.invokevirtual 169, 3) := by decide +kernel
theorem dX4_whyNot_7 : decode cX4_whyNot 7 = .ok (.ifCond .eq 7, 3) := by decide +kernel
theorem dX4_whyNot_10 : decode cX4_whyNot 10 = .ok (.iconst 0, 1) := by decide +kernel
theorem dX4_whyNot_11 : decode cX4_whyNot 11 = .ok (.goto 4, 3) := by decide +kernel
theorem dX4_whyNot_14 : decode cX4_whyNot 14 = .ok (.iconst 1, 1) := by decide +kernel
theorem dX4_whyNot_15 : decode cX4_whyNot 15 = .ok (.putfield 34, 3) := by decide +kernel
theorem dX4_whyNot_18 : decode cX4_whyNot 18 = .ok (.aload_n 0, 1) := by decide +kernel
theorem dX4_whyNot_19 : decode cX4_whyNot 19 = .ok (.getfield 34, 3) := by decide +kernel
theorem dX4_whyNot_22 : decode cX4_whyNot 22 = .ok (.ifCond .le 7, 3) := by decide +kernel
theorem dX4_whyNot_25 : decode cX4_whyNot 25 = .ok (.iconst 0, 1) := by decide +kernel
theorem dX4_whyNot_26 : decode cX4_whyNot 26 = .ok (.goto 9, 3) := by decide +kernel
theorem dX4_whyNot_29 : decode cX4_whyNot 29 = .ok (.aload_n 0, 1) := by decide +kernel
theorem dX4_whyNot_30 : decode cX4_whyNot 30 = .ok (.iload_n 1, 1) := by decide +kernel
theorem dX4_whyNot_31 : decode cX4_whyNot 31 = .ok (.iload_n 2, 1) := by decide +kernel
theorem dX4_whyNot_32 : decode cX4_whyNot 32 = .ok (.invokevirtual 195, 3) := by decide +kernel
theorem dX4_whyNot_35 : decode cX4_whyNot 35 = .ok (.ireturn, 1) := by decide +kernel
theorem dX4_wouldDo_0 : decode cX4_wouldDo 0 = .ok (.aload_n 0, 1) := by decide +kernel
theorem dX4_wouldDo_1 : decode cX4_wouldDo 1 = .ok (.aload_n 0, 1) := by decide +kernel
theorem dX4_wouldDo_2 : decode cX4_wouldDo 2 = .ok (.iload_n 1, 1) := by decide +kernel
theorem dX4_wouldDo_3 : decode cX4_wouldDo 3 = .ok (.iload_n 2, 1) := by decide +kernel
theorem dX4_wouldDo_4 : decode cX4_wouldDo 4 = .ok (.invokevirtual 166, 3) := by decide +kernel
theorem dX4_wouldDo_7 : decode cX4_wouldDo 7 = .ok (.ifCond .eq 7, 3) := by decide +kernel
theorem dX4_wouldDo_10 : decode cX4_wouldDo 10 = .ok (.iconst 0, 1) := by decide +kernel
theorem dX4_wouldDo_11 : decode cX4_wouldDo 11 = .ok (.goto 4, 3) := by decide +kernel
theorem dX4_wouldDo_14 : decode cX4_wouldDo 14 = .ok (.iconst 1, 1) := by decide +kernel
theorem dX4_wouldDo_15 : decode cX4_wouldDo 15 = .ok (.putfield 34, 3) := by decide +kernel
theorem dX4_wouldDo_18 : decode cX4_wouldDo 18 = .ok (.aload_n 0, 1) := by decide +kernel
theorem dX4_wouldDo_19 : decode cX4_wouldDo 19 = .ok (.getfield 34, 3) := by decide +kernel
theorem dX4_wouldDo_22 : decode cX4_wouldDo 22 = .ok (.ifCond .le 7, 3) := by decide +kernel
theorem dX4_wouldDo_25 : decode cX4_wouldDo 25 = .ok (.iconst 0, 1) := by decide +kernel
theorem dX4_wouldDo_26 : decode cX4_wouldDo 26 = .ok (.goto 9, 3) := by decide +kernel
theorem dX4_wouldDo_29 : decode cX4_wouldDo 29 = .ok (.aload_n 0, 1) := by decide +kernel
theorem dX4_wouldDo_30 : decode cX4_wouldDo 30 = .ok (.iload_n 1, 1) := by decide +kernel
theorem dX4_wouldDo_31 : decode cX4_wouldDo 31 = .ok (.iload_n 2, 1) := by decide +kernel
theorem dX4_wouldDo_32 : decode cX4_wouldDo 32 = .ok (.invokevirtual 90, 3) := by decide +kernel
theorem dX4_wouldDo_35 : decode cX4_wouldDo 35 = .ok (.ireturn, 1) := by decide +kernel
theorem dX4_firstToMarry_0 : decode cX4_firstToMarry 0 = .ok (.iconst (-1), 1) := by decide +kernel
theorem dX4_firstToMarry_1 : decode cX4_firstToMarry 1 = .ok (.istore_n 2, 1) := by decide +kernel
theorem dX4_firstToMarry_2 : decode cX4_firstToMarry 2 = .ok (.bipush 15, 2) := by decide +kernel
theorem dX4_firstToMarry_4 : decode cX4_firstToMarry 4 = .ok (.istore_n 3, 1) := by decide +kernel
theorem dX4_firstToMarry_5 : decode cX4_firstToMarry 5 = .ok (.iload_n 3, 1) := by decide +kernel
theorem dX4_firstToMarry_6 : decode cX4_firstToMarry 6 = .ok (.ifCond .lt 57, 3) := by decide +kernel
theorem dX4_firstToMarry_9 : decode cX4_firstToMarry 9 = .ok (.iload_n 3, 1) := by decide +kernel
theorem dX4_firstToMarry_10 : decode cX4_firstToMarry 10 = .ok (.iconst 4, 1) := by decide +kernel
theorem dX4_firstToMarry_11 : decode cX4_firstToMarry 11 = .ok (.idiv, 1) := by decide +kernel
theorem dX4_firstToMarry_12 : decode cX4_firstToMarry 12 = .ok (.istore 4, 2) := by decide +kernel
theorem dX4_firstToMarry_14 : decode cX4_firstToMarry 14 = .ok (.iload_n 3, 1) := by decide +kernel
theorem dX4_firstToMarry_15 : decode cX4_firstToMarry 15 = .ok (.iconst 4, 1) := by decide +kernel
theorem dX4_firstToMarry_16 : decode cX4_firstToMarry 16 = .ok (.irem, 1) := by decide +kernel
theorem dX4_firstToMarry_17 : decode cX4_firstToMarry 17 = .ok (.istore 5, 2) := by decide +kernel
theorem dX4_firstToMarry_19 : decode cX4_firstToMarry 19 = .ok (.aload_n 0, 1) := by decide +kernel
theorem dX4_firstToMarry_20 : decode cX4_firstToMarry 20 = .ok (.iload 4, 2) := by decide +kernel
theorem dX4_firstToMarry_22 : decode cX4_firstToMarry 22 = .ok (.invokevirtual 42, 3) := by decide +kernel
theorem dX4_firstToMarry_25 : decode cX4_firstToMarry 25 = .ok (.ifCond .eq 30, 3) := by decide +kernel
theorem dX4_firstToMarry_28 : decode cX4_firstToMarry 28 = .ok (.aload_n 0, 1) := by decide +kernel
theorem dX4_firstToMarry_29 : decode cX4_firstToMarry 29 = .ok (.iload 4, 2) := by decide +kernel
theorem dX4_firstToMarry_31 : decode cX4_firstToMarry 31 = .ok (.iload 5, 2) := by decide +kernel
theorem dX4_firstToMarry_33 : decode cX4_firstToMarry 33 = .ok (.invokevirtual 195, 3) := by decide +kernel
theorem dX4_firstToMarry_36 : decode cX4_firstToMarry 36 = .ok (.ifCond .ne 19, 3) := by decide +kernel
theorem dX4_firstToMarry_39 : decode cX4_firstToMarry 39 = .ok (.aload_n 0, 1) := by decide +kernel
theorem dX4_firstToMarry_40 : decode cX4_firstToMarry 40 = .ok (.iload 4, 2) := by decide +kernel
theorem dX4_firstToMarry_42 : decode cX4_firstToMarry 42 = .ok (.iload 5, 2) := by decide +kernel
theorem dX4_firstToMarry_44 : decode cX4_firstToMarry 44 = .ok (.invokevirtual 106, 3) := by decide +kernel
theorem dX4_firstToMarry_47 : decode cX4_firstToMarry 47 = .ok (.iload_n 1, 1) := by decide +kernel
theorem dX4_firstToMarry_48 : decode cX4_firstToMarry 48 = .ok (.if_icmp .ne 7, 3) := by decide +kernel
theorem dX4_firstToMarry_51 : decode cX4_firstToMarry 51 = .ok (.iload_n 3, 1) := by decide +kernel
theorem dX4_firstToMarry_52 : decode cX4_firstToMarry 52 = .ok (.goto 4, 3) := by decide +kernel
theorem dX4_firstToMarry_55 : decode cX4_firstToMarry 55 = .ok (.iload_n 2, 1) := by decide +kernel
theorem dX4_firstToMarry_56 : decode cX4_firstToMarry 56 = .ok (.istore_n 2, 1) := by decide +kernel
theorem dX4_firstToMarry_57 : decode cX4_firstToMarry 57 = .ok (.iinc 3 (-1), 3) := by decide +kernel
theorem dX4_firstToMarry_60 : decode cX4_firstToMarry 60 = .ok (.goto (-55), 3) := by decide +kernel
theorem dX4_firstToMarry_63 : decode cX4_firstToMarry 63 = .ok (.iload_n 2, 1) := by decide +kernel
theorem dX4_firstToMarry_64 : decode cX4_firstToMarry 64 = .ok (.ireturn, 1) := by decide +kernel
theorem dX4_marriages_0 : decode cX4_marriages 0 = .ok (.aload_n 0, 1) := by decide +kernel
theorem dX4_marriages_1 : decode cX4_marriages 1 = .ok (.iconst 0, 1) := by decide +kernel
theorem dX4_marriages_2 : decode cX4_marriages 2 = .ok (.putfield 34, 3) := by decide +kernel
theorem dX4_marriages_5 : decode cX4_marriages 5 = .ok (.aload_n 0, 1) := by decide +kernel
theorem dX4_marriages_6 : decode cX4_marriages 6 = .ok (.getfield 7, 3) := by decide +kernel
theorem dX4_marriages_9 : decode cX4_marriages 9 = .ok (.iconst 0, 1) := by decide +kernel
theorem dX4_marriages_10 : decode cX4_marriages 10 = .ok (.aload_n 0, 1) := by decide +kernel
theorem dX4_marriages_11 : decode cX4_marriages 11 = .ok (.getfield 13, 3) := by decide +kernel
theorem dX4_marriages_14 : decode cX4_marriages 14 = .ok (.iconst 0, 1) := by decide +kernel
theorem dX4_marriages_15 : decode cX4_marriages 15 = .ok (.invokestatic 172, 3) := by decide +kernel
theorem dX4_marriages_18 : decode cX4_marriages 18 = .ok (.iconst 0, 1) := by decide +kernel
theorem dX4_marriages_19 : decode cX4_marriages 19 = .ok (.istore_n 1, 1) := by decide +kernel
theorem dX4_marriages_20 : decode cX4_marriages 20 = .ok (.iconst 0, 1) := by decide +kernel
theorem dX4_marriages_21 : decode cX4_marriages 21 = .ok (.istore_n 2, 1) := by decide +kernel
theorem dX4_marriages_22 : decode cX4_marriages 22 = .ok (.iload_n 2, 1) := by decide +kernel
theorem dX4_marriages_23 : decode cX4_marriages 23 = .ok (.iconst (-1), 1) := by decide +kernel
theorem dX4_marriages_24 : decode cX4_marriages 24 = .ok (.if_icmp .eq 46, 3) := by decide +kernel
theorem dX4_marriages_27 : decode cX4_marriages 27 = .ok (.aload_n 0, 1) := by decide +kernel
theorem dX4_marriages_28 : decode cX4_marriages 28 = .ok (.iconst 1, 1) := by decide +kernel
theorem dX4_marriages_29 : decode cX4_marriages 29 = .ok (.invokevirtual 204, 3) := by decide +kernel
theorem dX4_marriages_32 : decode cX4_marriages 32 = .ok (.istore_n 2, 1) := by decide +kernel
theorem dX4_marriages_33 : decode cX4_marriages 33 = .ok (.iload_n 2, 1) := by decide +kernel
theorem dX4_marriages_34 : decode cX4_marriages 34 = .ok (.iconst (-1), 1) := by decide +kernel
theorem dX4_marriages_35 : decode cX4_marriages 35 = .ok (.if_icmp .ne 11, 3) := by decide +kernel
theorem dX4_marriages_38 : decode cX4_marriages 38 = .ok (.aload_n 0, 1) := by decide +kernel
theorem dX4_marriages_39 : decode cX4_marriages 39 = .ok (.iconst 0, 1) := by decide +kernel
theorem dX4_marriages_40 : decode cX4_marriages 40 = .ok (.invokevirtual 204, 3) := by decide +kernel
theorem dX4_marriages_43 : decode cX4_marriages 43 = .ok (.goto 4, 3) := by decide +kernel
theorem dX4_marriages_46 : decode cX4_marriages 46 = .ok (.iload_n 2, 1) := by decide +kernel
theorem dX4_marriages_47 : decode cX4_marriages 47 = .ok (.istore_n 2, 1) := by decide +kernel
theorem dX4_marriages_48 : decode cX4_marriages 48 = .ok (.iload_n 2, 1) := by decide +kernel
theorem dX4_marriages_49 : decode cX4_marriages 49 = .ok (.iconst (-1), 1) := by decide +kernel
theorem dX4_marriages_50 : decode cX4_marriages 50 = .ok (.if_icmp .eq (-28), 3) := by decide +kernel
theorem dX4_marriages_53 : decode cX4_marriages 53 = .ok (.aload_n 0, 1) := by decide +kernel
theorem dX4_marriages_54 : decode cX4_marriages 54 = .ok (.iload_n 2, 1) := by decide +kernel
theorem dX4_marriages_55 : decode cX4_marriages 55 = .ok (.iconst 4, 1) := by decide +kernel
theorem dX4_marriages_56 : decode cX4_marriages 56 = .ok (.idiv, 1) := by decide +kernel
theorem dX4_marriages_57 : decode cX4_marriages 57 = .ok (.iload_n 2, 1) := by decide +kernel
theorem dX4_marriages_58 : decode cX4_marriages 58 = .ok (.iconst 4, 1) := by decide +kernel
theorem dX4_marriages_59 : decode cX4_marriages 59 = .ok (.irem, 1) := by decide +kernel
theorem dX4_marriages_60 : decode cX4_marriages 60 = .ok (.invokevirtual 198, 3) := by decide +kernel
theorem dX4_marriages_63 : decode cX4_marriages 63 = .ok (.pop, 1) := by decide +kernel
theorem dX4_marriages_64 : decode cX4_marriages 64 = .ok (.iinc 1 1, 3) := by decide +kernel
theorem dX4_marriages_67 : decode cX4_marriages 67 = .ok (.goto (-45), 3) := by decide +kernel
theorem dX4_marriages_70 : decode cX4_marriages 70 = .ok (.aload_n 0, 1) := by decide +kernel
theorem dX4_marriages_71 : decode cX4_marriages 71 = .ok (.getfield 13, 3) := by decide +kernel
theorem dX4_marriages_74 : decode cX4_marriages 74 = .ok (.iconst 0, 1) := by decide +kernel
theorem dX4_marriages_75 : decode cX4_marriages 75 = .ok (.aload_n 0, 1) := by decide +kernel
theorem dX4_marriages_76 : decode cX4_marriages 76 = .ok (.getfield 7, 3) := by decide +kernel
theorem dX4_marriages_79 : decode cX4_marriages 79 = .ok (.iconst 0, 1) := by decide +kernel
theorem dX4_marriages_80 : decode cX4_marriages 80 = .ok (.invokestatic 172, 3) := by decide +kernel
theorem dX4_marriages_83 : decode cX4_marriages 83 = .ok (.iload_n 1, 1) := by decide +kernel
theorem dX4_marriages_84 : decode cX4_marriages 84 = .ok (.ireturn, 1) := by decide +kernel
theorem dX4_mostFree_0 : decode cX4_mostFree 0 = .ok (.aload_n 0, 1) := by decide +kernel
theorem dX4_mostFree_1 : decode cX4_mostFree 1 = .ok (.iconst 0, 1) := by decide +kernel
theorem dX4_mostFree_2 : decode cX4_mostFree 2 = .ok (.putfield 34, 3) := by decide +kernel
theorem dX4_mostFree_5 : decode cX4_mostFree 5 = .ok (.aload_n 0, 1) := by decide +kernel
theorem dX4_mostFree_6 : decode cX4_mostFree 6 = .ok (.getfield 7, 3) := by decide +kernel
theorem dX4_mostFree_9 : decode cX4_mostFree 9 = .ok (.iconst 0, 1) := by decide +kernel
theorem dX4_mostFree_10 : decode cX4_mostFree 10 = .ok (.aload_n 0, 1) := by decide +kernel
theorem dX4_mostFree_11 : decode cX4_mostFree 11 = .ok (.getfield 13, 3) := by decide +kernel
theorem dX4_mostFree_14 : decode cX4_mostFree 14 = .ok (.iconst 0, 1) := by decide +kernel
theorem dX4_mostFree_15 : decode cX4_mostFree 15 = .ok (.invokestatic 172, 3) := by decide +kernel
theorem dX4_mostFree_18 : decode cX4_mostFree 18 = .ok (.aload_n 0, 1) := by decide +kernel
theorem dX4_mostFree_19 : decode cX4_mostFree 19 = .ok (.bipush 32, 2) := by decide +kernel
theorem dX4_mostFree_21 : decode cX4_mostFree 21 = .ok (.invokevirtual 201, 3) := by decide +kernel
theorem dX4_mostFree_24 : decode cX4_mostFree 24 = .ok (.istore_n 1, 1) := by decide +kernel
theorem dX4_mostFree_25 : decode cX4_mostFree 25 = .ok (.aload_n 0, 1) := by decide +kernel
theorem dX4_mostFree_26 : decode cX4_mostFree 26 = .ok (.getfield 13, 3) := by decide +kernel
theorem dX4_mostFree_29 : decode cX4_mostFree 29 = .ok (.iconst 0, 1) := by decide +kernel
theorem dX4_mostFree_30 : decode cX4_mostFree 30 = .ok (.aload_n 0, 1) := by decide +kernel
theorem dX4_mostFree_31 : decode cX4_mostFree 31 = .ok (.getfield 7, 3) := by decide +kernel
theorem dX4_mostFree_34 : decode cX4_mostFree 34 = .ok (.iconst 0, 1) := by decide +kernel
theorem dX4_mostFree_35 : decode cX4_mostFree 35 = .ok (.invokestatic 172, 3) := by decide +kernel
theorem dX4_mostFree_38 : decode cX4_mostFree 38 = .ok (.iload_n 1, 1) := by decide +kernel
theorem dX4_mostFree_39 : decode cX4_mostFree 39 = .ok (.ireturn, 1) := by decide +kernel
theorem dX4_writable_0 : decode cX4_writable 0 = .ok (.aload_n 0, 1) := by decide +kernel
theorem dX4_writable_1 : decode cX4_writable 1 = .ok (.aload_n 0, 1) := by decide +kernel
theorem dX4_writable_2 : decode cX4_writable 2 = .ok (.iload_n 1, 1) := by decide +kernel
theorem dX4_writable_3 : decode cX4_writable 3 = .ok (.invokevirtual 42, 3) := by decide +kernel
theorem dX4_writable_6 : decode cX4_writable 6 = .ok (.ifCond .eq 7, 3) := by decide +kernel
theorem dX4_writable_9 : decode cX4_writable 9 = .ok (.iconst 0, 1) := by decide +kernel
theorem dX4_writable_10 : decode cX4_writable 10 = .ok (.goto 4, 3) := by decide +kernel
theorem dX4_writable_13 : decode cX4_writable 13 = .ok (.iconst 1, 1) := by decide +kernel
theorem dX4_writable_14 : decode cX4_writable 14 = .ok (.putfield 34, 3) := by decide +kernel
theorem dX4_writable_17 : decode cX4_writable 17 = .ok (.aload_n 0, 1) := by decide +kernel
theorem dX4_writable_18 : decode cX4_writable 18 = .ok (.getfield 34, 3) := by decide +kernel
theorem dX4_writable_21 : decode cX4_writable 21 = .ok (.ifCond .le 5, 3) := by decide +kernel
theorem dX4_writable_24 : decode cX4_writable 24 = .ok (.iconst 0, 1) := by decide +kernel
theorem dX4_writable_25 : decode cX4_writable 25 = .ok (.ireturn, 1) := by decide +kernel
theorem dX4_writable_26 : decode cX4_writable 26 = .ok (.aload_n 0, 1) := by decide +kernel
theorem dX4_writable_27 : decode cX4_writable 27 = .ok (.getfield 7, 3) := by decide +kernel
theorem dX4_writable_30 : decode cX4_writable 30 = .ok (.iconst 0, 1) := by decide +kernel
theorem dX4_writable_31 : decode cX4_writable 31 = .ok (.aload_n 0, 1) := by decide +kernel
theorem dX4_writable_32 : decode cX4_writable 32 = .ok (.getfield 13, 3) := by decide +kernel
theorem dX4_writable_35 : decode cX4_writable 35 = .ok (.iconst 0, 1) := by decide +kernel
theorem dX4_writable_36 : decode cX4_writable 36 = .ok (.invokestatic 172, 3) := by decide +kernel
theorem dX4_writable_39 : decode cX4_writable 39 = .ok (.iconst 0, 1) := by decide +kernel
theorem dX4_writable_40 : decode cX4_writable 40 = .ok (.istore_n 2, 1) := by decide +kernel
theorem dX4_writable_41 : decode cX4_writable 41 = .ok (.iload_n 2, 1) := by decide +kernel
theorem dX4_writable_42 : decode cX4_writable 42 = .ok (.bipush 16, 2) := by decide +kernel
theorem dX4_writable_44 : decode cX4_writable 44 = .ok (.if_icmp .ge 27, 3) := by decide +kernel
theorem dX4_writable_47 : decode cX4_writable 47 = .ok (.aload_n 0, 1) := by decide +kernel
theorem dX4_writable_48 : decode cX4_writable 48 = .ok (.iload_n 1, 1) := by decide +kernel
theorem dX4_writable_49 : decode cX4_writable 49 = .ok (.iload_n 2, 1) := by decide +kernel
theorem dX4_writable_50 : decode cX4_writable 50 = .ok (.invokevirtual 90, 3) := by decide +kernel
theorem dX4_writable_53 : decode cX4_writable 53 = .ok (.iconst (-1), 1) := by decide +kernel
theorem dX4_writable_54 : decode cX4_writable 54 = .ok (.if_icmp .eq 17, 3) := by decide +kernel
theorem dX4_writable_57 : decode cX4_writable 57 = .ok (.aload_n 0, 1) := by decide +kernel
theorem dX4_writable_58 : decode cX4_writable 58 = .ok (.iload_n 1, 1) := by decide +kernel
theorem dX4_writable_59 : decode cX4_writable 59 = .ok (.iload_n 2, 1) := by decide +kernel
theorem dX4_writable_60 : decode cX4_writable 60 = .ok (.iconst 1, 1) := by decide +kernel
theorem dX4_writable_61 : decode cX4_writable 61 = .ok (.invokevirtual 179, 3) := by decide +kernel
theorem dX4_writable_64 : decode cX4_writable 64 = .ok (.pop, 1) := by decide +kernel
theorem dX4_writable_65 : decode cX4_writable 65 = .ok (.iinc 2 1, 3) := by decide +kernel
theorem dX4_writable_68 : decode cX4_writable 68 = .ok (.goto (-27), 3) := by decide +kernel
theorem dX4_writable_71 : decode cX4_writable 71 = .ok (.aload_n 0, 1) := by decide +kernel
theorem dX4_writable_72 : decode cX4_writable 72 = .ok (.getfield 13, 3) := by decide +kernel
theorem dX4_writable_75 : decode cX4_writable 75 = .ok (.iconst 0, 1) := by decide +kernel
theorem dX4_writable_76 : decode cX4_writable 76 = .ok (.aload_n 0, 1) := by decide +kernel
theorem dX4_writable_77 : decode cX4_writable 77 = .ok (.getfield 7, 3) := by decide +kernel
theorem dX4_writable_80 : decode cX4_writable 80 = .ok (.iconst 0, 1) := by decide +kernel
theorem dX4_writable_81 : decode cX4_writable 81 = .ok (.invokestatic 172, 3) := by decide +kernel
theorem dX4_writable_84 : decode cX4_writable 84 = .ok (.iload_n 2, 1) := by decide +kernel
theorem dX4_writable_85 : decode cX4_writable 85 = .ok (.ireturn, 1) := by decide +kernel
theorem dX4_tryWrite_0 : decode cX4_tryWrite 0 = .ok (.aload_n 0, 1) := by decide +kernel
theorem dX4_tryWrite_1 : decode cX4_tryWrite 1 = .ok (.iload_n 1, 1) := by decide +kernel
theorem dX4_tryWrite_2 : decode cX4_tryWrite 2 = .ok (.iload_n 2, 1) := by decide +kernel
theorem dX4_tryWrite_3 : decode cX4_tryWrite 3 = .ok (.invokevirtual 166, 3) := by decide +kernel
theorem dX4_tryWrite_6 : decode cX4_tryWrite 6 = .ok (.ifCond .eq 17, 3) := by decide +kernel
theorem dX4_tryWrite_9 : decode cX4_tryWrite 9 = .ok (.aload_n 0, 1) := by decide +kernel
theorem dX4_tryWrite_10 : decode cX4_tryWrite 10 = .ok (.iload_n 1, 1) := by decide +kernel
theorem dX4_tryWrite_11 : decode cX4_tryWrite 11 = .ok (.iload_n 2, 1) := by decide +kernel
theorem dX4_tryWrite_12 : decode cX4_tryWrite 12 = .ok (.invokevirtual 90, 3) := by decide +kernel
theorem dX4_tryWrite_15 : decode cX4_tryWrite 15 = .ok (.iconst (-1), 1) := by decide +kernel
theorem dX4_tryWrite_16 : decode cX4_tryWrite 16 = .ok (.if_icmp .eq 7, 3) := by decide +kernel
theorem dX4_tryWrite_19 : decode cX4_tryWrite 19 = .ok (.iconst 1, 1) := by decide +kernel
theorem dX4_tryWrite_20 : decode cX4_tryWrite 20 = .ok (.goto 4, 3) := by decide +kernel
theorem dX4_tryWrite_23 : decode cX4_tryWrite 23 = .ok (.iconst 0, 1) := by decide +kernel
theorem dX4_tryWrite_24 : decode cX4_tryWrite 24 = .ok (.istore 4, 2) := by decide +kernel
theorem dX4_tryWrite_26 : decode cX4_tryWrite 26 = .ok (.iload 4, 2) := by decide +kernel
theorem dX4_tryWrite_28 : decode cX4_tryWrite 28 = .ok (.ifCond .eq 11, 3) := by decide +kernel
theorem dX4_tryWrite_31 : decode cX4_tryWrite 31 = .ok (.aload_n 0, 1) := by decide +kernel
theorem dX4_tryWrite_32 : decode cX4_tryWrite 32 = .ok (.iload_n 1, 1) := by decide +kernel
theorem dX4_tryWrite_33 : decode cX4_tryWrite 33 = .ok (.iload_n 2, 1) := by decide +kernel
theorem dX4_tryWrite_34 : decode cX4_tryWrite 34 = .ok (.iload_n 3, 1) := by decide +kernel
theorem dX4_tryWrite_35 : decode cX4_tryWrite 35 = .ok (.invokevirtual 179, 3) := by decide +kernel
theorem dX4_tryWrite_38 : decode cX4_tryWrite 38 = .ok (.pop, 1) := by decide +kernel
theorem dX4_tryWrite_39 : decode cX4_tryWrite 39 = .ok (.iload 4, 2) := by decide +kernel
theorem dX4_tryWrite_41 : decode cX4_tryWrite 41 = .ok (.ireturn, 1) := by decide +kernel
theorem dX4_tryFork_0 : decode cX4_tryFork 0 = .ok (.aload_n 0, 1) := by decide +kernel
theorem dX4_tryFork_1 : decode cX4_tryFork 1 = .ok (.iload_n 1, 1) := by decide +kernel
theorem dX4_tryFork_2 : decode cX4_tryFork 2 = .ok (.invokevirtual 183, 3) := by decide +kernel
theorem dX4_tryFork_5 : decode cX4_tryFork 5 = .ok (.ifCond .ne 7, 3) := by decide +kernel
theorem dX4_tryFork_8 : decode cX4_tryFork 8 = .ok (.iconst 1, 1) := by decide +kernel
theorem dX4_tryFork_9 : decode cX4_tryFork 9 = .ok (.goto 4, 3) := by decide +kernel
theorem dX4_tryFork_12 : decode cX4_tryFork 12 = .ok (.iconst 0, 1) := by decide +kernel
theorem dX4_tryFork_13 : decode cX4_tryFork 13 = .ok (.istore_n 2, 1) := by decide +kernel
theorem dX4_tryFork_14 : decode cX4_tryFork 14 = .ok (.iload_n 2, 1) := by decide +kernel
theorem dX4_tryFork_15 : decode cX4_tryFork 15 = .ok (.ifCond .eq 9, 3) := by decide +kernel
theorem dX4_tryFork_18 : decode cX4_tryFork 18 = .ok (.aload_n 0, 1) := by decide +kernel
theorem dX4_tryFork_19 : decode cX4_tryFork 19 = .ok (.iload_n 1, 1) := by decide +kernel
theorem dX4_tryFork_20 : decode cX4_tryFork 20 = .ok (.invokevirtual 186, 3) := by decide +kernel
theorem dX4_tryFork_23 : decode cX4_tryFork 23 = .ok (.pop, 1) := by decide +kernel
theorem dX4_tryFork_24 : decode cX4_tryFork 24 = .ok (.iload_n 2, 1) := by decide +kernel
theorem dX4_tryFork_25 : decode cX4_tryFork 25 = .ok (.ireturn, 1) := by decide +kernel
theorem dX4_tryExit_0 : decode cX4_tryExit 0 = .ok (.aload_n 0, 1) := by decide +kernel
theorem dX4_tryExit_1 : decode cX4_tryExit 1 = .ok (.iload_n 1, 1) := by decide +kernel
theorem dX4_tryExit_2 : decode cX4_tryExit 2 = .ok (.invokevirtual 189, 3) := by decide +kernel
theorem dX4_tryExit_5 : decode cX4_tryExit 5 = .ok (.ifCond .ne 7, 3) := by decide +kernel
theorem dX4_tryExit_8 : decode cX4_tryExit 8 = .ok (.iconst 1, 1) := by decide +kernel
theorem dX4_tryExit_9 : decode cX4_tryExit 9 = .ok (.goto 4, 3) := by decide +kernel
theorem dX4_tryExit_12 : decode cX4_tryExit 12 = .ok (.iconst 0, 1) := by decide +kernel
theorem dX4_tryExit_13 : decode cX4_tryExit 13 = .ok (.istore_n 2, 1) := by decide +kernel
theorem dX4_tryExit_14 : decode cX4_tryExit 14 = .ok (.iload_n 2, 1) := by decide +kernel
theorem dX4_tryExit_15 : decode cX4_tryExit 15 = .ok (.ifCond .eq 9, 3) := by decide +kernel
theorem dX4_tryExit_18 : decode cX4_tryExit 18 = .ok (.aload_n 0, 1) := by decide +kernel
theorem dX4_tryExit_19 : decode cX4_tryExit 19 = .ok (.iload_n 1, 1) := by decide +kernel
theorem dX4_tryExit_20 : decode cX4_tryExit 20 = .ok (.invokevirtual 192, 3) := by decide +kernel
theorem dX4_tryExit_23 : decode cX4_tryExit 23 = .ok (.pop, 1) := by decide +kernel
theorem dX4_tryExit_24 : decode cX4_tryExit 24 = .ok (.iload_n 2, 1) := by decide +kernel
theorem dX4_tryExit_25 : decode cX4_tryExit 25 = .ok (.ireturn, 1) := by decide +kernel
theorem dX4_tryMarry_0 : decode cX4_tryMarry 0 = .ok (.aload_n 0, 1) := by decide +kernel
theorem dX4_tryMarry_1 : decode cX4_tryMarry 1 = .ok (.iload_n 1, 1) := by decide +kernel
theorem dX4_tryMarry_2 : decode cX4_tryMarry 2 = .ok (.iload_n 2, 1) := by decide +kernel
theorem dX4_tryMarry_3 : decode cX4_tryMarry 3 = .ok (.invokevirtual 169, 3) := by decide +kernel
theorem dX4_tryMarry_6 : decode cX4_tryMarry 6 = .ok (.ifCond .eq 16, 3) := by decide +kernel
theorem dX4_tryMarry_9 : decode cX4_tryMarry 9 = .ok (.aload_n 0, 1) := by decide +kernel
theorem dX4_tryMarry_10 : decode cX4_tryMarry 10 = .ok (.iload_n 1, 1) := by decide +kernel
theorem dX4_tryMarry_11 : decode cX4_tryMarry 11 = .ok (.iload_n 2, 1) := by decide +kernel
theorem dX4_tryMarry_12 : decode cX4_tryMarry 12 = .ok (.invokevirtual 195, 3) := by decide +kernel
theorem dX4_tryMarry_15 : decode cX4_tryMarry 15 = .ok (.ifCond .ne 7, 3) := by decide +kernel
theorem dX4_tryMarry_18 : decode cX4_tryMarry 18 = .ok (.iconst 1, 1) := by decide +kernel
theorem dX4_tryMarry_19 : decode cX4_tryMarry 19 = .ok (.goto 4, 3) := by decide +kernel
theorem dX4_tryMarry_22 : decode cX4_tryMarry 22 = .ok (.iconst 0, 1) := by decide +kernel
theorem dX4_tryMarry_23 : decode cX4_tryMarry 23 = .ok (.istore_n 3, 1) := by decide +kernel
theorem dX4_tryMarry_24 : decode cX4_tryMarry 24 = .ok (.iload_n 3, 1) := by decide +kernel
theorem dX4_tryMarry_25 : decode cX4_tryMarry 25 = .ok (.ifCond .eq 10, 3) := by decide +kernel
theorem dX4_tryMarry_28 : decode cX4_tryMarry 28 = .ok (.aload_n 0, 1) := by decide +kernel
theorem dX4_tryMarry_29 : decode cX4_tryMarry 29 = .ok (.iload_n 1, 1) := by decide +kernel
theorem dX4_tryMarry_30 : decode cX4_tryMarry 30 = .ok (.iload_n 2, 1) := by decide +kernel
theorem dX4_tryMarry_31 : decode cX4_tryMarry 31 = .ok (.invokevirtual 198, 3) := by decide +kernel
theorem dX4_tryMarry_34 : decode cX4_tryMarry 34 = .ok (.pop, 1) := by decide +kernel
theorem dX4_tryMarry_35 : decode cX4_tryMarry 35 = .ok (.iload_n 3, 1) := by decide +kernel
theorem dX4_tryMarry_36 : decode cX4_tryMarry 36 = .ok (.ireturn, 1) := by decide +kernel
theorem dX4_tryTear_0 : decode cX4_tryTear 0 = .ok (.aload_n 0, 1) := by decide +kernel
theorem dX4_tryTear_1 : decode cX4_tryTear 1 = .ok (.iload_n 1, 1) := by decide +kernel
theorem dX4_tryTear_2 : decode cX4_tryTear 2 = .ok (.iload_n 2, 1) := by decide +kernel
theorem dX4_tryTear_3 : decode cX4_tryTear 3 = .ok (.invokevirtual 169, 3) := by decide +kernel
theorem dX4_tryTear_6 : decode cX4_tryTear 6 = .ok (.ifCond .eq 16, 3) := by decide +kernel
theorem dX4_tryTear_9 : decode cX4_tryTear 9 = .ok (.aload_n 0, 1) := by decide +kernel
theorem dX4_tryTear_10 : decode cX4_tryTear 10 = .ok (.iload_n 1, 1) := by decide +kernel
theorem dX4_tryTear_11 : decode cX4_tryTear 11 = .ok (.iload_n 2, 1) := by decide +kernel
theorem dX4_tryTear_12 : decode cX4_tryTear 12 = .ok (.invokevirtual 60, 3) := by decide +kernel
theorem dX4_tryTear_15 : decode cX4_tryTear 15 = .ok (.ifCond .eq 7, 3) := by decide +kernel
theorem dX4_tryTear_18 : decode cX4_tryTear 18 = .ok (.iconst 1, 1) := by decide +kernel
theorem dX4_tryTear_19 : decode cX4_tryTear 19 = .ok (.goto 4, 3) := by decide +kernel
theorem dX4_tryTear_22 : decode cX4_tryTear 22 = .ok (.iconst 0, 1) := by decide +kernel
theorem dX4_tryTear_23 : decode cX4_tryTear 23 = .ok (.istore_n 3, 1) := by decide +kernel
theorem dX4_tryTear_24 : decode cX4_tryTear 24 = .ok (.iload_n 3, 1) := by decide +kernel
theorem dX4_tryTear_25 : decode cX4_tryTear 25 = .ok (.ifCond .eq 10, 3) := by decide +kernel
theorem dX4_tryTear_28 : decode cX4_tryTear 28 = .ok (.aload_n 0, 1) := by decide +kernel
theorem dX4_tryTear_29 : decode cX4_tryTear 29 = .ok (.iload_n 1, 1) := by decide +kernel
theorem dX4_tryTear_30 : decode cX4_tryTear 30 = .ok (.iload_n 2, 1) := by decide +kernel
theorem dX4_tryTear_31 : decode cX4_tryTear 31 = .ok (.invokevirtual 121, 3) := by decide +kernel
theorem dX4_tryTear_34 : decode cX4_tryTear 34 = .ok (.pop, 1) := by decide +kernel
theorem dX4_tryTear_35 : decode cX4_tryTear 35 = .ok (.iload_n 3, 1) := by decide +kernel
theorem dX4_tryTear_36 : decode cX4_tryTear 36 = .ok (.ireturn, 1) := by decide +kernel
theorem dX4_tryPress_0 : decode cX4_tryPress 0 = .ok (.iload_n 1, 1) := by decide +kernel
theorem dX4_tryPress_1 : decode cX4_tryPress 1 = .ok (.iconst 1, 1) := by decide +kernel
theorem dX4_tryPress_2 : decode cX4_tryPress 2 = .ok (.bipush 32, 2) := by decide +kernel
theorem dX4_tryPress_4 : decode cX4_tryPress 4 = .ok (.invokestatic 38, 3) := by decide +kernel
theorem dX4_tryPress_7 : decode cX4_tryPress 7 = .ok (.istore_n 2, 1) := by decide +kernel
theorem dX4_tryPress_8 : decode cX4_tryPress 8 = .ok (.iload_n 2, 1) := by decide +kernel
theorem dX4_tryPress_9 : decode cX4_tryPress 9 = .ok (.ifCond .eq 9, 3) := by decide +kernel
theorem dX4_tryPress_12 : decode cX4_tryPress 12 = .ok (.aload_n 0, 1) := by decide +kernel
theorem dX4_tryPress_13 : decode cX4_tryPress 13 = .ok (.iload_n 1, 1) := by decide +kernel
theorem dX4_tryPress_14 : decode cX4_tryPress 14 = .ok (.invokevirtual 201, 3) := by decide +kernel
theorem dX4_tryPress_17 : decode cX4_tryPress 17 = .ok (.pop, 1) := by decide +kernel
theorem dX4_tryPress_18 : decode cX4_tryPress 18 = .ok (.iload_n 2, 1) := by decide +kernel
theorem dX4_tryPress_19 : decode cX4_tryPress 19 = .ok (.ireturn, 1) := by decide +kernel
theorem dX4_hasValue_0 : decode cX4_hasValue 0 = .ok (.aload_n 0, 1) := by decide +kernel
theorem dX4_hasValue_1 : decode cX4_hasValue 1 = .ok (.iload_n 1, 1) := by decide +kernel
theorem dX4_hasValue_2 : decode cX4_hasValue 2 = .ok (.iload_n 2, 1) := by decide +kernel
theorem dX4_hasValue_3 : decode cX4_hasValue 3 = .ok (.invokevirtual 166, 3) := by decide +kernel
theorem dX4_hasValue_6 : decode cX4_hasValue 6 = .ok (.ifCond .eq 31, 3) := by decide +kernel
theorem dX4_hasValue_9 : decode cX4_hasValue 9 = .ok (.aload_n 0, 1) := by decide +kernel
theorem dX4_hasValue_10 : decode cX4_hasValue 10 = .ok (.iload_n 1, 1) := by decide +kernel
theorem dX4_hasValue_11 : decode cX4_hasValue 11 = .ok (.iload_n 2, 1) := by decide +kernel
theorem dX4_hasValue_12 : decode cX4_hasValue 12 = .ok (.invokevirtual 53, 3) := by decide +kernel
theorem dX4_hasValue_15 : decode cX4_hasValue 15 = .ok (.iconst (-1), 1) := by decide +kernel
theorem dX4_hasValue_16 : decode cX4_hasValue 16 = .ok (.if_icmp .eq 21, 3) := by decide +kernel
theorem dX4_hasValue_19 : decode cX4_hasValue 19 = .ok (.aload_n 0, 1) := by decide +kernel
theorem dX4_hasValue_20 : decode cX4_hasValue 20 = .ok (.aload_n 0, 1) := by decide +kernel
theorem dX4_hasValue_21 : decode cX4_hasValue 21 = .ok (.iload_n 1, 1) := by decide +kernel
theorem dX4_hasValue_22 : decode cX4_hasValue 22 = .ok (.iload_n 2, 1) := by decide +kernel
theorem dX4_hasValue_23 : decode cX4_hasValue 23 = .ok (.invokevirtual 53, 3) := by decide +kernel
theorem dX4_hasValue_26 : decode cX4_hasValue 26 = .ok (.invokevirtual 109, 3) := by decide +kernel
theorem dX4_hasValue_29 : decode cX4_hasValue 29 = .ok (.iload_n 3, 1) := by decide +kernel
theorem dX4_hasValue_30 : decode cX4_hasValue 30 = .ok (.if_icmp .ne 7, 3) := by decide +kernel
theorem dX4_hasValue_33 : decode cX4_hasValue 33 = .ok (.iconst 1, 1) := by decide +kernel
theorem dX4_hasValue_34 : decode cX4_hasValue 34 = .ok (.goto 4, 3) := by decide +kernel
theorem dX4_hasValue_37 : decode cX4_hasValue 37 = .ok (.iconst 0, 1) := by decide +kernel
theorem dX4_hasValue_38 : decode cX4_hasValue 38 = .ok (.ireturn, 1) := by decide +kernel
theorem dX4_commands_0 : decode cX4_commands 0 = .ok (.iload_n 1, 1) := by decide +kernel
theorem dX4_commands_1 : decode cX4_commands 1 = .ok (.sipush 1000, 3) := by decide +kernel
theorem dX4_commands_4 : decode cX4_commands 4 = .ok (.idiv, 1) := by decide +kernel
theorem dX4_commands_5 : decode cX4_commands 5 = .ok (.bipush 10, 2) := by decide +kernel
theorem dX4_commands_7 : decode cX4_commands 7 = .ok (.irem, 1) := by decide +kernel
theorem dX4_commands_8 : decode cX4_commands 8 = .ok (.istore_n 2, 1) := by decide +kernel
theorem dX4_commands_9 : decode cX4_commands 9 = .ok (.iload_n 1, 1) := by decide +kernel
theorem dX4_commands_10 : decode cX4_commands 10 = .ok (.bipush 100, 2) := by decide +kernel
theorem dX4_commands_12 : decode cX4_commands 12 = .ok (.idiv, 1) := by decide +kernel
theorem dX4_commands_13 : decode cX4_commands 13 = .ok (.bipush 10, 2) := by decide +kernel
theorem dX4_commands_15 : decode cX4_commands 15 = .ok (.irem, 1) := by decide +kernel
theorem dX4_commands_16 : decode cX4_commands 16 = .ok (.istore_n 3, 1) := by decide +kernel
theorem dX4_commands_17 : decode cX4_commands 17 = .ok (.iload_n 1, 1) := by decide +kernel
theorem dX4_commands_18 : decode cX4_commands 18 = .ok (.bipush 10, 2) := by decide +kernel
theorem dX4_commands_20 : decode cX4_commands 20 = .ok (.idiv, 1) := by decide +kernel
theorem dX4_commands_21 : decode cX4_commands 21 = .ok (.bipush 100, 2) := by decide +kernel
theorem dX4_commands_23 : decode cX4_commands 23 = .ok (.irem, 1) := by decide +kernel
theorem dX4_commands_24 : decode cX4_commands 24 = .ok (.istore 4, 2) := by decide +kernel
theorem dX4_commands_26 : decode cX4_commands 26 = .ok (.iload_n 1, 1) := by decide +kernel
theorem dX4_commands_27 : decode cX4_commands 27 = .ok (.bipush 10, 2) := by decide +kernel
theorem dX4_commands_29 : decode cX4_commands 29 = .ok (.irem, 1) := by decide +kernel
theorem dX4_commands_30 : decode cX4_commands 30 = .ok (.istore 5, 2) := by decide +kernel
theorem dX4_commands_32 : decode cX4_commands 32 = .ok (.iload_n 1, 1) := by decide +kernel
theorem dX4_commands_33 : decode cX4_commands 33 = .ok (.bipush 100, 2) := by decide +kernel
theorem dX4_commands_35 : decode cX4_commands 35 = .ok (.irem, 1) := by decide +kernel
theorem dX4_commands_36 : decode cX4_commands 36 = .ok (.istore 6, 2) := by decide +kernel
theorem dX4_commands_38 : decode cX4_commands 38 = .ok (.iload_n 1, 1) := by decide +kernel
theorem dX4_commands_39 : decode cX4_commands 39 = .ok (.sipush 10000, 3) := by decide +kernel
theorem dX4_commands_42 : decode cX4_commands 42 = .ok (.idiv, 1) := by decide +kernel
theorem dX4_commands_43 : decode cX4_commands 43 = .ok (.tableswitch 240 1 9 #[49, 59, 81, 103, 123, 143, 166, 176, 217], 49) := by decide +kernel
theorem dX4_commands_92 : decode cX4_commands 92 = .ok (.aload_n 0, 1) := by decide +kernel
theorem dX4_commands_93 : decode cX4_commands 93 = .ok (.iload_n 2, 1) := by decide +kernel
theorem dX4_commands_94 : decode cX4_commands 94 = .ok (.iload 4, 2) := by decide +kernel
theorem dX4_commands_96 : decode cX4_commands 96 = .ok (.iload 5, 2) := by decide +kernel
theorem dX4_commands_98 : decode cX4_commands 98 = .ok (.invokevirtual 142, 3) := by decide +kernel
theorem dX4_commands_101 : decode cX4_commands 101 = .ok (.ireturn, 1) := by decide +kernel
theorem dX4_commands_102 : decode cX4_commands 102 = .ok (.iload_n 1, 1) := by decide +kernel
theorem dX4_commands_103 : decode cX4_commands 103 = .ok (.sipush 1000, 3) := by decide +kernel
theorem dX4_commands_106 : decode cX4_commands 106 = .ok (.irem, 1) := by decide +kernel
theorem dX4_commands_107 : decode cX4_commands 107 = .ok (.ifCond .ne 15, 3) := by decide +kernel
theorem dX4_commands_110 : decode cX4_commands 110 = .ok (.aload_n 0, 1) := by decide +kernel
theorem dX4_commands_111 : decode cX4_commands 111 = .ok (.iload_n 2, 1) := by decide +kernel
theorem dX4_commands_112 : decode cX4_commands 112 = .ok (.invokevirtual 145, 3) := by decide +kernel
theorem dX4_commands_115 : decode cX4_commands 115 = .ok (.ifCond .eq 7, 3) := by decide +kernel
theorem dX4_commands_118 : decode cX4_commands 118 = .ok (.iconst 1, 1) := by decide +kernel
theorem dX4_commands_119 : decode cX4_commands 119 = .ok (.goto 4, 3) := by decide +kernel
theorem dX4_commands_122 : decode cX4_commands 122 = .ok (.iconst 0, 1) := by decide +kernel
theorem dX4_commands_123 : decode cX4_commands 123 = .ok (.ireturn, 1) := by decide +kernel
theorem dX4_commands_124 : decode cX4_commands 124 = .ok (.iload_n 1, 1) := by decide +kernel
theorem dX4_commands_125 : decode cX4_commands 125 = .ok (.sipush 1000, 3) := by decide +kernel
theorem dX4_commands_128 : decode cX4_commands 128 = .ok (.irem, 1) := by decide +kernel
theorem dX4_commands_129 : decode cX4_commands 129 = .ok (.ifCond .ne 15, 3) := by decide +kernel
theorem dX4_commands_132 : decode cX4_commands 132 = .ok (.aload_n 0, 1) := by decide +kernel
theorem dX4_commands_133 : decode cX4_commands 133 = .ok (.iload_n 2, 1) := by decide +kernel
theorem dX4_commands_134 : decode cX4_commands 134 = .ok (.invokevirtual 148, 3) := by decide +kernel
theorem dX4_commands_137 : decode cX4_commands 137 = .ok (.ifCond .eq 7, 3) := by decide +kernel
theorem dX4_commands_140 : decode cX4_commands 140 = .ok (.iconst 1, 1) := by decide +kernel
theorem dX4_commands_141 : decode cX4_commands 141 = .ok (.goto 4, 3) := by decide +kernel
theorem dX4_commands_144 : decode cX4_commands 144 = .ok (.iconst 0, 1) := by decide +kernel
theorem dX4_commands_145 : decode cX4_commands 145 = .ok (.ireturn, 1) := by decide +kernel
theorem dX4_commands_146 : decode cX4_commands 146 = .ok (.iload 6, 2) := by decide +kernel
theorem dX4_commands_148 : decode cX4_commands 148 = .ok (.ifCond .ne 16, 3) := by decide +kernel
theorem dX4_commands_151 : decode cX4_commands 151 = .ok (.aload_n 0, 1) := by decide +kernel
theorem dX4_commands_152 : decode cX4_commands 152 = .ok (.iload_n 2, 1) := by decide +kernel
theorem dX4_commands_153 : decode cX4_commands 153 = .ok (.iload_n 3, 1) := by decide +kernel
theorem dX4_commands_154 : decode cX4_commands 154 = .ok (.invokevirtual 151, 3) := by decide +kernel
theorem dX4_commands_157 : decode cX4_commands 157 = .ok (.ifCond .eq 7, 3) := by decide +kernel
theorem dX4_commands_160 : decode cX4_commands 160 = .ok (.iconst 1, 1) := by decide +kernel
theorem dX4_commands_161 : decode cX4_commands 161 = .ok (.goto 4, 3) := by decide +kernel
theorem dX4_commands_164 : decode cX4_commands 164 = .ok (.iconst 0, 1) := by decide +kernel
theorem dX4_commands_165 : decode cX4_commands 165 = .ok (.ireturn, 1) := by decide +kernel
theorem dX4_commands_166 : decode cX4_commands 166 = .ok (.iload 6, 2) := by decide +kernel
theorem dX4_commands_168 : decode cX4_commands 168 = .ok (.ifCond .ne 16, 3) := by decide +kernel
theorem dX4_commands_171 : decode cX4_commands 171 = .ok (.aload_n 0, 1) := by decide +kernel
theorem dX4_commands_172 : decode cX4_commands 172 = .ok (.iload_n 2, 1) := by decide +kernel
theorem dX4_commands_173 : decode cX4_commands 173 = .ok (.iload_n 3, 1) := by decide +kernel
theorem dX4_commands_174 : decode cX4_commands 174 = .ok (.invokevirtual 208, 3) := by decide +kernel
theorem dX4_commands_177 : decode cX4_commands 177 = .ok (.ifCond .eq 7, 3) := by decide +kernel
theorem dX4_commands_180 : decode cX4_commands 180 = .ok (.iconst 1, 1) := by decide +kernel
theorem dX4_commands_181 : decode cX4_commands 181 = .ok (.goto 4, 3) := by decide +kernel
theorem dX4_commands_184 : decode cX4_commands 184 = .ok (.iconst 0, 1) := by decide +kernel
theorem dX4_commands_185 : decode cX4_commands 185 = .ok (.ireturn, 1) := by decide +kernel
theorem dX4_commands_186 : decode cX4_commands 186 = .ok (.iload_n 2, 1) := by decide +kernel
theorem dX4_commands_187 : decode cX4_commands 187 = .ok (.ifCond .ne 20, 3) := by decide +kernel
theorem dX4_commands_190 : decode cX4_commands 190 = .ok (.iload_n 3, 1) := by decide +kernel
theorem dX4_commands_191 : decode cX4_commands 191 = .ok (.ifCond .ne 16, 3) := by decide +kernel
theorem dX4_commands_194 : decode cX4_commands 194 = .ok (.aload_n 0, 1) := by decide +kernel
theorem dX4_commands_195 : decode cX4_commands 195 = .ok (.iload 6, 2) := by decide +kernel
theorem dX4_commands_197 : decode cX4_commands 197 = .ok (.invokevirtual 211, 3) := by decide +kernel
theorem dX4_commands_200 : decode cX4_commands 200 = .ok (.ifCond .eq 7, 3) := by decide +kernel
theorem dX4_commands_203 : decode cX4_commands 203 = .ok (.iconst 1, 1) := by decide +kernel
theorem dX4_commands_204 : decode cX4_commands 204 = .ok (.goto 4, 3) := by decide +kernel
theorem dX4_commands_207 : decode cX4_commands 207 = .ok (.iconst 0, 1) := by decide +kernel
theorem dX4_commands_208 : decode cX4_commands 208 = .ok (.ireturn, 1) := by decide +kernel
theorem dX4_commands_209 : decode cX4_commands 209 = .ok (.aload_n 0, 1) := by decide +kernel
theorem dX4_commands_210 : decode cX4_commands 210 = .ok (.iload_n 2, 1) := by decide +kernel
theorem dX4_commands_211 : decode cX4_commands 211 = .ok (.iload 4, 2) := by decide +kernel
theorem dX4_commands_213 : decode cX4_commands 213 = .ok (.iload 5, 2) := by decide +kernel
theorem dX4_commands_215 : decode cX4_commands 215 = .ok (.invokevirtual 214, 3) := by decide +kernel
theorem dX4_commands_218 : decode cX4_commands 218 = .ok (.ireturn, 1) := by decide +kernel
theorem dX4_commands_219 : decode cX4_commands 219 = .ok (.aload_n 0, 1) := by decide +kernel
theorem dX4_commands_220 : decode cX4_commands 220 = .ok (.iload_n 2, 1) := by decide +kernel
theorem dX4_commands_221 : decode cX4_commands 221 = .ok (.iload_n 3, 1) := by decide +kernel
theorem dX4_commands_222 : decode cX4_commands 222 = .ok (.invokevirtual 169, 3) := by decide +kernel
theorem dX4_commands_225 : decode cX4_commands 225 = .ok (.ifCond .eq 33, 3) := by decide +kernel
theorem dX4_commands_228 : decode cX4_commands 228 = .ok (.iload 6, 2) := by decide +kernel
theorem dX4_commands_230 : decode cX4_commands 230 = .ok (.iconst 2, 1) := by decide +kernel
theorem dX4_commands_231 : decode cX4_commands 231 = .ok (.if_icmp .ge 27, 3) := by decide +kernel
theorem dX4_commands_234 : decode cX4_commands 234 = .ok (.aload_n 0, 1) := by decide +kernel
theorem dX4_commands_235 : decode cX4_commands 235 = .ok (.iload_n 2, 1) := by decide +kernel
theorem dX4_commands_236 : decode cX4_commands 236 = .ok (.iload_n 3, 1) := by decide +kernel
theorem dX4_commands_237 : decode cX4_commands 237 = .ok (.invokevirtual 60, 3) := by decide +kernel
theorem dX4_commands_240 : decode cX4_commands 240 = .ok (.iload 6, 2) := by decide +kernel
theorem dX4_commands_242 : decode cX4_commands 242 = .ok (.iconst 1, 1) := by decide +kernel
theorem dX4_commands_243 : decode cX4_commands 243 = .ok (.if_icmp .ne 7, 3) := by decide +kernel
theorem dX4_commands_246 : decode cX4_commands 246 = .ok (.iconst 1, 1) := by decide +kernel
theorem dX4_commands_247 : decode cX4_commands 247 = .ok (.goto 4, 3) := by decide +kernel
theorem dX4_commands_250 : decode cX4_commands 250 = .ok (.iconst 0, 1) := by decide +kernel
theorem dX4_commands_251 : decode cX4_commands 251 = .ok (.if_icmp .ne 7, 3) := by decide +kernel
theorem dX4_commands_254 : decode cX4_commands 254 = .ok (.iconst 1, 1) := by decide +kernel
theorem dX4_commands_255 : decode cX4_commands 255 = .ok (.goto 4, 3) := by decide +kernel
theorem dX4_commands_258 : decode cX4_commands 258 = .ok (.iconst 0, 1) := by decide +kernel
theorem dX4_commands_259 : decode cX4_commands 259 = .ok (.ireturn, 1) := by decide +kernel
theorem dX4_commands_260 : decode cX4_commands 260 = .ok (.iload_n 2, 1) := by decide +kernel
theorem dX4_commands_261 : decode cX4_commands 261 = .ok (.ifCond .ne 20, 3) := by decide +kernel
theorem dX4_commands_264 : decode cX4_commands 264 = .ok (.iload_n 3, 1) := by decide +kernel
theorem dX4_commands_265 : decode cX4_commands 265 = .ok (.ifCond .ne 16, 3) := by decide +kernel
theorem dX4_commands_268 : decode cX4_commands 268 = .ok (.aload_n 0, 1) := by decide +kernel
theorem dX4_commands_269 : decode cX4_commands 269 = .ok (.invokevirtual 103, 3) := by decide +kernel
theorem dX4_commands_272 : decode cX4_commands 272 = .ok (.iload 6, 2) := by decide +kernel
theorem dX4_commands_274 : decode cX4_commands 274 = .ok (.if_icmp .lt 7, 3) := by decide +kernel
theorem dX4_commands_277 : decode cX4_commands 277 = .ok (.iconst 1, 1) := by decide +kernel
theorem dX4_commands_278 : decode cX4_commands 278 = .ok (.goto 4, 3) := by decide +kernel
theorem dX4_commands_281 : decode cX4_commands 281 = .ok (.iconst 0, 1) := by decide +kernel
theorem dX4_commands_282 : decode cX4_commands 282 = .ok (.ireturn, 1) := by decide +kernel
theorem dX4_commands_283 : decode cX4_commands 283 = .ok (.iconst 0, 1) := by decide +kernel
theorem dX4_commands_284 : decode cX4_commands 284 = .ok (.ireturn, 1) := by decide +kernel
theorem dX4_runScript_0 : decode cX4_runScript 0 = .ok (.iload_n 1, 1) := by decide +kernel
theorem dX4_runScript_1 : decode cX4_runScript 1 = .ok (.iconst 1, 1) := by decide +kernel
theorem dX4_runScript_2 : decode cX4_runScript 2 = .ok (.if_icmp .ne 9, 3) := by decide +kernel
theorem dX4_runScript_5 : decode cX4_runScript 5 = .ok (.ldc2_w 217, 3) := by decide +kernel
theorem dX4_runScript_8 : decode cX4_runScript 8 = .ok (.goto 17, 3) := by decide +kernel
theorem dX4_runScript_11 : decode cX4_runScript 11 = .ok (.iload_n 1, 1) := by decide +kernel
theorem dX4_runScript_12 : decode cX4_runScript 12 = .ok (.iconst 2, 1) := by decide +kernel
theorem dX4_runScript_13 : decode cX4_runScript 13 = .ok (.if_icmp .ne 9, 3) := by decide +kernel
theorem dX4_runScript_16 : decode cX4_runScript 16 = .ok (.ldc2_w 219, 3) := by decide +kernel
theorem dX4_runScript_19 : decode cX4_runScript 19 = .ok (.goto 6, 3) := by decide +kernel
theorem dX4_runScript_22 : decode cX4_runScript 22 = .ok (.ldc2_w 221, 3) := by decide +kernel
theorem dX4_runScript_25 : decode cX4_runScript 25 = .ok (.lstore 4, 2) := by decide +kernel
theorem dX4_runScript_27 : decode cX4_runScript 27 = .ok (.aload_n 0, 1) := by decide +kernel
theorem dX4_runScript_28 : decode cX4_runScript 28 = .ok (.iload_n 1, 1) := by decide +kernel
theorem dX4_runScript_29 : decode cX4_runScript 29 = .ok (.iconst 1, 1) := by decide +kernel
theorem dX4_runScript_30 : decode cX4_runScript 30 = .ok (.if_icmp .lt 21, 3) := by decide +kernel
theorem dX4_runScript_33 : decode cX4_runScript 33 = .ok (.iload_n 1, 1) := by decide +kernel
theorem dX4_runScript_34 : decode cX4_runScript 34 = .ok (.iconst 3, 1) := by decide +kernel
theorem dX4_runScript_35 : decode cX4_runScript 35 = .ok (.if_icmp .gt 16, 3) := by decide +kernel
theorem dX4_runScript_38 : decode cX4_runScript 38 = .ok (.lload_n 2, 1) := by decide +kernel
theorem dX4_runScript_39 : decode cX4_runScript 39 = .ok (.lconst 0, 1) := by decide +kernel
theorem dX4_runScript_40 : decode cX4_runScript 40 = .ok (.lcmp, 1) := by decide +kernel
theorem dX4_runScript_41 : decode cX4_runScript 41 = .ok (.ifCond .lt 10, 3) := by decide +kernel
theorem dX4_runScript_44 : decode cX4_runScript 44 = .ok (.lload_n 2, 1) := by decide +kernel
theorem dX4_runScript_45 : decode cX4_runScript 45 = .ok (.lload 4, 2) := by decide +kernel
theorem dX4_runScript_47 : decode cX4_runScript 47 = .ok (.lcmp, 1) := by decide +kernel
theorem dX4_runScript_48 : decode cX4_runScript 48 = .ok (.ifCond .lt 7, 3) := by decide +kernel
theorem dX4_runScript_51 : decode cX4_runScript 51 = .ok (.iconst 1, 1) := by decide +kernel
theorem dX4_runScript_52 : decode cX4_runScript 52 = .ok (.goto 4, 3) := by decide +kernel
theorem dX4_runScript_55 : decode cX4_runScript 55 = .ok (.iconst 0, 1) := by decide +kernel
theorem dX4_runScript_56 : decode cX4_runScript 56 = .ok (.putfield 34, 3) := by decide +kernel
theorem dX4_runScript_59 : decode cX4_runScript 59 = .ok (.aload_n 0, 1) := by decide +kernel
theorem dX4_runScript_60 : decode cX4_runScript 60 = .ok (.getfield 34, 3) := by decide +kernel
theorem dX4_runScript_63 : decode cX4_runScript 63 = .ok (.ifCond .le 5, 3) := by decide +kernel
theorem dX4_runScript_66 : decode cX4_runScript 66 = .ok (.iconst 0, 1) := by decide +kernel
theorem dX4_runScript_67 : decode cX4_runScript 67 = .ok (.ireturn, 1) := by decide +kernel
theorem dX4_runScript_68 : decode cX4_runScript 68 = .ok (.aload_n 0, 1) := by decide +kernel
theorem dX4_runScript_69 : decode cX4_runScript 69 = .ok (.getfield 7, 3) := by decide +kernel
theorem dX4_runScript_72 : decode cX4_runScript 72 = .ok (.iconst 0, 1) := by decide +kernel
theorem dX4_runScript_73 : decode cX4_runScript 73 = .ok (.aload_n 0, 1) := by decide +kernel
theorem dX4_runScript_74 : decode cX4_runScript 74 = .ok (.getfield 16, 3) := by decide +kernel
theorem dX4_runScript_77 : decode cX4_runScript 77 = .ok (.iconst 0, 1) := by decide +kernel
theorem dX4_runScript_78 : decode cX4_runScript 78 = .ok (.invokestatic 172, 3) := by decide +kernel
theorem dX4_runScript_81 : decode cX4_runScript 81 = .ok (.iconst (-1), 1) := by decide +kernel
theorem dX4_runScript_82 : decode cX4_runScript 82 = .ok (.istore 6, 2) := by decide +kernel
theorem dX4_runScript_84 : decode cX4_runScript 84 = .ok (.lload 4, 2) := by decide +kernel
theorem dX4_runScript_86 : decode cX4_runScript 86 = .ok (.ldc2_w 217, 3) := by decide +kernel
theorem dX4_runScript_89 : decode cX4_runScript 89 = .ok (.ldiv, 1) := by decide +kernel
theorem dX4_runScript_90 : decode cX4_runScript 90 = .ok (.lstore 7, 2) := by decide +kernel
theorem dX4_runScript_92 : decode cX4_runScript 92 = .ok (.iconst 0, 1) := by decide +kernel
theorem dX4_runScript_93 : decode cX4_runScript 93 = .ok (.istore 9, 2) := by decide +kernel
theorem dX4_runScript_95 : decode cX4_runScript 95 = .ok (.iload 9, 2) := by decide +kernel
theorem dX4_runScript_97 : decode cX4_runScript 97 = .ok (.iload_n 1, 1) := by decide +kernel
theorem dX4_runScript_98 : decode cX4_runScript 98 = .ok (.if_icmp .ge 47, 3) := by decide +kernel
theorem dX4_runScript_101 : decode cX4_runScript 101 = .ok (.iload 6, 2) := by decide +kernel
theorem dX4_runScript_103 : decode cX4_runScript 103 = .ok (.iconst (-1), 1) := by decide +kernel
theorem dX4_runScript_104 : decode cX4_runScript 104 = .ok (.if_icmp .ne 41, 3) := by decide +kernel
theorem dX4_runScript_107 : decode cX4_runScript 107 = .ok (.aload_n 0, 1) := by decide +kernel
theorem dX4_runScript_108 : decode cX4_runScript 108 = .ok (.lload_n 2, 1) := by decide +kernel
theorem dX4_runScript_109 : decode cX4_runScript 109 = .ok (.lload 7, 2) := by decide +kernel
theorem dX4_runScript_111 : decode cX4_runScript 111 = .ok (.ldiv, 1) := by decide +kernel
theorem dX4_runScript_112 : decode cX4_runScript 112 = .ok (.ldc2_w 217, 3) := by decide +kernel
theorem dX4_runScript_115 : decode cX4_runScript 115 = .ok (.lrem, 1) := by decide +kernel
theorem dX4_runScript_116 : decode cX4_runScript 116 = .ok (.l2i, 1) := by decide +kernel
theorem dX4_runScript_117 : decode cX4_runScript 117 = .ok (.invokevirtual 223, 3) := by decide +kernel
theorem dX4_runScript_120 : decode cX4_runScript 120 = .ok (.ifCond .eq 7, 3) := by decide +kernel
theorem dX4_runScript_123 : decode cX4_runScript 123 = .ok (.iconst (-1), 1) := by decide +kernel
theorem dX4_runScript_124 : decode cX4_runScript 124 = .ok (.goto 5, 3) := by decide +kernel
theorem dX4_runScript_127 : decode cX4_runScript 127 = .ok (.iload 9, 2) := by decide +kernel
theorem dX4_runScript_129 : decode cX4_runScript 129 = .ok (.istore 6, 2) := by decide +kernel
theorem dX4_runScript_131 : decode cX4_runScript 131 = .ok (.lload 7, 2) := by decide +kernel
theorem dX4_runScript_133 : decode cX4_runScript 133 = .ok (.ldc2_w 217, 3) := by decide +kernel
theorem dX4_runScript_136 : decode cX4_runScript 136 = .ok (.ldiv, 1) := by decide +kernel
theorem dX4_runScript_137 : decode cX4_runScript 137 = .ok (.lstore 7, 2) := by decide +kernel
theorem dX4_runScript_139 : decode cX4_runScript 139 = .ok (.iinc 9 1, 3) := by decide +kernel
theorem dX4_runScript_142 : decode cX4_runScript 142 = .ok (.goto (-47), 3) := by decide +kernel
theorem dX4_runScript_145 : decode cX4_runScript 145 = .ok (.aload_n 0, 1) := by decide +kernel
theorem dX4_runScript_146 : decode cX4_runScript 146 = .ok (.getfield 16, 3) := by decide +kernel
theorem dX4_runScript_149 : decode cX4_runScript 149 = .ok (.iconst 0, 1) := by decide +kernel
theorem dX4_runScript_150 : decode cX4_runScript 150 = .ok (.aload_n 0, 1) := by decide +kernel
theorem dX4_runScript_151 : decode cX4_runScript 151 = .ok (.getfield 7, 3) := by decide +kernel
theorem dX4_runScript_154 : decode cX4_runScript 154 = .ok (.iconst 0, 1) := by decide +kernel
theorem dX4_runScript_155 : decode cX4_runScript 155 = .ok (.invokestatic 172, 3) := by decide +kernel
theorem dX4_runScript_158 : decode cX4_runScript 158 = .ok (.iload 6, 2) := by decide +kernel
theorem dX4_runScript_160 : decode cX4_runScript 160 = .ok (.ireturn, 1) := by decide +kernel
theorem dX4_step_0 : decode cX4_step 0 = .ok (.iload_n 2, 1) := by decide +kernel
theorem dX4_step_1 : decode cX4_step 1 = .ok (.bipush 8, 2) := by decide +kernel
theorem dX4_step_3 : decode cX4_step 3 = .ok (.irem, 1) := by decide +kernel
theorem dX4_step_4 : decode cX4_step 4 = .ok (.tableswitch 82 0 3 #[32, 41, 50, 65], 32) := by decide +kernel
theorem dX4_step_36 : decode cX4_step 36 = .ok (.aload_n 0, 1) := by decide +kernel
theorem dX4_step_37 : decode cX4_step 37 = .ok (.iload_n 1, 1) := by decide +kernel
theorem dX4_step_38 : decode cX4_step 38 = .ok (.invokevirtual 145, 3) := by decide +kernel
theorem dX4_step_41 : decode cX4_step 41 = .ok (.pop, 1) := by decide +kernel
theorem dX4_step_42 : decode cX4_step 42 = .ok (.goto 65, 3) := by decide +kernel
theorem dX4_step_45 : decode cX4_step 45 = .ok (.aload_n 0, 1) := by decide +kernel
theorem dX4_step_46 : decode cX4_step 46 = .ok (.iload_n 1, 1) := by decide +kernel
theorem dX4_step_47 : decode cX4_step 47 = .ok (.invokevirtual 148, 3) := by decide +kernel
theorem dX4_step_50 : decode cX4_step 50 = .ok (.pop, 1) := by decide +kernel
theorem dX4_step_51 : decode cX4_step 51 = .ok (.goto 56, 3) := by decide +kernel
theorem dX4_step_54 : decode cX4_step 54 = .ok (.aload_n 0, 1) := by decide +kernel
theorem dX4_step_55 : decode cX4_step 55 = .ok (.iload_n 1, 1) := by decide +kernel
theorem dX4_step_56 : decode cX4_step 56 = .ok (.iload_n 2, 1) := by decide +kernel
theorem dX4_step_57 : decode cX4_step 57 = .ok (.bipush 64, 2) := by decide +kernel
theorem dX4_step_59 : decode cX4_step 59 = .ok (.idiv, 1) := by decide +kernel
theorem dX4_step_60 : decode cX4_step 60 = .ok (.iconst 4, 1) := by decide +kernel
theorem dX4_step_61 : decode cX4_step 61 = .ok (.irem, 1) := by decide +kernel
theorem dX4_step_62 : decode cX4_step 62 = .ok (.invokevirtual 151, 3) := by decide +kernel
theorem dX4_step_65 : decode cX4_step 65 = .ok (.pop, 1) := by decide +kernel
theorem dX4_step_66 : decode cX4_step 66 = .ok (.goto 41, 3) := by decide +kernel
theorem dX4_step_69 : decode cX4_step 69 = .ok (.aload_n 0, 1) := by decide +kernel
theorem dX4_step_70 : decode cX4_step 70 = .ok (.iconst 1, 1) := by decide +kernel
theorem dX4_step_71 : decode cX4_step 71 = .ok (.iload_n 2, 1) := by decide +kernel
theorem dX4_step_72 : decode cX4_step 72 = .ok (.bipush 64, 2) := by decide +kernel
theorem dX4_step_74 : decode cX4_step 74 = .ok (.idiv, 1) := by decide +kernel
theorem dX4_step_75 : decode cX4_step 75 = .ok (.bipush 8, 2) := by decide +kernel
theorem dX4_step_77 : decode cX4_step 77 = .ok (.irem, 1) := by decide +kernel
theorem dX4_step_78 : decode cX4_step 78 = .ok (.iadd, 1) := by decide +kernel
theorem dX4_step_79 : decode cX4_step 79 = .ok (.invokevirtual 211, 3) := by decide +kernel
theorem dX4_step_82 : decode cX4_step 82 = .ok (.pop, 1) := by decide +kernel
theorem dX4_step_83 : decode cX4_step 83 = .ok (.goto 24, 3) := by decide +kernel
theorem dX4_step_86 : decode cX4_step 86 = .ok (.aload_n 0, 1) := by decide +kernel
theorem dX4_step_87 : decode cX4_step 87 = .ok (.iload_n 1, 1) := by decide +kernel
theorem dX4_step_88 : decode cX4_step 88 = .ok (.iload_n 2, 1) := by decide +kernel
theorem dX4_step_89 : decode cX4_step 89 = .ok (.bipush 64, 2) := by decide +kernel
theorem dX4_step_91 : decode cX4_step 91 = .ok (.idiv, 1) := by decide +kernel
theorem dX4_step_92 : decode cX4_step 92 = .ok (.bipush 16, 2) := by decide +kernel
theorem dX4_step_94 : decode cX4_step 94 = .ok (.irem, 1) := by decide +kernel
theorem dX4_step_95 : decode cX4_step 95 = .ok (.iload_n 2, 1) := by decide +kernel
theorem dX4_step_96 : decode cX4_step 96 = .ok (.sipush 1024, 3) := by decide +kernel
theorem dX4_step_99 : decode cX4_step 99 = .ok (.idiv, 1) := by decide +kernel
theorem dX4_step_100 : decode cX4_step 100 = .ok (.bipush 100, 2) := by decide +kernel
theorem dX4_step_102 : decode cX4_step 102 = .ok (.irem, 1) := by decide +kernel
theorem dX4_step_103 : decode cX4_step 103 = .ok (.invokevirtual 142, 3) := by decide +kernel
theorem dX4_step_106 : decode cX4_step 106 = .ok (.pop, 1) := by decide +kernel
theorem dX4_step_107 : decode cX4_step 107 = .ok (.return_, 1) := by decide +kernel
theorem dX4_simulate_0 : decode cX4_simulate 0 = .ok (.aload_n 0, 1) := by decide +kernel
theorem dX4_simulate_1 : decode cX4_simulate 1 = .ok (.iload_n 3, 1) := by decide +kernel
theorem dX4_simulate_2 : decode cX4_simulate 2 = .ok (.iconst 1, 1) := by decide +kernel
theorem dX4_simulate_3 : decode cX4_simulate 3 = .ok (.bipush 99, 2) := by decide +kernel
theorem dX4_simulate_5 : decode cX4_simulate 5 = .ok (.invokestatic 38, 3) := by decide +kernel
theorem dX4_simulate_8 : decode cX4_simulate 8 = .ok (.ifCond .eq 7, 3) := by decide +kernel
theorem dX4_simulate_11 : decode cX4_simulate 11 = .ok (.iconst 0, 1) := by decide +kernel
theorem dX4_simulate_12 : decode cX4_simulate 12 = .ok (.goto 4, 3) := by decide +kernel
theorem dX4_simulate_15 : decode cX4_simulate 15 = .ok (.iconst 1, 1) := by decide +kernel
theorem dX4_simulate_16 : decode cX4_simulate 16 = .ok (.putfield 34, 3) := by decide +kernel
theorem dX4_simulate_19 : decode cX4_simulate 19 = .ok (.aload_n 0, 1) := by decide +kernel
theorem dX4_simulate_20 : decode cX4_simulate 20 = .ok (.getfield 34, 3) := by decide +kernel
theorem dX4_simulate_23 : decode cX4_simulate 23 = .ok (.ifCond .le 5, 3) := by decide +kernel
theorem dX4_simulate_26 : decode cX4_simulate 26 = .ok (.iconst 0, 1) := by decide +kernel
theorem dX4_simulate_27 : decode cX4_simulate 27 = .ok (.ireturn, 1) := by decide +kernel
theorem dX4_simulate_28 : decode cX4_simulate 28 = .ok (.aload_n 0, 1) := by decide +kernel
theorem dX4_simulate_29 : decode cX4_simulate 29 = .ok (.getfield 7, 3) := by decide +kernel
theorem dX4_simulate_32 : decode cX4_simulate 32 = .ok (.iconst 0, 1) := by decide +kernel
theorem dX4_simulate_33 : decode cX4_simulate 33 = .ok (.aload_n 0, 1) := by decide +kernel
theorem dX4_simulate_34 : decode cX4_simulate 34 = .ok (.getfield 16, 3) := by decide +kernel
theorem dX4_simulate_37 : decode cX4_simulate 37 = .ok (.iconst 0, 1) := by decide +kernel
theorem dX4_simulate_38 : decode cX4_simulate 38 = .ok (.invokestatic 172, 3) := by decide +kernel
theorem dX4_simulate_41 : decode cX4_simulate 41 = .ok (.lload_n 1, 1) := by decide +kernel
theorem dX4_simulate_42 : decode cX4_simulate 42 = .ok (.lstore 4, 2) := by decide +kernel
theorem dX4_simulate_44 : decode cX4_simulate 44 = .ok (.iconst 0, 1) := by decide +kernel
theorem dX4_simulate_45 : decode cX4_simulate 45 = .ok (.istore 6, 2) := by decide +kernel
theorem dX4_simulate_47 : decode cX4_simulate 47 = .ok (.iload 6, 2) := by decide +kernel
theorem dX4_simulate_49 : decode cX4_simulate 49 = .ok (.iload_n 3, 1) := by decide +kernel
theorem dX4_simulate_50 : decode cX4_simulate 50 = .ok (.if_icmp .ge 56, 3) := by decide +kernel
theorem dX4_simulate_53 : decode cX4_simulate 53 = .ok (.lload 4, 2) := by decide +kernel
theorem dX4_simulate_55 : decode cX4_simulate 55 = .ok (.ldc2_w 226, 3) := by decide +kernel
theorem dX4_simulate_58 : decode cX4_simulate 58 = .ok (.lmul, 1) := by decide +kernel
theorem dX4_simulate_59 : decode cX4_simulate 59 = .ok (.ldc2_w 228, 3) := by decide +kernel
theorem dX4_simulate_62 : decode cX4_simulate 62 = .ok (.ladd, 1) := by decide +kernel
theorem dX4_simulate_63 : decode cX4_simulate 63 = .ok (.lstore 4, 2) := by decide +kernel
theorem dX4_simulate_65 : decode cX4_simulate 65 = .ok (.lload 4, 2) := by decide +kernel
theorem dX4_simulate_67 : decode cX4_simulate 67 = .ok (.bipush 33, 2) := by decide +kernel
theorem dX4_simulate_69 : decode cX4_simulate 69 = .ok (.lushr, 1) := by decide +kernel
theorem dX4_simulate_70 : decode cX4_simulate 70 = .ok (.l2i, 1) := by decide +kernel
theorem dX4_simulate_71 : decode cX4_simulate 71 = .ok (.istore 7, 2) := by decide +kernel
theorem dX4_simulate_73 : decode cX4_simulate 73 = .ok (.aload_n 0, 1) := by decide +kernel
theorem dX4_simulate_74 : decode cX4_simulate 74 = .ok (.iload 7, 2) := by decide +kernel
theorem dX4_simulate_76 : decode cX4_simulate 76 = .ok (.bipush 16, 2) := by decide +kernel
theorem dX4_simulate_78 : decode cX4_simulate 78 = .ok (.idiv, 1) := by decide +kernel
theorem dX4_simulate_79 : decode cX4_simulate 79 = .ok (.iconst 4, 1) := by decide +kernel
theorem dX4_simulate_80 : decode cX4_simulate 80 = .ok (.irem, 1) := by decide +kernel
theorem dX4_simulate_81 : decode cX4_simulate 81 = .ok (.invokevirtual 42, 3) := by decide +kernel
theorem dX4_simulate_84 : decode cX4_simulate 84 = .ok (.ifCond .eq 16, 3) := by decide +kernel
theorem dX4_simulate_87 : decode cX4_simulate 87 = .ok (.aload_n 0, 1) := by decide +kernel
theorem dX4_simulate_88 : decode cX4_simulate 88 = .ok (.iload 7, 2) := by decide +kernel
theorem dX4_simulate_90 : decode cX4_simulate 90 = .ok (.bipush 16, 2) := by decide +kernel
theorem dX4_simulate_92 : decode cX4_simulate 92 = .ok (.idiv, 1) := by decide +kernel
theorem dX4_simulate_93 : decode cX4_simulate 93 = .ok (.iconst 4, 1) := by decide +kernel
theorem dX4_simulate_94 : decode cX4_simulate 94 = .ok (.irem, 1) := by decide +kernel
theorem dX4_simulate_95 : decode cX4_simulate 95 = .ok (.iload 7, 2) := by decide +kernel
theorem dX4_simulate_97 : decode cX4_simulate 97 = .ok (.invokevirtual 230, 3) := by decide +kernel
theorem dX4_simulate_100 : decode cX4_simulate 100 = .ok (.iinc 6 1, 3) := by decide +kernel
theorem dX4_simulate_103 : decode cX4_simulate 103 = .ok (.goto (-56), 3) := by decide +kernel
theorem dX4_simulate_106 : decode cX4_simulate 106 = .ok (.aload_n 0, 1) := by decide +kernel
theorem dX4_simulate_107 : decode cX4_simulate 107 = .ok (.getfield 7, 3) := by decide +kernel
theorem dX4_simulate_110 : decode cX4_simulate 110 = .ok (.bipush 116, 2) := by decide +kernel
theorem dX4_simulate_112 : decode cX4_simulate 112 = .ok (.iaload, 1) := by decide +kernel
theorem dX4_simulate_113 : decode cX4_simulate 113 = .ok (.aload_n 0, 1) := by decide +kernel
theorem dX4_simulate_114 : decode cX4_simulate 114 = .ok (.getfield 16, 3) := by decide +kernel
theorem dX4_simulate_117 : decode cX4_simulate 117 = .ok (.bipush 116, 2) := by decide +kernel
theorem dX4_simulate_119 : decode cX4_simulate 119 = .ok (.iaload, 1) := by decide +kernel
theorem dX4_simulate_120 : decode cX4_simulate 120 = .ok (.isub, 1) := by decide +kernel
theorem dX4_simulate_121 : decode cX4_simulate 121 = .ok (.istore 6, 2) := by decide +kernel
theorem dX4_simulate_123 : decode cX4_simulate 123 = .ok (.aload_n 0, 1) := by decide +kernel
theorem dX4_simulate_124 : decode cX4_simulate 124 = .ok (.getfield 7, 3) := by decide +kernel
theorem dX4_simulate_127 : decode cX4_simulate 127 = .ok (.bipush 118, 2) := by decide +kernel
theorem dX4_simulate_129 : decode cX4_simulate 129 = .ok (.iaload, 1) := by decide +kernel
theorem dX4_simulate_130 : decode cX4_simulate 130 = .ok (.aload_n 0, 1) := by decide +kernel
theorem dX4_simulate_131 : decode cX4_simulate 131 = .ok (.getfield 16, 3) := by decide +kernel
theorem dX4_simulate_134 : decode cX4_simulate 134 = .ok (.bipush 118, 2) := by decide +kernel
theorem dX4_simulate_136 : decode cX4_simulate 136 = .ok (.iaload, 1) := by decide +kernel
theorem dX4_simulate_137 : decode cX4_simulate 137 = .ok (.isub, 1) := by decide +kernel
theorem dX4_simulate_138 : decode cX4_simulate 138 = .ok (.istore 7, 2) := by decide +kernel
theorem dX4_simulate_140 : decode cX4_simulate 140 = .ok (.aload_n 0, 1) := by decide +kernel
theorem dX4_simulate_141 : decode cX4_simulate 141 = .ok (.getfield 16, 3) := by decide +kernel
theorem dX4_simulate_144 : decode cX4_simulate 144 = .ok (.iconst 0, 1) := by decide +kernel
theorem dX4_simulate_145 : decode cX4_simulate 145 = .ok (.aload_n 0, 1) := by decide +kernel
theorem dX4_simulate_146 : decode cX4_simulate 146 = .ok (.getfield 7, 3) := by decide +kernel
theorem dX4_simulate_149 : decode cX4_simulate 149 = .ok (.iconst 0, 1) := by decide +kernel
theorem dX4_simulate_150 : decode cX4_simulate 150 = .ok (.invokestatic 172, 3) := by decide +kernel
theorem dX4_simulate_153 : decode cX4_simulate 153 = .ok (.sipush 1000, 3) := by decide +kernel
theorem dX4_simulate_156 : decode cX4_simulate 156 = .ok (.iload 6, 2) := by decide +kernel
theorem dX4_simulate_158 : decode cX4_simulate 158 = .ok (.sipush 999, 3) := by decide +kernel
theorem dX4_simulate_161 : decode cX4_simulate 161 = .ok (.if_icmp .ge 8, 3) := by decide +kernel
theorem dX4_simulate_164 : decode cX4_simulate 164 = .ok (.iload 6, 2) := by decide +kernel
theorem dX4_simulate_166 : decode cX4_simulate 166 = .ok (.goto 6, 3) := by decide +kernel
theorem dX4_simulate_169 : decode cX4_simulate 169 = .ok (.sipush 999, 3) := by decide +kernel
theorem dX4_simulate_172 : decode cX4_simulate 172 = .ok (.imul, 1) := by decide +kernel
theorem dX4_simulate_173 : decode cX4_simulate 173 = .ok (.iload 7, 2) := by decide +kernel
theorem dX4_simulate_175 : decode cX4_simulate 175 = .ok (.sipush 999, 3) := by decide +kernel
theorem dX4_simulate_178 : decode cX4_simulate 178 = .ok (.if_icmp .ge 8, 3) := by decide +kernel
theorem dX4_simulate_181 : decode cX4_simulate 181 = .ok (.iload 7, 2) := by decide +kernel
theorem dX4_simulate_183 : decode cX4_simulate 183 = .ok (.goto 6, 3) := by decide +kernel
theorem dX4_simulate_186 : decode cX4_simulate 186 = .ok (.sipush 999, 3) := by decide +kernel
theorem dX4_simulate_189 : decode cX4_simulate 189 = .ok (.iadd, 1) := by decide +kernel
theorem dX4_simulate_190 : decode cX4_simulate 190 = .ok (.ireturn, 1) := by decide +kernel
theorem dX4_isSlot_0 : decode cX4_isSlot 0 = .ok (.iload_n 0, 1) := by decide +kernel
theorem dX4_isSlot_1 : decode cX4_isSlot 1 = .ok (.ifCond .eq 8, 3) := by decide +kernel
theorem dX4_isSlot_4 : decode cX4_isSlot 4 = .ok (.iload_n 0, 1) := by decide +kernel
theorem dX4_isSlot_5 : decode cX4_isSlot 5 = .ok (.iconst 1, 1) := by decide +kernel
theorem dX4_isSlot_6 : decode cX4_isSlot 6 = .ok (.if_icmp .ne 7, 3) := by decide +kernel
theorem dX4_isSlot_9 : decode cX4_isSlot 9 = .ok (.iconst 1, 1) := by decide +kernel
theorem dX4_isSlot_10 : decode cX4_isSlot 10 = .ok (.goto 4, 3) := by decide +kernel
theorem dX4_isSlot_13 : decode cX4_isSlot 13 = .ok (.iconst 0, 1) := by decide +kernel
theorem dX4_isSlot_14 : decode cX4_isSlot 14 = .ok (.ireturn, 1) := by decide +kernel
theorem dX4_save_0 : decode cX4_save 0 = .ok (.aload_n 0, 1) := by decide +kernel
theorem dX4_save_1 : decode cX4_save 1 = .ok (.iload_n 1, 1) := by decide +kernel
theorem dX4_save_2 : decode cX4_save 2 = .ok (.invokestatic 233, 3) := by decide +kernel
theorem dX4_save_5 : decode cX4_save 5 = .ok (.ifCond .eq 7, 3) := by decide +kernel
theorem dX4_save_8 : decode cX4_save 8 = .ok (.iconst 0, 1) := by decide +kernel
theorem dX4_save_9 : decode cX4_save 9 = .ok (.goto 4, 3) := by decide +kernel
theorem dX4_save_12 : decode cX4_save 12 = .ok (.iconst 1, 1) := by decide +kernel
theorem dX4_save_13 : decode cX4_save 13 = .ok (.putfield 34, 3) := by decide +kernel
theorem dX4_save_16 : decode cX4_save 16 = .ok (.aload_n 0, 1) := by decide +kernel
theorem dX4_save_17 : decode cX4_save 17 = .ok (.getfield 34, 3) := by decide +kernel
theorem dX4_save_20 : decode cX4_save 20 = .ok (.ifCond .le 5, 3) := by decide +kernel
theorem dX4_save_23 : decode cX4_save 23 = .ok (.iconst 0, 1) := by decide +kernel
theorem dX4_save_24 : decode cX4_save 24 = .ok (.ireturn, 1) := by decide +kernel
theorem dX4_save_25 : decode cX4_save 25 = .ok (.aload_n 0, 1) := by decide +kernel
theorem dX4_save_26 : decode cX4_save 26 = .ok (.getfield 7, 3) := by decide +kernel
theorem dX4_save_29 : decode cX4_save 29 = .ok (.iconst 0, 1) := by decide +kernel
theorem dX4_save_30 : decode cX4_save 30 = .ok (.aload_n 0, 1) := by decide +kernel
theorem dX4_save_31 : decode cX4_save 31 = .ok (.getfield 22, 3) := by decide +kernel
theorem dX4_save_34 : decode cX4_save 34 = .ok (.bipush 121, 2) := by decide +kernel
theorem dX4_save_36 : decode cX4_save 36 = .ok (.iload_n 1, 1) := by decide +kernel
theorem dX4_save_37 : decode cX4_save 37 = .ok (.imul, 1) := by decide +kernel
theorem dX4_save_38 : decode cX4_save 38 = .ok (.invokestatic 172, 3) := by decide +kernel
theorem dX4_save_41 : decode cX4_save 41 = .ok (.aload_n 0, 1) := by decide +kernel
theorem dX4_save_42 : decode cX4_save 42 = .ok (.getfield 25, 3) := by decide +kernel
theorem dX4_save_45 : decode cX4_save 45 = .ok (.iload_n 1, 1) := by decide +kernel
theorem dX4_save_46 : decode cX4_save 46 = .ok (.iconst 1, 1) := by decide +kernel
theorem dX4_save_47 : decode cX4_save 47 = .ok (.iastore, 1) := by decide +kernel
theorem dX4_save_48 : decode cX4_save 48 = .ok (.aload_n 0, 1) := by decide +kernel
theorem dX4_save_49 : decode cX4_save 49 = .ok (.invokevirtual 103, 3) := by decide +kernel
theorem dX4_save_52 : decode cX4_save 52 = .ok (.ireturn, 1) := by decide +kernel
theorem dX4_restore_0 : decode cX4_restore 0 = .ok (.aload_n 0, 1) := by decide +kernel
theorem dX4_restore_1 : decode cX4_restore 1 = .ok (.iload_n 1, 1) := by decide +kernel
theorem dX4_restore_2 : decode cX4_restore 2 = .ok (.invokestatic 233, 3) := by decide +kernel
theorem dX4_restore_5 : decode cX4_restore 5 = .ok (.ifCond .ne 7, 3) := by decide +kernel
theorem dX4_restore_8 : decode cX4_restore 8 = .ok (.iconst 1, 1) := by decide +kernel
theorem dX4_restore_9 : decode cX4_restore 9 = .ok (.goto 18, 3) := by decide +kernel
theorem dX4_restore_12 : decode cX4_restore 12 = .ok (.aload_n 0, 1) := by decide +kernel
theorem dX4_restore_13 : decode cX4_restore 13 = .ok (.getfield 25, 3) := by decide +kernel
theorem dX4_restore_16 : decode cX4_restore 16 = .ok (.iload_n 1, 1) := by decide +kernel
theorem dX4_restore_17 : decode cX4_restore 17 = .ok (.iaload, 1) := by decide +kernel
theorem dX4_restore_18 : decode cX4_restore 18 = .ok (.iconst 1, 1) := by decide +kernel
theorem dX4_restore_19 : decode cX4_restore 19 = .ok (.if_icmp .ne 7, 3) := by decide +kernel
theorem dX4_restore_22 : decode cX4_restore 22 = .ok (.iconst 0, 1) := by decide +kernel
theorem dX4_restore_23 : decode cX4_restore 23 = .ok (.goto 4, 3) := by decide +kernel
theorem dX4_restore_26 : decode cX4_restore 26 = .ok (.iconst 2, 1) := by decide +kernel
theorem dX4_restore_27 : decode cX4_restore 27 = .ok (.putfield 34, 3) := by decide +kernel
theorem dX4_restore_30 : decode cX4_restore 30 = .ok (.aload_n 0, 1) := by decide +kernel
theorem dX4_restore_31 : decode cX4_restore 31 = .ok (.getfield 34, 3) := by decide +kernel
theorem dX4_restore_34 : decode cX4_restore 34 = .ok (.ifCond .le 5, 3) := by decide +kernel
theorem dX4_restore_37 : decode cX4_restore 37 = .ok (.iconst 0, 1) := by decide +kernel
theorem dX4_restore_38 : decode cX4_restore 38 = .ok (.ireturn, 1) := by decide +kernel
theorem dX4_restore_39 : decode cX4_restore 39 = .ok (.aload_n 0, 1) := by decide +kernel
theorem dX4_restore_40 : decode cX4_restore 40 = .ok (.getfield 22, 3) := by decide +kernel
theorem dX4_restore_43 : decode cX4_restore 43 = .ok (.bipush 121, 2) := by decide +kernel
theorem dX4_restore_45 : decode cX4_restore 45 = .ok (.iload_n 1, 1) := by decide +kernel
theorem dX4_restore_46 : decode cX4_restore 46 = .ok (.imul, 1) := by decide +kernel
theorem dX4_restore_47 : decode cX4_restore 47 = .ok (.aload_n 0, 1) := by decide +kernel
theorem dX4_restore_48 : decode cX4_restore 48 = .ok (.getfield 7, 3) := by decide +kernel
theorem dX4_restore_51 : decode cX4_restore 51 = .ok (.iconst 0, 1) := by decide +kernel
theorem dX4_restore_52 : decode cX4_restore 52 = .ok (.invokestatic 172, 3) := by decide +kernel
theorem dX4_restore_55 : decode cX4_restore 55 = .ok (.aload_n 0, 1) := by decide +kernel
theorem dX4_restore_56 : decode cX4_restore 56 = .ok (.iconst 0, 1) := by decide +kernel
theorem dX4_restore_57 : decode cX4_restore 57 = .ok (.putfield 154, 3) := by decide +kernel
theorem dX4_restore_60 : decode cX4_restore 60 = .ok (.aload_n 0, 1) := by decide +kernel
theorem dX4_restore_61 : decode cX4_restore 61 = .ok (.invokevirtual 103, 3) := by decide +kernel
theorem dX4_restore_64 : decode cX4_restore 64 = .ok (.ireturn, 1) := by decide +kernel
theorem dJ6_bitCount_0f7a4_0 : decode cJ6_bitCount_0f7a4 0 = .ok (.iload_n 0, 1) := by decide +kernel
theorem dJ6_bitCount_0f7a4_1 : decode cJ6_bitCount_0f7a4 1 = .ok (.iload_n 0, 1) := by decide +kernel
theorem dJ6_bitCount_0f7a4_2 : decode cJ6_bitCount_0f7a4 2 = .ok (.iconst 1, 1) := by decide +kernel
theorem dJ6_bitCount_0f7a4_3 : decode cJ6_bitCount_0f7a4 3 = .ok (.iushr, 1) := by decide +kernel
theorem dJ6_bitCount_0f7a4_4 : decode cJ6_bitCount_0f7a4 4 = .ok (.ldc_w 265, 3) := by decide +kernel
theorem dJ6_bitCount_0f7a4_7 : decode cJ6_bitCount_0f7a4 7 = .ok (.iand, 1) := by decide +kernel
theorem dJ6_bitCount_0f7a4_8 : decode cJ6_bitCount_0f7a4 8 = .ok (.isub, 1) := by decide +kernel
theorem dJ6_bitCount_0f7a4_9 : decode cJ6_bitCount_0f7a4 9 = .ok (.istore_n 0, 1) := by decide +kernel
theorem dJ6_bitCount_0f7a4_10 : decode cJ6_bitCount_0f7a4 10 = .ok (.iload_n 0, 1) := by decide +kernel
theorem dJ6_bitCount_0f7a4_11 : decode cJ6_bitCount_0f7a4 11 = .ok (.ldc_w 266, 3) := by decide +kernel
theorem dJ6_bitCount_0f7a4_14 : decode cJ6_bitCount_0f7a4 14 = .ok (.iand, 1) := by decide +kernel
theorem dJ6_bitCount_0f7a4_15 : decode cJ6_bitCount_0f7a4 15 = .ok (.iload_n 0, 1) := by decide +kernel
theorem dJ6_bitCount_0f7a4_16 : decode cJ6_bitCount_0f7a4 16 = .ok (.iconst 2, 1) := by decide +kernel
theorem dJ6_bitCount_0f7a4_17 : decode cJ6_bitCount_0f7a4 17 = .ok (.iushr, 1) := by decide +kernel
theorem dJ6_bitCount_0f7a4_18 : decode cJ6_bitCount_0f7a4 18 = .ok (.ldc_w 266, 3) := by decide +kernel
theorem dJ6_bitCount_0f7a4_21 : decode cJ6_bitCount_0f7a4 21 = .ok (.iand, 1) := by decide +kernel
theorem dJ6_bitCount_0f7a4_22 : decode cJ6_bitCount_0f7a4 22 = .ok (.iadd, 1) := by decide +kernel
theorem dJ6_bitCount_0f7a4_23 : decode cJ6_bitCount_0f7a4 23 = .ok (.istore_n 0, 1) := by decide +kernel
theorem dJ6_bitCount_0f7a4_24 : decode cJ6_bitCount_0f7a4 24 = .ok (.iload_n 0, 1) := by decide +kernel
theorem dJ6_bitCount_0f7a4_25 : decode cJ6_bitCount_0f7a4 25 = .ok (.iload_n 0, 1) := by decide +kernel
theorem dJ6_bitCount_0f7a4_26 : decode cJ6_bitCount_0f7a4 26 = .ok (.iconst 4, 1) := by decide +kernel
theorem dJ6_bitCount_0f7a4_27 : decode cJ6_bitCount_0f7a4 27 = .ok (.iushr, 1) := by decide +kernel
theorem dJ6_bitCount_0f7a4_28 : decode cJ6_bitCount_0f7a4 28 = .ok (.iadd, 1) := by decide +kernel
theorem dJ6_bitCount_0f7a4_29 : decode cJ6_bitCount_0f7a4 29 = .ok (.ldc_w 267, 3) := by decide +kernel
theorem dJ6_bitCount_0f7a4_32 : decode cJ6_bitCount_0f7a4 32 = .ok (.iand, 1) := by decide +kernel
theorem dJ6_bitCount_0f7a4_33 : decode cJ6_bitCount_0f7a4 33 = .ok (.istore_n 0, 1) := by decide +kernel
theorem dJ6_bitCount_0f7a4_34 : decode cJ6_bitCount_0f7a4 34 = .ok (.iload_n 0, 1) := by decide +kernel
theorem dJ6_bitCount_0f7a4_35 : decode cJ6_bitCount_0f7a4 35 = .ok (.iload_n 0, 1) := by decide +kernel
theorem dJ6_bitCount_0f7a4_36 : decode cJ6_bitCount_0f7a4 36 = .ok (.bipush 8, 2) := by decide +kernel
theorem dJ6_bitCount_0f7a4_38 : decode cJ6_bitCount_0f7a4 38 = .ok (.iushr, 1) := by decide +kernel
theorem dJ6_bitCount_0f7a4_39 : decode cJ6_bitCount_0f7a4 39 = .ok (.iadd, 1) := by decide +kernel
theorem dJ6_bitCount_0f7a4_40 : decode cJ6_bitCount_0f7a4 40 = .ok (.istore_n 0, 1) := by decide +kernel
theorem dJ6_bitCount_0f7a4_41 : decode cJ6_bitCount_0f7a4 41 = .ok (.iload_n 0, 1) := by decide +kernel
theorem dJ6_bitCount_0f7a4_42 : decode cJ6_bitCount_0f7a4 42 = .ok (.iload_n 0, 1) := by decide +kernel
theorem dJ6_bitCount_0f7a4_43 : decode cJ6_bitCount_0f7a4 43 = .ok (.bipush 16, 2) := by decide +kernel
theorem dJ6_bitCount_0f7a4_45 : decode cJ6_bitCount_0f7a4 45 = .ok (.iushr, 1) := by decide +kernel
theorem dJ6_bitCount_0f7a4_46 : decode cJ6_bitCount_0f7a4 46 = .ok (.iadd, 1) := by decide +kernel
theorem dJ6_bitCount_0f7a4_47 : decode cJ6_bitCount_0f7a4 47 = .ok (.istore_n 0, 1) := by decide +kernel
theorem dJ6_bitCount_0f7a4_48 : decode cJ6_bitCount_0f7a4 48 = .ok (.iload_n 0, 1) := by decide +kernel
theorem dJ6_bitCount_0f7a4_49 : decode cJ6_bitCount_0f7a4 49 = .ok (.bipush 63, 2) := by decide +kernel
theorem dJ6_bitCount_0f7a4_51 : decode cJ6_bitCount_0f7a4 51 = .ok (.iand, 1) := by decide +kernel
theorem dJ6_bitCount_0f7a4_52 : decode cJ6_bitCount_0f7a4 52 = .ok (.ireturn, 1) := by decide +kernel
theorem dJ9_min_7cf53_0 : decode cJ9_min_7cf53 0 = .ok (.iload_n 0, 1) := by decide +kernel
theorem dJ9_min_7cf53_1 : decode cJ9_min_7cf53 1 = .ok (.iload_n 1, 1) := by decide +kernel
theorem dJ9_min_7cf53_2 : decode cJ9_min_7cf53 2 = .ok (.if_icmp .gt 7, 3) := by decide +kernel
theorem dJ9_min_7cf53_5 : decode cJ9_min_7cf53 5 = .ok (.iload_n 0, 1) := by decide +kernel
theorem dJ9_min_7cf53_6 : decode cJ9_min_7cf53 6 = .ok (.goto 4, 3) := by decide +kernel
theorem dJ9_min_7cf53_9 : decode cJ9_min_7cf53 9 = .ok (.iload_n 1, 1) := by decide +kernel
theorem dJ9_min_7cf53_10 : decode cJ9_min_7cf53 10 = .ok (.ireturn, 1) := by decide +kernel
theorem dL_append_0 : decode cL_append 0 = .ok (.aload_n 2, 1) := by decide +kernel
theorem dL_append_1 : decode cL_append 1 = .ok (.iconst 0, 1) := by decide +kernel
theorem dL_append_2 : decode cL_append 2 = .ok (.aload_n 0, 1) := by decide +kernel
theorem dL_append_3 : decode cL_append 3 = .ok (.iload_n 1, 1) := by decide +kernel
theorem dL_append_4 : decode cL_append 4 = .ok (.invokevirtual 7, 3) := by decide +kernel
theorem dL_append_7 : decode cL_append 7 = .ok (.i2l, 1) := by decide +kernel
theorem dL_append_8 : decode cL_append 8 = .ok (.lastore, 1) := by decide +kernel
theorem dL_append_9 : decode cL_append 9 = .ok (.goto 9, 3) := by decide +kernel
theorem dL_append_12 : decode cL_append 12 = .ok (.astore_n 3, 1) := by decide +kernel
theorem dL_append_13 : decode cL_append 13 = .ok (.iconst 1, 1) := by decide +kernel
theorem dL_append_14 : decode cL_append 14 = .ok (.ireturn, 1) := by decide +kernel
theorem dL_append_15 : decode cL_append 15 = .ok (.astore_n 3, 1) := by decide +kernel
theorem dL_append_16 : decode cL_append 16 = .ok (.iconst 2, 1) := by decide +kernel
theorem dL_append_17 : decode cL_append 17 = .ok (.ireturn, 1) := by decide +kernel
theorem dL_append_18 : decode cL_append 18 = .ok (.iconst 0, 1) := by decide +kernel
theorem dL_append_19 : decode cL_append 19 = .ok (.ireturn, 1) := by decide +kernel
theorem dL_load_0 : decode cL_load 0 = .ok (.aload_n 1, 1) := by decide +kernel
theorem dL_load_1 : decode cL_load 1 = .ok (.iconst 0, 1) := by decide +kernel
theorem dL_load_2 : decode cL_load 2 = .ok (.aload_n 0, 1) := by decide +kernel
theorem dL_load_3 : decode cL_load 3 = .ok (.invokevirtual 17, 3) := by decide +kernel
theorem dL_load_6 : decode cL_load 6 = .ok (.i2l, 1) := by decide +kernel
theorem dL_load_7 : decode cL_load 7 = .ok (.lastore, 1) := by decide +kernel
theorem dL_load_8 : decode cL_load 8 = .ok (.goto 6, 3) := by decide +kernel
theorem dL_load_11 : decode cL_load 11 = .ok (.astore_n 2, 1) := by decide +kernel
theorem dL_load_12 : decode cL_load 12 = .ok (.iconst 1, 1) := by decide +kernel
theorem dL_load_13 : decode cL_load 13 = .ok (.ireturn, 1) := by decide +kernel
theorem dL_load_14 : decode cL_load 14 = .ok (.iconst 0, 1) := by decide +kernel
theorem dL_load_15 : decode cL_load 15 = .ok (.ireturn, 1) := by decide +kernel
theorem dL_about_0 : decode cL_about 0 = .ok (.aload_n 2, 1) := by decide +kernel
theorem dL_about_1 : decode cL_about 1 = .ok (.iconst 0, 1) := by decide +kernel
theorem dL_about_2 : decode cL_about 2 = .ok (.aload_n 0, 1) := by decide +kernel
theorem dL_about_3 : decode cL_about 3 = .ok (.iload_n 1, 1) := by decide +kernel
theorem dL_about_4 : decode cL_about 4 = .ok (.invokevirtual 21, 3) := by decide +kernel
theorem dL_about_7 : decode cL_about 7 = .ok (.i2l, 1) := by decide +kernel
theorem dL_about_8 : decode cL_about 8 = .ok (.lastore, 1) := by decide +kernel
theorem dL_about_9 : decode cL_about 9 = .ok (.goto 6, 3) := by decide +kernel
theorem dL_about_12 : decode cL_about 12 = .ok (.astore_n 3, 1) := by decide +kernel
theorem dL_about_13 : decode cL_about 13 = .ok (.iconst 1, 1) := by decide +kernel
theorem dL_about_14 : decode cL_about 14 = .ok (.ireturn, 1) := by decide +kernel
theorem dL_about_15 : decode cL_about 15 = .ok (.iconst 0, 1) := by decide +kernel
theorem dL_about_16 : decode cL_about 16 = .ok (.ireturn, 1) := by decide +kernel
theorem dL_page_0 : decode cL_page 0 = .ok (.aload 4, 2) := by decide +kernel
theorem dL_page_2 : decode cL_page 2 = .ok (.iconst 0, 1) := by decide +kernel
theorem dL_page_3 : decode cL_page 3 = .ok (.aload_n 0, 1) := by decide +kernel
theorem dL_page_4 : decode cL_page 4 = .ok (.iload_n 1, 1) := by decide +kernel
theorem dL_page_5 : decode cL_page 5 = .ok (.iload_n 2, 1) := by decide +kernel
theorem dL_page_6 : decode cL_page 6 = .ok (.iload_n 3, 1) := by decide +kernel
theorem dL_page_7 : decode cL_page 7 = .ok (.invokevirtual 24, 3) := by decide +kernel
theorem dL_page_10 : decode cL_page 10 = .ok (.i2l, 1) := by decide +kernel
theorem dL_page_11 : decode cL_page 11 = .ok (.lastore, 1) := by decide +kernel
theorem dL_page_12 : decode cL_page 12 = .ok (.goto 11, 3) := by decide +kernel
theorem dL_page_15 : decode cL_page 15 = .ok (.astore 5, 2) := by decide +kernel
theorem dL_page_17 : decode cL_page 17 = .ok (.iconst 1, 1) := by decide +kernel
theorem dL_page_18 : decode cL_page 18 = .ok (.ireturn, 1) := by decide +kernel
theorem dL_page_19 : decode cL_page 19 = .ok (.astore 5, 2) := by decide +kernel
theorem dL_page_21 : decode cL_page 21 = .ok (.iconst 2, 1) := by decide +kernel
theorem dL_page_22 : decode cL_page 22 = .ok (.ireturn, 1) := by decide +kernel
theorem dL_page_23 : decode cL_page 23 = .ok (.iconst 0, 1) := by decide +kernel
theorem dL_page_24 : decode cL_page 24 = .ok (.ireturn, 1) := by decide +kernel
theorem dL_user_0 : decode cL_user 0 = .ok (.aload_n 3, 1) := by decide +kernel
theorem dL_user_1 : decode cL_user 1 = .ok (.iconst 0, 1) := by decide +kernel
theorem dL_user_2 : decode cL_user 2 = .ok (.aload_n 0, 1) := by decide +kernel
theorem dL_user_3 : decode cL_user 3 = .ok (.iload_n 1, 1) := by decide +kernel
theorem dL_user_4 : decode cL_user 4 = .ok (.iload_n 2, 1) := by decide +kernel
theorem dL_user_5 : decode cL_user 5 = .ok (.invokevirtual 30, 3) := by decide +kernel
theorem dL_user_8 : decode cL_user 8 = .ok (.i2l, 1) := by decide +kernel
theorem dL_user_9 : decode cL_user 9 = .ok (.lastore, 1) := by decide +kernel
theorem dL_user_10 : decode cL_user 10 = .ok (.goto 11, 3) := by decide +kernel
theorem dL_user_13 : decode cL_user 13 = .ok (.astore 4, 2) := by decide +kernel
theorem dL_user_15 : decode cL_user 15 = .ok (.iconst 1, 1) := by decide +kernel
theorem dL_user_16 : decode cL_user 16 = .ok (.ireturn, 1) := by decide +kernel
theorem dL_user_17 : decode cL_user 17 = .ok (.astore 4, 2) := by decide +kernel
theorem dL_user_19 : decode cL_user 19 = .ok (.iconst 2, 1) := by decide +kernel
theorem dL_user_20 : decode cL_user 20 = .ok (.ireturn, 1) := by decide +kernel
theorem dL_user_21 : decode cL_user 21 = .ok (.iconst 0, 1) := by decide +kernel
theorem dL_user_22 : decode cL_user 22 = .ok (.ireturn, 1) := by decide +kernel
theorem dL_group_0 : decode cL_group 0 = .ok (.aload 4, 2) := by decide +kernel
theorem dL_group_2 : decode cL_group 2 = .ok (.iconst 0, 1) := by decide +kernel
theorem dL_group_3 : decode cL_group 3 = .ok (.aload_n 0, 1) := by decide +kernel
theorem dL_group_4 : decode cL_group 4 = .ok (.iload_n 1, 1) := by decide +kernel
theorem dL_group_5 : decode cL_group 5 = .ok (.iload_n 2, 1) := by decide +kernel
theorem dL_group_6 : decode cL_group 6 = .ok (.iload_n 3, 1) := by decide +kernel
theorem dL_group_7 : decode cL_group 7 = .ok (.invokevirtual 34, 3) := by decide +kernel
theorem dL_group_10 : decode cL_group 10 = .ok (.i2l, 1) := by decide +kernel
theorem dL_group_11 : decode cL_group 11 = .ok (.lastore, 1) := by decide +kernel
theorem dL_group_12 : decode cL_group 12 = .ok (.goto 11, 3) := by decide +kernel
theorem dL_group_15 : decode cL_group 15 = .ok (.astore 5, 2) := by decide +kernel
theorem dL_group_17 : decode cL_group 17 = .ok (.iconst 1, 1) := by decide +kernel
theorem dL_group_18 : decode cL_group 18 = .ok (.ireturn, 1) := by decide +kernel
theorem dL_group_19 : decode cL_group 19 = .ok (.astore 5, 2) := by decide +kernel
theorem dL_group_21 : decode cL_group 21 = .ok (.iconst 2, 1) := by decide +kernel
theorem dL_group_22 : decode cL_group 22 = .ok (.ireturn, 1) := by decide +kernel
theorem dL_group_23 : decode cL_group 23 = .ok (.iconst 0, 1) := by decide +kernel
theorem dL_group_24 : decode cL_group 24 = .ok (.ireturn, 1) := by decide +kernel
theorem dL_write_0 : decode cL_write 0 = .ok (.aload 4, 2) := by decide +kernel
theorem dL_write_2 : decode cL_write 2 = .ok (.iconst 0, 1) := by decide +kernel
theorem dL_write_3 : decode cL_write 3 = .ok (.aload_n 0, 1) := by decide +kernel
theorem dL_write_4 : decode cL_write 4 = .ok (.iload_n 1, 1) := by decide +kernel
theorem dL_write_5 : decode cL_write 5 = .ok (.iload_n 2, 1) := by decide +kernel
theorem dL_write_6 : decode cL_write 6 = .ok (.iload_n 3, 1) := by decide +kernel
theorem dL_write_7 : decode cL_write 7 = .ok (.invokevirtual 37, 3) := by decide +kernel
theorem dL_write_10 : decode cL_write 10 = .ok (.i2l, 1) := by decide +kernel
theorem dL_write_11 : decode cL_write 11 = .ok (.lastore, 1) := by decide +kernel
theorem dL_write_12 : decode cL_write 12 = .ok (.goto 15, 3) := by decide +kernel
theorem dL_write_15 : decode cL_write 15 = .ok (.astore 5, 2) := by decide +kernel
theorem dL_write_17 : decode cL_write 17 = .ok (.iconst 1, 1) := by decide +kernel
theorem dL_write_18 : decode cL_write 18 = .ok (.ireturn, 1) := by decide +kernel
theorem dL_write_19 : decode cL_write 19 = .ok (.astore 5, 2) := by decide +kernel
theorem dL_write_21 : decode cL_write 21 = .ok (.iconst 2, 1) := by decide +kernel
theorem dL_write_22 : decode cL_write 22 = .ok (.ireturn, 1) := by decide +kernel
theorem dL_write_23 : decode cL_write 23 = .ok (.astore 5, 2) := by decide +kernel
theorem dL_write_25 : decode cL_write 25 = .ok (.iconst 3, 1) := by decide +kernel
theorem dL_write_26 : decode cL_write 26 = .ok (.ireturn, 1) := by decide +kernel
theorem dL_write_27 : decode cL_write 27 = .ok (.iconst 0, 1) := by decide +kernel
theorem dL_write_28 : decode cL_write 28 = .ok (.ireturn, 1) := by decide +kernel
theorem dL_fork_0 : decode cL_fork 0 = .ok (.aload_n 2, 1) := by decide +kernel
theorem dL_fork_1 : decode cL_fork 1 = .ok (.iconst 0, 1) := by decide +kernel
theorem dL_fork_2 : decode cL_fork 2 = .ok (.aload_n 0, 1) := by decide +kernel
theorem dL_fork_3 : decode cL_fork 3 = .ok (.iload_n 1, 1) := by decide +kernel
theorem dL_fork_4 : decode cL_fork 4 = .ok (.invokevirtual 40, 3) := by decide +kernel
theorem dL_fork_7 : decode cL_fork 7 = .ok (.i2l, 1) := by decide +kernel
theorem dL_fork_8 : decode cL_fork 8 = .ok (.lastore, 1) := by decide +kernel
theorem dL_fork_9 : decode cL_fork 9 = .ok (.goto 9, 3) := by decide +kernel
theorem dL_fork_12 : decode cL_fork 12 = .ok (.astore_n 3, 1) := by decide +kernel
theorem dL_fork_13 : decode cL_fork 13 = .ok (.iconst 1, 1) := by decide +kernel
theorem dL_fork_14 : decode cL_fork 14 = .ok (.ireturn, 1) := by decide +kernel
theorem dL_fork_15 : decode cL_fork 15 = .ok (.astore_n 3, 1) := by decide +kernel
theorem dL_fork_16 : decode cL_fork 16 = .ok (.iconst 2, 1) := by decide +kernel
theorem dL_fork_17 : decode cL_fork 17 = .ok (.ireturn, 1) := by decide +kernel
theorem dL_fork_18 : decode cL_fork 18 = .ok (.iconst 0, 1) := by decide +kernel
theorem dL_fork_19 : decode cL_fork 19 = .ok (.ireturn, 1) := by decide +kernel
theorem dL_exit_0 : decode cL_exit 0 = .ok (.aload_n 2, 1) := by decide +kernel
theorem dL_exit_1 : decode cL_exit 1 = .ok (.iconst 0, 1) := by decide +kernel
theorem dL_exit_2 : decode cL_exit 2 = .ok (.aload_n 0, 1) := by decide +kernel
theorem dL_exit_3 : decode cL_exit 3 = .ok (.iload_n 1, 1) := by decide +kernel
theorem dL_exit_4 : decode cL_exit 4 = .ok (.invokevirtual 43, 3) := by decide +kernel
theorem dL_exit_7 : decode cL_exit 7 = .ok (.i2l, 1) := by decide +kernel
theorem dL_exit_8 : decode cL_exit 8 = .ok (.lastore, 1) := by decide +kernel
theorem dL_exit_9 : decode cL_exit 9 = .ok (.goto 9, 3) := by decide +kernel
theorem dL_exit_12 : decode cL_exit 12 = .ok (.astore_n 3, 1) := by decide +kernel
theorem dL_exit_13 : decode cL_exit 13 = .ok (.iconst 1, 1) := by decide +kernel
theorem dL_exit_14 : decode cL_exit 14 = .ok (.ireturn, 1) := by decide +kernel
theorem dL_exit_15 : decode cL_exit 15 = .ok (.astore_n 3, 1) := by decide +kernel
theorem dL_exit_16 : decode cL_exit 16 = .ok (.iconst 2, 1) := by decide +kernel
theorem dL_exit_17 : decode cL_exit 17 = .ok (.ireturn, 1) := by decide +kernel
theorem dL_exit_18 : decode cL_exit 18 = .ok (.iconst 0, 1) := by decide +kernel
theorem dL_exit_19 : decode cL_exit 19 = .ok (.ireturn, 1) := by decide +kernel
theorem dL_marry_0 : decode cL_marry 0 = .ok (.aload_n 3, 1) := by decide +kernel
theorem dL_marry_1 : decode cL_marry 1 = .ok (.iconst 0, 1) := by decide +kernel
theorem dL_marry_2 : decode cL_marry 2 = .ok (.aload_n 0, 1) := by decide +kernel
theorem dL_marry_3 : decode cL_marry 3 = .ok (.iload_n 1, 1) := by decide +kernel
theorem dL_marry_4 : decode cL_marry 4 = .ok (.iload_n 2, 1) := by decide +kernel
theorem dL_marry_5 : decode cL_marry 5 = .ok (.invokevirtual 46, 3) := by decide +kernel
theorem dL_marry_8 : decode cL_marry 8 = .ok (.i2l, 1) := by decide +kernel
theorem dL_marry_9 : decode cL_marry 9 = .ok (.lastore, 1) := by decide +kernel
theorem dL_marry_10 : decode cL_marry 10 = .ok (.goto 11, 3) := by decide +kernel
theorem dL_marry_13 : decode cL_marry 13 = .ok (.astore 4, 2) := by decide +kernel
theorem dL_marry_15 : decode cL_marry 15 = .ok (.iconst 1, 1) := by decide +kernel
theorem dL_marry_16 : decode cL_marry 16 = .ok (.ireturn, 1) := by decide +kernel
theorem dL_marry_17 : decode cL_marry 17 = .ok (.astore 4, 2) := by decide +kernel
theorem dL_marry_19 : decode cL_marry 19 = .ok (.iconst 2, 1) := by decide +kernel
theorem dL_marry_20 : decode cL_marry 20 = .ok (.ireturn, 1) := by decide +kernel
theorem dL_marry_21 : decode cL_marry 21 = .ok (.iconst 0, 1) := by decide +kernel
theorem dL_marry_22 : decode cL_marry 22 = .ok (.ireturn, 1) := by decide +kernel
theorem dL_tear_0 : decode cL_tear 0 = .ok (.aload_n 3, 1) := by decide +kernel
theorem dL_tear_1 : decode cL_tear 1 = .ok (.iconst 0, 1) := by decide +kernel
theorem dL_tear_2 : decode cL_tear 2 = .ok (.aload_n 0, 1) := by decide +kernel
theorem dL_tear_3 : decode cL_tear 3 = .ok (.iload_n 1, 1) := by decide +kernel
theorem dL_tear_4 : decode cL_tear 4 = .ok (.iload_n 2, 1) := by decide +kernel
theorem dL_tear_5 : decode cL_tear 5 = .ok (.invokevirtual 49, 3) := by decide +kernel
theorem dL_tear_8 : decode cL_tear 8 = .ok (.i2l, 1) := by decide +kernel
theorem dL_tear_9 : decode cL_tear 9 = .ok (.lastore, 1) := by decide +kernel
theorem dL_tear_10 : decode cL_tear 10 = .ok (.goto 11, 3) := by decide +kernel
theorem dL_tear_13 : decode cL_tear 13 = .ok (.astore 4, 2) := by decide +kernel
theorem dL_tear_15 : decode cL_tear 15 = .ok (.iconst 1, 1) := by decide +kernel
theorem dL_tear_16 : decode cL_tear 16 = .ok (.ireturn, 1) := by decide +kernel
theorem dL_tear_17 : decode cL_tear 17 = .ok (.astore 4, 2) := by decide +kernel
theorem dL_tear_19 : decode cL_tear 19 = .ok (.iconst 2, 1) := by decide +kernel
theorem dL_tear_20 : decode cL_tear 20 = .ok (.ireturn, 1) := by decide +kernel
theorem dL_tear_21 : decode cL_tear 21 = .ok (.iconst 0, 1) := by decide +kernel
theorem dL_tear_22 : decode cL_tear 22 = .ok (.ireturn, 1) := by decide +kernel
theorem dL_press_0 : decode cL_press 0 = .ok (.aload_n 2, 1) := by decide +kernel
theorem dL_press_1 : decode cL_press 1 = .ok (.iconst 0, 1) := by decide +kernel
theorem dL_press_2 : decode cL_press 2 = .ok (.aload_n 0, 1) := by decide +kernel
theorem dL_press_3 : decode cL_press 3 = .ok (.iload_n 1, 1) := by decide +kernel
theorem dL_press_4 : decode cL_press 4 = .ok (.invokevirtual 52, 3) := by decide +kernel
theorem dL_press_7 : decode cL_press 7 = .ok (.i2l, 1) := by decide +kernel
theorem dL_press_8 : decode cL_press 8 = .ok (.lastore, 1) := by decide +kernel
theorem dL_press_9 : decode cL_press 9 = .ok (.goto 6, 3) := by decide +kernel
theorem dL_press_12 : decode cL_press 12 = .ok (.astore_n 3, 1) := by decide +kernel
theorem dL_press_13 : decode cL_press 13 = .ok (.iconst 1, 1) := by decide +kernel
theorem dL_press_14 : decode cL_press 14 = .ok (.ireturn, 1) := by decide +kernel
theorem dL_press_15 : decode cL_press 15 = .ok (.iconst 0, 1) := by decide +kernel
theorem dL_press_16 : decode cL_press 16 = .ok (.ireturn, 1) := by decide +kernel
theorem dL_undo_0 : decode cL_undo 0 = .ok (.aload_n 1, 1) := by decide +kernel
theorem dL_undo_1 : decode cL_undo 1 = .ok (.iconst 0, 1) := by decide +kernel
theorem dL_undo_2 : decode cL_undo 2 = .ok (.aload_n 0, 1) := by decide +kernel
theorem dL_undo_3 : decode cL_undo 3 = .ok (.invokevirtual 55, 3) := by decide +kernel
theorem dL_undo_6 : decode cL_undo 6 = .ok (.i2l, 1) := by decide +kernel
theorem dL_undo_7 : decode cL_undo 7 = .ok (.lastore, 1) := by decide +kernel
theorem dL_undo_8 : decode cL_undo 8 = .ok (.goto 6, 3) := by decide +kernel
theorem dL_undo_11 : decode cL_undo 11 = .ok (.astore_n 2, 1) := by decide +kernel
theorem dL_undo_12 : decode cL_undo 12 = .ok (.iconst 1, 1) := by decide +kernel
theorem dL_undo_13 : decode cL_undo 13 = .ok (.ireturn, 1) := by decide +kernel
theorem dL_undo_14 : decode cL_undo 14 = .ok (.iconst 0, 1) := by decide +kernel
theorem dL_undo_15 : decode cL_undo 15 = .ok (.ireturn, 1) := by decide +kernel
theorem dL_whyNot_0 : decode cL_whyNot 0 = .ok (.aload_n 3, 1) := by decide +kernel
theorem dL_whyNot_1 : decode cL_whyNot 1 = .ok (.iconst 0, 1) := by decide +kernel
theorem dL_whyNot_2 : decode cL_whyNot 2 = .ok (.aload_n 0, 1) := by decide +kernel
theorem dL_whyNot_3 : decode cL_whyNot 3 = .ok (.iload_n 1, 1) := by decide +kernel
theorem dL_whyNot_4 : decode cL_whyNot 4 = .ok (.iload_n 2, 1) := by decide +kernel
theorem dL_whyNot_5 : decode cL_whyNot 5 = .ok (.invokevirtual 58, 3) := by decide +kernel
theorem dL_whyNot_8 : decode cL_whyNot 8 = .ok (.i2l, 1) := by decide +kernel
theorem dL_whyNot_9 : decode cL_whyNot 9 = .ok (.lastore, 1) := by decide +kernel
theorem dL_whyNot_10 : decode cL_whyNot 10 = .ok (.goto 7, 3) := by decide +kernel
theorem dL_whyNot_13 : decode cL_whyNot 13 = .ok (.astore 4, 2) := by decide +kernel
theorem dL_whyNot_15 : decode cL_whyNot 15 = .ok (.iconst 1, 1) := by decide +kernel
theorem dL_whyNot_16 : decode cL_whyNot 16 = .ok (.ireturn, 1) := by decide +kernel
theorem dL_whyNot_17 : decode cL_whyNot 17 = .ok (.iconst 0, 1) := by decide +kernel
theorem dL_whyNot_18 : decode cL_whyNot 18 = .ok (.ireturn, 1) := by decide +kernel
theorem dL_wouldDo_0 : decode cL_wouldDo 0 = .ok (.aload_n 3, 1) := by decide +kernel
theorem dL_wouldDo_1 : decode cL_wouldDo 1 = .ok (.iconst 0, 1) := by decide +kernel
theorem dL_wouldDo_2 : decode cL_wouldDo 2 = .ok (.aload_n 0, 1) := by decide +kernel
theorem dL_wouldDo_3 : decode cL_wouldDo 3 = .ok (.iload_n 1, 1) := by decide +kernel
theorem dL_wouldDo_4 : decode cL_wouldDo 4 = .ok (.iload_n 2, 1) := by decide +kernel
theorem dL_wouldDo_5 : decode cL_wouldDo 5 = .ok (.invokevirtual 61, 3) := by decide +kernel
theorem dL_wouldDo_8 : decode cL_wouldDo 8 = .ok (.i2l, 1) := by decide +kernel
theorem dL_wouldDo_9 : decode cL_wouldDo 9 = .ok (.lastore, 1) := by decide +kernel
theorem dL_wouldDo_10 : decode cL_wouldDo 10 = .ok (.goto 7, 3) := by decide +kernel
theorem dL_wouldDo_13 : decode cL_wouldDo 13 = .ok (.astore 4, 2) := by decide +kernel
theorem dL_wouldDo_15 : decode cL_wouldDo 15 = .ok (.iconst 1, 1) := by decide +kernel
theorem dL_wouldDo_16 : decode cL_wouldDo 16 = .ok (.ireturn, 1) := by decide +kernel
theorem dL_wouldDo_17 : decode cL_wouldDo 17 = .ok (.iconst 0, 1) := by decide +kernel
theorem dL_wouldDo_18 : decode cL_wouldDo 18 = .ok (.ireturn, 1) := by decide +kernel
theorem dL_writable_0 : decode cL_writable 0 = .ok (.aload_n 2, 1) := by decide +kernel
theorem dL_writable_1 : decode cL_writable 1 = .ok (.iconst 0, 1) := by decide +kernel
theorem dL_writable_2 : decode cL_writable 2 = .ok (.aload_n 0, 1) := by decide +kernel
theorem dL_writable_3 : decode cL_writable 3 = .ok (.iload_n 1, 1) := by decide +kernel
theorem dL_writable_4 : decode cL_writable 4 = .ok (.invokevirtual 64, 3) := by decide +kernel
theorem dL_writable_7 : decode cL_writable 7 = .ok (.i2l, 1) := by decide +kernel
theorem dL_writable_8 : decode cL_writable 8 = .ok (.lastore, 1) := by decide +kernel
theorem dL_writable_9 : decode cL_writable 9 = .ok (.goto 6, 3) := by decide +kernel
theorem dL_writable_12 : decode cL_writable 12 = .ok (.astore_n 3, 1) := by decide +kernel
theorem dL_writable_13 : decode cL_writable 13 = .ok (.iconst 1, 1) := by decide +kernel
theorem dL_writable_14 : decode cL_writable 14 = .ok (.ireturn, 1) := by decide +kernel
theorem dL_writable_15 : decode cL_writable 15 = .ok (.iconst 0, 1) := by decide +kernel
theorem dL_writable_16 : decode cL_writable 16 = .ok (.ireturn, 1) := by decide +kernel
theorem dL_runScript_0 : decode cL_runScript 0 = .ok (.aload 4, 2) := by decide +kernel
theorem dL_runScript_2 : decode cL_runScript 2 = .ok (.iconst 0, 1) := by decide +kernel
theorem dL_runScript_3 : decode cL_runScript 3 = .ok (.aload_n 0, 1) := by decide +kernel
theorem dL_runScript_4 : decode cL_runScript 4 = .ok (.iload_n 1, 1) := by decide +kernel
theorem dL_runScript_5 : decode cL_runScript 5 = .ok (.lload_n 2, 1) := by decide +kernel
theorem dL_runScript_6 : decode cL_runScript 6 = .ok (.invokevirtual 67, 3) := by decide +kernel
theorem dL_runScript_9 : decode cL_runScript 9 = .ok (.i2l, 1) := by decide +kernel
theorem dL_runScript_10 : decode cL_runScript 10 = .ok (.lastore, 1) := by decide +kernel
theorem dL_runScript_11 : decode cL_runScript 11 = .ok (.goto 7, 3) := by decide +kernel
theorem dL_runScript_14 : decode cL_runScript 14 = .ok (.astore 5, 2) := by decide +kernel
theorem dL_runScript_16 : decode cL_runScript 16 = .ok (.iconst 1, 1) := by decide +kernel
theorem dL_runScript_17 : decode cL_runScript 17 = .ok (.ireturn, 1) := by decide +kernel
theorem dL_runScript_18 : decode cL_runScript 18 = .ok (.iconst 0, 1) := by decide +kernel
theorem dL_runScript_19 : decode cL_runScript 19 = .ok (.ireturn, 1) := by decide +kernel
theorem dL_simulate_0 : decode cL_simulate 0 = .ok (.aload 4, 2) := by decide +kernel
theorem dL_simulate_2 : decode cL_simulate 2 = .ok (.iconst 0, 1) := by decide +kernel
theorem dL_simulate_3 : decode cL_simulate 3 = .ok (.aload_n 0, 1) := by decide +kernel
theorem dL_simulate_4 : decode cL_simulate 4 = .ok (.lload_n 1, 1) := by decide +kernel
theorem dL_simulate_5 : decode cL_simulate 5 = .ok (.iload_n 3, 1) := by decide +kernel
theorem dL_simulate_6 : decode cL_simulate 6 = .ok (.invokevirtual 71, 3) := by decide +kernel
theorem dL_simulate_9 : decode cL_simulate 9 = .ok (.i2l, 1) := by decide +kernel
theorem dL_simulate_10 : decode cL_simulate 10 = .ok (.lastore, 1) := by decide +kernel
theorem dL_simulate_11 : decode cL_simulate 11 = .ok (.goto 7, 3) := by decide +kernel
theorem dL_simulate_14 : decode cL_simulate 14 = .ok (.astore 5, 2) := by decide +kernel
theorem dL_simulate_16 : decode cL_simulate 16 = .ok (.iconst 1, 1) := by decide +kernel
theorem dL_simulate_17 : decode cL_simulate 17 = .ok (.ireturn, 1) := by decide +kernel
theorem dL_simulate_18 : decode cL_simulate 18 = .ok (.iconst 0, 1) := by decide +kernel
theorem dL_simulate_19 : decode cL_simulate 19 = .ok (.ireturn, 1) := by decide +kernel
theorem dL_save_0 : decode cL_save 0 = .ok (.aload_n 2, 1) := by decide +kernel
theorem dL_save_1 : decode cL_save 1 = .ok (.iconst 0, 1) := by decide +kernel
theorem dL_save_2 : decode cL_save 2 = .ok (.aload_n 0, 1) := by decide +kernel
theorem dL_save_3 : decode cL_save 3 = .ok (.iload_n 1, 1) := by decide +kernel
theorem dL_save_4 : decode cL_save 4 = .ok (.invokevirtual 75, 3) := by decide +kernel
theorem dL_save_7 : decode cL_save 7 = .ok (.i2l, 1) := by decide +kernel
theorem dL_save_8 : decode cL_save 8 = .ok (.lastore, 1) := by decide +kernel
theorem dL_save_9 : decode cL_save 9 = .ok (.goto 6, 3) := by decide +kernel
theorem dL_save_12 : decode cL_save 12 = .ok (.astore_n 3, 1) := by decide +kernel
theorem dL_save_13 : decode cL_save 13 = .ok (.iconst 1, 1) := by decide +kernel
theorem dL_save_14 : decode cL_save 14 = .ok (.ireturn, 1) := by decide +kernel
theorem dL_save_15 : decode cL_save 15 = .ok (.iconst 0, 1) := by decide +kernel
theorem dL_save_16 : decode cL_save 16 = .ok (.ireturn, 1) := by decide +kernel
theorem dL_restore_0 : decode cL_restore 0 = .ok (.aload_n 2, 1) := by decide +kernel
theorem dL_restore_1 : decode cL_restore 1 = .ok (.iconst 0, 1) := by decide +kernel
theorem dL_restore_2 : decode cL_restore 2 = .ok (.aload_n 0, 1) := by decide +kernel
theorem dL_restore_3 : decode cL_restore 3 = .ok (.iload_n 1, 1) := by decide +kernel
theorem dL_restore_4 : decode cL_restore 4 = .ok (.invokevirtual 78, 3) := by decide +kernel
theorem dL_restore_7 : decode cL_restore 7 = .ok (.i2l, 1) := by decide +kernel
theorem dL_restore_8 : decode cL_restore 8 = .ok (.lastore, 1) := by decide +kernel
theorem dL_restore_9 : decode cL_restore 9 = .ok (.goto 9, 3) := by decide +kernel
theorem dL_restore_12 : decode cL_restore 12 = .ok (.astore_n 3, 1) := by decide +kernel
theorem dL_restore_13 : decode cL_restore 13 = .ok (.iconst 1, 1) := by decide +kernel
theorem dL_restore_14 : decode cL_restore 14 = .ok (.ireturn, 1) := by decide +kernel
theorem dL_restore_15 : decode cL_restore 15 = .ok (.astore_n 3, 1) := by decide +kernel
theorem dL_restore_16 : decode cL_restore 16 = .ok (.iconst 2, 1) := by decide +kernel
theorem dL_restore_17 : decode cL_restore 17 = .ok (.ireturn, 1) := by decide +kernel
theorem dL_restore_18 : decode cL_restore 18 = .ok (.iconst 0, 1) := by decide +kernel
theorem dL_restore_19 : decode cL_restore 19 = .ok (.ireturn, 1) := by decide +kernel
theorem dL_law_0 : decode cL_law 0 = .ok (.new 8, 3) := by decide +kernel
theorem dL_law_3 : decode cL_law 3 = .ok (.dup, 1) := by decide +kernel
theorem dL_law_4 : decode cL_law 4 = .ok (.invokespecial 81, 3) := by decide +kernel
theorem dL_law_7 : decode cL_law 7 = .ok (.astore_n 1, 1) := by decide +kernel
theorem dL_law_8 : decode cL_law 8 = .ok (.new 82, 3) := by decide +kernel
theorem dL_law_11 : decode cL_law 11 = .ok (.dup, 1) := by decide +kernel
theorem dL_law_12 : decode cL_law 12 = .ok (.invokespecial 84, 3) := by decide +kernel
theorem dL_law_15 : decode cL_law 15 = .ok (.astore_n 2, 1) := by decide +kernel
theorem dL_law_16 : decode cL_law 16 = .ok (.iconst 1, 1) := by decide +kernel
theorem dL_law_17 : decode cL_law 17 = .ok (.newarray .long, 2) := by decide +kernel
theorem dL_law_19 : decode cL_law 19 = .ok (.astore_n 3, 1) := by decide +kernel
theorem dL_law_20 : decode cL_law 20 = .ok (.iconst 0, 1) := by decide +kernel
theorem dL_law_21 : decode cL_law 21 = .ok (.istore 4, 2) := by decide +kernel
theorem dL_law_23 : decode cL_law 23 = .ok (.iload 4, 2) := by decide +kernel
theorem dL_law_25 : decode cL_law 25 = .ok (.aload_n 0, 1) := by decide +kernel
theorem dL_law_26 : decode cL_law 26 = .ok (.arraylength, 1) := by decide +kernel
theorem dL_law_27 : decode cL_law 27 = .ok (.iconst 4, 1) := by decide +kernel
theorem dL_law_28 : decode cL_law 28 = .ok (.isub, 1) := by decide +kernel
theorem dL_law_29 : decode cL_law 29 = .ok (.if_icmp .gt 1538, 3) := by decide +kernel
theorem dL_law_32 : decode cL_law 32 = .ok (.aload_n 0, 1) := by decide +kernel
theorem dL_law_33 : decode cL_law 33 = .ok (.iload 4, 2) := by decide +kernel
theorem dL_law_35 : decode cL_law 35 = .ok (.iaload, 1) := by decide +kernel
theorem dL_law_36 : decode cL_law 36 = .ok (.bipush 31, 2) := by decide +kernel
theorem dL_law_38 : decode cL_law 38 = .ok (.iand, 1) := by decide +kernel
theorem dL_law_39 : decode cL_law 39 = .ok (.tableswitch 1522 0 24 #[113, 169, 182, 195, 239, 295, 375, 443, 523, 603, 659, 715, 783, 851, 907, 948, 992, 1060, 1128, 1141, 1154, 1210, 1310, 1410, 1466], 113) := by decide +kernel
theorem dL_law_152 : decode cL_law 152 = .ok (.aload_n 1, 1) := by decide +kernel
theorem dL_law_153 : decode cL_law 153 = .ok (.aload_n 0, 1) := by decide +kernel
theorem dL_law_154 : decode cL_law 154 = .ok (.iload 4, 2) := by decide +kernel
theorem dL_law_156 : decode cL_law 156 = .ok (.iconst 1, 1) := by decide +kernel
theorem dL_law_157 : decode cL_law 157 = .ok (.iadd, 1) := by decide +kernel
theorem dL_law_158 : decode cL_law 158 = .ok (.iaload, 1) := by decide +kernel
theorem dL_law_159 : decode cL_law 159 = .ok (.aload_n 3, 1) := by decide +kernel
theorem dL_law_160 : decode cL_law 160 = .ok (.invokestatic 85, 3) := by decide +kernel
theorem dL_law_163 : decode cL_law 163 = .ok (.istore 5, 2) := by decide +kernel
theorem dL_law_165 : decode cL_law 165 = .ok (.aload_n 2, 1) := by decide +kernel
theorem dL_law_166 : decode cL_law 166 = .ok (.aload_n 0, 1) := by decide +kernel
theorem dL_law_167 : decode cL_law 167 = .ok (.iload 4, 2) := by decide +kernel
theorem dL_law_169 : decode cL_law 169 = .ok (.iconst 1, 1) := by decide +kernel
theorem dL_law_170 : decode cL_law 170 = .ok (.iadd, 1) := by decide +kernel
theorem dL_law_171 : decode cL_law 171 = .ok (.iaload, 1) := by decide +kernel
theorem dL_law_172 : decode cL_law 172 = .ok (.invokevirtual 90, 3) := by decide +kernel
theorem dL_law_175 : decode cL_law 175 = .ok (.istore 6, 2) := by decide +kernel
theorem dL_law_177 : decode cL_law 177 = .ok (.aload_n 2, 1) := by decide +kernel
theorem dL_law_178 : decode cL_law 178 = .ok (.invokevirtual 91, 3) := by decide +kernel
theorem dL_law_181 : decode cL_law 181 = .ok (.iload 5, 2) := by decide +kernel
theorem dL_law_183 : decode cL_law 183 = .ok (.if_icmp .eq 5, 3) := by decide +kernel
theorem dL_law_186 : decode cL_law 186 = .ok (.iconst 0, 1) := by decide +kernel
theorem dL_law_187 : decode cL_law 187 = .ok (.ireturn, 1) := by decide +kernel
theorem dL_law_188 : decode cL_law 188 = .ok (.iload 5, 2) := by decide +kernel
theorem dL_law_190 : decode cL_law 190 = .ok (.ifCond .ne 15, 3) := by decide +kernel
theorem dL_law_193 : decode cL_law 193 = .ok (.aload_n 3, 1) := by decide +kernel
theorem dL_law_194 : decode cL_law 194 = .ok (.iconst 0, 1) := by decide +kernel
theorem dL_law_195 : decode cL_law 195 = .ok (.laload, 1) := by decide +kernel
theorem dL_law_196 : decode cL_law 196 = .ok (.iload 6, 2) := by decide +kernel
theorem dL_law_198 : decode cL_law 198 = .ok (.i2l, 1) := by decide +kernel
theorem dL_law_199 : decode cL_law 199 = .ok (.lcmp, 1) := by decide +kernel
theorem dL_law_200 : decode cL_law 200 = .ok (.ifCond .eq 5, 3) := by decide +kernel
theorem dL_law_203 : decode cL_law 203 = .ok (.iconst 0, 1) := by decide +kernel
theorem dL_law_204 : decode cL_law 204 = .ok (.ireturn, 1) := by decide +kernel
theorem dL_law_205 : decode cL_law 205 = .ok (.goto 1356, 3) := by decide +kernel
theorem dL_law_208 : decode cL_law 208 = .ok (.aload_n 1, 1) := by decide +kernel
theorem dL_law_209 : decode cL_law 209 = .ok (.invokevirtual 94, 3) := by decide +kernel
theorem dL_law_212 : decode cL_law 212 = .ok (.aload_n 2, 1) := by decide +kernel
theorem dL_law_213 : decode cL_law 213 = .ok (.invokevirtual 97, 3) := by decide +kernel
theorem dL_law_216 : decode cL_law 216 = .ok (.if_icmp .eq 1345, 3) := by decide +kernel
theorem dL_law_219 : decode cL_law 219 = .ok (.iconst 0, 1) := by decide +kernel
theorem dL_law_220 : decode cL_law 220 = .ok (.ireturn, 1) := by decide +kernel
theorem dL_law_221 : decode cL_law 221 = .ok (.aload_n 1, 1) := by decide +kernel
theorem dL_law_222 : decode cL_law 222 = .ok (.invokevirtual 98, 3) := by decide +kernel
theorem dL_law_225 : decode cL_law 225 = .ok (.aload_n 2, 1) := by decide +kernel
theorem dL_law_226 : decode cL_law 226 = .ok (.invokevirtual 101, 3) := by decide +kernel
theorem dL_law_229 : decode cL_law 229 = .ok (.if_icmp .eq 1332, 3) := by decide +kernel
theorem dL_law_232 : decode cL_law 232 = .ok (.iconst 0, 1) := by decide +kernel
theorem dL_law_233 : decode cL_law 233 = .ok (.ireturn, 1) := by decide +kernel
theorem dL_law_234 : decode cL_law 234 = .ok (.aload_n 1, 1) := by decide +kernel
theorem dL_law_235 : decode cL_law 235 = .ok (.aload_n 3, 1) := by decide +kernel
theorem dL_law_236 : decode cL_law 236 = .ok (.invokestatic 102, 3) := by decide +kernel
theorem dL_law_239 : decode cL_law 239 = .ok (.istore 5, 2) := by decide +kernel
theorem dL_law_241 : decode cL_law 241 = .ok (.aload_n 2, 1) := by decide +kernel
theorem dL_law_242 : decode cL_law 242 = .ok (.invokevirtual 105, 3) := by decide +kernel
theorem dL_law_245 : decode cL_law 245 = .ok (.istore 6, 2) := by decide +kernel
theorem dL_law_247 : decode cL_law 247 = .ok (.aload_n 2, 1) := by decide +kernel
theorem dL_law_248 : decode cL_law 248 = .ok (.invokevirtual 91, 3) := by decide +kernel
theorem dL_law_251 : decode cL_law 251 = .ok (.iload 5, 2) := by decide +kernel
theorem dL_law_253 : decode cL_law 253 = .ok (.if_icmp .eq 5, 3) := by decide +kernel
theorem dL_law_256 : decode cL_law 256 = .ok (.iconst 0, 1) := by decide +kernel
theorem dL_law_257 : decode cL_law 257 = .ok (.ireturn, 1) := by decide +kernel
theorem dL_law_258 : decode cL_law 258 = .ok (.iload 5, 2) := by decide +kernel
theorem dL_law_260 : decode cL_law 260 = .ok (.ifCond .ne 15, 3) := by decide +kernel
theorem dL_law_263 : decode cL_law 263 = .ok (.aload_n 3, 1) := by decide +kernel
theorem dL_law_264 : decode cL_law 264 = .ok (.iconst 0, 1) := by decide +kernel
theorem dL_law_265 : decode cL_law 265 = .ok (.laload, 1) := by decide +kernel
theorem dL_law_266 : decode cL_law 266 = .ok (.iload 6, 2) := by decide +kernel
theorem dL_law_268 : decode cL_law 268 = .ok (.i2l, 1) := by decide +kernel
theorem dL_law_269 : decode cL_law 269 = .ok (.lcmp, 1) := by decide +kernel
theorem dL_law_270 : decode cL_law 270 = .ok (.ifCond .eq 5, 3) := by decide +kernel
theorem dL_law_273 : decode cL_law 273 = .ok (.iconst 0, 1) := by decide +kernel
theorem dL_law_274 : decode cL_law 274 = .ok (.ireturn, 1) := by decide +kernel
theorem dL_law_275 : decode cL_law 275 = .ok (.goto 1286, 3) := by decide +kernel
theorem dL_law_278 : decode cL_law 278 = .ok (.aload_n 1, 1) := by decide +kernel
theorem dL_law_279 : decode cL_law 279 = .ok (.aload_n 0, 1) := by decide +kernel
theorem dL_law_280 : decode cL_law 280 = .ok (.iload 4, 2) := by decide +kernel
theorem dL_law_282 : decode cL_law 282 = .ok (.iconst 1, 1) := by decide +kernel
theorem dL_law_283 : decode cL_law 283 = .ok (.iadd, 1) := by decide +kernel
theorem dL_law_284 : decode cL_law 284 = .ok (.iaload, 1) := by decide +kernel
theorem dL_law_285 : decode cL_law 285 = .ok (.aload_n 3, 1) := by decide +kernel
theorem dL_law_286 : decode cL_law 286 = .ok (.invokestatic 106, 3) := by decide +kernel
theorem dL_law_289 : decode cL_law 289 = .ok (.istore 5, 2) := by decide +kernel
theorem dL_law_291 : decode cL_law 291 = .ok (.aload_n 2, 1) := by decide +kernel
theorem dL_law_292 : decode cL_law 292 = .ok (.aload_n 0, 1) := by decide +kernel
theorem dL_law_293 : decode cL_law 293 = .ok (.iload 4, 2) := by decide +kernel
theorem dL_law_295 : decode cL_law 295 = .ok (.iconst 1, 1) := by decide +kernel
theorem dL_law_296 : decode cL_law 296 = .ok (.iadd, 1) := by decide +kernel
theorem dL_law_297 : decode cL_law 297 = .ok (.iaload, 1) := by decide +kernel
theorem dL_law_298 : decode cL_law 298 = .ok (.invokevirtual 108, 3) := by decide +kernel
theorem dL_law_301 : decode cL_law 301 = .ok (.istore 6, 2) := by decide +kernel
theorem dL_law_303 : decode cL_law 303 = .ok (.aload_n 2, 1) := by decide +kernel
theorem dL_law_304 : decode cL_law 304 = .ok (.invokevirtual 91, 3) := by decide +kernel
theorem dL_law_307 : decode cL_law 307 = .ok (.iload 5, 2) := by decide +kernel
theorem dL_law_309 : decode cL_law 309 = .ok (.if_icmp .eq 5, 3) := by decide +kernel
theorem dL_law_312 : decode cL_law 312 = .ok (.iconst 0, 1) := by decide +kernel
theorem dL_law_313 : decode cL_law 313 = .ok (.ireturn, 1) := by decide +kernel
theorem dL_law_314 : decode cL_law 314 = .ok (.iload 5, 2) := by decide +kernel
theorem dL_law_316 : decode cL_law 316 = .ok (.ifCond .ne 15, 3) := by decide +kernel
theorem dL_law_319 : decode cL_law 319 = .ok (.aload_n 3, 1) := by decide +kernel
theorem dL_law_320 : decode cL_law 320 = .ok (.iconst 0, 1) := by decide +kernel
theorem dL_law_321 : decode cL_law 321 = .ok (.laload, 1) := by decide +kernel
theorem dL_law_322 : decode cL_law 322 = .ok (.iload 6, 2) := by decide +kernel
theorem dL_law_324 : decode cL_law 324 = .ok (.i2l, 1) := by decide +kernel
theorem dL_law_325 : decode cL_law 325 = .ok (.lcmp, 1) := by decide +kernel
theorem dL_law_326 : decode cL_law 326 = .ok (.ifCond .eq 5, 3) := by decide +kernel
theorem dL_law_329 : decode cL_law 329 = .ok (.iconst 0, 1) := by decide +kernel
theorem dL_law_330 : decode cL_law 330 = .ok (.ireturn, 1) := by decide +kernel
theorem dL_law_331 : decode cL_law 331 = .ok (.goto 1230, 3) := by decide +kernel
theorem dL_law_334 : decode cL_law 334 = .ok (.aload_n 1, 1) := by decide +kernel
theorem dL_law_335 : decode cL_law 335 = .ok (.aload_n 0, 1) := by decide +kernel
theorem dL_law_336 : decode cL_law 336 = .ok (.iload 4, 2) := by decide +kernel
theorem dL_law_338 : decode cL_law 338 = .ok (.iconst 1, 1) := by decide +kernel
theorem dL_law_339 : decode cL_law 339 = .ok (.iadd, 1) := by decide +kernel
theorem dL_law_340 : decode cL_law 340 = .ok (.iaload, 1) := by decide +kernel
theorem dL_law_341 : decode cL_law 341 = .ok (.aload_n 0, 1) := by decide +kernel
theorem dL_law_342 : decode cL_law 342 = .ok (.iload 4, 2) := by decide +kernel
theorem dL_law_344 : decode cL_law 344 = .ok (.iconst 2, 1) := by decide +kernel
theorem dL_law_345 : decode cL_law 345 = .ok (.iadd, 1) := by decide +kernel
theorem dL_law_346 : decode cL_law 346 = .ok (.iaload, 1) := by decide +kernel
theorem dL_law_347 : decode cL_law 347 = .ok (.aload_n 0, 1) := by decide +kernel
theorem dL_law_348 : decode cL_law 348 = .ok (.iload 4, 2) := by decide +kernel
theorem dL_law_350 : decode cL_law 350 = .ok (.iconst 3, 1) := by decide +kernel
theorem dL_law_351 : decode cL_law 351 = .ok (.iadd, 1) := by decide +kernel
theorem dL_law_352 : decode cL_law 352 = .ok (.iaload, 1) := by decide +kernel
theorem dL_law_353 : decode cL_law 353 = .ok (.aload_n 3, 1) := by decide +kernel
theorem dL_law_354 : decode cL_law 354 = .ok (.invokestatic 109, 3) := by decide +kernel
theorem dL_law_357 : decode cL_law 357 = .ok (.istore 5, 2) := by decide +kernel
theorem dL_law_359 : decode cL_law 359 = .ok (.aload_n 2, 1) := by decide +kernel
theorem dL_law_360 : decode cL_law 360 = .ok (.aload_n 0, 1) := by decide +kernel
theorem dL_law_361 : decode cL_law 361 = .ok (.iload 4, 2) := by decide +kernel
theorem dL_law_363 : decode cL_law 363 = .ok (.iconst 1, 1) := by decide +kernel
theorem dL_law_364 : decode cL_law 364 = .ok (.iadd, 1) := by decide +kernel
theorem dL_law_365 : decode cL_law 365 = .ok (.iaload, 1) := by decide +kernel
theorem dL_law_366 : decode cL_law 366 = .ok (.aload_n 0, 1) := by decide +kernel
theorem dL_law_367 : decode cL_law 367 = .ok (.iload 4, 2) := by decide +kernel
theorem dL_law_369 : decode cL_law 369 = .ok (.iconst 2, 1) := by decide +kernel
theorem dL_law_370 : decode cL_law 370 = .ok (.iadd, 1) := by decide +kernel
theorem dL_law_371 : decode cL_law 371 = .ok (.iaload, 1) := by decide +kernel
theorem dL_law_372 : decode cL_law 372 = .ok (.aload_n 0, 1) := by decide +kernel
theorem dL_law_373 : decode cL_law 373 = .ok (.iload 4, 2) := by decide +kernel
theorem dL_law_375 : decode cL_law 375 = .ok (.iconst 3, 1) := by decide +kernel
theorem dL_law_376 : decode cL_law 376 = .ok (.iadd, 1) := by decide +kernel
theorem dL_law_377 : decode cL_law 377 = .ok (.iaload, 1) := by decide +kernel
theorem dL_law_378 : decode cL_law 378 = .ok (.invokevirtual 112, 3) := by decide +kernel
theorem dL_law_381 : decode cL_law 381 = .ok (.istore 6, 2) := by decide +kernel
theorem dL_law_383 : decode cL_law 383 = .ok (.aload_n 2, 1) := by decide +kernel
theorem dL_law_384 : decode cL_law 384 = .ok (.invokevirtual 91, 3) := by decide +kernel
theorem dL_law_387 : decode cL_law 387 = .ok (.iload 5, 2) := by decide +kernel
theorem dL_law_389 : decode cL_law 389 = .ok (.if_icmp .eq 5, 3) := by decide +kernel
theorem dL_law_392 : decode cL_law 392 = .ok (.iconst 0, 1) := by decide +kernel
theorem dL_law_393 : decode cL_law 393 = .ok (.ireturn, 1) := by decide +kernel
theorem dL_law_394 : decode cL_law 394 = .ok (.iload 5, 2) := by decide +kernel
theorem dL_law_396 : decode cL_law 396 = .ok (.ifCond .ne 15, 3) := by decide +kernel
theorem dL_law_399 : decode cL_law 399 = .ok (.aload_n 3, 1) := by decide +kernel
theorem dL_law_400 : decode cL_law 400 = .ok (.iconst 0, 1) := by decide +kernel
theorem dL_law_401 : decode cL_law 401 = .ok (.laload, 1) := by decide +kernel
theorem dL_law_402 : decode cL_law 402 = .ok (.iload 6, 2) := by decide +kernel
theorem dL_law_404 : decode cL_law 404 = .ok (.i2l, 1) := by decide +kernel
theorem dL_law_405 : decode cL_law 405 = .ok (.lcmp, 1) := by decide +kernel
theorem dL_law_406 : decode cL_law 406 = .ok (.ifCond .eq 5, 3) := by decide +kernel
theorem dL_law_409 : decode cL_law 409 = .ok (.iconst 0, 1) := by decide +kernel
theorem dL_law_410 : decode cL_law 410 = .ok (.ireturn, 1) := by decide +kernel
theorem dL_law_411 : decode cL_law 411 = .ok (.goto 1150, 3) := by decide +kernel
theorem dL_law_414 : decode cL_law 414 = .ok (.aload_n 1, 1) := by decide +kernel
theorem dL_law_415 : decode cL_law 415 = .ok (.aload_n 0, 1) := by decide +kernel
theorem dL_law_416 : decode cL_law 416 = .ok (.iload 4, 2) := by decide +kernel
theorem dL_law_418 : decode cL_law 418 = .ok (.iconst 1, 1) := by decide +kernel
theorem dL_law_419 : decode cL_law 419 = .ok (.iadd, 1) := by decide +kernel
theorem dL_law_420 : decode cL_law 420 = .ok (.iaload, 1) := by decide +kernel
theorem dL_law_421 : decode cL_law 421 = .ok (.aload_n 0, 1) := by decide +kernel
theorem dL_law_422 : decode cL_law 422 = .ok (.iload 4, 2) := by decide +kernel
theorem dL_law_424 : decode cL_law 424 = .ok (.iconst 2, 1) := by decide +kernel
theorem dL_law_425 : decode cL_law 425 = .ok (.iadd, 1) := by decide +kernel
theorem dL_law_426 : decode cL_law 426 = .ok (.iaload, 1) := by decide +kernel
theorem dL_law_427 : decode cL_law 427 = .ok (.aload_n 3, 1) := by decide +kernel
theorem dL_law_428 : decode cL_law 428 = .ok (.invokestatic 113, 3) := by decide +kernel
theorem dL_law_431 : decode cL_law 431 = .ok (.istore 5, 2) := by decide +kernel
theorem dL_law_433 : decode cL_law 433 = .ok (.aload_n 2, 1) := by decide +kernel
theorem dL_law_434 : decode cL_law 434 = .ok (.aload_n 0, 1) := by decide +kernel
theorem dL_law_435 : decode cL_law 435 = .ok (.iload 4, 2) := by decide +kernel
theorem dL_law_437 : decode cL_law 437 = .ok (.iconst 1, 1) := by decide +kernel
theorem dL_law_438 : decode cL_law 438 = .ok (.iadd, 1) := by decide +kernel
theorem dL_law_439 : decode cL_law 439 = .ok (.iaload, 1) := by decide +kernel
theorem dL_law_440 : decode cL_law 440 = .ok (.aload_n 0, 1) := by decide +kernel
theorem dL_law_441 : decode cL_law 441 = .ok (.iload 4, 2) := by decide +kernel
theorem dL_law_443 : decode cL_law 443 = .ok (.iconst 2, 1) := by decide +kernel
theorem dL_law_444 : decode cL_law 444 = .ok (.iadd, 1) := by decide +kernel
theorem dL_law_445 : decode cL_law 445 = .ok (.iaload, 1) := by decide +kernel
theorem dL_law_446 : decode cL_law 446 = .ok (.invokevirtual 116, 3) := by decide +kernel
theorem dL_law_449 : decode cL_law 449 = .ok (.istore 6, 2) := by decide +kernel
theorem dL_law_451 : decode cL_law 451 = .ok (.aload_n 2, 1) := by decide +kernel
theorem dL_law_452 : decode cL_law 452 = .ok (.invokevirtual 91, 3) := by decide +kernel
theorem dL_law_455 : decode cL_law 455 = .ok (.iload 5, 2) := by decide +kernel
theorem dL_law_457 : decode cL_law 457 = .ok (.if_icmp .eq 5, 3) := by decide +kernel
theorem dL_law_460 : decode cL_law 460 = .ok (.iconst 0, 1) := by decide +kernel
theorem dL_law_461 : decode cL_law 461 = .ok (.ireturn, 1) := by decide +kernel
theorem dL_law_462 : decode cL_law 462 = .ok (.iload 5, 2) := by decide +kernel
theorem dL_law_464 : decode cL_law 464 = .ok (.ifCond .ne 15, 3) := by decide +kernel
theorem dL_law_467 : decode cL_law 467 = .ok (.aload_n 3, 1) := by decide +kernel
theorem dL_law_468 : decode cL_law 468 = .ok (.iconst 0, 1) := by decide +kernel
theorem dL_law_469 : decode cL_law 469 = .ok (.laload, 1) := by decide +kernel
theorem dL_law_470 : decode cL_law 470 = .ok (.iload 6, 2) := by decide +kernel
theorem dL_law_472 : decode cL_law 472 = .ok (.i2l, 1) := by decide +kernel
theorem dL_law_473 : decode cL_law 473 = .ok (.lcmp, 1) := by decide +kernel
theorem dL_law_474 : decode cL_law 474 = .ok (.ifCond .eq 5, 3) := by decide +kernel
theorem dL_law_477 : decode cL_law 477 = .ok (.iconst 0, 1) := by decide +kernel
theorem dL_law_478 : decode cL_law 478 = .ok (.ireturn, 1) := by decide +kernel
theorem dL_law_479 : decode cL_law 479 = .ok (.goto 1082, 3) := by decide +kernel
theorem dL_law_482 : decode cL_law 482 = .ok (.aload_n 1, 1) := by decide +kernel
theorem dL_law_483 : decode cL_law 483 = .ok (.aload_n 0, 1) := by decide +kernel
theorem dL_law_484 : decode cL_law 484 = .ok (.iload 4, 2) := by decide +kernel
theorem dL_law_486 : decode cL_law 486 = .ok (.iconst 1, 1) := by decide +kernel
theorem dL_law_487 : decode cL_law 487 = .ok (.iadd, 1) := by decide +kernel
theorem dL_law_488 : decode cL_law 488 = .ok (.iaload, 1) := by decide +kernel
theorem dL_law_489 : decode cL_law 489 = .ok (.aload_n 0, 1) := by decide +kernel
theorem dL_law_490 : decode cL_law 490 = .ok (.iload 4, 2) := by decide +kernel
theorem dL_law_492 : decode cL_law 492 = .ok (.iconst 2, 1) := by decide +kernel
theorem dL_law_493 : decode cL_law 493 = .ok (.iadd, 1) := by decide +kernel
theorem dL_law_494 : decode cL_law 494 = .ok (.iaload, 1) := by decide +kernel
theorem dL_law_495 : decode cL_law 495 = .ok (.aload_n 0, 1) := by decide +kernel
theorem dL_law_496 : decode cL_law 496 = .ok (.iload 4, 2) := by decide +kernel
theorem dL_law_498 : decode cL_law 498 = .ok (.iconst 3, 1) := by decide +kernel
theorem dL_law_499 : decode cL_law 499 = .ok (.iadd, 1) := by decide +kernel
theorem dL_law_500 : decode cL_law 500 = .ok (.iaload, 1) := by decide +kernel
theorem dL_law_501 : decode cL_law 501 = .ok (.aload_n 3, 1) := by decide +kernel
theorem dL_law_502 : decode cL_law 502 = .ok (.invokestatic 117, 3) := by decide +kernel
theorem dL_law_505 : decode cL_law 505 = .ok (.istore 5, 2) := by decide +kernel
theorem dL_law_507 : decode cL_law 507 = .ok (.aload_n 2, 1) := by decide +kernel
theorem dL_law_508 : decode cL_law 508 = .ok (.aload_n 0, 1) := by decide +kernel
theorem dL_law_509 : decode cL_law 509 = .ok (.iload 4, 2) := by decide +kernel
theorem dL_law_511 : decode cL_law 511 = .ok (.iconst 1, 1) := by decide +kernel
theorem dL_law_512 : decode cL_law 512 = .ok (.iadd, 1) := by decide +kernel
theorem dL_law_513 : decode cL_law 513 = .ok (.iaload, 1) := by decide +kernel
theorem dL_law_514 : decode cL_law 514 = .ok (.aload_n 0, 1) := by decide +kernel
theorem dL_law_515 : decode cL_law 515 = .ok (.iload 4, 2) := by decide +kernel
theorem dL_law_517 : decode cL_law 517 = .ok (.iconst 2, 1) := by decide +kernel
theorem dL_law_518 : decode cL_law 518 = .ok (.iadd, 1) := by decide +kernel
theorem dL_law_519 : decode cL_law 519 = .ok (.iaload, 1) := by decide +kernel
theorem dL_law_520 : decode cL_law 520 = .ok (.aload_n 0, 1) := by decide +kernel
theorem dL_law_521 : decode cL_law 521 = .ok (.iload 4, 2) := by decide +kernel
theorem dL_law_523 : decode cL_law 523 = .ok (.iconst 3, 1) := by decide +kernel
theorem dL_law_524 : decode cL_law 524 = .ok (.iadd, 1) := by decide +kernel
theorem dL_law_525 : decode cL_law 525 = .ok (.iaload, 1) := by decide +kernel
theorem dL_law_526 : decode cL_law 526 = .ok (.invokevirtual 119, 3) := by decide +kernel
theorem dL_law_529 : decode cL_law 529 = .ok (.istore 6, 2) := by decide +kernel
theorem dL_law_531 : decode cL_law 531 = .ok (.aload_n 2, 1) := by decide +kernel
theorem dL_law_532 : decode cL_law 532 = .ok (.invokevirtual 91, 3) := by decide +kernel
theorem dL_law_535 : decode cL_law 535 = .ok (.iload 5, 2) := by decide +kernel
theorem dL_law_537 : decode cL_law 537 = .ok (.if_icmp .eq 5, 3) := by decide +kernel
theorem dL_law_540 : decode cL_law 540 = .ok (.iconst 0, 1) := by decide +kernel
theorem dL_law_541 : decode cL_law 541 = .ok (.ireturn, 1) := by decide +kernel
theorem dL_law_542 : decode cL_law 542 = .ok (.iload 5, 2) := by decide +kernel
theorem dL_law_544 : decode cL_law 544 = .ok (.ifCond .ne 15, 3) := by decide +kernel
theorem dL_law_547 : decode cL_law 547 = .ok (.aload_n 3, 1) := by decide +kernel
theorem dL_law_548 : decode cL_law 548 = .ok (.iconst 0, 1) := by decide +kernel
theorem dL_law_549 : decode cL_law 549 = .ok (.laload, 1) := by decide +kernel
theorem dL_law_550 : decode cL_law 550 = .ok (.iload 6, 2) := by decide +kernel
theorem dL_law_552 : decode cL_law 552 = .ok (.i2l, 1) := by decide +kernel
theorem dL_law_553 : decode cL_law 553 = .ok (.lcmp, 1) := by decide +kernel
theorem dL_law_554 : decode cL_law 554 = .ok (.ifCond .eq 5, 3) := by decide +kernel
theorem dL_law_557 : decode cL_law 557 = .ok (.iconst 0, 1) := by decide +kernel
theorem dL_law_558 : decode cL_law 558 = .ok (.ireturn, 1) := by decide +kernel
theorem dL_law_559 : decode cL_law 559 = .ok (.goto 1002, 3) := by decide +kernel
theorem dL_law_562 : decode cL_law 562 = .ok (.aload_n 1, 1) := by decide +kernel
theorem dL_law_563 : decode cL_law 563 = .ok (.aload_n 0, 1) := by decide +kernel
theorem dL_law_564 : decode cL_law 564 = .ok (.iload 4, 2) := by decide +kernel
theorem dL_law_566 : decode cL_law 566 = .ok (.iconst 1, 1) := by decide +kernel
theorem dL_law_567 : decode cL_law 567 = .ok (.iadd, 1) := by decide +kernel
theorem dL_law_568 : decode cL_law 568 = .ok (.iaload, 1) := by decide +kernel
theorem dL_law_569 : decode cL_law 569 = .ok (.aload_n 0, 1) := by decide +kernel
theorem dL_law_570 : decode cL_law 570 = .ok (.iload 4, 2) := by decide +kernel
theorem dL_law_572 : decode cL_law 572 = .ok (.iconst 2, 1) := by decide +kernel
theorem dL_law_573 : decode cL_law 573 = .ok (.iadd, 1) := by decide +kernel
theorem dL_law_574 : decode cL_law 574 = .ok (.iaload, 1) := by decide +kernel
theorem dL_law_575 : decode cL_law 575 = .ok (.aload_n 0, 1) := by decide +kernel
theorem dL_law_576 : decode cL_law 576 = .ok (.iload 4, 2) := by decide +kernel
theorem dL_law_578 : decode cL_law 578 = .ok (.iconst 3, 1) := by decide +kernel
theorem dL_law_579 : decode cL_law 579 = .ok (.iadd, 1) := by decide +kernel
theorem dL_law_580 : decode cL_law 580 = .ok (.iaload, 1) := by decide +kernel
theorem dL_law_581 : decode cL_law 581 = .ok (.aload_n 3, 1) := by decide +kernel
theorem dL_law_582 : decode cL_law 582 = .ok (.invokestatic 120, 3) := by decide +kernel
theorem dL_law_585 : decode cL_law 585 = .ok (.istore 5, 2) := by decide +kernel
theorem dL_law_587 : decode cL_law 587 = .ok (.aload_n 2, 1) := by decide +kernel
theorem dL_law_588 : decode cL_law 588 = .ok (.aload_n 0, 1) := by decide +kernel
theorem dL_law_589 : decode cL_law 589 = .ok (.iload 4, 2) := by decide +kernel
theorem dL_law_591 : decode cL_law 591 = .ok (.iconst 1, 1) := by decide +kernel
theorem dL_law_592 : decode cL_law 592 = .ok (.iadd, 1) := by decide +kernel
theorem dL_law_593 : decode cL_law 593 = .ok (.iaload, 1) := by decide +kernel
theorem dL_law_594 : decode cL_law 594 = .ok (.aload_n 0, 1) := by decide +kernel
theorem dL_law_595 : decode cL_law 595 = .ok (.iload 4, 2) := by decide +kernel
theorem dL_law_597 : decode cL_law 597 = .ok (.iconst 2, 1) := by decide +kernel
theorem dL_law_598 : decode cL_law 598 = .ok (.iadd, 1) := by decide +kernel
theorem dL_law_599 : decode cL_law 599 = .ok (.iaload, 1) := by decide +kernel
theorem dL_law_600 : decode cL_law 600 = .ok (.aload_n 0, 1) := by decide +kernel
theorem dL_law_601 : decode cL_law 601 = .ok (.iload 4, 2) := by decide +kernel
theorem dL_law_603 : decode cL_law 603 = .ok (.iconst 3, 1) := by decide +kernel
theorem dL_law_604 : decode cL_law 604 = .ok (.iadd, 1) := by decide +kernel
theorem dL_law_605 : decode cL_law 605 = .ok (.iaload, 1) := by decide +kernel
theorem dL_law_606 : decode cL_law 606 = .ok (.invokevirtual 122, 3) := by decide +kernel
theorem dL_law_609 : decode cL_law 609 = .ok (.istore 6, 2) := by decide +kernel
theorem dL_law_611 : decode cL_law 611 = .ok (.aload_n 2, 1) := by decide +kernel
theorem dL_law_612 : decode cL_law 612 = .ok (.invokevirtual 91, 3) := by decide +kernel
theorem dL_law_615 : decode cL_law 615 = .ok (.iload 5, 2) := by decide +kernel
theorem dL_law_617 : decode cL_law 617 = .ok (.if_icmp .eq 5, 3) := by decide +kernel
theorem dL_law_620 : decode cL_law 620 = .ok (.iconst 0, 1) := by decide +kernel
theorem dL_law_621 : decode cL_law 621 = .ok (.ireturn, 1) := by decide +kernel
theorem dL_law_622 : decode cL_law 622 = .ok (.iload 5, 2) := by decide +kernel
theorem dL_law_624 : decode cL_law 624 = .ok (.ifCond .ne 15, 3) := by decide +kernel
theorem dL_law_627 : decode cL_law 627 = .ok (.aload_n 3, 1) := by decide +kernel
theorem dL_law_628 : decode cL_law 628 = .ok (.iconst 0, 1) := by decide +kernel
theorem dL_law_629 : decode cL_law 629 = .ok (.laload, 1) := by decide +kernel
theorem dL_law_630 : decode cL_law 630 = .ok (.iload 6, 2) := by decide +kernel
theorem dL_law_632 : decode cL_law 632 = .ok (.i2l, 1) := by decide +kernel
theorem dL_law_633 : decode cL_law 633 = .ok (.lcmp, 1) := by decide +kernel
theorem dL_law_634 : decode cL_law 634 = .ok (.ifCond .eq 5, 3) := by decide +kernel
theorem dL_law_637 : decode cL_law 637 = .ok (.iconst 0, 1) := by decide +kernel
theorem dL_law_638 : decode cL_law 638 = .ok (.ireturn, 1) := by decide +kernel
theorem dL_law_639 : decode cL_law 639 = .ok (.goto 922, 3) := by decide +kernel
theorem dL_law_642 : decode cL_law 642 = .ok (.aload_n 1, 1) := by decide +kernel
theorem dL_law_643 : decode cL_law 643 = .ok (.aload_n 0, 1) := by decide +kernel
theorem dL_law_644 : decode cL_law 644 = .ok (.iload 4, 2) := by decide +kernel
theorem dL_law_646 : decode cL_law 646 = .ok (.iconst 1, 1) := by decide +kernel
theorem dL_law_647 : decode cL_law 647 = .ok (.iadd, 1) := by decide +kernel
theorem dL_law_648 : decode cL_law 648 = .ok (.iaload, 1) := by decide +kernel
theorem dL_law_649 : decode cL_law 649 = .ok (.aload_n 3, 1) := by decide +kernel
theorem dL_law_650 : decode cL_law 650 = .ok (.invokestatic 123, 3) := by decide +kernel
theorem dL_law_653 : decode cL_law 653 = .ok (.istore 5, 2) := by decide +kernel
theorem dL_law_655 : decode cL_law 655 = .ok (.aload_n 2, 1) := by decide +kernel
theorem dL_law_656 : decode cL_law 656 = .ok (.aload_n 0, 1) := by decide +kernel
theorem dL_law_657 : decode cL_law 657 = .ok (.iload 4, 2) := by decide +kernel
theorem dL_law_659 : decode cL_law 659 = .ok (.iconst 1, 1) := by decide +kernel
theorem dL_law_660 : decode cL_law 660 = .ok (.iadd, 1) := by decide +kernel
theorem dL_law_661 : decode cL_law 661 = .ok (.iaload, 1) := by decide +kernel
theorem dL_law_662 : decode cL_law 662 = .ok (.invokevirtual 125, 3) := by decide +kernel
theorem dL_law_665 : decode cL_law 665 = .ok (.istore 6, 2) := by decide +kernel
theorem dL_law_667 : decode cL_law 667 = .ok (.aload_n 2, 1) := by decide +kernel
theorem dL_law_668 : decode cL_law 668 = .ok (.invokevirtual 91, 3) := by decide +kernel
theorem dL_law_671 : decode cL_law 671 = .ok (.iload 5, 2) := by decide +kernel
theorem dL_law_673 : decode cL_law 673 = .ok (.if_icmp .eq 5, 3) := by decide +kernel
theorem dL_law_676 : decode cL_law 676 = .ok (.iconst 0, 1) := by decide +kernel
theorem dL_law_677 : decode cL_law 677 = .ok (.ireturn, 1) := by decide +kernel
theorem dL_law_678 : decode cL_law 678 = .ok (.iload 5, 2) := by decide +kernel
theorem dL_law_680 : decode cL_law 680 = .ok (.ifCond .ne 15, 3) := by decide +kernel
theorem dL_law_683 : decode cL_law 683 = .ok (.aload_n 3, 1) := by decide +kernel
theorem dL_law_684 : decode cL_law 684 = .ok (.iconst 0, 1) := by decide +kernel
theorem dL_law_685 : decode cL_law 685 = .ok (.laload, 1) := by decide +kernel
theorem dL_law_686 : decode cL_law 686 = .ok (.iload 6, 2) := by decide +kernel
theorem dL_law_688 : decode cL_law 688 = .ok (.i2l, 1) := by decide +kernel
theorem dL_law_689 : decode cL_law 689 = .ok (.lcmp, 1) := by decide +kernel
theorem dL_law_690 : decode cL_law 690 = .ok (.ifCond .eq 5, 3) := by decide +kernel
theorem dL_law_693 : decode cL_law 693 = .ok (.iconst 0, 1) := by decide +kernel
theorem dL_law_694 : decode cL_law 694 = .ok (.ireturn, 1) := by decide +kernel
theorem dL_law_695 : decode cL_law 695 = .ok (.goto 866, 3) := by decide +kernel
theorem dL_law_698 : decode cL_law 698 = .ok (.aload_n 1, 1) := by decide +kernel
theorem dL_law_699 : decode cL_law 699 = .ok (.aload_n 0, 1) := by decide +kernel
theorem dL_law_700 : decode cL_law 700 = .ok (.iload 4, 2) := by decide +kernel
theorem dL_law_702 : decode cL_law 702 = .ok (.iconst 1, 1) := by decide +kernel
theorem dL_law_703 : decode cL_law 703 = .ok (.iadd, 1) := by decide +kernel
theorem dL_law_704 : decode cL_law 704 = .ok (.iaload, 1) := by decide +kernel
theorem dL_law_705 : decode cL_law 705 = .ok (.aload_n 3, 1) := by decide +kernel
theorem dL_law_706 : decode cL_law 706 = .ok (.invokestatic 126, 3) := by decide +kernel
theorem dL_law_709 : decode cL_law 709 = .ok (.istore 5, 2) := by decide +kernel
theorem dL_law_711 : decode cL_law 711 = .ok (.aload_n 2, 1) := by decide +kernel
theorem dL_law_712 : decode cL_law 712 = .ok (.aload_n 0, 1) := by decide +kernel
theorem dL_law_713 : decode cL_law 713 = .ok (.iload 4, 2) := by decide +kernel
theorem dL_law_715 : decode cL_law 715 = .ok (.iconst 1, 1) := by decide +kernel
theorem dL_law_716 : decode cL_law 716 = .ok (.iadd, 1) := by decide +kernel
theorem dL_law_717 : decode cL_law 717 = .ok (.iaload, 1) := by decide +kernel
theorem dL_law_718 : decode cL_law 718 = .ok (.invokevirtual 128, 3) := by decide +kernel
theorem dL_law_721 : decode cL_law 721 = .ok (.istore 6, 2) := by decide +kernel
theorem dL_law_723 : decode cL_law 723 = .ok (.aload_n 2, 1) := by decide +kernel
theorem dL_law_724 : decode cL_law 724 = .ok (.invokevirtual 91, 3) := by decide +kernel
theorem dL_law_727 : decode cL_law 727 = .ok (.iload 5, 2) := by decide +kernel
theorem dL_law_729 : decode cL_law 729 = .ok (.if_icmp .eq 5, 3) := by decide +kernel
theorem dL_law_732 : decode cL_law 732 = .ok (.iconst 0, 1) := by decide +kernel
theorem dL_law_733 : decode cL_law 733 = .ok (.ireturn, 1) := by decide +kernel
theorem dL_law_734 : decode cL_law 734 = .ok (.iload 5, 2) := by decide +kernel
theorem dL_law_736 : decode cL_law 736 = .ok (.ifCond .ne 15, 3) := by decide +kernel
theorem dL_law_739 : decode cL_law 739 = .ok (.aload_n 3, 1) := by decide +kernel
theorem dL_law_740 : decode cL_law 740 = .ok (.iconst 0, 1) := by decide +kernel
theorem dL_law_741 : decode cL_law 741 = .ok (.laload, 1) := by decide +kernel
theorem dL_law_742 : decode cL_law 742 = .ok (.iload 6, 2) := by decide +kernel
theorem dL_law_744 : decode cL_law 744 = .ok (.i2l, 1) := by decide +kernel
theorem dL_law_745 : decode cL_law 745 = .ok (.lcmp, 1) := by decide +kernel
theorem dL_law_746 : decode cL_law 746 = .ok (.ifCond .eq 5, 3) := by decide +kernel
theorem dL_law_749 : decode cL_law 749 = .ok (.iconst 0, 1) := by decide +kernel
theorem dL_law_750 : decode cL_law 750 = .ok (.ireturn, 1) := by decide +kernel
theorem dL_law_751 : decode cL_law 751 = .ok (.goto 810, 3) := by decide +kernel
theorem dL_law_754 : decode cL_law 754 = .ok (.aload_n 1, 1) := by decide +kernel
theorem dL_law_755 : decode cL_law 755 = .ok (.aload_n 0, 1) := by decide +kernel
theorem dL_law_756 : decode cL_law 756 = .ok (.iload 4, 2) := by decide +kernel
theorem dL_law_758 : decode cL_law 758 = .ok (.iconst 1, 1) := by decide +kernel
theorem dL_law_759 : decode cL_law 759 = .ok (.iadd, 1) := by decide +kernel
theorem dL_law_760 : decode cL_law 760 = .ok (.iaload, 1) := by decide +kernel
theorem dL_law_761 : decode cL_law 761 = .ok (.aload_n 0, 1) := by decide +kernel
theorem dL_law_762 : decode cL_law 762 = .ok (.iload 4, 2) := by decide +kernel
theorem dL_law_764 : decode cL_law 764 = .ok (.iconst 2, 1) := by decide +kernel
theorem dL_law_765 : decode cL_law 765 = .ok (.iadd, 1) := by decide +kernel
theorem dL_law_766 : decode cL_law 766 = .ok (.iaload, 1) := by decide +kernel
theorem dL_law_767 : decode cL_law 767 = .ok (.aload_n 3, 1) := by decide +kernel
theorem dL_law_768 : decode cL_law 768 = .ok (.invokestatic 129, 3) := by decide +kernel
theorem dL_law_771 : decode cL_law 771 = .ok (.istore 5, 2) := by decide +kernel
theorem dL_law_773 : decode cL_law 773 = .ok (.aload_n 2, 1) := by decide +kernel
theorem dL_law_774 : decode cL_law 774 = .ok (.aload_n 0, 1) := by decide +kernel
theorem dL_law_775 : decode cL_law 775 = .ok (.iload 4, 2) := by decide +kernel
theorem dL_law_777 : decode cL_law 777 = .ok (.iconst 1, 1) := by decide +kernel
theorem dL_law_778 : decode cL_law 778 = .ok (.iadd, 1) := by decide +kernel
theorem dL_law_779 : decode cL_law 779 = .ok (.iaload, 1) := by decide +kernel
theorem dL_law_780 : decode cL_law 780 = .ok (.aload_n 0, 1) := by decide +kernel
theorem dL_law_781 : decode cL_law 781 = .ok (.iload 4, 2) := by decide +kernel
theorem dL_law_783 : decode cL_law 783 = .ok (.iconst 2, 1) := by decide +kernel
theorem dL_law_784 : decode cL_law 784 = .ok (.iadd, 1) := by decide +kernel
theorem dL_law_785 : decode cL_law 785 = .ok (.iaload, 1) := by decide +kernel
theorem dL_law_786 : decode cL_law 786 = .ok (.invokevirtual 131, 3) := by decide +kernel
theorem dL_law_789 : decode cL_law 789 = .ok (.istore 6, 2) := by decide +kernel
theorem dL_law_791 : decode cL_law 791 = .ok (.aload_n 2, 1) := by decide +kernel
theorem dL_law_792 : decode cL_law 792 = .ok (.invokevirtual 91, 3) := by decide +kernel
theorem dL_law_795 : decode cL_law 795 = .ok (.iload 5, 2) := by decide +kernel
theorem dL_law_797 : decode cL_law 797 = .ok (.if_icmp .eq 5, 3) := by decide +kernel
theorem dL_law_800 : decode cL_law 800 = .ok (.iconst 0, 1) := by decide +kernel
theorem dL_law_801 : decode cL_law 801 = .ok (.ireturn, 1) := by decide +kernel
theorem dL_law_802 : decode cL_law 802 = .ok (.iload 5, 2) := by decide +kernel
theorem dL_law_804 : decode cL_law 804 = .ok (.ifCond .ne 15, 3) := by decide +kernel
theorem dL_law_807 : decode cL_law 807 = .ok (.aload_n 3, 1) := by decide +kernel
theorem dL_law_808 : decode cL_law 808 = .ok (.iconst 0, 1) := by decide +kernel
theorem dL_law_809 : decode cL_law 809 = .ok (.laload, 1) := by decide +kernel
theorem dL_law_810 : decode cL_law 810 = .ok (.iload 6, 2) := by decide +kernel
theorem dL_law_812 : decode cL_law 812 = .ok (.i2l, 1) := by decide +kernel
theorem dL_law_813 : decode cL_law 813 = .ok (.lcmp, 1) := by decide +kernel
theorem dL_law_814 : decode cL_law 814 = .ok (.ifCond .eq 5, 3) := by decide +kernel
theorem dL_law_817 : decode cL_law 817 = .ok (.iconst 0, 1) := by decide +kernel
theorem dL_law_818 : decode cL_law 818 = .ok (.ireturn, 1) := by decide +kernel
theorem dL_law_819 : decode cL_law 819 = .ok (.goto 742, 3) := by decide +kernel
theorem dL_law_822 : decode cL_law 822 = .ok (.aload_n 1, 1) := by decide +kernel
theorem dL_law_823 : decode cL_law 823 = .ok (.aload_n 0, 1) := by decide +kernel
theorem dL_law_824 : decode cL_law 824 = .ok (.iload 4, 2) := by decide +kernel
theorem dL_law_826 : decode cL_law 826 = .ok (.iconst 1, 1) := by decide +kernel
theorem dL_law_827 : decode cL_law 827 = .ok (.iadd, 1) := by decide +kernel
theorem dL_law_828 : decode cL_law 828 = .ok (.iaload, 1) := by decide +kernel
theorem dL_law_829 : decode cL_law 829 = .ok (.aload_n 0, 1) := by decide +kernel
theorem dL_law_830 : decode cL_law 830 = .ok (.iload 4, 2) := by decide +kernel
theorem dL_law_832 : decode cL_law 832 = .ok (.iconst 2, 1) := by decide +kernel
theorem dL_law_833 : decode cL_law 833 = .ok (.iadd, 1) := by decide +kernel
theorem dL_law_834 : decode cL_law 834 = .ok (.iaload, 1) := by decide +kernel
theorem dL_law_835 : decode cL_law 835 = .ok (.aload_n 3, 1) := by decide +kernel
theorem dL_law_836 : decode cL_law 836 = .ok (.invokestatic 132, 3) := by decide +kernel
theorem dL_law_839 : decode cL_law 839 = .ok (.istore 5, 2) := by decide +kernel
theorem dL_law_841 : decode cL_law 841 = .ok (.aload_n 2, 1) := by decide +kernel
theorem dL_law_842 : decode cL_law 842 = .ok (.aload_n 0, 1) := by decide +kernel
theorem dL_law_843 : decode cL_law 843 = .ok (.iload 4, 2) := by decide +kernel
theorem dL_law_845 : decode cL_law 845 = .ok (.iconst 1, 1) := by decide +kernel
theorem dL_law_846 : decode cL_law 846 = .ok (.iadd, 1) := by decide +kernel
theorem dL_law_847 : decode cL_law 847 = .ok (.iaload, 1) := by decide +kernel
theorem dL_law_848 : decode cL_law 848 = .ok (.aload_n 0, 1) := by decide +kernel
theorem dL_law_849 : decode cL_law 849 = .ok (.iload 4, 2) := by decide +kernel
theorem dL_law_851 : decode cL_law 851 = .ok (.iconst 2, 1) := by decide +kernel
theorem dL_law_852 : decode cL_law 852 = .ok (.iadd, 1) := by decide +kernel
theorem dL_law_853 : decode cL_law 853 = .ok (.iaload, 1) := by decide +kernel
theorem dL_law_854 : decode cL_law 854 = .ok (.invokevirtual 134, 3) := by decide +kernel
theorem dL_law_857 : decode cL_law 857 = .ok (.istore 6, 2) := by decide +kernel
theorem dL_law_859 : decode cL_law 859 = .ok (.aload_n 2, 1) := by decide +kernel
theorem dL_law_860 : decode cL_law 860 = .ok (.invokevirtual 91, 3) := by decide +kernel
theorem dL_law_863 : decode cL_law 863 = .ok (.iload 5, 2) := by decide +kernel
theorem dL_law_865 : decode cL_law 865 = .ok (.if_icmp .eq 5, 3) := by decide +kernel
theorem dL_law_868 : decode cL_law 868 = .ok (.iconst 0, 1) := by decide +kernel
theorem dL_law_869 : decode cL_law 869 = .ok (.ireturn, 1) := by decide +kernel
theorem dL_law_870 : decode cL_law 870 = .ok (.iload 5, 2) := by decide +kernel
theorem dL_law_872 : decode cL_law 872 = .ok (.ifCond .ne 15, 3) := by decide +kernel
theorem dL_law_875 : decode cL_law 875 = .ok (.aload_n 3, 1) := by decide +kernel
theorem dL_law_876 : decode cL_law 876 = .ok (.iconst 0, 1) := by decide +kernel
theorem dL_law_877 : decode cL_law 877 = .ok (.laload, 1) := by decide +kernel
theorem dL_law_878 : decode cL_law 878 = .ok (.iload 6, 2) := by decide +kernel
theorem dL_law_880 : decode cL_law 880 = .ok (.i2l, 1) := by decide +kernel
theorem dL_law_881 : decode cL_law 881 = .ok (.lcmp, 1) := by decide +kernel
theorem dL_law_882 : decode cL_law 882 = .ok (.ifCond .eq 5, 3) := by decide +kernel
theorem dL_law_885 : decode cL_law 885 = .ok (.iconst 0, 1) := by decide +kernel
theorem dL_law_886 : decode cL_law 886 = .ok (.ireturn, 1) := by decide +kernel
theorem dL_law_887 : decode cL_law 887 = .ok (.goto 674, 3) := by decide +kernel
theorem dL_law_890 : decode cL_law 890 = .ok (.aload_n 1, 1) := by decide +kernel
theorem dL_law_891 : decode cL_law 891 = .ok (.aload_n 0, 1) := by decide +kernel
theorem dL_law_892 : decode cL_law 892 = .ok (.iload 4, 2) := by decide +kernel
theorem dL_law_894 : decode cL_law 894 = .ok (.iconst 1, 1) := by decide +kernel
theorem dL_law_895 : decode cL_law 895 = .ok (.iadd, 1) := by decide +kernel
theorem dL_law_896 : decode cL_law 896 = .ok (.iaload, 1) := by decide +kernel
theorem dL_law_897 : decode cL_law 897 = .ok (.aload_n 3, 1) := by decide +kernel
theorem dL_law_898 : decode cL_law 898 = .ok (.invokestatic 135, 3) := by decide +kernel
theorem dL_law_901 : decode cL_law 901 = .ok (.istore 5, 2) := by decide +kernel
theorem dL_law_903 : decode cL_law 903 = .ok (.aload_n 2, 1) := by decide +kernel
theorem dL_law_904 : decode cL_law 904 = .ok (.aload_n 0, 1) := by decide +kernel
theorem dL_law_905 : decode cL_law 905 = .ok (.iload 4, 2) := by decide +kernel
theorem dL_law_907 : decode cL_law 907 = .ok (.iconst 1, 1) := by decide +kernel
theorem dL_law_908 : decode cL_law 908 = .ok (.iadd, 1) := by decide +kernel
theorem dL_law_909 : decode cL_law 909 = .ok (.iaload, 1) := by decide +kernel
theorem dL_law_910 : decode cL_law 910 = .ok (.invokevirtual 137, 3) := by decide +kernel
theorem dL_law_913 : decode cL_law 913 = .ok (.istore 6, 2) := by decide +kernel
theorem dL_law_915 : decode cL_law 915 = .ok (.aload_n 2, 1) := by decide +kernel
theorem dL_law_916 : decode cL_law 916 = .ok (.invokevirtual 91, 3) := by decide +kernel
theorem dL_law_919 : decode cL_law 919 = .ok (.iload 5, 2) := by decide +kernel
theorem dL_law_921 : decode cL_law 921 = .ok (.if_icmp .eq 5, 3) := by decide +kernel
theorem dL_law_924 : decode cL_law 924 = .ok (.iconst 0, 1) := by decide +kernel
theorem dL_law_925 : decode cL_law 925 = .ok (.ireturn, 1) := by decide +kernel
theorem dL_law_926 : decode cL_law 926 = .ok (.iload 5, 2) := by decide +kernel
theorem dL_law_928 : decode cL_law 928 = .ok (.ifCond .ne 15, 3) := by decide +kernel
theorem dL_law_931 : decode cL_law 931 = .ok (.aload_n 3, 1) := by decide +kernel
theorem dL_law_932 : decode cL_law 932 = .ok (.iconst 0, 1) := by decide +kernel
theorem dL_law_933 : decode cL_law 933 = .ok (.laload, 1) := by decide +kernel
theorem dL_law_934 : decode cL_law 934 = .ok (.iload 6, 2) := by decide +kernel
theorem dL_law_936 : decode cL_law 936 = .ok (.i2l, 1) := by decide +kernel
theorem dL_law_937 : decode cL_law 937 = .ok (.lcmp, 1) := by decide +kernel
theorem dL_law_938 : decode cL_law 938 = .ok (.ifCond .eq 5, 3) := by decide +kernel
theorem dL_law_941 : decode cL_law 941 = .ok (.iconst 0, 1) := by decide +kernel
theorem dL_law_942 : decode cL_law 942 = .ok (.ireturn, 1) := by decide +kernel
theorem dL_law_943 : decode cL_law 943 = .ok (.goto 618, 3) := by decide +kernel
theorem dL_law_946 : decode cL_law 946 = .ok (.aload_n 1, 1) := by decide +kernel
theorem dL_law_947 : decode cL_law 947 = .ok (.aload_n 0, 1) := by decide +kernel
theorem dL_law_948 : decode cL_law 948 = .ok (.iload 4, 2) := by decide +kernel
theorem dL_law_950 : decode cL_law 950 = .ok (.iconst 1, 1) := by decide +kernel
theorem dL_law_951 : decode cL_law 951 = .ok (.iadd, 1) := by decide +kernel
theorem dL_law_952 : decode cL_law 952 = .ok (.iaload, 1) := by decide +kernel
theorem dL_law_953 : decode cL_law 953 = .ok (.ifCond .eq 7, 3) := by decide +kernel
theorem dL_law_956 : decode cL_law 956 = .ok (.iconst 1, 1) := by decide +kernel
theorem dL_law_957 : decode cL_law 957 = .ok (.goto 4, 3) := by decide +kernel
theorem dL_law_960 : decode cL_law 960 = .ok (.iconst 0, 1) := by decide +kernel
theorem dL_law_961 : decode cL_law 961 = .ok (.invokevirtual 138, 3) := by decide +kernel
theorem dL_law_964 : decode cL_law 964 = .ok (.aload_n 2, 1) := by decide +kernel
theorem dL_law_965 : decode cL_law 965 = .ok (.aload_n 0, 1) := by decide +kernel
theorem dL_law_966 : decode cL_law 966 = .ok (.iload 4, 2) := by decide +kernel
theorem dL_law_968 : decode cL_law 968 = .ok (.iconst 1, 1) := by decide +kernel
theorem dL_law_969 : decode cL_law 969 = .ok (.iadd, 1) := by decide +kernel
theorem dL_law_970 : decode cL_law 970 = .ok (.iaload, 1) := by decide +kernel
theorem dL_law_971 : decode cL_law 971 = .ok (.ifCond .eq 7, 3) := by decide +kernel
theorem dL_law_974 : decode cL_law 974 = .ok (.iconst 1, 1) := by decide +kernel
theorem dL_law_975 : decode cL_law 975 = .ok (.goto 4, 3) := by decide +kernel
theorem dL_law_978 : decode cL_law 978 = .ok (.iconst 0, 1) := by decide +kernel
theorem dL_law_979 : decode cL_law 979 = .ok (.invokevirtual 142, 3) := by decide +kernel
theorem dL_law_982 : decode cL_law 982 = .ok (.if_icmp .eq 579, 3) := by decide +kernel
theorem dL_law_985 : decode cL_law 985 = .ok (.iconst 0, 1) := by decide +kernel
theorem dL_law_986 : decode cL_law 986 = .ok (.ireturn, 1) := by decide +kernel
theorem dL_law_987 : decode cL_law 987 = .ok (.aload_n 1, 1) := by decide +kernel
theorem dL_law_988 : decode cL_law 988 = .ok (.aload_n 3, 1) := by decide +kernel
theorem dL_law_989 : decode cL_law 989 = .ok (.invokestatic 143, 3) := by decide +kernel
theorem dL_law_992 : decode cL_law 992 = .ok (.istore 5, 2) := by decide +kernel
theorem dL_law_994 : decode cL_law 994 = .ok (.aload_n 2, 1) := by decide +kernel
theorem dL_law_995 : decode cL_law 995 = .ok (.invokevirtual 145, 3) := by decide +kernel
theorem dL_law_998 : decode cL_law 998 = .ok (.istore 6, 2) := by decide +kernel
theorem dL_law_1000 : decode cL_law 1000 = .ok (.aload_n 2, 1) := by decide +kernel
theorem dL_law_1001 : decode cL_law 1001 = .ok (.invokevirtual 91, 3) := by decide +kernel
theorem dL_law_1004 : decode cL_law 1004 = .ok (.iload 5, 2) := by decide +kernel
theorem dL_law_1006 : decode cL_law 1006 = .ok (.if_icmp .eq 5, 3) := by decide +kernel
theorem dL_law_1009 : decode cL_law 1009 = .ok (.iconst 0, 1) := by decide +kernel
theorem dL_law_1010 : decode cL_law 1010 = .ok (.ireturn, 1) := by decide +kernel
theorem dL_law_1011 : decode cL_law 1011 = .ok (.iload 5, 2) := by decide +kernel
theorem dL_law_1013 : decode cL_law 1013 = .ok (.ifCond .ne 15, 3) := by decide +kernel
theorem dL_law_1016 : decode cL_law 1016 = .ok (.aload_n 3, 1) := by decide +kernel
theorem dL_law_1017 : decode cL_law 1017 = .ok (.iconst 0, 1) := by decide +kernel
theorem dL_law_1018 : decode cL_law 1018 = .ok (.laload, 1) := by decide +kernel
theorem dL_law_1019 : decode cL_law 1019 = .ok (.iload 6, 2) := by decide +kernel
theorem dL_law_1021 : decode cL_law 1021 = .ok (.i2l, 1) := by decide +kernel
theorem dL_law_1022 : decode cL_law 1022 = .ok (.lcmp, 1) := by decide +kernel
theorem dL_law_1023 : decode cL_law 1023 = .ok (.ifCond .eq 5, 3) := by decide +kernel
theorem dL_law_1026 : decode cL_law 1026 = .ok (.iconst 0, 1) := by decide +kernel
theorem dL_law_1027 : decode cL_law 1027 = .ok (.ireturn, 1) := by decide +kernel
theorem dL_law_1028 : decode cL_law 1028 = .ok (.goto 533, 3) := by decide +kernel
theorem dL_law_1031 : decode cL_law 1031 = .ok (.aload_n 1, 1) := by decide +kernel
theorem dL_law_1032 : decode cL_law 1032 = .ok (.aload_n 0, 1) := by decide +kernel
theorem dL_law_1033 : decode cL_law 1033 = .ok (.iload 4, 2) := by decide +kernel
theorem dL_law_1035 : decode cL_law 1035 = .ok (.iconst 1, 1) := by decide +kernel
theorem dL_law_1036 : decode cL_law 1036 = .ok (.iadd, 1) := by decide +kernel
theorem dL_law_1037 : decode cL_law 1037 = .ok (.iaload, 1) := by decide +kernel
theorem dL_law_1038 : decode cL_law 1038 = .ok (.aload_n 0, 1) := by decide +kernel
theorem dL_law_1039 : decode cL_law 1039 = .ok (.iload 4, 2) := by decide +kernel
theorem dL_law_1041 : decode cL_law 1041 = .ok (.iconst 2, 1) := by decide +kernel
theorem dL_law_1042 : decode cL_law 1042 = .ok (.iadd, 1) := by decide +kernel
theorem dL_law_1043 : decode cL_law 1043 = .ok (.iaload, 1) := by decide +kernel
theorem dL_law_1044 : decode cL_law 1044 = .ok (.aload_n 3, 1) := by decide +kernel
theorem dL_law_1045 : decode cL_law 1045 = .ok (.invokestatic 146, 3) := by decide +kernel
theorem dL_law_1048 : decode cL_law 1048 = .ok (.istore 5, 2) := by decide +kernel
theorem dL_law_1050 : decode cL_law 1050 = .ok (.aload_n 2, 1) := by decide +kernel
theorem dL_law_1051 : decode cL_law 1051 = .ok (.aload_n 0, 1) := by decide +kernel
theorem dL_law_1052 : decode cL_law 1052 = .ok (.iload 4, 2) := by decide +kernel
theorem dL_law_1054 : decode cL_law 1054 = .ok (.iconst 1, 1) := by decide +kernel
theorem dL_law_1055 : decode cL_law 1055 = .ok (.iadd, 1) := by decide +kernel
theorem dL_law_1056 : decode cL_law 1056 = .ok (.iaload, 1) := by decide +kernel
theorem dL_law_1057 : decode cL_law 1057 = .ok (.aload_n 0, 1) := by decide +kernel
theorem dL_law_1058 : decode cL_law 1058 = .ok (.iload 4, 2) := by decide +kernel
theorem dL_law_1060 : decode cL_law 1060 = .ok (.iconst 2, 1) := by decide +kernel
theorem dL_law_1061 : decode cL_law 1061 = .ok (.iadd, 1) := by decide +kernel
theorem dL_law_1062 : decode cL_law 1062 = .ok (.iaload, 1) := by decide +kernel
theorem dL_law_1063 : decode cL_law 1063 = .ok (.invokevirtual 148, 3) := by decide +kernel
theorem dL_law_1066 : decode cL_law 1066 = .ok (.istore 6, 2) := by decide +kernel
theorem dL_law_1068 : decode cL_law 1068 = .ok (.aload_n 2, 1) := by decide +kernel
theorem dL_law_1069 : decode cL_law 1069 = .ok (.invokevirtual 91, 3) := by decide +kernel
theorem dL_law_1072 : decode cL_law 1072 = .ok (.iload 5, 2) := by decide +kernel
theorem dL_law_1074 : decode cL_law 1074 = .ok (.if_icmp .eq 5, 3) := by decide +kernel
theorem dL_law_1077 : decode cL_law 1077 = .ok (.iconst 0, 1) := by decide +kernel
theorem dL_law_1078 : decode cL_law 1078 = .ok (.ireturn, 1) := by decide +kernel
theorem dL_law_1079 : decode cL_law 1079 = .ok (.iload 5, 2) := by decide +kernel
theorem dL_law_1081 : decode cL_law 1081 = .ok (.ifCond .ne 15, 3) := by decide +kernel
theorem dL_law_1084 : decode cL_law 1084 = .ok (.aload_n 3, 1) := by decide +kernel
theorem dL_law_1085 : decode cL_law 1085 = .ok (.iconst 0, 1) := by decide +kernel
theorem dL_law_1086 : decode cL_law 1086 = .ok (.laload, 1) := by decide +kernel
theorem dL_law_1087 : decode cL_law 1087 = .ok (.iload 6, 2) := by decide +kernel
theorem dL_law_1089 : decode cL_law 1089 = .ok (.i2l, 1) := by decide +kernel
theorem dL_law_1090 : decode cL_law 1090 = .ok (.lcmp, 1) := by decide +kernel
theorem dL_law_1091 : decode cL_law 1091 = .ok (.ifCond .eq 5, 3) := by decide +kernel
theorem dL_law_1094 : decode cL_law 1094 = .ok (.iconst 0, 1) := by decide +kernel
theorem dL_law_1095 : decode cL_law 1095 = .ok (.ireturn, 1) := by decide +kernel
theorem dL_law_1096 : decode cL_law 1096 = .ok (.goto 465, 3) := by decide +kernel
theorem dL_law_1099 : decode cL_law 1099 = .ok (.aload_n 1, 1) := by decide +kernel
theorem dL_law_1100 : decode cL_law 1100 = .ok (.aload_n 0, 1) := by decide +kernel
theorem dL_law_1101 : decode cL_law 1101 = .ok (.iload 4, 2) := by decide +kernel
theorem dL_law_1103 : decode cL_law 1103 = .ok (.iconst 1, 1) := by decide +kernel
theorem dL_law_1104 : decode cL_law 1104 = .ok (.iadd, 1) := by decide +kernel
theorem dL_law_1105 : decode cL_law 1105 = .ok (.iaload, 1) := by decide +kernel
theorem dL_law_1106 : decode cL_law 1106 = .ok (.aload_n 0, 1) := by decide +kernel
theorem dL_law_1107 : decode cL_law 1107 = .ok (.iload 4, 2) := by decide +kernel
theorem dL_law_1109 : decode cL_law 1109 = .ok (.iconst 2, 1) := by decide +kernel
theorem dL_law_1110 : decode cL_law 1110 = .ok (.iadd, 1) := by decide +kernel
theorem dL_law_1111 : decode cL_law 1111 = .ok (.iaload, 1) := by decide +kernel
theorem dL_law_1112 : decode cL_law 1112 = .ok (.aload_n 3, 1) := by decide +kernel
theorem dL_law_1113 : decode cL_law 1113 = .ok (.invokestatic 149, 3) := by decide +kernel
theorem dL_law_1116 : decode cL_law 1116 = .ok (.istore 5, 2) := by decide +kernel
theorem dL_law_1118 : decode cL_law 1118 = .ok (.aload_n 2, 1) := by decide +kernel
theorem dL_law_1119 : decode cL_law 1119 = .ok (.aload_n 0, 1) := by decide +kernel
theorem dL_law_1120 : decode cL_law 1120 = .ok (.iload 4, 2) := by decide +kernel
theorem dL_law_1122 : decode cL_law 1122 = .ok (.iconst 1, 1) := by decide +kernel
theorem dL_law_1123 : decode cL_law 1123 = .ok (.iadd, 1) := by decide +kernel
theorem dL_law_1124 : decode cL_law 1124 = .ok (.iaload, 1) := by decide +kernel
theorem dL_law_1125 : decode cL_law 1125 = .ok (.aload_n 0, 1) := by decide +kernel
theorem dL_law_1126 : decode cL_law 1126 = .ok (.iload 4, 2) := by decide +kernel
theorem dL_law_1128 : decode cL_law 1128 = .ok (.iconst 2, 1) := by decide +kernel
theorem dL_law_1129 : decode cL_law 1129 = .ok (.iadd, 1) := by decide +kernel
theorem dL_law_1130 : decode cL_law 1130 = .ok (.iaload, 1) := by decide +kernel
theorem dL_law_1131 : decode cL_law 1131 = .ok (.invokevirtual 151, 3) := by decide +kernel
theorem dL_law_1134 : decode cL_law 1134 = .ok (.istore 6, 2) := by decide +kernel
theorem dL_law_1136 : decode cL_law 1136 = .ok (.aload_n 2, 1) := by decide +kernel
theorem dL_law_1137 : decode cL_law 1137 = .ok (.invokevirtual 91, 3) := by decide +kernel
theorem dL_law_1140 : decode cL_law 1140 = .ok (.iload 5, 2) := by decide +kernel
theorem dL_law_1142 : decode cL_law 1142 = .ok (.if_icmp .eq 5, 3) := by decide +kernel
theorem dL_law_1145 : decode cL_law 1145 = .ok (.iconst 0, 1) := by decide +kernel
theorem dL_law_1146 : decode cL_law 1146 = .ok (.ireturn, 1) := by decide +kernel
theorem dL_law_1147 : decode cL_law 1147 = .ok (.iload 5, 2) := by decide +kernel
theorem dL_law_1149 : decode cL_law 1149 = .ok (.ifCond .ne 15, 3) := by decide +kernel
theorem dL_law_1152 : decode cL_law 1152 = .ok (.aload_n 3, 1) := by decide +kernel
theorem dL_law_1153 : decode cL_law 1153 = .ok (.iconst 0, 1) := by decide +kernel
theorem dL_law_1154 : decode cL_law 1154 = .ok (.laload, 1) := by decide +kernel
theorem dL_law_1155 : decode cL_law 1155 = .ok (.iload 6, 2) := by decide +kernel
theorem dL_law_1157 : decode cL_law 1157 = .ok (.i2l, 1) := by decide +kernel
theorem dL_law_1158 : decode cL_law 1158 = .ok (.lcmp, 1) := by decide +kernel
theorem dL_law_1159 : decode cL_law 1159 = .ok (.ifCond .eq 5, 3) := by decide +kernel
theorem dL_law_1162 : decode cL_law 1162 = .ok (.iconst 0, 1) := by decide +kernel
theorem dL_law_1163 : decode cL_law 1163 = .ok (.ireturn, 1) := by decide +kernel
theorem dL_law_1164 : decode cL_law 1164 = .ok (.goto 397, 3) := by decide +kernel
theorem dL_law_1167 : decode cL_law 1167 = .ok (.aload_n 1, 1) := by decide +kernel
theorem dL_law_1168 : decode cL_law 1168 = .ok (.invokevirtual 152, 3) := by decide +kernel
theorem dL_law_1171 : decode cL_law 1171 = .ok (.aload_n 2, 1) := by decide +kernel
theorem dL_law_1172 : decode cL_law 1172 = .ok (.invokevirtual 155, 3) := by decide +kernel
theorem dL_law_1175 : decode cL_law 1175 = .ok (.if_icmp .eq 386, 3) := by decide +kernel
theorem dL_law_1178 : decode cL_law 1178 = .ok (.iconst 0, 1) := by decide +kernel
theorem dL_law_1179 : decode cL_law 1179 = .ok (.ireturn, 1) := by decide +kernel
theorem dL_law_1180 : decode cL_law 1180 = .ok (.aload_n 1, 1) := by decide +kernel
theorem dL_law_1181 : decode cL_law 1181 = .ok (.invokevirtual 156, 3) := by decide +kernel
theorem dL_law_1184 : decode cL_law 1184 = .ok (.aload_n 2, 1) := by decide +kernel
theorem dL_law_1185 : decode cL_law 1185 = .ok (.invokevirtual 159, 3) := by decide +kernel
theorem dL_law_1188 : decode cL_law 1188 = .ok (.if_icmp .eq 373, 3) := by decide +kernel
theorem dL_law_1191 : decode cL_law 1191 = .ok (.iconst 0, 1) := by decide +kernel
theorem dL_law_1192 : decode cL_law 1192 = .ok (.ireturn, 1) := by decide +kernel
theorem dL_law_1193 : decode cL_law 1193 = .ok (.aload_n 1, 1) := by decide +kernel
theorem dL_law_1194 : decode cL_law 1194 = .ok (.aload_n 0, 1) := by decide +kernel
theorem dL_law_1195 : decode cL_law 1195 = .ok (.iload 4, 2) := by decide +kernel
theorem dL_law_1197 : decode cL_law 1197 = .ok (.iconst 1, 1) := by decide +kernel
theorem dL_law_1198 : decode cL_law 1198 = .ok (.iadd, 1) := by decide +kernel
theorem dL_law_1199 : decode cL_law 1199 = .ok (.iaload, 1) := by decide +kernel
theorem dL_law_1200 : decode cL_law 1200 = .ok (.aload_n 3, 1) := by decide +kernel
theorem dL_law_1201 : decode cL_law 1201 = .ok (.invokestatic 160, 3) := by decide +kernel
theorem dL_law_1204 : decode cL_law 1204 = .ok (.istore 5, 2) := by decide +kernel
theorem dL_law_1206 : decode cL_law 1206 = .ok (.aload_n 2, 1) := by decide +kernel
theorem dL_law_1207 : decode cL_law 1207 = .ok (.aload_n 0, 1) := by decide +kernel
theorem dL_law_1208 : decode cL_law 1208 = .ok (.iload 4, 2) := by decide +kernel
theorem dL_law_1210 : decode cL_law 1210 = .ok (.iconst 1, 1) := by decide +kernel
theorem dL_law_1211 : decode cL_law 1211 = .ok (.iadd, 1) := by decide +kernel
theorem dL_law_1212 : decode cL_law 1212 = .ok (.iaload, 1) := by decide +kernel
theorem dL_law_1213 : decode cL_law 1213 = .ok (.invokevirtual 162, 3) := by decide +kernel
theorem dL_law_1216 : decode cL_law 1216 = .ok (.istore 6, 2) := by decide +kernel
theorem dL_law_1218 : decode cL_law 1218 = .ok (.aload_n 2, 1) := by decide +kernel
theorem dL_law_1219 : decode cL_law 1219 = .ok (.invokevirtual 91, 3) := by decide +kernel
theorem dL_law_1222 : decode cL_law 1222 = .ok (.iload 5, 2) := by decide +kernel
theorem dL_law_1224 : decode cL_law 1224 = .ok (.if_icmp .eq 5, 3) := by decide +kernel
theorem dL_law_1227 : decode cL_law 1227 = .ok (.iconst 0, 1) := by decide +kernel
theorem dL_law_1228 : decode cL_law 1228 = .ok (.ireturn, 1) := by decide +kernel
theorem dL_law_1229 : decode cL_law 1229 = .ok (.iload 5, 2) := by decide +kernel
theorem dL_law_1231 : decode cL_law 1231 = .ok (.ifCond .ne 15, 3) := by decide +kernel
theorem dL_law_1234 : decode cL_law 1234 = .ok (.aload_n 3, 1) := by decide +kernel
theorem dL_law_1235 : decode cL_law 1235 = .ok (.iconst 0, 1) := by decide +kernel
theorem dL_law_1236 : decode cL_law 1236 = .ok (.laload, 1) := by decide +kernel
theorem dL_law_1237 : decode cL_law 1237 = .ok (.iload 6, 2) := by decide +kernel
theorem dL_law_1239 : decode cL_law 1239 = .ok (.i2l, 1) := by decide +kernel
theorem dL_law_1240 : decode cL_law 1240 = .ok (.lcmp, 1) := by decide +kernel
theorem dL_law_1241 : decode cL_law 1241 = .ok (.ifCond .eq 5, 3) := by decide +kernel
theorem dL_law_1244 : decode cL_law 1244 = .ok (.iconst 0, 1) := by decide +kernel
theorem dL_law_1245 : decode cL_law 1245 = .ok (.ireturn, 1) := by decide +kernel
theorem dL_law_1246 : decode cL_law 1246 = .ok (.goto 315, 3) := by decide +kernel
theorem dL_law_1249 : decode cL_law 1249 = .ok (.aload_n 1, 1) := by decide +kernel
theorem dL_law_1250 : decode cL_law 1250 = .ok (.aload_n 0, 1) := by decide +kernel
theorem dL_law_1251 : decode cL_law 1251 = .ok (.iload 4, 2) := by decide +kernel
theorem dL_law_1253 : decode cL_law 1253 = .ok (.iconst 1, 1) := by decide +kernel
theorem dL_law_1254 : decode cL_law 1254 = .ok (.iadd, 1) := by decide +kernel
theorem dL_law_1255 : decode cL_law 1255 = .ok (.iaload, 1) := by decide +kernel
theorem dL_law_1256 : decode cL_law 1256 = .ok (.aload_n 0, 1) := by decide +kernel
theorem dL_law_1257 : decode cL_law 1257 = .ok (.iload 4, 2) := by decide +kernel
theorem dL_law_1259 : decode cL_law 1259 = .ok (.iconst 2, 1) := by decide +kernel
theorem dL_law_1260 : decode cL_law 1260 = .ok (.iadd, 1) := by decide +kernel
theorem dL_law_1261 : decode cL_law 1261 = .ok (.iaload, 1) := by decide +kernel
theorem dL_law_1262 : decode cL_law 1262 = .ok (.i2l, 1) := by decide +kernel
theorem dL_law_1263 : decode cL_law 1263 = .ok (.bipush 32, 2) := by decide +kernel
theorem dL_law_1265 : decode cL_law 1265 = .ok (.lshl, 1) := by decide +kernel
theorem dL_law_1266 : decode cL_law 1266 = .ok (.aload_n 0, 1) := by decide +kernel
theorem dL_law_1267 : decode cL_law 1267 = .ok (.iload 4, 2) := by decide +kernel
theorem dL_law_1269 : decode cL_law 1269 = .ok (.iconst 3, 1) := by decide +kernel
theorem dL_law_1270 : decode cL_law 1270 = .ok (.iadd, 1) := by decide +kernel
theorem dL_law_1271 : decode cL_law 1271 = .ok (.iaload, 1) := by decide +kernel
theorem dL_law_1272 : decode cL_law 1272 = .ok (.i2l, 1) := by decide +kernel
theorem dL_law_1273 : decode cL_law 1273 = .ok (.ldc2_w 163, 3) := by decide +kernel
theorem dL_law_1276 : decode cL_law 1276 = .ok (.land, 1) := by decide +kernel
theorem dL_law_1277 : decode cL_law 1277 = .ok (.lor, 1) := by decide +kernel
theorem dL_law_1278 : decode cL_law 1278 = .ok (.aload_n 3, 1) := by decide +kernel
theorem dL_law_1279 : decode cL_law 1279 = .ok (.invokestatic 165, 3) := by decide +kernel
theorem dL_law_1282 : decode cL_law 1282 = .ok (.istore 5, 2) := by decide +kernel
theorem dL_law_1284 : decode cL_law 1284 = .ok (.aload_n 2, 1) := by decide +kernel
theorem dL_law_1285 : decode cL_law 1285 = .ok (.aload_n 0, 1) := by decide +kernel
theorem dL_law_1286 : decode cL_law 1286 = .ok (.iload 4, 2) := by decide +kernel
theorem dL_law_1288 : decode cL_law 1288 = .ok (.iconst 1, 1) := by decide +kernel
theorem dL_law_1289 : decode cL_law 1289 = .ok (.iadd, 1) := by decide +kernel
theorem dL_law_1290 : decode cL_law 1290 = .ok (.iaload, 1) := by decide +kernel
theorem dL_law_1291 : decode cL_law 1291 = .ok (.aload_n 0, 1) := by decide +kernel
theorem dL_law_1292 : decode cL_law 1292 = .ok (.iload 4, 2) := by decide +kernel
theorem dL_law_1294 : decode cL_law 1294 = .ok (.iconst 2, 1) := by decide +kernel
theorem dL_law_1295 : decode cL_law 1295 = .ok (.iadd, 1) := by decide +kernel
theorem dL_law_1296 : decode cL_law 1296 = .ok (.iaload, 1) := by decide +kernel
theorem dL_law_1297 : decode cL_law 1297 = .ok (.i2l, 1) := by decide +kernel
theorem dL_law_1298 : decode cL_law 1298 = .ok (.bipush 32, 2) := by decide +kernel
theorem dL_law_1300 : decode cL_law 1300 = .ok (.lshl, 1) := by decide +kernel
theorem dL_law_1301 : decode cL_law 1301 = .ok (.aload_n 0, 1) := by decide +kernel
theorem dL_law_1302 : decode cL_law 1302 = .ok (.iload 4, 2) := by decide +kernel
theorem dL_law_1304 : decode cL_law 1304 = .ok (.iconst 3, 1) := by decide +kernel
theorem dL_law_1305 : decode cL_law 1305 = .ok (.iadd, 1) := by decide +kernel
theorem dL_law_1306 : decode cL_law 1306 = .ok (.iaload, 1) := by decide +kernel
theorem dL_law_1307 : decode cL_law 1307 = .ok (.i2l, 1) := by decide +kernel
theorem dL_law_1308 : decode cL_law 1308 = .ok (.ldc2_w 163, 3) := by decide +kernel
theorem dL_law_1311 : decode cL_law 1311 = .ok (.land, 1) := by decide +kernel
theorem dL_law_1312 : decode cL_law 1312 = .ok (.lor, 1) := by decide +kernel
theorem dL_law_1313 : decode cL_law 1313 = .ok (.invokevirtual 168, 3) := by decide +kernel
theorem dL_law_1316 : decode cL_law 1316 = .ok (.istore 6, 2) := by decide +kernel
theorem dL_law_1318 : decode cL_law 1318 = .ok (.aload_n 2, 1) := by decide +kernel
theorem dL_law_1319 : decode cL_law 1319 = .ok (.invokevirtual 91, 3) := by decide +kernel
theorem dL_law_1322 : decode cL_law 1322 = .ok (.iload 5, 2) := by decide +kernel
theorem dL_law_1324 : decode cL_law 1324 = .ok (.if_icmp .eq 5, 3) := by decide +kernel
theorem dL_law_1327 : decode cL_law 1327 = .ok (.iconst 0, 1) := by decide +kernel
theorem dL_law_1328 : decode cL_law 1328 = .ok (.ireturn, 1) := by decide +kernel
theorem dL_law_1329 : decode cL_law 1329 = .ok (.iload 5, 2) := by decide +kernel
theorem dL_law_1331 : decode cL_law 1331 = .ok (.ifCond .ne 15, 3) := by decide +kernel
theorem dL_law_1334 : decode cL_law 1334 = .ok (.aload_n 3, 1) := by decide +kernel
theorem dL_law_1335 : decode cL_law 1335 = .ok (.iconst 0, 1) := by decide +kernel
theorem dL_law_1336 : decode cL_law 1336 = .ok (.laload, 1) := by decide +kernel
theorem dL_law_1337 : decode cL_law 1337 = .ok (.iload 6, 2) := by decide +kernel
theorem dL_law_1339 : decode cL_law 1339 = .ok (.i2l, 1) := by decide +kernel
theorem dL_law_1340 : decode cL_law 1340 = .ok (.lcmp, 1) := by decide +kernel
theorem dL_law_1341 : decode cL_law 1341 = .ok (.ifCond .eq 5, 3) := by decide +kernel
theorem dL_law_1344 : decode cL_law 1344 = .ok (.iconst 0, 1) := by decide +kernel
theorem dL_law_1345 : decode cL_law 1345 = .ok (.ireturn, 1) := by decide +kernel
theorem dL_law_1346 : decode cL_law 1346 = .ok (.goto 215, 3) := by decide +kernel
theorem dL_law_1349 : decode cL_law 1349 = .ok (.aload_n 1, 1) := by decide +kernel
theorem dL_law_1350 : decode cL_law 1350 = .ok (.aload_n 0, 1) := by decide +kernel
theorem dL_law_1351 : decode cL_law 1351 = .ok (.iload 4, 2) := by decide +kernel
theorem dL_law_1353 : decode cL_law 1353 = .ok (.iconst 1, 1) := by decide +kernel
theorem dL_law_1354 : decode cL_law 1354 = .ok (.iadd, 1) := by decide +kernel
theorem dL_law_1355 : decode cL_law 1355 = .ok (.iaload, 1) := by decide +kernel
theorem dL_law_1356 : decode cL_law 1356 = .ok (.i2l, 1) := by decide +kernel
theorem dL_law_1357 : decode cL_law 1357 = .ok (.bipush 32, 2) := by decide +kernel
theorem dL_law_1359 : decode cL_law 1359 = .ok (.lshl, 1) := by decide +kernel
theorem dL_law_1360 : decode cL_law 1360 = .ok (.aload_n 0, 1) := by decide +kernel
theorem dL_law_1361 : decode cL_law 1361 = .ok (.iload 4, 2) := by decide +kernel
theorem dL_law_1363 : decode cL_law 1363 = .ok (.iconst 2, 1) := by decide +kernel
theorem dL_law_1364 : decode cL_law 1364 = .ok (.iadd, 1) := by decide +kernel
theorem dL_law_1365 : decode cL_law 1365 = .ok (.iaload, 1) := by decide +kernel
theorem dL_law_1366 : decode cL_law 1366 = .ok (.i2l, 1) := by decide +kernel
theorem dL_law_1367 : decode cL_law 1367 = .ok (.ldc2_w 163, 3) := by decide +kernel
theorem dL_law_1370 : decode cL_law 1370 = .ok (.land, 1) := by decide +kernel
theorem dL_law_1371 : decode cL_law 1371 = .ok (.lor, 1) := by decide +kernel
theorem dL_law_1372 : decode cL_law 1372 = .ok (.aload_n 0, 1) := by decide +kernel
theorem dL_law_1373 : decode cL_law 1373 = .ok (.iload 4, 2) := by decide +kernel
theorem dL_law_1375 : decode cL_law 1375 = .ok (.iconst 3, 1) := by decide +kernel
theorem dL_law_1376 : decode cL_law 1376 = .ok (.iadd, 1) := by decide +kernel
theorem dL_law_1377 : decode cL_law 1377 = .ok (.iaload, 1) := by decide +kernel
theorem dL_law_1378 : decode cL_law 1378 = .ok (.aload_n 3, 1) := by decide +kernel
theorem dL_law_1379 : decode cL_law 1379 = .ok (.invokestatic 169, 3) := by decide +kernel
theorem dL_law_1382 : decode cL_law 1382 = .ok (.istore 5, 2) := by decide +kernel
theorem dL_law_1384 : decode cL_law 1384 = .ok (.aload_n 2, 1) := by decide +kernel
theorem dL_law_1385 : decode cL_law 1385 = .ok (.aload_n 0, 1) := by decide +kernel
theorem dL_law_1386 : decode cL_law 1386 = .ok (.iload 4, 2) := by decide +kernel
theorem dL_law_1388 : decode cL_law 1388 = .ok (.iconst 1, 1) := by decide +kernel
theorem dL_law_1389 : decode cL_law 1389 = .ok (.iadd, 1) := by decide +kernel
theorem dL_law_1390 : decode cL_law 1390 = .ok (.iaload, 1) := by decide +kernel
theorem dL_law_1391 : decode cL_law 1391 = .ok (.i2l, 1) := by decide +kernel
theorem dL_law_1392 : decode cL_law 1392 = .ok (.bipush 32, 2) := by decide +kernel
theorem dL_law_1394 : decode cL_law 1394 = .ok (.lshl, 1) := by decide +kernel
theorem dL_law_1395 : decode cL_law 1395 = .ok (.aload_n 0, 1) := by decide +kernel
theorem dL_law_1396 : decode cL_law 1396 = .ok (.iload 4, 2) := by decide +kernel
theorem dL_law_1398 : decode cL_law 1398 = .ok (.iconst 2, 1) := by decide +kernel
theorem dL_law_1399 : decode cL_law 1399 = .ok (.iadd, 1) := by decide +kernel
theorem dL_law_1400 : decode cL_law 1400 = .ok (.iaload, 1) := by decide +kernel
theorem dL_law_1401 : decode cL_law 1401 = .ok (.i2l, 1) := by decide +kernel
theorem dL_law_1402 : decode cL_law 1402 = .ok (.ldc2_w 163, 3) := by decide +kernel
theorem dL_law_1405 : decode cL_law 1405 = .ok (.land, 1) := by decide +kernel
theorem dL_law_1406 : decode cL_law 1406 = .ok (.lor, 1) := by decide +kernel
theorem dL_law_1407 : decode cL_law 1407 = .ok (.aload_n 0, 1) := by decide +kernel
theorem dL_law_1408 : decode cL_law 1408 = .ok (.iload 4, 2) := by decide +kernel
theorem dL_law_1410 : decode cL_law 1410 = .ok (.iconst 3, 1) := by decide +kernel
theorem dL_law_1411 : decode cL_law 1411 = .ok (.iadd, 1) := by decide +kernel
theorem dL_law_1412 : decode cL_law 1412 = .ok (.iaload, 1) := by decide +kernel
theorem dL_law_1413 : decode cL_law 1413 = .ok (.invokevirtual 172, 3) := by decide +kernel
theorem dL_law_1416 : decode cL_law 1416 = .ok (.istore 6, 2) := by decide +kernel
theorem dL_law_1418 : decode cL_law 1418 = .ok (.aload_n 2, 1) := by decide +kernel
theorem dL_law_1419 : decode cL_law 1419 = .ok (.invokevirtual 91, 3) := by decide +kernel
theorem dL_law_1422 : decode cL_law 1422 = .ok (.iload 5, 2) := by decide +kernel
theorem dL_law_1424 : decode cL_law 1424 = .ok (.if_icmp .eq 5, 3) := by decide +kernel
theorem dL_law_1427 : decode cL_law 1427 = .ok (.iconst 0, 1) := by decide +kernel
theorem dL_law_1428 : decode cL_law 1428 = .ok (.ireturn, 1) := by decide +kernel
theorem dL_law_1429 : decode cL_law 1429 = .ok (.iload 5, 2) := by decide +kernel
theorem dL_law_1431 : decode cL_law 1431 = .ok (.ifCond .ne 15, 3) := by decide +kernel
theorem dL_law_1434 : decode cL_law 1434 = .ok (.aload_n 3, 1) := by decide +kernel
theorem dL_law_1435 : decode cL_law 1435 = .ok (.iconst 0, 1) := by decide +kernel
theorem dL_law_1436 : decode cL_law 1436 = .ok (.laload, 1) := by decide +kernel
theorem dL_law_1437 : decode cL_law 1437 = .ok (.iload 6, 2) := by decide +kernel
theorem dL_law_1439 : decode cL_law 1439 = .ok (.i2l, 1) := by decide +kernel
theorem dL_law_1440 : decode cL_law 1440 = .ok (.lcmp, 1) := by decide +kernel
theorem dL_law_1441 : decode cL_law 1441 = .ok (.ifCond .eq 5, 3) := by decide +kernel
theorem dL_law_1444 : decode cL_law 1444 = .ok (.iconst 0, 1) := by decide +kernel
theorem dL_law_1445 : decode cL_law 1445 = .ok (.ireturn, 1) := by decide +kernel
theorem dL_law_1446 : decode cL_law 1446 = .ok (.goto 115, 3) := by decide +kernel
theorem dL_law_1449 : decode cL_law 1449 = .ok (.aload_n 1, 1) := by decide +kernel
theorem dL_law_1450 : decode cL_law 1450 = .ok (.aload_n 0, 1) := by decide +kernel
theorem dL_law_1451 : decode cL_law 1451 = .ok (.iload 4, 2) := by decide +kernel
theorem dL_law_1453 : decode cL_law 1453 = .ok (.iconst 1, 1) := by decide +kernel
theorem dL_law_1454 : decode cL_law 1454 = .ok (.iadd, 1) := by decide +kernel
theorem dL_law_1455 : decode cL_law 1455 = .ok (.iaload, 1) := by decide +kernel
theorem dL_law_1456 : decode cL_law 1456 = .ok (.aload_n 3, 1) := by decide +kernel
theorem dL_law_1457 : decode cL_law 1457 = .ok (.invokestatic 173, 3) := by decide +kernel
theorem dL_law_1460 : decode cL_law 1460 = .ok (.istore 5, 2) := by decide +kernel
theorem dL_law_1462 : decode cL_law 1462 = .ok (.aload_n 2, 1) := by decide +kernel
theorem dL_law_1463 : decode cL_law 1463 = .ok (.aload_n 0, 1) := by decide +kernel
theorem dL_law_1464 : decode cL_law 1464 = .ok (.iload 4, 2) := by decide +kernel
theorem dL_law_1466 : decode cL_law 1466 = .ok (.iconst 1, 1) := by decide +kernel
theorem dL_law_1467 : decode cL_law 1467 = .ok (.iadd, 1) := by decide +kernel
theorem dL_law_1468 : decode cL_law 1468 = .ok (.iaload, 1) := by decide +kernel
theorem dL_law_1469 : decode cL_law 1469 = .ok (.invokevirtual 175, 3) := by decide +kernel
theorem dL_law_1472 : decode cL_law 1472 = .ok (.istore 6, 2) := by decide +kernel
theorem dL_law_1474 : decode cL_law 1474 = .ok (.aload_n 2, 1) := by decide +kernel
theorem dL_law_1475 : decode cL_law 1475 = .ok (.invokevirtual 91, 3) := by decide +kernel
theorem dL_law_1478 : decode cL_law 1478 = .ok (.iload 5, 2) := by decide +kernel
theorem dL_law_1480 : decode cL_law 1480 = .ok (.if_icmp .eq 5, 3) := by decide +kernel
theorem dL_law_1483 : decode cL_law 1483 = .ok (.iconst 0, 1) := by decide +kernel
theorem dL_law_1484 : decode cL_law 1484 = .ok (.ireturn, 1) := by decide +kernel
theorem dL_law_1485 : decode cL_law 1485 = .ok (.iload 5, 2) := by decide +kernel
theorem dL_law_1487 : decode cL_law 1487 = .ok (.ifCond .ne 15, 3) := by decide +kernel
theorem dL_law_1490 : decode cL_law 1490 = .ok (.aload_n 3, 1) := by decide +kernel
theorem dL_law_1491 : decode cL_law 1491 = .ok (.iconst 0, 1) := by decide +kernel
theorem dL_law_1492 : decode cL_law 1492 = .ok (.laload, 1) := by decide +kernel
theorem dL_law_1493 : decode cL_law 1493 = .ok (.iload 6, 2) := by decide +kernel
theorem dL_law_1495 : decode cL_law 1495 = .ok (.i2l, 1) := by decide +kernel
theorem dL_law_1496 : decode cL_law 1496 = .ok (.lcmp, 1) := by decide +kernel
theorem dL_law_1497 : decode cL_law 1497 = .ok (.ifCond .eq 5, 3) := by decide +kernel
theorem dL_law_1500 : decode cL_law 1500 = .ok (.iconst 0, 1) := by decide +kernel
theorem dL_law_1501 : decode cL_law 1501 = .ok (.ireturn, 1) := by decide +kernel
theorem dL_law_1502 : decode cL_law 1502 = .ok (.goto 59, 3) := by decide +kernel
theorem dL_law_1505 : decode cL_law 1505 = .ok (.aload_n 1, 1) := by decide +kernel
theorem dL_law_1506 : decode cL_law 1506 = .ok (.aload_n 0, 1) := by decide +kernel
theorem dL_law_1507 : decode cL_law 1507 = .ok (.iload 4, 2) := by decide +kernel
theorem dL_law_1509 : decode cL_law 1509 = .ok (.iconst 1, 1) := by decide +kernel
theorem dL_law_1510 : decode cL_law 1510 = .ok (.iadd, 1) := by decide +kernel
theorem dL_law_1511 : decode cL_law 1511 = .ok (.iaload, 1) := by decide +kernel
theorem dL_law_1512 : decode cL_law 1512 = .ok (.aload_n 3, 1) := by decide +kernel
theorem dL_law_1513 : decode cL_law 1513 = .ok (.invokestatic 176, 3) := by decide +kernel
theorem dL_law_1516 : decode cL_law 1516 = .ok (.istore 5, 2) := by decide +kernel
theorem dL_law_1518 : decode cL_law 1518 = .ok (.aload_n 2, 1) := by decide +kernel
theorem dL_law_1519 : decode cL_law 1519 = .ok (.aload_n 0, 1) := by decide +kernel
theorem dL_law_1520 : decode cL_law 1520 = .ok (.iload 4, 2) := by decide +kernel
theorem dL_law_1522 : decode cL_law 1522 = .ok (.iconst 1, 1) := by decide +kernel
theorem dL_law_1523 : decode cL_law 1523 = .ok (.iadd, 1) := by decide +kernel
theorem dL_law_1524 : decode cL_law 1524 = .ok (.iaload, 1) := by decide +kernel
theorem dL_law_1525 : decode cL_law 1525 = .ok (.invokevirtual 178, 3) := by decide +kernel
theorem dL_law_1528 : decode cL_law 1528 = .ok (.istore 6, 2) := by decide +kernel
theorem dL_law_1530 : decode cL_law 1530 = .ok (.aload_n 2, 1) := by decide +kernel
theorem dL_law_1531 : decode cL_law 1531 = .ok (.invokevirtual 91, 3) := by decide +kernel
theorem dL_law_1534 : decode cL_law 1534 = .ok (.iload 5, 2) := by decide +kernel
theorem dL_law_1536 : decode cL_law 1536 = .ok (.if_icmp .eq 5, 3) := by decide +kernel
theorem dL_law_1539 : decode cL_law 1539 = .ok (.iconst 0, 1) := by decide +kernel
theorem dL_law_1540 : decode cL_law 1540 = .ok (.ireturn, 1) := by decide +kernel
theorem dL_law_1541 : decode cL_law 1541 = .ok (.iload 5, 2) := by decide +kernel
theorem dL_law_1543 : decode cL_law 1543 = .ok (.ifCond .ne 15, 3) := by decide +kernel
theorem dL_law_1546 : decode cL_law 1546 = .ok (.aload_n 3, 1) := by decide +kernel
theorem dL_law_1547 : decode cL_law 1547 = .ok (.iconst 0, 1) := by decide +kernel
theorem dL_law_1548 : decode cL_law 1548 = .ok (.laload, 1) := by decide +kernel
theorem dL_law_1549 : decode cL_law 1549 = .ok (.iload 6, 2) := by decide +kernel
theorem dL_law_1551 : decode cL_law 1551 = .ok (.i2l, 1) := by decide +kernel
theorem dL_law_1552 : decode cL_law 1552 = .ok (.lcmp, 1) := by decide +kernel
theorem dL_law_1553 : decode cL_law 1553 = .ok (.ifCond .eq 5, 3) := by decide +kernel
theorem dL_law_1556 : decode cL_law 1556 = .ok (.iconst 0, 1) := by decide +kernel
theorem dL_law_1557 : decode cL_law 1557 = .ok (.ireturn, 1) := by decide +kernel
theorem dL_law_1558 : decode cL_law 1558 = .ok (.goto 3, 3) := by decide +kernel
theorem dL_law_1561 : decode cL_law 1561 = .ok (.iinc 4 4, 3) := by decide +kernel
theorem dL_law_1564 : decode cL_law 1564 = .ok (.goto (-1541), 3) := by decide +kernel
theorem dL_law_1567 : decode cL_law 1567 = .ok (.iconst 1, 1) := by decide +kernel
theorem dL_law_1568 : decode cL_law 1568 = .ok (.ireturn, 1) := by decide +kernel
abbrev vwCl : List vw_C := [(RX0, TX0, 3), (RX1, TX1, 10), (RX2, TX2, 2), (RX3, TX3, 6), (RX4, TX4, 10)]
end
section
/-! A SMALL MACHINE: values are whole numbers or places in a list of cells; what a body does from a place of its code on, whatever stands below. -/
section GW
abbrev MV : Type := Int ⊕ Int ⊕ Option Nat
abbrev vI (z : Int) : MV := .inl z
abbrev vL (z : Int) : MV := .inr (.inl z)
abbrev vR (a : Nat) : MV := .inr (.inr (some a))
abbrev vN : MV := .inr (.inr none)
def g_V (ad : Nat → Nat) : MV → Value
  | .inl z => .int (Int32.ofInt z)
  | .inr (.inl z) => .long (Int64.ofInt z)
  | .inr (.inr none) => .null
  | .inr (.inr (some a)) => .ref (ad a)
abbrev MC : Type := (Nat × Nat × (Nat → Int)) ⊕ (Nat × (Nat → Option Nat)) ⊕ (Nat × List MV)
abbrev cArr (t n : Nat) (f : Nat → Int) : MC := .inl (t, n, f)
abbrev cRef (n : Nat) (f : Nat → Option Nat) : MC := .inr (.inl (n, f))
abbrev cObj (c : Nat) (fs : List MV) : MC := .inr (.inr (c, fs))
def g_C (cA : Nat → ClassId) (ad : Nat → Nat) : MC → va_E
  | .inl (t, n, f) => .inl (cA t, n, if t = 3 then .inr (.inl fun j => Int64.ofInt (f j)) else .inl fun j => Int32.ofInt (f j))
  | .inr (.inl (n, f)) => .inl (cA 4, n, .inr (.inr (.inr (.inr fun j => (f j).map ad))))
  | .inr (.inr (c, fs)) => .inr (c, fs.map (g_V ad))
def g_W (cA : Nat → ClassId) (ad : Nat → Nat) (w : List MC) : va_W := w.mapIdx fun k c => (ad k, g_C cA ad c)
theorem g_W_at {cA : Nat → ClassId} {ad : Nat → Nat} {w : List MC} {k : Nat} {c : MC} (h : w[k]? = some c) : (g_W cA ad w)[k]? = some (ad k, g_C cA ad c) := by
  simp [g_W, List.getElem?_mapIdx, h]
theorem g_W_of {cA : Nat → ClassId} {ad : Nat → Nat} {w : List MC} {k : Nat} {q : Nat × va_E} (h : (g_W cA ad w)[k]? = some q) : ∃ c, w[k]? = some c ∧ q = (ad k, g_C cA ad c) := by
  simp only [g_W, List.getElem?_mapIdx] at h
  cases hc : w[k]? with
  | none => simp [hc] at h
  | some c => simp [hc] at h; exact ⟨c, rfl, h.symm⟩
theorem g_W_set {cA : Nat → ClassId} {ad : Nat → Nat} (w : List MC) (k : Nat) (c : MC) : g_W cA ad (w.set k c) = (g_W cA ad w).set k (ad k, g_C cA ad c) := by
  apply List.ext_getElem?
  intro j
  simp only [g_W, List.getElem?_mapIdx, List.getElem?_set, List.length_mapIdx]
  by_cases hj : k = j
  · subst hj
    by_cases hl : k < w.length <;> simp [hl]
  · simp [hj]
theorem g_W_app {cA : Nat → ClassId} {ad : Nat → Nat} (w : List MC) (c : MC) : g_W cA ad (w ++ [c]) = g_W cA ad w ++ [(ad w.length, g_C cA ad c)] := by
  simp [g_W, List.mapIdx_append]
/-- the locals, by their places -/
def g_L (ad : Nat → Nat) : Nat → List (Option MV) → List (Nat × Value)
  | _, [] => []
  | i, none :: l => g_L ad (i + 1) l
  | i, some v :: l => (i, g_V ad v) :: g_L ad (i + 1) l
theorem g_L_mem {ad : Nat → Nat} {q : Nat × Value} : ∀ {l : List (Option MV)} {i : Nat}, q ∈ g_L ad i l ↔ ∃ (j : Nat) (v : MV), l[j]? = some (some v) ∧ q = (i + j, g_V ad v) := by
  intro l
  induction l with
  | nil => intro i; simp [g_L]
  | cons x l ih =>
    intro i
    cases x with
    | none =>
      rw [g_L, ih]
      constructor
      · rintro ⟨j, v, h1, h2⟩
        exact ⟨j + 1, v, by simpa using h1, by rw [h2]; congr 1; omega⟩
      · rintro ⟨j, v, h1, h2⟩
        cases j with
        | zero => simp at h1
        | succ j => exact ⟨j, v, by simpa using h1, by rw [h2]; congr 1; omega⟩
    | some y =>
      rw [g_L, List.mem_cons, ih]
      constructor
      · rintro (h | ⟨j, v, h1, h2⟩)
        · exact ⟨0, y, rfl, by rw [h]; rfl⟩
        · exact ⟨j + 1, v, by simpa using h1, by rw [h2]; congr 1; omega⟩
      · rintro ⟨j, v, h1, h2⟩
        cases j with
        | zero =>
          simp only [List.getElem?_cons_zero, Option.some.injEq] at h1
          exact Or.inl (by rw [h2, h1]; rfl)
        | succ j => exact Or.inr ⟨j, v, by simpa using h1, by rw [h2]; congr 1; omega⟩
theorem g_at {ls : Array Slot} {n : Nat} {ad : Nat → Nat} {L : List (Option MV)} (h : lv_has ls n (g_L ad 0 L)) {k : Nat} {v : MV} (hk : L[k]? = some (some v)) : ls[k]? = some (.val (g_V ad v)) :=
  h.2.2 (k, g_V ad v) (g_L_mem.mpr ⟨k, v, hk, by rw [Nat.zero_add]⟩)
theorem g_keep {ls : Array Slot} {n : Nat} {l l' : List (Nat × Value)} (h : lv_has ls n l) (hm : ∀ q ∈ l', q ∈ l) : lv_has ls n l' := ⟨h.1, h.2.1, fun q hq => h.2.2 q (hm q hq)⟩
/-- no long lies just ahead of a place -/
def g_nl (L : List (Option MV)) : Nat → Bool
  | 0 => true
  | i + 1 => match L[i]? with
    | some (some (.inr (.inl _))) => false
    | _ => true
theorem g_cat {ad : Nat → Nat} {v : MV} (h : ∀ z, v ≠ .inr (.inl z)) : (g_V ad v).category = 1 := by
  rcases v with z | z | _ | a
  · rfl
  · exact absurd rfl (h z)
  · rfl
  · rfl
theorem g_nl_at {L : List (Option MV)} {j : Nat} {v : MV} (h : g_nl L (j + 1) = true) (hv : L[j]? = some (some v)) (z : Int) : v ≠ .inr (.inl z) := by
  intro e
  subst e
  simp [g_nl, hv] at h
theorem g_set1 {ad : Nat → Nat} {L : List (Option MV)} {i : Nat} (x : MV) (hk : g_nl L i = true) : ∀ q ∈ g_L ad 0 (L.set i (some x)), q ∈ (i, g_V ad x) :: (g_L ad 0 L).filter (fun q => !(q.1 == i) && !(q.1 + 1 == i && q.2.category == 2)) := by
  intro q hq
  obtain ⟨j, v, h1, h2⟩ := g_L_mem.mp hq
  rw [Nat.zero_add] at h2
  by_cases hj : i = j
  · subst hj
    by_cases hl : i < L.length
    · rw [List.getElem?_set_self hl] at h1
      simp only [Option.some.injEq] at h1
      rw [h2, h1]
      exact List.mem_cons_self
    · rw [List.getElem?_eq_none (by simp; omega)] at h1
      cases h1
  · rw [List.getElem?_set_ne hj] at h1
    refine List.mem_cons_of_mem _ (List.mem_filter.mpr ⟨g_L_mem.mpr ⟨j, v, h1, by rw [h2, Nat.zero_add]⟩, ?_⟩)
    rw [h2]
    by_cases h3 : j + 1 = i
    · subst h3
      have hc := g_cat (ad := ad) (fun z => g_nl_at hk h1 z)
      simp [hc]
    · simp [h3, Ne.symm hj]
theorem g_set2 {ad : Nat → Nat} {L : List (Option MV)} {i : Nat} (x : MV) (hk : g_nl L i = true) : ∀ q ∈ g_L ad 0 ((L.set i (some x)).set (i + 1) none), q ∈ (i, g_V ad x) :: (g_L ad 0 L).filter (fun q => !(q.1 == i) && (!(q.1 == i + 1) && !(q.1 + 1 == i && q.2.category == 2))) := by
  intro q hq
  obtain ⟨j, v, h1, h2⟩ := g_L_mem.mp hq
  rw [Nat.zero_add] at h2
  by_cases hj1 : i + 1 = j
  · subst hj1
    by_cases hl : i + 1 < (L.set i (some x)).length
    · rw [List.getElem?_set_self hl] at h1
      cases h1
    · rw [List.getElem?_eq_none (by simp at hl ⊢; omega)] at h1
      cases h1
  · rw [List.getElem?_set_ne hj1] at h1
    by_cases hj : i = j
    · subst hj
      by_cases hl : i < L.length
      · rw [List.getElem?_set_self hl] at h1
        simp only [Option.some.injEq] at h1
        rw [h2, h1]
        exact List.mem_cons_self
      · rw [List.getElem?_eq_none (by simp; omega)] at h1
        cases h1
    · rw [List.getElem?_set_ne hj] at h1
      refine List.mem_cons_of_mem _ (List.mem_filter.mpr ⟨g_L_mem.mpr ⟨j, v, h1, by rw [h2, Nat.zero_add]⟩, ?_⟩)
      rw [h2]
      by_cases h3 : j + 1 = i
      · subst h3
        have hc := g_cat (ad := ad) (fun z => g_nl_at hk h1 z)
        simp [hc]
        omega
      · simp [h3, Ne.symm hj, Ne.symm hj1]
theorem g_drop {ad : Nat → Nat} {L : List (Option MV)} (i : Nat) : ∀ q ∈ g_L ad 0 (L.set i none), q ∈ g_L ad 0 L := by
  intro q hq
  obtain ⟨j, v, h1, h2⟩ := g_L_mem.mp hq
  by_cases hj : i = j
  · subst hj
    by_cases hl : i < L.length
    · rw [List.getElem?_set_self hl] at h1
      cases h1
    · rw [List.getElem?_eq_none (by simp; omega)] at h1
      cases h1
  · rw [List.getElem?_set_ne hj] at h1
    exact g_L_mem.mpr ⟨j, v, h1, h2⟩
/-- the locals with which a method begins -/
def g_ent : List MV → List (Option MV)
  | [] => []
  | .inr (.inl z) :: vs => some (.inr (.inl z)) :: none :: g_ent vs
  | v :: vs => some v :: g_ent vs
def g_pad (n : Nat) (vs : List MV) : List (Option MV) := g_ent vs ++ List.replicate (n - (g_ent vs).length) none
theorem g_ent_mem {ad : Nat → Nat} : ∀ {vs : List MV} {i : Nat} {l : List (Option MV)} (q : Nat × Value), (∀ x ∈ l, x = none) → q ∈ g_L ad i (g_ent vs ++ l) → q ∈ lv_args i (vs.map (g_V ad)) := by
  intro vs
  induction vs with
  | nil =>
    intro i l q hn h
    obtain ⟨j, v, h1, -⟩ := g_L_mem.mp h
    have := hn _ (List.mem_of_getElem? h1)
    cases this
  | cons v vs ih =>
    intro i l q hn h
    rcases v with z | z | r
    · rw [g_ent, List.cons_append, g_L] at h
      · rw [List.map_cons, lv_args, if_neg (by simp [g_V, Value.category])]
        rcases List.mem_cons.mp h with h | h
        · rw [h]; exact List.mem_cons_self
        · exact List.mem_cons_of_mem _ (ih q hn h)
      · intro z h; cases h
    · rw [g_ent, List.cons_append, List.cons_append, g_L, g_L] at h
      rw [List.map_cons, lv_args, if_pos (by simp [g_V, Value.category])]
      rcases List.mem_cons.mp h with h | h
      · rw [h]; exact List.mem_cons_self
      · exact List.mem_cons_of_mem _ (ih q hn h)
    · rw [g_ent, List.cons_append, g_L] at h
      · rw [List.map_cons, lv_args, if_neg (by cases r <;> simp [g_V, Value.category])]
        rcases List.mem_cons.mp h with h | h
        · rw [h]; exact List.mem_cons_self
        · exact List.mem_cons_of_mem _ (ih q hn h)
      · intro z h; cases h
theorem g_ent_len {ad : Nat → Nat} : ∀ {vs : List MV}, (lg_sl (vs.map (g_V ad))).length = (g_ent vs).length := by
  intro vs
  induction vs with
  | nil => rfl
  | cons v vs ih =>
    have hc : ∀ (x : Value) (xs : List Value), (lg_sl (x :: xs)).length = (if x.category = 2 then 2 else 1) + (lg_sl xs).length := by
      intro x xs
      by_cases h : x.category = 2 <;> simp [lg_sl, h] <;> omega
    rw [List.map_cons, hc, ih]
    rcases v with z | z | _ | r <;> simp [g_V, g_ent, Value.category] <;> omega
theorem g_entry {ad : Nat → Nat} {vs : List MV} {n : Nat} (h : (g_ent vs).length ≤ n) : lv_has ((lg_sl (vs.map (g_V ad)) ++ List.replicate (n - (lg_sl (vs.map (g_V ad))).length) Slot.unset).toArray) n (g_L ad 0 (g_pad n vs)) := by
  have h1 := lv_entry (vs.map (g_V ad)) (n := n) (by rw [g_ent_len]; exact h)
  exact g_keep h1 (fun q hq => g_ent_mem q (fun x hx => List.eq_of_mem_replicate hx) hq)
/-! numbers -/
theorem g_ti {x : Int} (h : -2147483648 ≤ x ∧ x < 2147483648) : (Int32.ofInt x).toInt = x := Int32.toInt_ofInt_of_le (by omega) (by omega)
theorem g_tl {x : Int} (h : -9223372036854775808 ≤ x ∧ x < 9223372036854775808) : (Int64.ofInt x).toInt = x := Int64.toInt_ofInt_of_le (by omega) (by omega)
theorem g_lt {x y : Int} (hx : -2147483648 ≤ x ∧ x < 2147483648) (hy : -2147483648 ≤ y ∧ y < 2147483648) : Int32.ofInt x < Int32.ofInt y ↔ x < y := by
  rw [Int32.lt_iff_toInt_lt, g_ti hx, g_ti hy]
theorem g_le {x y : Int} (hx : -2147483648 ≤ x ∧ x < 2147483648) (hy : -2147483648 ≤ y ∧ y < 2147483648) : Int32.ofInt x ≤ Int32.ofInt y ↔ x ≤ y := by
  rw [Int32.le_iff_toInt_le, g_ti hx, g_ti hy]
theorem g_eq {x y : Int} (hx : -2147483648 ≤ x ∧ x < 2147483648) (hy : -2147483648 ≤ y ∧ y < 2147483648) : Int32.ofInt x = Int32.ofInt y ↔ x = y := by
  rw [← Int32.toInt_inj, g_ti hx, g_ti hy]
theorem g_eqL {x y : Int} (hx : -9223372036854775808 ≤ x ∧ x < 9223372036854775808) (hy : -9223372036854775808 ≤ y ∧ y < 9223372036854775808) : Int64.ofInt x = Int64.ofInt y ↔ x = y := by
  rw [← Int64.toInt_inj, g_tl hx, g_tl hy]
theorem g_ltL {x y : Int} (hx : -9223372036854775808 ≤ x ∧ x < 9223372036854775808) (hy : -9223372036854775808 ≤ y ∧ y < 9223372036854775808) : Int64.ofInt x < Int64.ofInt y ↔ x < y := by
  rw [Int64.lt_iff_toInt_lt, g_tl hx, g_tl hy]
theorem g_nc {x : Int} (h : -2147483648 ≤ x ∧ x < 2147483648) : (Int32.ofInt x).toNatClampNeg = x.toNat := Int32.toNatClampNeg_ofInt_of_le (by omega) (by omega)
theorem g_in {x : Int} {n : Nat} (h : 0 ≤ x ∧ x < n ∧ n < 2147483648) : vp_in (Int32.ofInt x) n := by
  rw [vp_in_iff, g_ti (by omega)]
  omega
theorem g_dv {x y : Int} (hx : -2147483648 ≤ x ∧ x < 2147483648) (hy : 0 < y ∧ y < 2147483648) : Int32.ofInt x / Int32.ofInt y = Int32.ofInt (x.tdiv y) :=
  (Int32.ofInt_tdiv (by rw [Int32.toInt_minValue]; omega) (by rw [Int32.toInt_maxValue]; omega) (by rw [Int32.toInt_minValue]; omega) (by rw [Int32.toInt_maxValue]; omega)).symm
theorem g_dvL {x y : Int} (hx : -9223372036854775808 ≤ x ∧ x < 9223372036854775808) (hy : 0 < y ∧ y < 9223372036854775808) : Int64.ofInt x / Int64.ofInt y = Int64.ofInt (x.tdiv y) :=
  (Int64.ofInt_tdiv (by rw [Int64.toInt_minValue]; omega) (by rw [Int64.toInt_maxValue]; omega) (by rw [Int64.toInt_minValue]; omega) (by rw [Int64.toInt_maxValue]; omega)).symm
theorem g_n0 {y : Int} (hy : 0 < y ∧ y < 2147483648) : ¬ Int32.ofInt y = 0 := by
  rw [show (0 : Int32) = Int32.ofInt 0 from rfl, g_eq (by omega) (by omega)]
  omega
theorem g_n0L {y : Int} (hy : 0 < y ∧ y < 9223372036854775808) : ¬ Int64.ofInt y = 0 := by
  rw [show (0 : Int64) = Int64.ofInt 0 from rfl, g_eqL (by omega) (by omega)]
  omega
theorem g_md {x y : Int} (hx : -2147483648 ≤ x ∧ x < 2147483648) (hy : 0 < y ∧ y < 2147483648) : Int32.ofInt x - Int32.ofInt x / Int32.ofInt y * Int32.ofInt y = Int32.ofInt (x.tmod y) := by
  rw [g_dv hx hy, ← Int32.ofInt_mul, ← Int32.ofInt_sub, Int.tmod_def, Int.mul_comm]
theorem g_mdL {x y : Int} (hx : -9223372036854775808 ≤ x ∧ x < 9223372036854775808) (hy : 0 < y ∧ y < 9223372036854775808) : Int64.ofInt x - Int64.ofInt x / Int64.ofInt y * Int64.ofInt y = Int64.ofInt (x.tmod y) := by
  rw [g_dvL hx hy, ← Int64.ofInt_mul, ← Int64.ofInt_sub, Int.tmod_def, Int.mul_comm]
end GW
end
section
/-! THE JUDGEMENT G: a method's body, from a place of its code on, in the small machine's words; and its calls. -/
section GJ
/-! what throws and catches stand on, by their names -/
def g_strs : List (String × Nat × String) := [(RX3, 43, "no such character"), (RX3, 54, "the text is full"), (RX3, 67, "the text is not a story"), (RX3, 121, "no such number of the memory"), (RX3, 279, "no such process or page"), (RX3, 141, "no such number of a page"), (RX3, 145, "no such frame"), (RX3, 148, "no such place"), (RX3, 284, "no such process or group"), (RX3, 168, "no such number of a group"), (RX3, 170, "no such value"), (RX3, 175, "no frame is free"), (RX3, 274, "no such process"), (RX3, 192, "no process number is left"), (RX3, 201, "it is the only process"), (RX3, 209, "the group cannot marry"), (RX3, 214, "the group is not big"), (RX3, 219, "no such number of frames"), (RX3, 227, "no state is remembered"), (RX3, 239, "no such number of commands"), (RX3, 245, "no such script"), (RX3, 252, "no such number of steps"), (RX3, 286, "no such save slot"), (RX3, 269, "nothing has been saved in this slot")]
def g_csts : List (String × String) := [("java/lang/IllegalArgumentException", "java/lang/IllegalArgumentException"), ("java/lang/IllegalStateException", "java/lang/IllegalStateException"), ("java/lang/IndexOutOfBoundsException", "java/lang/IndexOutOfBoundsException")]
def g_nest : List (String × Nat × MethodName × String) := [(RX3, 9, yX2_init, RX3)]
def g_ncs : List (String × String) := [("java/lang/IllegalStateException", "java/lang/IllegalArgumentException"), ("java/lang/IndexOutOfBoundsException", "java/lang/IllegalArgumentException"), ("java/lang/IllegalArgumentException", "java/lang/IllegalStateException"), ("java/lang/IndexOutOfBoundsException", "java/lang/IllegalStateException"), ("java/lang/IllegalArgumentException", "java/lang/IndexOutOfBoundsException"), ("java/lang/IllegalStateException", "java/lang/IndexOutOfBoundsException")]
abbrev MT : Type := MethodName × ByteArray × Nat × Option FieldType × List (Nat × Nat × Nat × Nat) × Nat × Nat
abbrev mY (M : MT) : MethodName := M.1
abbrev mC (M : MT) : ByteArray := M.2.1
abbrev mL (M : MT) : Nat := M.2.2.1
abbrev mR (M : MT) : Option FieldType := M.2.2.2.1
abbrev mH (M : MT) : List (Nat × Nat × Nat × Nat) := M.2.2.2.2.1
abbrev mF (M : MT) : Nat := M.2.2.2.2.2.1
abbrev mO (M : MT) : Nat := M.2.2.2.2.2.2
def g_WS : List Cond := lw_tbl.filter goodWord
theorem g_good {w : Cond} (h : w ∈ g_WS) : (w.onTables && w.keeps) = true ∨ ∃ ty, w = .arrayClass ty := good_of_word (List.mem_filter.mp h).2
def SCR : Nat := 1000000
def g_tys (cA : Nat → ClassId) : List (ClassId × FieldType) := [(cA 0, .int), (cA 1, .char), (cA 2, .boolean), (cA 3, .long), (cA 4, .object RX1)]
/-- what throws and catches need of the start -/
def G_th (A : Nat → Prop) (s : State) : Prop :=
  vx_Zq Bundle.tN "UNASSIGNED_STACK" Bundle.steD A s s.heap ∧ vx_Zq Bundle.tN "SUPPRESSED_SENTINEL" Bundle.listD A s s.heap ∧
  (∀ q ∈ g_strs, ∃ sa, vk_R q.1 q.2.1 q.2.2 sa s) ∧ (∀ q ∈ g_csts, va_Nw (.castable q.1 q.2) s) ∧ (∀ q ∈ g_nest, va_Nw (.methodLinkNest q.1 q.2.1 q.2.2.1 q.2.2.2) s) ∧ va_AO RX1 s ∧ (∀ q ∈ g_ncs, va_Nc q.1 q.2 s)
def G_fx (M : MT) (scr : Option (Nat × (Nat → Int))) (p : Program) (l : Launch) (R : Room) (s : State) (m : MethodId) (args : Array Value) (meth : Method) (c : Code) (ad : Nat → Nat) (A : Nat → Prop) (mc ms : Nat) : Prop :=
  p.tables.exec = Jvm.exec ∧ l.stackTraces = false ∧ c.code = mC M ∧ c.maxLocals = mL M ∧ meth.sig.returnType = mR M ∧ meth.locks = false ∧ meth.name = (mY M).name ∧ c.exceptionTable.toList = tableOf (mH M) ∧
  s.vm.findClass (mY M).cls = some m.cls ∧ (∀ w ∈ g_WS, w.before args s = true) ∧ (R.frames = mF M ∧ R.locals = mO M ∧ R.cells = mc ∧ R.slots = ms) ∧ (∀ q, s.heap.size ≤ q → A q) ∧ G_th A s ∧
  (∀ q, scr = some q → va_X (ad SCR) q.1 (fun j => Int32.ofInt (q.2 j)) s s.heap ∧ ad SCR < s.heap.size ∧ ¬ A (ad SCR))
/-- the cells lie in a row -/
def G_al (al : Bool) (base : Nat) (ad : Nat → Nat) (w : List MC) (sz : Nat) : Prop := al = true → sz = base + w.length ∧ w.length < SCR ∧ ∀ k, k < SCR → ad k = base + k
def G_dy (al : Bool) (D : va_G) (cA : Nat → ClassId) (ad : Nat → Nat) (base : Nat) (A : Nat → Prop) (s : State) (H : Heap) (locs : List Loc) (cells slots mc ms : Nat) (w : List MC) (bc bs : Nat) : Prop :=
  va_P D vwCl (g_W cA ad w) H ∧ va_K D vwCl (g_tys cA) s ∧ va_D A (g_W cA ad w) ∧ va_S A s.heap H locs ∧ (G_al al base ad w H.size ∧ (al = true → s.heap.size + cells = base + w.length)) ∧ cells + bc ≤ mc ∧ slots + bs ≤ ms
/-- the world at a method's end -/
def G_R (al : Bool) (D : va_G) (cA : Nat → ClassId) (ad : Nat → Nat) (base : Nat) (A : Nat → Prop) (w : List MC) (t : State) : Prop :=
  va_P D vwCl (g_W cA ad w) t.heap ∧ va_K D vwCl (g_tys cA) t ∧ va_D A (g_W cA ad w) ∧ G_al al base ad w t.heap.size
def G_Q (al : Bool) (D : va_G) (cA : Nat → ClassId) (ad : Nat → Nat) (base : Nat) (A : Nat → Prop) (Q : (Option MV) ⊕ String → List MC → Prop) : Array Value → State → Outcome → State → Prop := fun _ st oc t =>
  (∃ (r : Option MV) (w : List MC), oc = .returned (r.map (g_V ad)) ∧ Q (.inl r) w ∧ G_R al D cA ad base A w t) ∧ va_F A st t
def G_X (D : va_G) (cA : Nat → ClassId) (ad : Nat → Nat) (base : Nat) (A : Nat → Prop) (Q : (Option MV) ⊕ String → List MC → Prop) : String → State → State → Prop := fun E st t =>
  (∃ w : List MC, Q (.inr E) w ∧ G_R false D cA ad base A w t) ∧ va_F A st t
def G (M : MT) (scr : Option (Nat × (Nat → Int))) (al alE : Bool) (pc : Nat) (L : List (Option MV)) (S : List MV) (w : List MC) (bc bs : Nat) (Q : (Option MV) ⊕ String → List MC → Prop) : Prop :=
  ∀ (p : Program) (l : Launch) (e : Env) (R : Room) (s : State) (m : MethodId) (args : Array Value) (below : List Frame) (meth : Method) (c : Code) (D : va_G) (cA : Nat → ClassId) (ad : Nat → Nat) (base : Nat) (A : Nat → Prop) (H : Heap) (locs : List Loc) (cells slots mc ms : Nat) (ls : Array Slot),
    G_fx M scr p l R s m args meth c ad A mc ms → G_dy al D cA ad base A s H locs cells slots mc ms w bc bs → lv_has ls (mL M) (g_L ad 0 L) →
    W p l e R s m args below meth c H locs cells slots (vx_MQ below (G_Q alE D cA ad base A Q) (G_X D cA ad base A Q) args s mc ms A) (F0 m pc ls (S.map (g_V ad)))
/-- the same, with E thrown over the frame -/
def GX (M : MT) (scr : Option (Nat × (Nat → Int))) (alE : Bool) (pc : Nat) (L : List (Option MV)) (S : List MV) (E : String) (w : List MC) (bc bs : Nat) (Q : (Option MV) ⊕ String → List MC → Prop) : Prop :=
  ∀ (p : Program) (l : Launch) (e : Env) (R : Room) (s : State) (m : MethodId) (args : Array Value) (below : List Frame) (meth : Method) (c : Code) (D : va_G) (cA : Nat → ClassId) (ad : Nat → Nat) (base : Nat) (A : Nat → Prop) (H : Heap) (locs : List Loc) (cells slots mc ms : Nat) (ls : Array Slot) (q : Nat) (ce : Cell),
    G_fx M scr p l R s m args meth c ad A mc ms → G_dy false D cA ad base A s H locs cells slots mc ms w bc bs → lv_has ls (mL M) (g_L ad 0 L) →
    H[q]? = some ce → ce.vm = .none → s.vm.findClass E = some ce.cls →
    vx_W p l e R s m args below meth c H locs cells slots (vx_MQ below (G_Q alE D cA ad base A Q) (G_X D cA ad base A Q) args s mc ms A) (F0 m pc ls (S.map (g_V ad))) q
theorem G_th.moved {A B : Nat → Prop} {s U : State} {H : Heap} (h : G_th A s) (hW : s.WarmedH U.vm) (hq : ∀ a : Nat, a < s.heap.size → ¬ A a → H[a]? = s.heap[a]?) (hAB : ∀ q, B q → A q) (hU : U.heap = H) : G_th B U := by
  obtain ⟨h1, h2, h3, h4, h5, h6, h7⟩ := h
  subst hU
  refine ⟨((h1.kept hq).moved hW.alike).narrow hAB, ((h2.kept hq).moved hW.alike).narrow hAB, fun q hq => ?_, fun q hq => (h4 q hq).warmC hW, fun q hq => (h5 q hq).warmM hW, h6.moved hW.alike, fun q hq => (h7 q hq).moved hW.alike⟩
  obtain ⟨sa, hs⟩ := h3 q hq
  exact ⟨sa, hs.warm hW⟩
theorem G_th.called {A : Nat → Prop} {U : State} (h : G_th A U) (g : JFrame) (mk : MethodId) (a : Array Value) : G_th A (U.calling g mk a) := by
  obtain ⟨h1, h2, h3, h4, h5, h6, h7⟩ := h
  have hv : (U.calling g mk a).vm = U.vm := rfl
  refine ⟨vx_Zq.moved (u := U) (Vm.Alike.refl U.vm) h1, vx_Zq.moved (u := U) (Vm.Alike.refl U.vm) h2, fun q hq => ?_, fun q hq => va_Nw.same rfl hv.symm (h4 q hq), fun q hq => va_Nw.same rfl hv.symm (h5 q hq), va_AO.moved (u := U) (Vm.Alike.refl U.vm) h6, fun q hq => va_Nc.moved (u := U) (Vm.Alike.refl U.vm) (h7 q hq)⟩
  obtain ⟨sa, hs⟩ := h3 q hq
  exact ⟨sa, hs.same hv⟩
/-- more is allowed at the end -/
theorem W.post {p : Program} {l : Launch} {e : Env} {R : Room} {s : State} {m : MethodId} {args : Array Value} {below : List Frame} {meth : Method} {c : Code} {H : Heap} {locs : List Loc} {cells slots : Nat} {Q Q' : State → Prop} {g : JFrame} (k : W p l e R s m args below meth c H locs cells slots Q g) (h : ∀ t, Q t → Q' t) : W p l e R s m args below meth c H locs cells slots Q' g := by
  intro T hT X
  obtain ⟨t, a, b⟩ := k T hT X
  exact ⟨t, a, h t b⟩
theorem g_mq {below : List Frame} {D : va_G} {cA : Nat → ClassId} {ad : Nat → Nat} {base : Nat} {A : Nat → Prop} {alE : Bool} {Q Q' : (Option MV) ⊕ String → List MC → Prop} {args : Array Value} {s : State} {mc ms : Nat} (h : ∀ r w, Q r w → Q' r w) :
    ∀ t, vx_MQ below (G_Q alE D cA ad base A Q) (G_X D cA ad base A Q) args s mc ms A t → vx_MQ below (G_Q alE D cA ad base A Q') (G_X D cA ad base A Q') args s mc ms A t := by
  rintro t ⟨o, h1, h2, h3⟩
  refine ⟨o, h1, h2, ?_⟩
  rcases h3 with ⟨⟨⟨r, w, e1, e2, e3⟩, e4⟩, e5⟩ | ⟨q, e1, E, ce, L, ⟨⟨w, e2, e3⟩, e4⟩, e5⟩
  · exact Or.inl ⟨⟨⟨r, w, e1, h _ _ e2, e3⟩, e4⟩, e5⟩
  · exact Or.inr ⟨q, e1, E, ce, L, ⟨⟨w, h _ _ e2, e3⟩, e4⟩, e5⟩
section
variable {M : MT} {scr : Option (Nat × (Nat → Int))} {al alE : Bool} {pc pc' : Nat} {L L' : List (Option MV)} {S S' : List MV} {w w' : List MC} {bc bs bc' bs' : Nat} {Q Q' : (Option MV) ⊕ String → List MC → Prop}
theorem G.mono (k : G M scr al alE pc L S w bc bs Q) (h : ∀ r w, Q r w → Q' r w) : G M scr al alE pc L S w bc bs Q' := by
  intro p l e R s m args below meth c D cA ad base A H locs cells slots mc ms ls fx dy hl
  exact W.post (k p l e R s m args below meth c D cA ad base A H locs cells slots mc ms ls fx dy hl) (g_mq h)
theorem G.bud (k : G M scr al alE pc L S w bc bs Q) (h1 : bc ≤ bc') (h2 : bs ≤ bs') : G M scr al alE pc L S w bc' bs' Q := by
  intro p l e R s m args below meth c D cA ad base A H locs cells slots mc ms ls fx dy hl
  obtain ⟨d1, d2, d3, d4, d5, d6, d7⟩ := dy
  exact k p l e R s m args below meth c D cA ad base A H locs cells slots mc ms ls fx ⟨d1, d2, d3, d4, d5, by omega, by omega⟩ hl
/-- from here on nothing is made any more that must lie in a row -/
theorem G.phase (k : G M scr false alE pc L S w bc bs Q) : G M scr al alE pc L S w bc bs Q := by
  intro p l e R s m args below meth c D cA ad base A H locs cells slots mc ms ls fx dy hl
  obtain ⟨d1, d2, d3, d4, d5, d6, d7⟩ := dy
  exact k p l e R s m args below meth c D cA ad base A H locs cells slots mc ms ls fx ⟨d1, d2, d3, d4, ⟨(fun h => nomatch h), (fun h => nomatch h)⟩, d6, d7⟩ hl
/-- fewer locals are known -/
theorem G.loc (hL : ∀ ad, ∀ q ∈ g_L ad 0 L', q ∈ g_L ad 0 L) (k : G M scr al alE pc L' S w bc bs Q) : G M scr al alE pc L S w bc bs Q := by
  intro p l e R s m args below meth c D cA ad base A H locs cells slots mc ms ls fx dy hl
  exact k p l e R s m args below meth c D cA ad base A H locs cells slots mc ms ls fx dy (g_keep hl (hL ad))
theorem G.drop (i : Nat) (k : G M scr al alE pc (L.set i none) S w bc bs Q) : G M scr al alE pc L S w bc bs Q := G.loc (fun ad q hq => g_drop i q hq) k
/-- an instruction that leaves the cells as they are -/
theorem G.st (h : ∀ (p : Program) (l : Launch) (e : Env) (R : Room) (s : State) (m : MethodId) (args : Array Value) (below : List Frame) (meth : Method) (c : Code) (H : Heap) (locs : List Loc) (cells slots : Nat) (Z : State → Prop) (ls : Array Slot) (ad : Nat → Nat),
      p.tables.exec = Jvm.exec → c.code = mC M → s.vm.findClass (mY M).cls = some m.cls → (∀ w ∈ g_WS, w.before args s = true) → lv_has ls (mL M) (g_L ad 0 L) →
      (∀ ls', lv_has ls' (mL M) (g_L ad 0 L') → W p l e R s m args below meth c H locs cells slots Z (F0 m pc' ls' (S'.map (g_V ad)))) → W p l e R s m args below meth c H locs cells slots Z (F0 m pc ls (S.map (g_V ad))))
    (k : G M scr al alE pc' L' S' w bc bs Q) : G M scr al alE pc L S w bc bs Q := by
  intro p l e R s m args below meth c D cA ad base A H locs cells slots mc ms ls fx dy hl
  obtain ⟨f1, f2, f3, f4, f5, f6, f7, f8, f9, f10, f11⟩ := id fx
  exact h p l e R s m args below meth c H locs cells slots _ ls ad f1 f3 f9 f10 hl (fun ls' hl' => k p l e R s m args below meth c D cA ad base A H locs cells slots mc ms ls' fx dy hl')
/-- one that goes one of two ways -/
theorem G.st2 {P1 P2 : Prop} {pc1 pc2 : Nat} (h : ∀ (p : Program) (l : Launch) (e : Env) (R : Room) (s : State) (m : MethodId) (args : Array Value) (below : List Frame) (meth : Method) (c : Code) (H : Heap) (locs : List Loc) (cells slots : Nat) (Z : State → Prop) (ls : Array Slot) (ad : Nat → Nat),
      p.tables.exec = Jvm.exec → c.code = mC M →
      (P1 → W p l e R s m args below meth c H locs cells slots Z (F0 m pc1 ls (S'.map (g_V ad)))) → (P2 → W p l e R s m args below meth c H locs cells slots Z (F0 m pc2 ls (S'.map (g_V ad)))) → W p l e R s m args below meth c H locs cells slots Z (F0 m pc ls (S.map (g_V ad))))
    (k1 : P1 → G M scr al alE pc1 L S' w bc bs Q) (k2 : P2 → G M scr al alE pc2 L S' w bc bs Q) : G M scr al alE pc L S w bc bs Q := by
  intro p l e R s m args below meth c D cA ad base A H locs cells slots mc ms ls fx dy hl
  obtain ⟨f1, f2, f3, f4, f5, f6, f7, f8, f9, f10, f11⟩ := id fx
  exact h p l e R s m args below meth c H locs cells slots _ ls ad f1 f3 (fun hp => k1 hp p l e R s m args below meth c D cA ad base A H locs cells slots mc ms ls fx dy hl) (fun hp => k2 hp p l e R s m args below meth c D cA ad base A H locs cells slots mc ms ls fx dy hl)
end
/-! a method's contract out of its body -/
def g_ws (M : MT) : List Cond := (if mH M = [] then Cond.code (mY M) (mC M) (mL M) (mR M) else Cond.codeWith (mY M) (mC M) (mL M) (mR M) (mH M)) :: g_WS
def g_rm (M : MT) (mc ms : Nat) : Room := { frames := mF M, cells := mc, slots := ms, locals := mO M }
/-- the body of a method with these arguments -/
def GM (M : MT) (al : Bool) (as : List MV) (w : List MC) (bc bs : Nat) (Q : (Option MV) ⊕ String → List MC → Prop) : Prop := G M none al al 0 (g_pad (mL M) as) [] w bc bs Q
def g_Pc (al : Bool) (D : va_G) (cA : Nat → ClassId) (ad : Nat → Nat) (base sz : Nat) (as : List MV) (w : List MC) : Array Value → State → Prop :=
  va_Pc (as.map (g_V ad)) (fun U => U.heap.size = sz ∧ va_P D vwCl (g_W cA ad w) U.heap ∧ va_K D vwCl (g_tys cA) U ∧ va_D (fun _ => True) (g_W cA ad w) ∧ G_al al base ad w sz ∧ G_th (va_A (g_W cA ad w) sz) U)
theorem g_ws_code {M : MT} (h : mH M = []) : g_ws M = Cond.code (mY M) (mC M) (mL M) (mR M) :: g_WS := by unfold g_ws; rw [if_pos h]
theorem g_ws_codeW {M : MT} (h : mH M ≠ []) : g_ws M = Cond.codeWith (mY M) (mC M) (mL M) (mR M) (mH M) :: g_WS := by unfold g_ws; rw [if_neg h]
theorem g_met {M : MT} {al : Bool} {as : List MV} {w : List MC} {bc bs : Nat} {Q : (Option MV) ⊕ String → List MC → Prop} {l : Launch} (hl : l.stackTraces = false) (hn : (g_ent as).length ≤ mL M) (hy : plainName (mY M).cls = true) (D : va_G) (cA : Nat → ClassId) (ad : Nat → Nat) (base sz : Nat)
    (k : GM M al as w bc bs Q) : vx_Met l (mY M) (g_ws M) (g_rm M bc bs) (g_Pc al D cA ad base sz as w) (G_Q al D cA ad base (va_A (g_W cA ad w) sz) Q) (G_X D cA ad base (va_A (g_W cA ad w) sz) Q) bc bs (va_A (g_W cA ad w) sz) := by
  have body : ∀ (ws' : List Cond) (p : Program) (e : Env) (s : State) (m : MethodId) (args : Array Value) (below : List Frame) (meth : Method) (c : Code) (s₁ : State), BodyLoose p l (mY M) (headSpec (g_ws M) (g_rm M bc bs)) (mC M) (mL M) (mR M) e s m args below meth c s₁ → c.maxLocals = mL M → c.exceptionTable.toList = tableOf (mH M) → g_Pc al D cA ad base sz as w args s →
      W p l e (g_rm M bc bs) s m args below meth c s.heap [] 0 0 (vx_MQ below (G_Q al D cA ad base (va_A (g_W cA ad w) sz) Q) (G_X D cA ad base (va_A (g_W cA ad w) sz) Q) args s bc bs (va_A (g_W cA ad w) sz)) (entryFrame m args (mL M)) := by
    intro _ p e s m args below meth c s₁ B hml ht hv
    obtain ⟨rfl, rfl, hP, hK, hD, hal, hth⟩ := hv
    rw [lg_entry_eq]
    have hts := atoms_spec (ws := g_ws M) B.pre
    exact k p l e (g_rm M bc bs) s m _ below meth c D cA ad base _ s.heap [] 0 0 bc bs _
      ⟨B.exec, hl, B.bytes, hml, B.returns, B.notSynchronized, (name_of_methodNamed B.named B.method).1, ht, findClass_of_methodNamed B.named, fun w hw => hts w (by unfold g_ws; exact List.mem_cons_of_mem _ hw), ⟨rfl, rfl, rfl, rfl⟩, fun q hq => Or.inr hq, hth, fun q hq => nomatch hq⟩
      ⟨hP, hK, hD.self, va_S.rf, ⟨hal, fun h => (hal h).1⟩, Nat.le_of_eq (Nat.zero_add _), Nat.le_of_eq (Nat.zero_add _)⟩ (g_entry hn)
  by_cases hh : mH M = []
  · refine vx_ofW (cc := mC M) (maxL := mL M) (ret := mR M) hy (g_ws_code hh) ?_
    intro p e s m args below meth c s₁ B hml ht hv
    refine body [] p e s m args below meth c s₁ B hml ?_ hv
    rw [hh]
    cases hc : c.exceptionTable.toList with
    | nil => rfl
    | cons x xs => exact (ht x (by rw [hc]; exact List.mem_cons_self)).elim
  · refine vx_ofWH (cc := mC M) (maxL := mL M) (ret := mR M) hy (g_ws_codeW hh) ?_
    intro p e s m args below meth c s₁ B hml hv
    exact body [] p e s m args below meth c s₁ B hml (vx_table (x := mY M) B (atoms_spec (ws := g_ws M) B.pre _ (by rw [g_ws_codeW hh]; exact List.mem_cons_self))) hv
end GJ
end
section
/-! A ROW AN INSTRUCTION -/
section GRU
variable {M : MT} {scr : Option (Nat × (Nat → Int))} {al alE : Bool} {pc : Nat} {L : List (Option MV)} {S : List MV} {w : List MC} {bc bs : Nat} {Q : (Option MV) ⊕ String → List MC → Prop}
theorem g_top {p : Program} {l : Launch} {e : Env} {R : Room} {s : State} {m : MethodId} {args : Array Value} {below : List Frame} {meth : Method} {c : Code} {H : Heap} {locs : List Loc} {cells slots : Nat} {Z : State → Prop} {pc : Nat} {ls : Array Slot} {v v' : Value} {rest : List Value} (h : v = v') (k : W p l e R s m args below meth c H locs cells slots Z (F0 m pc ls (v' :: rest))) : W p l e R s m args below meth c H locs cells slots Z (F0 m pc ls (v :: rest)) := h ▸ k
theorem g_iload_n {i : Nat} {k : Fin 4} {z : Int} (hd : decode (mC M) pc = .ok (.iload_n k, 1)) (hi : (k : Nat) = i) (hv : L[i]? = some (some (vI z))) (kk : G M scr al alE (pc + 1) L (vI z :: S) w bc bs Q) : G M scr al alE pc L S w bc bs Q :=
  G.st (fun p l e R s m args below meth c H locs cells slots Z ls ad hx hb hown hts hl k => lv_iload_n hx hb hd hi (g_at hl hv) (k ls hl)) kk
theorem g_iload {i : Nat} {z : Int} (hd : decode (mC M) pc = .ok (.iload i, 2)) (hv : L[i]? = some (some (vI z))) (kk : G M scr al alE (pc + 2) L (vI z :: S) w bc bs Q) : G M scr al alE pc L S w bc bs Q :=
  G.st (fun p l e R s m args below meth c H locs cells slots Z ls ad hx hb hown hts hl k => lv_iload hx hb hd (g_at hl hv) (k ls hl)) kk
theorem g_lload_n {i : Nat} {k : Fin 4} {z : Int} (hd : decode (mC M) pc = .ok (.lload_n k, 1)) (hi : (k : Nat) = i) (hv : L[i]? = some (some (vL z))) (kk : G M scr al alE (pc + 1) L (vL z :: S) w bc bs Q) : G M scr al alE pc L S w bc bs Q :=
  G.st (fun p l e R s m args below meth c H locs cells slots Z ls ad hx hb hown hts hl k => lv_lload_n hx hb hd hi (g_at hl hv) (k ls hl)) kk
theorem g_lload {i : Nat} {z : Int} (hd : decode (mC M) pc = .ok (.lload i, 2)) (hv : L[i]? = some (some (vL z))) (kk : G M scr al alE (pc + 2) L (vL z :: S) w bc bs Q) : G M scr al alE pc L S w bc bs Q :=
  G.st (fun p l e R s m args below meth c H locs cells slots Z ls ad hx hb hown hts hl k => lv_lload hx hb hd (g_at hl hv) (k ls hl)) kk
theorem g_aload_n {i : Nat} {k : Fin 4} {a : Nat} (hd : decode (mC M) pc = .ok (.aload_n k, 1)) (hi : (k : Nat) = i) (hv : L[i]? = some (some (vR a))) (kk : G M scr al alE (pc + 1) L (vR a :: S) w bc bs Q) : G M scr al alE pc L S w bc bs Q :=
  G.st (fun p l e R s m args below meth c H locs cells slots Z ls ad hx hb hown hts hl k => lv_aload_n hx hb hd hi (g_at hl hv) (k ls hl)) kk
theorem g_aload {i : Nat} {a : Nat} (hd : decode (mC M) pc = .ok (.aload i, 2)) (hv : L[i]? = some (some (vR a))) (kk : G M scr al alE (pc + 2) L (vR a :: S) w bc bs Q) : G M scr al alE pc L S w bc bs Q :=
  G.st (fun p l e R s m args below meth c H locs cells slots Z ls ad hx hb hown hts hl k => lv_aload hx hb hd (g_at hl hv) (k ls hl)) kk
theorem g_istore_n {i : Nat} {k : Fin 4} {z : Int} (hd : decode (mC M) pc = .ok (.istore_n k, 1)) (hi : (k : Nat) = i) (hn : i < mL M) (hk : g_nl L i = true) (kk : G M scr al alE (pc + 1) (L.set i (some (vI z))) S w bc bs Q) : G M scr al alE pc L (vI z :: S) w bc bs Q :=
  G.st (fun p l e R s m args below meth c H locs cells slots Z ls ad hx hb hown hts hl k => lv_istore_n hx hb hd hi hl hn rfl (fun ls' hl' => k ls' (g_keep hl' (g_set1 (vI z) hk)))) kk
theorem g_istore {i : Nat} {z : Int} (hd : decode (mC M) pc = .ok (.istore i, 2)) (hn : i < mL M) (hk : g_nl L i = true) (kk : G M scr al alE (pc + 2) (L.set i (some (vI z))) S w bc bs Q) : G M scr al alE pc L (vI z :: S) w bc bs Q :=
  G.st (fun p l e R s m args below meth c H locs cells slots Z ls ad hx hb hown hts hl k => lv_istore hx hb hd hl hn rfl (fun ls' hl' => k ls' (g_keep hl' (g_set1 (vI z) hk)))) kk
theorem g_astore_n {i : Nat} {k : Fin 4} {a : Nat} (hd : decode (mC M) pc = .ok (.astore_n k, 1)) (hi : (k : Nat) = i) (hn : i < mL M) (hk : g_nl L i = true) (kk : G M scr al alE (pc + 1) (L.set i (some (vR a))) S w bc bs Q) : G M scr al alE pc L (vR a :: S) w bc bs Q :=
  G.st (fun p l e R s m args below meth c H locs cells slots Z ls ad hx hb hown hts hl k => lv_astore_n hx hb hd hi hl hn rfl (fun ls' hl' => k ls' (g_keep hl' (g_set1 (vR a) hk)))) kk
theorem g_lstore_n {i : Nat} {k : Fin 4} {z : Int} (hd : decode (mC M) pc = .ok (.lstore_n k, 1)) (hi : (k : Nat) = i) (hn : i + 1 < mL M) (hk : g_nl L i = true) (kk : G M scr al alE (pc + 1) ((L.set i (some (vL z))).set (i + 1) none) S w bc bs Q) : G M scr al alE pc L (vL z :: S) w bc bs Q :=
  G.st (fun p l e R s m args below meth c H locs cells slots Z ls ad hx hb hown hts hl k => lv_lstore_n hx hb hd hi hl hn rfl (fun ls' hl' => k ls' (g_keep hl' (g_set2 (vL z) hk)))) kk
theorem g_lstore {i : Nat} {z : Int} (hd : decode (mC M) pc = .ok (.lstore i, 2)) (hn : i + 1 < mL M) (hk : g_nl L i = true) (kk : G M scr al alE (pc + 2) ((L.set i (some (vL z))).set (i + 1) none) S w bc bs Q) : G M scr al alE pc L (vL z :: S) w bc bs Q :=
  G.st (fun p l e R s m args below meth c H locs cells slots Z ls ad hx hb hown hts hl k => lv_lstore hx hb hd hl hn rfl (fun ls' hl' => k ls' (g_keep hl' (g_set2 (vL z) hk)))) kk
theorem g_iinc {i : Nat} {n z : Int} (hd : decode (mC M) pc = .ok (.iinc i n, 3)) (hv : L[i]? = some (some (vI z))) (hn : i < mL M) (hk : g_nl L i = true) (kk : G M scr al alE (pc + 3) (L.set i (some (vI (z + n)))) S w bc bs Q) : G M scr al alE pc L S w bc bs Q :=
  G.st (fun p l e R s m args below meth c H locs cells slots Z ls ad hx hb hown hts hl k => by
    have h1 : ((i, Value.int (Int32.ofInt z)) : Nat × Value) ∈ g_L ad 0 L := g_L_mem.mpr ⟨i, vI z, hv, by rw [Nat.zero_add]; rfl⟩
    obtain ⟨j, hj⟩ := List.getElem?_of_mem h1
    exact lv_iinc hx hb hd hl hj (Int32.ofInt_add z n).symm hn rfl (fun ls' hl' => k ls' (g_keep hl' (g_set1 (vI (z + n)) hk)))) kk
theorem g_iconst {n : Int} (hd : decode (mC M) pc = .ok (.iconst n, 1)) (kk : G M scr al alE (pc + 1) L (vI n :: S) w bc bs Q) : G M scr al alE pc L S w bc bs Q :=
  G.st (fun p l e R s m args below meth c H locs cells slots Z ls ad hx hb hown hts hl k => lv_iconst hx hb hd rfl (k ls hl)) kk
theorem g_bipush {n : Int} (hd : decode (mC M) pc = .ok (.bipush n, 2)) (hn : (Int8.ofInt n).toInt32 = Int32.ofInt n) (kk : G M scr al alE (pc + 2) L (vI n :: S) w bc bs Q) : G M scr al alE pc L S w bc bs Q :=
  G.st (fun p l e R s m args below meth c H locs cells slots Z ls ad hx hb hown hts hl k => lv_bipush hx hb hd hn (k ls hl)) kk
theorem g_sipush {n : Int} (hd : decode (mC M) pc = .ok (.sipush n, 3)) (hn : (Int16.ofInt n).toInt32 = Int32.ofInt n) (kk : G M scr al alE (pc + 3) L (vI n :: S) w bc bs Q) : G M scr al alE pc L S w bc bs Q :=
  G.st (fun p l e R s m args below meth c H locs cells slots Z ls ad hx hb hown hts hl k => lv_sipush hx hb hd hn (k ls hl)) kk
theorem g_ldcw {n : Int} {v : Int32} {idx : Nat} (hc : Cond.constant (mY M).cls idx v ∈ g_WS) (hd : decode (mC M) pc = .ok (.ldc_w idx, 3)) (hn : v = Int32.ofInt n) (kk : G M scr al alE (pc + 3) L (vI n :: S) w bc bs Q) : G M scr al alE pc L S w bc bs Q :=
  G.st (fun p l e R s m args below meth c H locs cells slots Z ls ad hx hb hown hts hl k => lv_ldcw hx hb hown (hts _ hc) hd (g_top (congrArg Value.int hn) (k ls hl))) kk
theorem g_ldc2 {n : Int} {v : Int64} {idx : Nat} (hc : Cond.constantLong (mY M).cls idx v ∈ g_WS) (hd : decode (mC M) pc = .ok (.ldc2_w idx, 3)) (hn : v = Int64.ofInt n) (kk : G M scr al alE (pc + 3) L (vL n :: S) w bc bs Q) : G M scr al alE pc L S w bc bs Q :=
  G.st (fun p l e R s m args below meth c H locs cells slots Z ls ad hx hb hown hts hl k => lv_ldc2 hx hb hown (hts _ hc) hd (g_top (congrArg Value.long hn) (k ls hl))) kk
theorem g_lconst {n : Fin 2} {z : Int} (hd : decode (mC M) pc = .ok (.lconst n, 1)) (hz : Int64.ofNat (n : Nat) = Int64.ofInt z) (kk : G M scr al alE (pc + 1) L (vL z :: S) w bc bs Q) : G M scr al alE pc L S w bc bs Q :=
  G.st (fun p l e R s m args below meth c H locs cells slots Z ls ad hx hb hown hts hl k => lv_lconst hx hb hd hz (k ls hl)) kk
theorem g_iadd {x y : Int} (hd : decode (mC M) pc = .ok (.iadd, 1)) (kk : G M scr al alE (pc + 1) L (vI (x + y) :: S) w bc bs Q) : G M scr al alE pc L (vI y :: vI x :: S) w bc bs Q :=
  G.st (fun p l e R s m args below meth c H locs cells slots Z ls ad hx hb hown hts hl k => lv_iadd hx hb hd (g_top (congrArg Value.int (Int32.ofInt_add x y).symm) (k ls hl))) kk
theorem g_isub {x y : Int} (hd : decode (mC M) pc = .ok (.isub, 1)) (kk : G M scr al alE (pc + 1) L (vI (x - y) :: S) w bc bs Q) : G M scr al alE pc L (vI y :: vI x :: S) w bc bs Q :=
  G.st (fun p l e R s m args below meth c H locs cells slots Z ls ad hx hb hown hts hl k => lv_isub hx hb hd (g_top (congrArg Value.int (Int32.ofInt_sub x y).symm) (k ls hl))) kk
theorem g_imul {x y : Int} (hd : decode (mC M) pc = .ok (.imul, 1)) (kk : G M scr al alE (pc + 1) L (vI (x * y) :: S) w bc bs Q) : G M scr al alE pc L (vI y :: vI x :: S) w bc bs Q :=
  G.st (fun p l e R s m args below meth c H locs cells slots Z ls ad hx hb hown hts hl k => lv_imul hx hb hd (g_top (congrArg Value.int (Int32.ofInt_mul x y).symm) (k ls hl))) kk
theorem g_idiv {x y : Int} (hd : decode (mC M) pc = .ok (.idiv, 1)) (h1 : -2147483648 ≤ x ∧ x < 2147483648) (h2 : 0 < y ∧ y < 2147483648) (kk : G M scr al alE (pc + 1) L (vI (x.tdiv y) :: S) w bc bs Q) : G M scr al alE pc L (vI y :: vI x :: S) w bc bs Q :=
  G.st (fun p l e R s m args below meth c H locs cells slots Z ls ad hx hb hown hts hl k => lv_idiv hx hb hd (g_n0 h2) (g_top (congrArg Value.int (g_dv h1 h2)) (k ls hl))) kk
theorem g_irem {x y : Int} (hd : decode (mC M) pc = .ok (.irem, 1)) (h1 : -2147483648 ≤ x ∧ x < 2147483648) (h2 : 0 < y ∧ y < 2147483648) (kk : G M scr al alE (pc + 1) L (vI (x.tmod y) :: S) w bc bs Q) : G M scr al alE pc L (vI y :: vI x :: S) w bc bs Q :=
  G.st (fun p l e R s m args below meth c H locs cells slots Z ls ad hx hb hown hts hl k => lv_irem hx hb hd (g_n0 h2) (g_top (congrArg Value.int (g_md h1 h2)) (k ls hl))) kk
/-! bits: by the machine's own words -/
def b_and (x y : Int) : Int := (Int32.ofInt x &&& Int32.ofInt y).toInt
def b_or (x y : Int) : Int := (Int32.ofInt x ||| Int32.ofInt y).toInt
def b_xor (x y : Int) : Int := (Int32.ofInt x ^^^ Int32.ofInt y).toInt
def b_shl (x y : Int) : Int := (Int32.ofInt x <<< (Int32.ofInt y &&& 31)).toInt
def b_shr (x y : Int) : Int := (Int32.ofInt x >>> (Int32.ofInt y &&& 31)).toInt
def b_ushr (x y : Int) : Int := ((Int32.ofInt x).toUInt32 >>> ((Int32.ofInt y).toUInt32 &&& Int32.toUInt32 31)).toInt32.toInt
def b_andL (x y : Int) : Int := (Int64.ofInt x &&& Int64.ofInt y).toInt
def b_orL (x y : Int) : Int := (Int64.ofInt x ||| Int64.ofInt y).toInt
def b_shlL (x y : Int) : Int := (Int64.ofInt x <<< ((Int32.ofInt y).toInt64 &&& 63)).toInt
def b_ushrL (x y : Int) : Int := ((Int64.ofInt x).toUInt64 >>> ((Int32.ofInt y).toInt64.toUInt64 &&& Int64.toUInt64 63)).toInt64.toInt
theorem g_iand {x y : Int} (hd : decode (mC M) pc = .ok (.iand, 1)) (kk : G M scr al alE (pc + 1) L (vI (b_and x y) :: S) w bc bs Q) : G M scr al alE pc L (vI y :: vI x :: S) w bc bs Q :=
  G.st (fun p l e R s m args below meth c H locs cells slots Z ls ad hx hb hown hts hl k => lv_iand hx hb hd (g_top (congrArg Value.int (Int32.ofInt_toInt _).symm) (k ls hl))) kk
theorem g_ior {x y : Int} (hd : decode (mC M) pc = .ok (.ior, 1)) (kk : G M scr al alE (pc + 1) L (vI (b_or x y) :: S) w bc bs Q) : G M scr al alE pc L (vI y :: vI x :: S) w bc bs Q :=
  G.st (fun p l e R s m args below meth c H locs cells slots Z ls ad hx hb hown hts hl k => lv_ior hx hb hd (g_top (congrArg Value.int (Int32.ofInt_toInt _).symm) (k ls hl))) kk
theorem g_ixor {x y : Int} (hd : decode (mC M) pc = .ok (.ixor, 1)) (kk : G M scr al alE (pc + 1) L (vI (b_xor x y) :: S) w bc bs Q) : G M scr al alE pc L (vI y :: vI x :: S) w bc bs Q :=
  G.st (fun p l e R s m args below meth c H locs cells slots Z ls ad hx hb hown hts hl k => lv_ixor hx hb hd (g_top (congrArg Value.int (Int32.ofInt_toInt _).symm) (k ls hl))) kk
theorem g_ishl {x y : Int} (hd : decode (mC M) pc = .ok (.ishl, 1)) (kk : G M scr al alE (pc + 1) L (vI (b_shl x y) :: S) w bc bs Q) : G M scr al alE pc L (vI y :: vI x :: S) w bc bs Q :=
  G.st (fun p l e R s m args below meth c H locs cells slots Z ls ad hx hb hown hts hl k => lv_ishl hx hb hd (g_top (congrArg Value.int (Int32.ofInt_toInt _).symm) (k ls hl))) kk
theorem g_ishr {x y : Int} (hd : decode (mC M) pc = .ok (.ishr, 1)) (kk : G M scr al alE (pc + 1) L (vI (b_shr x y) :: S) w bc bs Q) : G M scr al alE pc L (vI y :: vI x :: S) w bc bs Q :=
  G.st (fun p l e R s m args below meth c H locs cells slots Z ls ad hx hb hown hts hl k => lv_ishr hx hb hd (g_top (congrArg Value.int (Int32.ofInt_toInt _).symm) (k ls hl))) kk
theorem g_iushr {x y : Int} (hd : decode (mC M) pc = .ok (.iushr, 1)) (kk : G M scr al alE (pc + 1) L (vI (b_ushr x y) :: S) w bc bs Q) : G M scr al alE pc L (vI y :: vI x :: S) w bc bs Q :=
  G.st (fun p l e R s m args below meth c H locs cells slots Z ls ad hx hb hown hts hl k => lv_iushr hx hb hd rfl (g_top (congrArg Value.int (Int32.ofInt_toInt _).symm) (k ls hl))) kk
theorem g_land {x y : Int} (hd : decode (mC M) pc = .ok (.land, 1)) (kk : G M scr al alE (pc + 1) L (vL (b_andL x y) :: S) w bc bs Q) : G M scr al alE pc L (vL y :: vL x :: S) w bc bs Q :=
  G.st (fun p l e R s m args below meth c H locs cells slots Z ls ad hx hb hown hts hl k => lv_land hx hb hd (g_top (congrArg Value.long (Int64.ofInt_toInt _).symm) (k ls hl))) kk
theorem g_lor {x y : Int} (hd : decode (mC M) pc = .ok (.lor, 1)) (kk : G M scr al alE (pc + 1) L (vL (b_orL x y) :: S) w bc bs Q) : G M scr al alE pc L (vL y :: vL x :: S) w bc bs Q :=
  G.st (fun p l e R s m args below meth c H locs cells slots Z ls ad hx hb hown hts hl k => lv_lor hx hb hd (g_top (congrArg Value.long (Int64.ofInt_toInt _).symm) (k ls hl))) kk
theorem g_lshl {x y : Int} (hd : decode (mC M) pc = .ok (.lshl, 1)) (kk : G M scr al alE (pc + 1) L (vL (b_shlL x y) :: S) w bc bs Q) : G M scr al alE pc L (vI y :: vL x :: S) w bc bs Q :=
  G.st (fun p l e R s m args below meth c H locs cells slots Z ls ad hx hb hown hts hl k => lv_lshl hx hb hd rfl (g_top (congrArg Value.long (Int64.ofInt_toInt _).symm) (k ls hl))) kk
theorem g_lushr {x y : Int} (hd : decode (mC M) pc = .ok (.lushr, 1)) (kk : G M scr al alE (pc + 1) L (vL (b_ushrL x y) :: S) w bc bs Q) : G M scr al alE pc L (vI y :: vL x :: S) w bc bs Q :=
  G.st (fun p l e R s m args below meth c H locs cells slots Z ls ad hx hb hown hts hl k => lv_lushr hx hb hd rfl (g_top (congrArg Value.long (Int64.ofInt_toInt _).symm) (k ls hl))) kk
theorem g_ladd {x y : Int} (hd : decode (mC M) pc = .ok (.ladd, 1)) (kk : G M scr al alE (pc + 1) L (vL (x + y) :: S) w bc bs Q) : G M scr al alE pc L (vL y :: vL x :: S) w bc bs Q :=
  G.st (fun p l e R s m args below meth c H locs cells slots Z ls ad hx hb hown hts hl k => lv_ladd hx hb hd (g_top (congrArg Value.long (Int64.ofInt_add x y).symm) (k ls hl))) kk
theorem g_lmul {x y : Int} (hd : decode (mC M) pc = .ok (.lmul, 1)) (kk : G M scr al alE (pc + 1) L (vL (x * y) :: S) w bc bs Q) : G M scr al alE pc L (vL y :: vL x :: S) w bc bs Q :=
  G.st (fun p l e R s m args below meth c H locs cells slots Z ls ad hx hb hown hts hl k => lv_lmul hx hb hd (g_top (congrArg Value.long (Int64.ofInt_mul x y).symm) (k ls hl))) kk
theorem g_ldiv {x y : Int} (hd : decode (mC M) pc = .ok (.ldiv, 1)) (h1 : -9223372036854775808 ≤ x ∧ x < 9223372036854775808) (h2 : 0 < y ∧ y < 9223372036854775808) (kk : G M scr al alE (pc + 1) L (vL (x.tdiv y) :: S) w bc bs Q) : G M scr al alE pc L (vL y :: vL x :: S) w bc bs Q :=
  G.st (fun p l e R s m args below meth c H locs cells slots Z ls ad hx hb hown hts hl k => lv_ldiv hx hb hd (g_n0L h2) (g_top (congrArg Value.long (g_dvL h1 h2)) (k ls hl))) kk
theorem g_lrem {x y : Int} (hd : decode (mC M) pc = .ok (.lrem, 1)) (h1 : -9223372036854775808 ≤ x ∧ x < 9223372036854775808) (h2 : 0 < y ∧ y < 9223372036854775808) (kk : G M scr al alE (pc + 1) L (vL (x.tmod y) :: S) w bc bs Q) : G M scr al alE pc L (vL y :: vL x :: S) w bc bs Q :=
  G.st (fun p l e R s m args below meth c H locs cells slots Z ls ad hx hb hown hts hl k => lv_lrem hx hb hd (g_n0L h2) (g_top (congrArg Value.long (g_mdL h1 h2)) (k ls hl))) kk
theorem g_i2l {x : Int} (hd : decode (mC M) pc = .ok (.i2l, 1)) (h1 : -2147483648 ≤ x ∧ x < 2147483648) (kk : G M scr al alE (pc + 1) L (vL x :: S) w bc bs Q) : G M scr al alE pc L (vI x :: S) w bc bs Q :=
  G.st (fun p l e R s m args below meth c H locs cells slots Z ls ad hx hb hown hts hl k => lv_i2l hx hb hd (Int32.toInt64_ofInt (by rw [Int32.toInt_minValue]; omega) (by rw [Int32.toInt_maxValue]; omega)) (k ls hl)) kk
theorem g_l2i {x : Int} (hd : decode (mC M) pc = .ok (.l2i, 1)) (kk : G M scr al alE (pc + 1) L (vI x :: S) w bc bs Q) : G M scr al alE pc L (vL x :: S) w bc bs Q :=
  G.st (fun p l e R s m args below meth c H locs cells slots Z ls ad hx hb hown hts hl k => lv_l2i hx hb hd Int64.toInt32_ofInt (k ls hl)) kk
theorem g_i2c {x : Int} (hd : decode (mC M) pc = .ok (.i2c, 1)) (h1 : 0 ≤ x ∧ x < 65536) (kk : G M scr al alE (pc + 1) L (vI x :: S) w bc bs Q) : G M scr al alE pc L (vI x :: S) w bc bs Q :=
  G.st (fun p l e R s m args below meth c H locs cells slots Z ls ad hx hb hown hts hl k => lv_i2c hx hb hd (lg_i2c_word (by rw [g_ti (by omega)]; omega) (by rw [g_ti (by omega)]; omega)) (k ls hl)) kk
/-- the sign of a difference -/
def b_cmp (x y : Int) : Int := if y < x then 1 else if x = y then 0 else -1
theorem g_lcmp {x y : Int} (hd : decode (mC M) pc = .ok (.lcmp, 1)) (h1 : -9223372036854775808 ≤ x ∧ x < 9223372036854775808) (h2 : -9223372036854775808 ≤ y ∧ y < 9223372036854775808) (kk : G M scr al alE (pc + 1) L (vI (b_cmp x y) :: S) w bc bs Q) : G M scr al alE pc L (vL y :: vL x :: S) w bc bs Q :=
  G.st (fun p l e R s m args below meth c H locs cells slots Z ls ad hx hb hown hts hl k => W.lcmp hx hb hd (g_top (congrArg Value.int (by
    unfold lg_cmp b_cmp
    by_cases a : y < x
    · rw [if_pos a, if_pos ((g_ltL h2 h1).mpr a)]; rfl
    · rw [if_neg a, if_neg (fun z => a ((g_ltL h2 h1).mp z))]
      by_cases b : x = y
      · rw [if_pos b, if_pos ((g_eqL h1 h2).mpr b)]; rfl
      · rw [if_neg b, if_neg (fun z => b ((g_eqL h1 h2).mp z))]; rfl)) (k ls hl))) kk
theorem g_dup {v : MV} (hd : decode (mC M) pc = .ok (.dup, 1)) (hv : ∀ z, v ≠ .inr (.inl z)) (kk : G M scr al alE (pc + 1) L (v :: v :: S) w bc bs Q) : G M scr al alE pc L (v :: S) w bc bs Q :=
  G.st (fun p l e R s m args below meth c H locs cells slots Z ls ad hx hb hown hts hl k => lv_dup hx hb hd (g_cat hv) (k ls hl)) kk
theorem g_dup2 {v u : MV} (hd : decode (mC M) pc = .ok (.dup2, 1)) (hv : ∀ z, v ≠ .inr (.inl z)) (hu : ∀ z, u ≠ .inr (.inl z)) (kk : G M scr al alE (pc + 1) L (v :: u :: v :: u :: S) w bc bs Q) : G M scr al alE pc L (v :: u :: S) w bc bs Q :=
  G.st (fun p l e R s m args below meth c H locs cells slots Z ls ad hx hb hown hts hl k => lv_dup2_11 hx hb hd (g_cat hv) (g_cat hu) (k ls hl)) kk
theorem g_pop {v : MV} (hd : decode (mC M) pc = .ok (.pop, 1)) (hv : ∀ z, v ≠ .inr (.inl z)) (kk : G M scr al alE (pc + 1) L S w bc bs Q) : G M scr al alE pc L (v :: S) w bc bs Q :=
  G.st (fun p l e R s m args below meth c H locs cells slots Z ls ad hx hb hown hts hl k => lv_pop hx hb hd (g_cat hv) (k ls hl)) kk
theorem g_goto {off : Int} {tgt : Nat} (hd : decode (mC M) pc = .ok (.goto off, 3)) (ht : (pc : Int) + off = (tgt : Int)) (kk : G M scr al alE tgt L S w bc bs Q) : G M scr al alE pc L S w bc bs Q :=
  G.st (fun p l e R s m args below meth c H locs cells slots Z ls ad hx hb hown hts hl k => lv_goto hx hb hd ht (k ls hl)) kk
theorem g_tsIn {dflt lo hi : Int} {offs : Array Int} {len : Nat} {x off : Int} {tgt : Nat} (hd : decode (mC M) pc = .ok (.tableswitch dflt lo hi offs, len)) (h0 : -2147483648 ≤ x ∧ x < 2147483648) (h1 : lo ≤ x) (h2 : x ≤ hi) (ho : offs[(x - lo).toNat]? = some off) (ht : (pc : Int) + off = (tgt : Int)) (kk : G M scr al alE tgt L S w bc bs Q) : G M scr al alE pc L (vI x :: S) w bc bs Q :=
  G.st (fun p l e R s m args below meth c H locs cells slots Z ls ad hx hb hown hts hl k => lv_tableIn hx hb hd (by rw [g_ti h0]; omega) (by rw [g_ti h0]; omega) (by rw [g_ti h0]; exact ho) ht (k ls hl)) kk
theorem g_tsOut {dflt lo hi : Int} {offs : Array Int} {len : Nat} {x : Int} {tgt : Nat} (hd : decode (mC M) pc = .ok (.tableswitch dflt lo hi offs, len)) (h0 : -2147483648 ≤ x ∧ x < 2147483648) (h1 : x < lo ∨ hi < x) (ht : (pc : Int) + dflt = (tgt : Int)) (kk : G M scr al alE tgt L S w bc bs Q) : G M scr al alE pc L (vI x :: S) w bc bs Q :=
  G.st (fun p l e R s m args below meth c H locs cells slots Z ls ad hx hb hown hts hl k => lv_tableOut hx hb hd (by rw [g_ti h0]; exact h1) ht (k ls hl)) kk
theorem g_ls {dflt : Int} {ps : Array (Int × Int)} {len : Nat} {x off : Int} {tgt : Nat} (hd : decode (mC M) pc = .ok (.lookupswitch dflt ps, len)) (h0 : -2147483648 ≤ x ∧ x < 2147483648) (hp : (ps.toList.zip (ps.toList.drop 1)).all (fun (a, next) => a.1 < next.1) = true) (ho : Op.lookupswitch.offset ps.toList dflt x = off) (ht : (pc : Int) + off = (tgt : Int)) (kk : G M scr al alE tgt L S w bc bs Q) : G M scr al alE pc L (vI x :: S) w bc bs Q :=
  G.st (fun p l e R s m args below meth c H locs cells slots Z ls ad hx hb hown hts hl k => lv_lookup hx hb hd hp (by rw [g_ti h0]; exact ho) ht (k ls hl)) kk
/-! branches -/
theorem g_c_eq {off : Int} {tgt : Nat} {x y : Int} (hd : decode (mC M) pc = .ok (.if_icmp .eq off, 3)) (h : (-2147483648 ≤ x ∧ x < 2147483648) ∧ -2147483648 ≤ y ∧ y < 2147483648) (ht : (pc : Int) + off = (tgt : Int)) (k1 : x = y → G M scr al alE tgt L S w bc bs Q) (k2 : ¬ x = y → G M scr al alE (pc + 3) L S w bc bs Q) : G M scr al alE pc L (vI y :: vI x :: S) w bc bs Q :=
  G.st2 (fun p l e R s m args below meth c H locs cells slots Z ls ad hx hb a b => lv_icmp_eq hx hb hd ht (fun z => a ((g_eq h.1 h.2).mp z)) (fun z => b (fun q => z ((g_eq h.1 h.2).mpr q)))) k1 k2
theorem g_c_ne {off : Int} {tgt : Nat} {x y : Int} (hd : decode (mC M) pc = .ok (.if_icmp .ne off, 3)) (h : (-2147483648 ≤ x ∧ x < 2147483648) ∧ -2147483648 ≤ y ∧ y < 2147483648) (ht : (pc : Int) + off = (tgt : Int)) (k1 : ¬ x = y → G M scr al alE tgt L S w bc bs Q) (k2 : x = y → G M scr al alE (pc + 3) L S w bc bs Q) : G M scr al alE pc L (vI y :: vI x :: S) w bc bs Q :=
  G.st2 (fun p l e R s m args below meth c H locs cells slots Z ls ad hx hb a b => lv_icmp_ne hx hb hd ht (fun z => a (fun q => z ((g_eq h.1 h.2).mpr q))) (fun z => b ((g_eq h.1 h.2).mp z))) k1 k2
theorem g_c_lt {off : Int} {tgt : Nat} {x y : Int} (hd : decode (mC M) pc = .ok (.if_icmp .lt off, 3)) (h : (-2147483648 ≤ x ∧ x < 2147483648) ∧ -2147483648 ≤ y ∧ y < 2147483648) (ht : (pc : Int) + off = (tgt : Int)) (k1 : x < y → G M scr al alE tgt L S w bc bs Q) (k2 : y ≤ x → G M scr al alE (pc + 3) L S w bc bs Q) : G M scr al alE pc L (vI y :: vI x :: S) w bc bs Q :=
  G.st2 (fun p l e R s m args below meth c H locs cells slots Z ls ad hx hb a b => lv_icmp_lt hx hb hd ht (fun z => a ((g_lt h.1 h.2).mp z)) (fun z => b (Int.not_lt.mp fun q => z ((g_lt h.1 h.2).mpr q)))) k1 k2
theorem g_c_ge {off : Int} {tgt : Nat} {x y : Int} (hd : decode (mC M) pc = .ok (.if_icmp .ge off, 3)) (h : (-2147483648 ≤ x ∧ x < 2147483648) ∧ -2147483648 ≤ y ∧ y < 2147483648) (ht : (pc : Int) + off = (tgt : Int)) (k1 : y ≤ x → G M scr al alE tgt L S w bc bs Q) (k2 : x < y → G M scr al alE (pc + 3) L S w bc bs Q) : G M scr al alE pc L (vI y :: vI x :: S) w bc bs Q :=
  G.st2 (fun p l e R s m args below meth c H locs cells slots Z ls ad hx hb a b => lv_icmp_ge hx hb hd ht (fun z => a ((g_le h.2 h.1).mp z)) (fun z => b (Int.not_le.mp fun q => z ((g_le h.2 h.1).mpr q)))) k1 k2
theorem g_c_gt {off : Int} {tgt : Nat} {x y : Int} (hd : decode (mC M) pc = .ok (.if_icmp .gt off, 3)) (h : (-2147483648 ≤ x ∧ x < 2147483648) ∧ -2147483648 ≤ y ∧ y < 2147483648) (ht : (pc : Int) + off = (tgt : Int)) (k1 : y < x → G M scr al alE tgt L S w bc bs Q) (k2 : x ≤ y → G M scr al alE (pc + 3) L S w bc bs Q) : G M scr al alE pc L (vI y :: vI x :: S) w bc bs Q :=
  G.st2 (fun p l e R s m args below meth c H locs cells slots Z ls ad hx hb a b => lv_icmp_gt hx hb hd ht (fun z => a ((g_lt h.2 h.1).mp z)) (fun z => b (Int.not_lt.mp fun q => z ((g_lt h.2 h.1).mpr q)))) k1 k2
theorem g_c_le {off : Int} {tgt : Nat} {x y : Int} (hd : decode (mC M) pc = .ok (.if_icmp .le off, 3)) (h : (-2147483648 ≤ x ∧ x < 2147483648) ∧ -2147483648 ≤ y ∧ y < 2147483648) (ht : (pc : Int) + off = (tgt : Int)) (k1 : x ≤ y → G M scr al alE tgt L S w bc bs Q) (k2 : y < x → G M scr al alE (pc + 3) L S w bc bs Q) : G M scr al alE pc L (vI y :: vI x :: S) w bc bs Q :=
  G.st2 (fun p l e R s m args below meth c H locs cells slots Z ls ad hx hb a b => lv_icmp_le hx hb hd ht (fun z => a ((g_le h.1 h.2).mp z)) (fun z => b (Int.not_le.mp fun q => z ((g_le h.1 h.2).mpr q)))) k1 k2
theorem g_z_eq {off : Int} {tgt : Nat} {x : Int} (hd : decode (mC M) pc = .ok (.ifCond .eq off, 3)) (h : -2147483648 ≤ x ∧ x < 2147483648) (ht : (pc : Int) + off = (tgt : Int)) (k1 : x = 0 → G M scr al alE tgt L S w bc bs Q) (k2 : ¬ x = 0 → G M scr al alE (pc + 3) L S w bc bs Q) : G M scr al alE pc L (vI x :: S) w bc bs Q :=
  G.st2 (fun p l e R s m args below meth c H locs cells slots Z ls ad hx hb a b => lv_if_eq hx hb hd ht (fun z => a ((g_eq h (y := 0) (by omega)).mp z)) (fun z => b (fun q => z ((g_eq h (y := 0) (by omega)).mpr q)))) k1 k2
theorem g_z_ne {off : Int} {tgt : Nat} {x : Int} (hd : decode (mC M) pc = .ok (.ifCond .ne off, 3)) (h : -2147483648 ≤ x ∧ x < 2147483648) (ht : (pc : Int) + off = (tgt : Int)) (k1 : ¬ x = 0 → G M scr al alE tgt L S w bc bs Q) (k2 : x = 0 → G M scr al alE (pc + 3) L S w bc bs Q) : G M scr al alE pc L (vI x :: S) w bc bs Q :=
  G.st2 (fun p l e R s m args below meth c H locs cells slots Z ls ad hx hb a b => lv_if_ne hx hb hd ht (fun z => a (fun q => z ((g_eq h (y := 0) (by omega)).mpr q))) (fun z => b ((g_eq h (y := 0) (by omega)).mp z))) k1 k2
theorem g_z_lt {off : Int} {tgt : Nat} {x : Int} (hd : decode (mC M) pc = .ok (.ifCond .lt off, 3)) (h : -2147483648 ≤ x ∧ x < 2147483648) (ht : (pc : Int) + off = (tgt : Int)) (k1 : x < 0 → G M scr al alE tgt L S w bc bs Q) (k2 : 0 ≤ x → G M scr al alE (pc + 3) L S w bc bs Q) : G M scr al alE pc L (vI x :: S) w bc bs Q :=
  G.st2 (fun p l e R s m args below meth c H locs cells slots Z ls ad hx hb a b => lv_if_lt hx hb hd ht (fun z => a ((g_lt h (y := 0) (by omega)).mp z)) (fun z => b (Int.not_lt.mp fun q => z ((g_lt h (y := 0) (by omega)).mpr q)))) k1 k2
theorem g_z_ge {off : Int} {tgt : Nat} {x : Int} (hd : decode (mC M) pc = .ok (.ifCond .ge off, 3)) (h : -2147483648 ≤ x ∧ x < 2147483648) (ht : (pc : Int) + off = (tgt : Int)) (k1 : 0 ≤ x → G M scr al alE tgt L S w bc bs Q) (k2 : x < 0 → G M scr al alE (pc + 3) L S w bc bs Q) : G M scr al alE pc L (vI x :: S) w bc bs Q :=
  G.st2 (fun p l e R s m args below meth c H locs cells slots Z ls ad hx hb a b => lv_if_ge hx hb hd ht (fun z => a ((g_le (x := 0) (by omega) h).mp z)) (fun z => b (Int.not_le.mp fun q => z ((g_le (x := 0) (by omega) h).mpr q)))) k1 k2
theorem g_z_gt {off : Int} {tgt : Nat} {x : Int} (hd : decode (mC M) pc = .ok (.ifCond .gt off, 3)) (h : -2147483648 ≤ x ∧ x < 2147483648) (ht : (pc : Int) + off = (tgt : Int)) (k1 : 0 < x → G M scr al alE tgt L S w bc bs Q) (k2 : x ≤ 0 → G M scr al alE (pc + 3) L S w bc bs Q) : G M scr al alE pc L (vI x :: S) w bc bs Q :=
  G.st2 (fun p l e R s m args below meth c H locs cells slots Z ls ad hx hb a b => lv_if_gt hx hb hd ht (fun z => a ((g_lt (x := 0) (by omega) h).mp z)) (fun z => b (Int.not_lt.mp fun q => z ((g_lt (x := 0) (by omega) h).mpr q)))) k1 k2
theorem g_z_le {off : Int} {tgt : Nat} {x : Int} (hd : decode (mC M) pc = .ok (.ifCond .le off, 3)) (h : -2147483648 ≤ x ∧ x < 2147483648) (ht : (pc : Int) + off = (tgt : Int)) (k1 : x ≤ 0 → G M scr al alE tgt L S w bc bs Q) (k2 : 0 < x → G M scr al alE (pc + 3) L S w bc bs Q) : G M scr al alE pc L (vI x :: S) w bc bs Q :=
  G.st2 (fun p l e R s m args below meth c H locs cells slots Z ls ad hx hb a b => lv_if_le hx hb hd ht (fun z => a ((g_le h (y := 0) (by omega)).mp z)) (fun z => b (Int.not_le.mp fun q => z ((g_le h (y := 0) (by omega)).mpr q)))) k1 k2
end GRU
end
section
/-! ROWS OF THE CELLS: fields, arrays, what is made; the ends of a method -/
section GCE
variable {M : MT} {scr : Option (Nat × (Nat → Int))} {al alE : Bool} {pc : Nat} {L : List (Option MV)} {S : List MV} {w : List MC} {bc bs : Nat} {Q : (Option MV) ⊕ String → List MC → Prop}
/-- the field k of the class number ci, named by the entry idx of own's pool -/
def g_F (own : String) (ci k idx : Nat) : Prop := ∃ (C : String) (T : u_T) (N : Nat), vwCl[ci]? = some (C, T, N) ∧ (∀ wd ∈ u_ws C T N, wd ∈ g_WS) ∧ k < N ∧ Cond.fieldLink own idx (T k).1 (T k).2.1 (T k).2.2.1 ∈ g_WS
/-- its type and whether it is final -/
def g_Ft (own : String) (ci k idx : Nat) (fin : Bool) (ty : FieldType) : Prop := ∃ (C : String) (T : u_T) (N : Nat) (ty0 : Nat → FieldType), vwCl[ci]? = some (C, T, N) ∧ (∀ wd ∈ u_ws C T N, wd ∈ g_WS) ∧ k < N ∧ Cond.fieldLink own idx (T k).1 (T k).2.1 (T k).2.2.1 ∈ g_WS ∧
  (∀ j, j < N → parseFieldDescriptor (T j).2.2.1 = some (ty0 j)) ∧ (∀ a, a < N → ∀ b, b < N → a ≠ b → (T a).2.1 ≠ (T b).2.1) ∧ (T k).2.2.2 = fin ∧ ty0 k = ty ∧ (fin = true → (T k).1 = own)
theorem g_getf {ci k idx a : Nat} {fs : List MV} {v : MV} (hf : g_F (mY M).cls ci k idx) (hd : decode (mC M) pc = .ok (.getfield idx, 3)) (hw : w[a]? = some (cObj ci fs)) (hv : fs[k]? = some v) (kk : G M scr al alE (pc + 3) L (v :: S) w bc bs Q) : G M scr al alE pc L (vR a :: S) w bc bs Q := by
  intro p l e R s m args below meth c D cA ad base A H locs cells slots mc ms ls fx dy hl
  obtain ⟨f1, f2, f3, f4, f5, f6, f7, f8, f9, f10, f11⟩ := id fx
  obtain ⟨d1, d2, d3, d4, d5, d6, d7⟩ := id dy
  obtain ⟨C, T, N, h1, h2, h3, h4⟩ := hf
  exact va_get (D := D) (ci := ci) (v := g_V ad v) f1 f3 f10 h2 f9 d2 d1 a (g_W_at hw) h1 k h3 (f10 _ h4) (fun _ h9 => h9) (by rw [List.getElem?_map, hv]; rfl) hd (kk p l e R s m args below meth c D cA ad base A H locs cells slots mc ms ls fx dy hl)
theorem G_dy.next {D : va_G} {cA : Nat → ClassId} {ad : Nat → Nat} {base : Nat} {A : Nat → Prop} {s : State} {H H1 : Heap} {locs locs1 : List Loc} {cells slots mc ms : Nat} {w' : List MC} (dy : G_dy al D cA ad base A s H locs cells slots mc ms w bc bs) (hlen : w'.length = w.length) (hpos : 0 < w.length) (hP : va_P D vwCl (g_W cA ad w') H1) (hD : va_D A (g_W cA ad w')) (hS : va_S A s.heap H1 locs1) (hz : H1.size ≤ s.heap.size + cells) :
    G_dy al D cA ad base A s H1 locs1 cells slots mc ms w' bc bs := by
  obtain ⟨d1, d2, d3, d4, ⟨d5, d6⟩, d7, d8⟩ := dy
  refine ⟨hP, d2, hD, hS, ⟨fun h => ?_, fun h => by rw [hlen]; exact d6 h⟩, d7, d8⟩
  obtain ⟨a1, a2, a3⟩ := d5 h
  have a4 := d6 h
  refine ⟨?_, by rw [hlen]; exact a2, a3⟩
  obtain ⟨x, hx⟩ : ∃ x, w'[w.length - 1]? = some x := by
    rw [← hlen]
    exact ⟨_, List.getElem?_eq_getElem (by omega)⟩
  have h2 := (hP _ _ (g_W_at (cA := cA) (ad := ad) hx)).lt
  rw [show ((ad (w.length - 1), g_C cA ad x) : Nat × va_E).1 = ad (w.length - 1) from rfl, a3 _ (by omega)] at h2
  omega
theorem g_pos {w : List MC} {a : Nat} {c : MC} (h : w[a]? = some c) : 0 < w.length := Nat.lt_of_le_of_lt (Nat.zero_le _) (List.getElem?_eq_some_iff.mp h).1
theorem g_put {ci k idx a : Nat} {fs : List MV} {v : MV} {fin : Bool} {ty : FieldType} (hf : g_Ft (mY M).cls ci k idx fin ty) (hd : decode (mC M) pc = .ok (.putfield idx, 3)) (hw : w[a]? = some (cObj ci fs)) (hk : k < fs.length) (hn : ∀ ad, narrow ty (g_V ad v) = g_V ad v) (hfit : ∀ ad, fits ty (g_V ad v) = true) (hfi : fin = true → (mY M).name = "<init>")
    (kk : G M scr al alE (pc + 3) L S (w.set a (cObj ci (fs.set k v))) bc bs Q) : G M scr al alE pc L (v :: vR a :: S) w bc bs Q := by
  intro p l e R s m args below meth c D cA ad base A H locs cells slots mc ms ls fx dy hl
  obtain ⟨f1, f2, f3, f4, f5, f6, f7, f8, f9, f10, f11⟩ := id fx
  obtain ⟨d1, d2, d3, d4, d5, d6, d7⟩ := id dy
  obtain ⟨C, T, N, ty0, h1, h2, h3, h4, h5, h6, h7, h8, h9⟩ := hf
  have hs : ((g_W cA ad w).set a (ad a, .inr (ci, (fs.map (g_V ad)).set k (g_V ad v)))) = g_W cA ad (w.set a (cObj ci (fs.set k v))) := by
    rw [g_W_set]
    simp [g_C, List.map_set]
  have fin9 : ∀ (H1 : Heap) (locs1 : List Loc), va_P D vwCl ((g_W cA ad w).set a (ad a, .inr (ci, (fs.map (g_V ad)).set k (g_V ad v)))) H1 → va_D A ((g_W cA ad w).set a (ad a, .inr (ci, (fs.map (g_V ad)).set k (g_V ad v)))) → va_S A s.heap H1 locs1 → W p l e R s m args below meth c H1 locs1 cells slots (vx_MQ below (G_Q alE D cA ad base A Q) (G_X D cA ad base A Q) args s mc ms A) (F0 m (pc + 3) ls (S.map (g_V ad))) := by
    intro H1 locs1 hP hD hS
    rw [hs] at hP hD
    intro T1 hT X
    have hz := X.heapSize
    rw [hT] at hz
    exact kk p l e R s m args below meth c D cA ad base A H1 locs1 cells slots mc ms ls fx (dy.next (List.length_set ..) (g_pos hw) hP hD hS hz) hl T1 hT X
  have hty : parseFieldDescriptor (T k).2.2.1 = some ty := by rw [h5 k h3, h8]
  cases fin with
  | false => exact va_put (D := D) (ci := ci) (v := g_V ad v) (ty := ty) f1 f3 f10 h2 ty0 h5 h6 f9 d2 d1 d3 d4 a (g_W_at hw) h1 k h3 (f10 _ h4) (fun _ h9 => h9) h7 hty (hn ad) (hfit ad) (by rw [List.length_map]; exact hk) hd fin9
  | true => exact va_putF (D := D) (ci := ci) (v := g_V ad v) (ty := ty) f1 f3 f10 h2 ty0 h5 h6 f9 d2 d1 d3 d4 a (g_W_at hw) h1 k h3 (f10 _ h4) (fun _ h9 => h9) h7 (by rw [f7]; exact hfi rfl) (h9 rfl) hty (hn ad) (hfit ad) (by rw [List.length_map]; exact hk) hd fin9
/-! arrays -/
theorem g_arr {cA : Nat → ClassId} {ad : Nat → Nat} {t n : Nat} {f : Nat → Int} (ht : t ≠ 3) : g_C cA ad (cArr t n f) = .inl (cA t, n, .inl fun j => Int32.ofInt (f j)) := by simp [g_C, ht]
theorem g_arrL {cA : Nat → ClassId} {ad : Nat → Nat} {n : Nat} {f : Nat → Int} : g_C cA ad (cArr 3 n f) = .inl (cA 3, n, .inr (.inl fun j => Int64.ofInt (f j))) := by simp [g_C]
theorem g_iald {a n : Nat} {f : Nat → Int} {i : Int} (hd : decode (mC M) pc = .ok (.iaload, 1)) (hw : w[a]? = some (cArr 0 n f)) (hi : 0 ≤ i ∧ i < n ∧ n < 2147483648) (kk : G M scr al alE (pc + 1) L (vI (f i.toNat) :: S) w bc bs Q) : G M scr al alE pc L (vI i :: vR a :: S) w bc bs Q := by
  intro p l e R s m args below meth c D cA ad base A H locs cells slots mc ms ls fx dy hl
  obtain ⟨f1, f2, f3, f4, f5, f6, f7, f8, f9, f10, f11⟩ := id fx
  obtain ⟨d1, d2, d3, d4, d5, d6, d7⟩ := id dy
  exact va_iald f1 f3 d2 d1 a 0 (by rw [g_W_at hw, g_arr (by decide)]) rfl (g_in hi) hd (g_top (by rw [g_nc (by omega)]; rfl) (kk p l e R s m args below meth c D cA ad base A H locs cells slots mc ms ls fx dy hl))
theorem g_cald {a n : Nat} {f : Nat → Int} {i : Int} (hd : decode (mC M) pc = .ok (.caload, 1)) (hw : w[a]? = some (cArr 1 n f)) (hi : 0 ≤ i ∧ i < n ∧ n < 2147483648) (kk : G M scr al alE (pc + 1) L (vI (f i.toNat) :: S) w bc bs Q) : G M scr al alE pc L (vI i :: vR a :: S) w bc bs Q := by
  intro p l e R s m args below meth c D cA ad base A H locs cells slots mc ms ls fx dy hl
  obtain ⟨f1, f2, f3, f4, f5, f6, f7, f8, f9, f10, f11⟩ := id fx
  obtain ⟨d1, d2, d3, d4, d5, d6, d7⟩ := id dy
  exact va_cald f1 f3 d2 d1 a 1 (by rw [g_W_at hw, g_arr (by decide)]) rfl (g_in hi) hd (g_top (by rw [g_nc (by omega)]; rfl) (kk p l e R s m args below meth c D cA ad base A H locs cells slots mc ms ls fx dy hl))
theorem g_zald {a n : Nat} {f : Nat → Int} {i : Int} (hd : decode (mC M) pc = .ok (.baload, 1)) (hw : w[a]? = some (cArr 2 n f)) (hi : 0 ≤ i ∧ i < n ∧ n < 2147483648) (kk : G M scr al alE (pc + 1) L (vI (f i.toNat) :: S) w bc bs Q) : G M scr al alE pc L (vI i :: vR a :: S) w bc bs Q := by
  intro p l e R s m args below meth c D cA ad base A H locs cells slots mc ms ls fx dy hl
  obtain ⟨f1, f2, f3, f4, f5, f6, f7, f8, f9, f10, f11⟩ := id fx
  obtain ⟨d1, d2, d3, d4, d5, d6, d7⟩ := id dy
  exact va_zald f1 f3 d2 d1 a 2 (by rw [g_W_at hw, g_arr (by decide)]) rfl (g_in hi) hd (g_top (by rw [g_nc (by omega)]; rfl) (kk p l e R s m args below meth c D cA ad base A H locs cells slots mc ms ls fx dy hl))
theorem g_lald {a n : Nat} {f : Nat → Int} {i : Int} (hd : decode (mC M) pc = .ok (.laload, 1)) (hw : w[a]? = some (cArr 3 n f)) (hi : 0 ≤ i ∧ i < n ∧ n < 2147483648) (kk : G M scr al alE (pc + 1) L (vL (f i.toNat) :: S) w bc bs Q) : G M scr al alE pc L (vI i :: vR a :: S) w bc bs Q := by
  intro p l e R s m args below meth c D cA ad base A H locs cells slots mc ms ls fx dy hl
  obtain ⟨f1, f2, f3, f4, f5, f6, f7, f8, f9, f10, f11⟩ := id fx
  obtain ⟨d1, d2, d3, d4, d5, d6, d7⟩ := id dy
  exact va_lald f1 f3 d2 d1 a 3 (by rw [g_W_at hw, g_arrL]) rfl (g_in hi) hd (g_top (by rw [g_nc (by omega)]; rfl) (kk p l e R s m args below meth c D cA ad base A H locs cells slots mc ms ls fx dy hl))
theorem g_aald {a n b : Nat} {f : Nat → Option Nat} {i : Int} (hd : decode (mC M) pc = .ok (.aaload, 1)) (hw : w[a]? = some (cRef n f)) (hi : 0 ≤ i ∧ i < n ∧ n < 2147483648) (hv : f i.toNat = some b) (kk : G M scr al alE (pc + 1) L (vR b :: S) w bc bs Q) : G M scr al alE pc L (vI i :: vR a :: S) w bc bs Q := by
  intro p l e R s m args below meth c D cA ad base A H locs cells slots mc ms ls fx dy hl
  obtain ⟨f1, f2, f3, f4, f5, f6, f7, f8, f9, f10, f11⟩ := id fx
  obtain ⟨d1, d2, d3, d4, d5, d6, d7⟩ := id dy
  exact va_aldq f1 f3 d2 d1 a 4 (g_W_at hw) rfl (g_in hi) hd (g_top (by rw [g_nc (by omega), hv]; rfl) (kk p l e R s m args below meth c D cA ad base A H locs cells slots mc ms ls fx dy hl))
theorem g_up32 (f : Nat → Int) (k : Nat) (x : Int) : upd (fun j => Int32.ofInt (f j)) k (Int32.ofInt x) = fun j => Int32.ofInt (va_up f k x j) := by
  funext j
  unfold upd va_up
  by_cases h : j = k <;> simp [h]
theorem g_up64 (f : Nat → Int) (k : Nat) (x : Int) : vp_updL (fun j => Int64.ofInt (f j)) k (Int64.ofInt x) = fun j => Int64.ofInt (va_up f k x j) := by
  funext j
  unfold vp_updL va_up
  by_cases h : j = k <;> simp [h]
section
variable {D : va_G} {cA : Nat → ClassId} {ad : Nat → Nat} {base : Nat} {A : Nat → Prop} {p : Program} {l : Launch} {e : Env} {R : Room} {s : State} {m : MethodId} {args : Array Value} {below : List Frame} {meth : Method} {c : Code} {H : Heap} {locs : List Loc} {cells slots mc ms : Nat} {ls : Array Slot}
/-- behind a store -/
theorem g_stored {w' : List MC} {pc' : Nat} (fx : G_fx M scr p l R s m args meth c ad A mc ms) (dy : G_dy al D cA ad base A s H locs cells slots mc ms w bc bs) (hl : lv_has ls (mL M) (g_L ad 0 L)) (hlen : w'.length = w.length) (hpos : 0 < w.length) (kk : G M scr al alE pc' L S w' bc bs Q) :
    ∀ (H1 : Heap) (locs1 : List Loc), va_P D vwCl (g_W cA ad w') H1 → va_D A (g_W cA ad w') → va_S A s.heap H1 locs1 → W p l e R s m args below meth c H1 locs1 cells slots (vx_MQ below (G_Q alE D cA ad base A Q) (G_X D cA ad base A Q) args s mc ms A) (F0 m pc' ls (S.map (g_V ad))) := by
  intro H1 locs1 hP hD hS T1 hT X
  have hz := X.heapSize
  rw [hT] at hz
  exact kk p l e R s m args below meth c D cA ad base A H1 locs1 cells slots mc ms ls fx (dy.next hlen hpos hP hD hS hz) hl T1 hT X
end
theorem g_iast {a n : Nat} {f : Nat → Int} {i x : Int} (hd : decode (mC M) pc = .ok (.iastore, 1)) (hw : w[a]? = some (cArr 0 n f)) (hi : 0 ≤ i ∧ i < n ∧ n < 2147483648) (kk : G M scr al alE (pc + 1) L S (w.set a (cArr 0 n (va_up f i.toNat x))) bc bs Q) : G M scr al alE pc L (vI x :: vI i :: vR a :: S) w bc bs Q := by
  intro p l e R s m args below meth c D cA ad base A H locs cells slots mc ms ls fx dy hl
  obtain ⟨f1, f2, f3, f4, f5, f6, f7, f8, f9, f10, f11⟩ := id fx
  obtain ⟨d1, d2, d3, d4, d5, d6, d7⟩ := id dy
  have h9 := g_stored (e := e) (below := below) (alE := alE) (Q := Q) fx dy hl (List.length_set ..) (g_pos hw) kk
  rw [g_W_set, g_arr (by decide)] at h9
  exact va_iast f1 f3 d2 d1 d3 d4 a 0 (by rw [g_W_at hw, g_arr (by decide)]) rfl (g_in hi) hd (by rw [g_nc (by omega), g_up32]; exact h9)
theorem g_narc {x : Int} (h : 0 ≤ x ∧ x < 65536) : vp_nar .char (Int32.ofInt x) = Int32.ofInt x := by
  rw [vp_nar_char]
  exact lg_i2c_small (by rw [g_ti (by omega)]; omega) (by rw [g_ti (by omega)]; omega)
theorem g_cstore {a n : Nat} {f : Nat → Int} {i x : Int} (hd : decode (mC M) pc = .ok (.castore, 1)) (hw : w[a]? = some (cArr 1 n f)) (hi : 0 ≤ i ∧ i < n ∧ n < 2147483648) (hx : 0 ≤ x ∧ x < 65536) (kk : G M scr al alE (pc + 1) L S (w.set a (cArr 1 n (va_up f i.toNat x))) bc bs Q) : G M scr al alE pc L (vI x :: vI i :: vR a :: S) w bc bs Q := by
  intro p l e R s m args below meth c D cA ad base A H locs cells slots mc ms ls fx dy hl
  obtain ⟨f1, f2, f3, f4, f5, f6, f7, f8, f9, f10, f11⟩ := id fx
  obtain ⟨d1, d2, d3, d4, d5, d6, d7⟩ := id dy
  have h9 := g_stored (e := e) (below := below) (alE := alE) (Q := Q) fx dy hl (List.length_set ..) (g_pos hw) kk
  rw [g_W_set, g_arr (by decide)] at h9
  exact va_cast f1 f3 d2 d1 d3 d4 a 1 (by rw [g_W_at hw, g_arr (by decide)]) rfl (g_in hi) hd (by rw [g_narc hx, g_nc (by omega), g_up32]; exact h9)
theorem g_zast {a n : Nat} {f : Nat → Int} {i x : Int} (hd : decode (mC M) pc = .ok (.bastore, 1)) (hw : w[a]? = some (cArr 2 n f)) (hi : 0 ≤ i ∧ i < n ∧ n < 2147483648) (hx : x = 0 ∨ x = 1) (kk : G M scr al alE (pc + 1) L S (w.set a (cArr 2 n (va_up f i.toNat x))) bc bs Q) : G M scr al alE pc L (vI x :: vI i :: vR a :: S) w bc bs Q := by
  intro p l e R s m args below meth c D cA ad base A H locs cells slots mc ms ls fx dy hl
  obtain ⟨f1, f2, f3, f4, f5, f6, f7, f8, f9, f10, f11⟩ := id fx
  obtain ⟨d1, d2, d3, d4, d5, d6, d7⟩ := id dy
  have h9 := g_stored (e := e) (below := below) (alE := alE) (Q := Q) fx dy hl (List.length_set ..) (g_pos hw) kk
  rw [g_W_set, g_arr (by decide)] at h9
  have hn : vp_nar .boolean (Int32.ofInt x) = Int32.ofInt x := by rcases hx with rfl | rfl <;> rfl
  exact va_zast f1 f3 d2 d1 d3 d4 a 2 (by rw [g_W_at hw, g_arr (by decide)]) rfl (g_in hi) hd (by rw [hn, g_nc (by omega), g_up32]; exact h9)
theorem g_last {a n : Nat} {f : Nat → Int} {i x : Int} (hd : decode (mC M) pc = .ok (.lastore, 1)) (hw : w[a]? = some (cArr 3 n f)) (hi : 0 ≤ i ∧ i < n ∧ n < 2147483648) (kk : G M scr al alE (pc + 1) L S (w.set a (cArr 3 n (va_up f i.toNat x))) bc bs Q) : G M scr al alE pc L (vL x :: vI i :: vR a :: S) w bc bs Q := by
  intro p l e R s m args below meth c D cA ad base A H locs cells slots mc ms ls fx dy hl
  obtain ⟨f1, f2, f3, f4, f5, f6, f7, f8, f9, f10, f11⟩ := id fx
  obtain ⟨d1, d2, d3, d4, d5, d6, d7⟩ := id dy
  have h9 := g_stored (e := e) (below := below) (alE := alE) (Q := Q) fx dy hl (List.length_set ..) (g_pos hw) kk
  rw [g_W_set, g_arrL] at h9
  exact va_last f1 f3 d2 d1 d3 d4 a 3 (by rw [g_W_at hw, g_arrL]) rfl (g_in hi) hd (by rw [g_nc (by omega), g_up64]; exact h9)
theorem g_aast {a n b : Nat} {f : Nat → Option Nat} {i : Int} {vs : List MV} (hd : decode (mC M) pc = .ok (.aastore, 1)) (hw : w[a]? = some (cRef n f)) (hi : 0 ≤ i ∧ i < n ∧ n < 2147483648) (hb : w[b]? = some (cObj 1 vs)) (kk : G M scr al alE (pc + 1) L S (w.set a (cRef n (va_up f i.toNat (some b)))) bc bs Q) : G M scr al alE pc L (vR b :: vI i :: vR a :: S) w bc bs Q := by
  intro p l e R s m args below meth c D cA ad base A H locs cells slots mc ms ls fx dy hl
  obtain ⟨f1, f2, f3, f4, f5, f6, f7, f8, f9, f10, f11⟩ := id fx
  obtain ⟨d1, d2, d3, d4, d5, d6, d7⟩ := id dy
  have h9 := g_stored (e := e) (below := below) (alE := alE) (Q := Q) fx dy hl (List.length_set ..) (g_pos hw) kk
  have e9 : g_C cA ad (cRef n (va_up f i.toNat (some b))) = .inl (cA 4, n, .inr (.inr (.inr (.inr (va_up (fun j => (f j).map ad) i.toNat (some (ad b))))))) := by
    have : (fun j => (va_up f i.toNat (some b) j).map ad) = va_up (fun j => (f j).map ad) i.toNat (some (ad b)) := by
      funext j
      unfold va_up
      by_cases h : j = i.toNat <;> simp [h]
    rw [← this]
    rfl
  rw [g_W_set, e9] at h9
  exact va_astq (r := (RX1, TX1, 10)) f1 f3 d2 d1 d3 d4 a 4 b 1 (g_W_at hw) rfl (g_W_at hb) rfl (g_in hi) hd (by rw [g_nc (by omega)]; exact h9)
/-! ends -/
theorem g_iret {z : Int} (hr : mR M = some .int) (hd : decode (mC M) pc = .ok (.ireturn, 1)) (hal : al = false → alE = false) (hq : Q (.inl (some (vI z))) w) : G M scr al alE pc L [vI z] w bc bs Q := by
  intro p l e R s m args below meth c D cA ad base A H locs cells slots mc ms ls fx dy hl
  obtain ⟨f1, f2, f3, f4, f5, f6, f7, f8, f9, f10, f11⟩ := id fx
  obtain ⟨d1, d2, d3, d4, d5, d6, d7⟩ := id dy
  refine W.widen (Nat.le_trans (Nat.le_add_right _ _) d6) (Nat.le_trans (Nat.le_add_right _ _) d7) (vx_ret (W.iret f1 f3 (by rw [f5, hr]) (fun t ht hW => ⟨⟨some (vI z), w, rfl, hq, by rw [ht]; exact d1, va_K.moved hW.alike d2, d3, fun h => ?_⟩, d4.F ht⟩) d4.2.2 hd f6))
  cases al with
  | false => rw [hal rfl] at h; cases h
  | true => rw [ht]; exact d5.1 rfl
theorem g_zret {z : Int} (hr : mR M = some .boolean) (hd : decode (mC M) pc = .ok (.ireturn, 1)) (hz : z = 0 ∨ z = 1) (hal : al = false → alE = false) (hq : Q (.inl (some (vI z))) w) : G M scr al alE pc L [vI z] w bc bs Q := by
  intro p l e R s m args below meth c D cA ad base A H locs cells slots mc ms ls fx dy hl
  obtain ⟨f1, f2, f3, f4, f5, f6, f7, f8, f9, f10, f11⟩ := id fx
  obtain ⟨d1, d2, d3, d4, d5, d6, d7⟩ := id dy
  refine W.widen (Nat.le_trans (Nat.le_add_right _ _) d6) (Nat.le_trans (Nat.le_add_right _ _) d7) (vx_ret (W.zret (ty := .boolean) f1 f3 (by rw [f5, hr]) (by rcases hz with rfl | rfl <;> rfl) (fun t ht hW => ⟨⟨some (vI z), w, rfl, hq, by rw [ht]; exact d1, va_K.moved hW.alike d2, d3, fun h => ?_⟩, d4.F ht⟩) d4.2.2 hd f6))
  cases al with
  | false => rw [hal rfl] at h; cases h
  | true => rw [ht]; exact d5.1 rfl
theorem g_cret {z : Int} (hr : mR M = some .char) (hd : decode (mC M) pc = .ok (.ireturn, 1)) (hz : 0 ≤ z ∧ z < 65536) (hal : al = false → alE = false) (hq : Q (.inl (some (vI z))) w) : G M scr al alE pc L [vI z] w bc bs Q := by
  intro p l e R s m args below meth c D cA ad base A H locs cells slots mc ms ls fx dy hl
  obtain ⟨f1, f2, f3, f4, f5, f6, f7, f8, f9, f10, f11⟩ := id fx
  obtain ⟨d1, d2, d3, d4, d5, d6, d7⟩ := id dy
  have hn : narrow .char (.int (Int32.ofInt z)) = .int (Int32.ofInt z) := by
    have h := g_narc hz
    unfold vp_nar at h
    revert h
    cases hh : narrow .char (.int (Int32.ofInt z)) <;> intro h <;> simp_all [narrow]
  refine W.widen (Nat.le_trans (Nat.le_add_right _ _) d6) (Nat.le_trans (Nat.le_add_right _ _) d7) (vx_ret (W.zret (ty := .char) f1 f3 (by rw [f5, hr]) hn (fun t ht hW => ⟨⟨some (vI z), w, rfl, hq, by rw [ht]; exact d1, va_K.moved hW.alike d2, d3, fun h => ?_⟩, d4.F ht⟩) d4.2.2 hd f6))
  cases al with
  | false => rw [hal rfl] at h; cases h
  | true => rw [ht]; exact d5.1 rfl
theorem g_lret {z : Int} (hr : mR M = some .long) (hd : decode (mC M) pc = .ok (.lreturn, 1)) (hal : al = false → alE = false) (hq : Q (.inl (some (vL z))) w) : G M scr al alE pc L [vL z] w bc bs Q := by
  intro p l e R s m args below meth c D cA ad base A H locs cells slots mc ms ls fx dy hl
  obtain ⟨f1, f2, f3, f4, f5, f6, f7, f8, f9, f10, f11⟩ := id fx
  obtain ⟨d1, d2, d3, d4, d5, d6, d7⟩ := id dy
  refine W.widen (Nat.le_trans (Nat.le_add_right _ _) d6) (Nat.le_trans (Nat.le_add_right _ _) d7) (vx_ret (W.lret f1 f3 (by rw [f5, hr]) (fun t ht hW => ⟨⟨some (vL z), w, rfl, hq, by rw [ht]; exact d1, va_K.moved hW.alike d2, d3, fun h => ?_⟩, d4.F ht⟩) d4.2.2 hd f6))
  cases al with
  | false => rw [hal rfl] at h; cases h
  | true => rw [ht]; exact d5.1 rfl
theorem g_vret (hr : mR M = none) (hd : decode (mC M) pc = .ok (.return_, 1)) (hal : al = false → alE = false) (hq : Q (.inl none) w) : G M scr al alE pc L [] w bc bs Q := by
  intro p l e R s m args below meth c D cA ad base A H locs cells slots mc ms ls fx dy hl
  obtain ⟨f1, f2, f3, f4, f5, f6, f7, f8, f9, f10, f11⟩ := id fx
  obtain ⟨d1, d2, d3, d4, d5, d6, d7⟩ := id dy
  refine W.widen (Nat.le_trans (Nat.le_add_right _ _) d6) (Nat.le_trans (Nat.le_add_right _ _) d7) (vx_ret (W.vret f1 f3 (by rw [f5, hr]) (fun t ht hW => ⟨⟨none, w, rfl, hq, by rw [ht]; exact d1, va_K.moved hW.alike d2, d3, fun h => ?_⟩, d4.F ht⟩) d4.2.2 hd f6))
  cases al with
  | false => rw [hal rfl] at h; cases h
  | true => rw [ht]; exact d5.1 rfl
end GCE
end
section
/-! CALLS, what is made, throws and catches -/
section GCA
variable {M : MT} {scr : Option (Nat × (Nat → Int))} {al alE : Bool} {pc : Nat} {L : List (Option MV)} {S : List MV} {w : List MC} {bc bs : Nat} {Q : (Option MV) ⊕ String → List MC → Prop}
def g_sz : List MV → Nat
  | [] => 0
  | .inr (.inl _) :: vs => 2 + g_sz vs
  | _ :: vs => 1 + g_sz vs
theorem g_cats {ad : Nat → Nat} : ∀ (S : List MV), ((S.map (g_V ad)).map fun v => v.category).sum = g_sz S := by
  intro S
  induction S with
  | nil => rfl
  | cons v S ih =>
    rw [List.map_cons, List.map_cons, List.sum_cons, ih]
    rcases v with z | z | _ | r <;> rfl
/-- what a call needs of the callee: its words; V: on an object of its own class, S: static, I: a constructor -/
def g_ok (M : MT) : Prop := plainName (mY M).cls = true ∧ (if mH M = [] then Cond.code (mY M) (mC M) (mL M) (mR M) else Cond.codeWith (mY M) (mC M) (mL M) (mR M) (mH M)) ∈ g_WS ∧ Cond.initialized (mY M).cls ∈ g_WS ∧ ((mY M).cls ≠ "java/lang/invoke/MethodHandle" ∧ (mY M).cls ≠ "java/lang/invoke/VarHandle")
def g_okV (M : MT) (n : Nat) : Prop := g_ok M ∧ Cond.instanceMethod (mY M) ∈ g_WS ∧ Cond.selects (mY M).cls (mY M) (mY M) ∈ g_WS ∧ (parseMethodDescriptor (mY M).desc).map (fun d => d.parameters.length) = some n
def g_okS (M : MT) (n : Nat) : Prop := g_ok M ∧ Cond.static (mY M) ∈ g_WS ∧ (parseMethodDescriptor (mY M).desc).map (fun d => d.parameters.length) = some n
def g_okI (M : MT) (n : Nat) : Prop := g_ok M ∧ Cond.instanceMethod (mY M) ∈ g_WS ∧ (mY M).name = "<init>" ∧ mR M = none ∧ (parseMethodDescriptor (mY M).desc).map (fun d => d.parameters.length) = some n
section
variable {D : va_G} {cA : Nat → ClassId} {ad : Nat → Nat} {base : Nat} {A : Nat → Prop} {p : Program} {l : Launch} {e : Env} {R : Room} {s : State} {m : MethodId} {args : Array Value} {below : List Frame} {meth : Method} {c : Code} {H : Heap} {locs : List Loc} {cells slots mc ms : Nat} {ls : Array Slot}
theorem g_goodW (hts : ∀ w ∈ g_WS, w.before args s = true) {wd : Cond} (h : wd ∈ g_WS) : ∀ (a' : Array Value) (U : State), s.WarmedH U.vm → wd.before a' U = true := fun a' U hW => word_at hW (g_good h) (hts _ h)
theorem g_pws {Mj : MT} (hts : ∀ w ∈ g_WS, w.before args s = true) (hok : g_ok Mj) : ∀ w ∈ g_ws Mj, ∀ (a' : Array Value) (U : State), s.WarmedH U.vm → w.before a' U = true := by
  intro wd hw
  unfold g_ws at hw
  rcases List.mem_cons.mp hw with h | h
  · rw [h]; exact g_goodW hts hok.2.1
  · exact g_goodW hts h
theorem g_blind {as : List MV} {sz : Nat} : FrameBlind (g_Pc al D cA ad base sz as w) := by
  intro a U g mk h
  obtain ⟨q0, q1, q2, q3, q4, q5, q6⟩ := h
  exact ⟨q0, q1, q2, va_K.moved (u := U) (U := U.calling g mk a) (Vm.Alike.refl U.vm) q3, q4, q5, q6.called g mk a⟩
theorem g_pre {as : List MV} (fx : G_fx M scr p l R s m args meth c ad A mc ms) (dy : G_dy al D cA ad base A s H locs cells slots mc ms w bc bs) : ∀ U : State, U.heap = H → s.WarmedH U.vm → g_Pc al D cA ad base H.size as w (as.map (g_V ad)).toArray U := by
  obtain ⟨f1, f2, f3, f4, f5, f6, f7, f8, f9, f10, f11, f12, f13, f14⟩ := fx
  obtain ⟨d1, d2, d3, d4, d5, d6, d7⟩ := dy
  intro U hU hW
  refine ⟨rfl, by rw [hU], by rw [hU]; exact d1, va_K.moved hW.alike d2, d3.weaken (fun _ _ _ _ => trivial), d5.1, ?_⟩
  refine f13.moved (H := H) hW (fun a h1 h2 => d4.2.1 a h1 h2) ?_ hU
  intro q hq
  rcases hq with ⟨k, x, h⟩ | h
  · exact d3.2 k _ h
  · exact f12 q (Nat.le_trans d4.1 h)
theorem g_run {as : List MV} {bc' bs' : Nat} {Q' : (Option MV) ⊕ String → List MC → Prop} {st0 : List Value} {a : Array Value} (fx : G_fx M scr p l R s m args meth c ad A mc ms) (dy : G_dy al D cA ad base A s H locs cells slots mc ms w bc bs) (hl : lv_has ls (mL M) (g_L ad 0 L))
    (hr : vx_Run p l e R s m args below meth c H locs cells slots bc' bs' (F0 m pc ls st0) (S.map (g_V ad)) (G_Q al D cA ad base (va_A (g_W cA ad w) H.size) Q' a) (G_X D cA ad base (va_A (g_W cA ad w) H.size) Q') (va_A (g_W cA ad w) H.size))
    (hb : bc' ≤ bc ∧ bs' ≤ bs) (hlen : al = true → ∀ r w', Q' (.inl r) w' → w'.length = w.length + bc')
    (kk : ∀ r w', Q' (.inl r) w' → G M scr al alE (pc + 3) L (r.toList ++ S) w' (bc - bc') (bs - bs') Q)
    (kx : ∀ E w', Q' (.inr E) w' → GX M scr alE pc L S E w' (bc - bc') (bs - bs') Q) : W p l e R s m args below meth c H locs cells slots (vx_MQ below (G_Q alE D cA ad base A Q) (G_X D cA ad base A Q) args s mc ms A) (F0 m pc ls st0) := by
  obtain ⟨f1, f2, f3, f4, f5, f6, f7, f8, f9, f10, f11, f12, f13, f14⟩ := id fx
  obtain ⟨d1, d2, d3, d4, ⟨d5, d5'⟩, d6, d7⟩ := id dy
  have hA : ∀ q, va_A (g_W cA ad w) H.size q → A q := by
    intro q hq
    rcases hq with ⟨k, x, h⟩ | h
    · exact d3.2 k _ h
    · exact f12 q (Nat.le_trans d4.1 h)
  intro T hT X
  rcases hr T hT X with ⟨v, st₀, t, T', L9, h0, X', hL, e1, e2, ⟨⟨r, w', hv, hq, r1, r2, r3, r4⟩, hF⟩, st⟩ | ⟨q, st₀, t, T', L9, E, ce, h0, X', hL, e1, e2, ⟨⟨w', hq, r1, r2, r3, r4⟩, hF⟩, hce, hcv, hcl, st⟩
  · cases hv
    obtain ⟨k1, k2, k3⟩ := vx_keep h0 e1 d4 (fun q _ h => hA q h) hA hL hF
    have dy' : G_dy al D cA ad base A s T'.heap (locs ++ L9) (cells + bc') (slots + bs') mc ms w' (bc - bc') (bs - bs') := by
      refine ⟨by rw [e1]; exact r1, d2, r3.weaken (fun _ _ _ h => hA _ h), k3, ⟨by rw [e1]; exact r4, fun h => ?_⟩, by omega, by omega⟩
      have := d5' h
      rw [hlen h r w' hq]
      omega
    obtain ⟨t2, a1, b1⟩ := kk r w' hq p l e R s m args below meth c D cA ad base A T'.heap (locs ++ L9) (cells + bc') (slots + bs') mc ms ls fx dy' hl T' rfl X'
    refine ⟨t2, st t2 ?_, b1⟩
    cases r <;> exact a1
  · obtain ⟨k1, k2, k3⟩ := vx_keep h0 e1 d4 (fun q _ h => hA q h) hA hL hF
    have dy' : G_dy false D cA ad base A s T'.heap (locs ++ L9) (cells + bc') (slots + bs') mc ms w' (bc - bc') (bs - bs') :=
      ⟨by rw [e1]; exact r1, d2, r3.weaken (fun _ _ _ h => hA _ h), k3, ⟨(fun h => nomatch h), (fun h => nomatch h)⟩, by omega, by omega⟩
    obtain ⟨t2, a1, b1⟩ := kx E w' hq p l e R s m args below meth c D cA ad base A T'.heap (locs ++ L9) (cells + bc') (slots + bs') mc ms ls q ce fx dy' hl (by rw [e1]; exact hce) hcv hcl T' rfl X'
    exact ⟨t2, st.trans a1, b1⟩
end
theorem g_callV {Mj : MT} {idx b n ci : Nat} {fs as : List MV} {bc' bs' : Nat} {Q' : (Option MV) ⊕ String → List MC → Prop} (hok : g_okV Mj n) (hh : mH Mj = []) (hlink : Cond.methodLink (mY M).cls idx (mY Mj) ∈ g_WS) (hd : decode (mC M) pc = .ok (.invokevirtual idx, 3))
    (hw : w[b]? = some (cObj ci fs)) (hc : ∃ (T : u_T) (N : Nat), vwCl[ci]? = some ((mY Mj).cls, T, N)) (hn : as.length = n) (hent : (g_ent (vR b :: as)).length ≤ mL Mj) (hroom : mF Mj + 1 ≤ mF M ∧ 8 + (mL Mj + 11) + mO Mj ≤ mO M) (hsz : g_sz S ≤ 8)
    (hb : bc' ≤ bc ∧ bs' ≤ bs) (hj : GM Mj al (vR b :: as) w bc' bs' Q') (hlen : al = true → ∀ r w', Q' (.inl r) w' → w'.length = w.length + bc')
    (kk : ∀ r w', Q' (.inl r) w' → G M scr al alE (pc + 3) L (r.toList ++ S) w' (bc - bc') (bs - bs') Q)
    (kx : ∀ E w', Q' (.inr E) w' → GX M scr alE pc L S E w' (bc - bc') (bs - bs') Q) : G M scr al alE pc L (as.reverse ++ vR b :: S) w bc bs Q := by
  intro p l e R s m args below meth c D cA ad base A H locs cells slots mc ms ls fx dy hl
  obtain ⟨f1, f2, f3, f4, f5, f6, f7, f8, f9, f10, ⟨g1, g2, g3, g4⟩, f12, f13, f14⟩ := id fx
  obtain ⟨d1, d2, d3, d4, d5, d6, d7⟩ := id dy
  obtain ⟨hok', o1, o2, o3⟩ := hok
  obtain ⟨p1, p2, p3, p4⟩ := id hok'
  obtain ⟨T9, N9, hc9⟩ := hc
  have hcode : Cond.code (mY Mj) (mC Mj) (mL Mj) (mR Mj) ∈ g_WS := by rw [if_pos hh] at p2; exact p2
  have hM := g_met (l := l) f2 hent p1 D cA ad base H.size hj
  have hcat := g_cats (ad := ad) S
  refine g_run (bc' := bc') (bs' := bs') (Q' := Q') (as := vR b :: as) fx dy hl (vx_runV (C := (mY Mj).cls) (b := ad b) (As := as.map (g_V ad)) (rest := S.map (g_V ad)) (n := n) ⟨f1, f3, f4, f9, f10⟩ hM ⟨⟨rfl, rfl, by rw [g1]; exact hroom.1, by rw [g2]; exact hroom.2, g_pws f10 hok', by rw [g_ws_code hh]; exact List.mem_cons_self, f10 _ hcode, f10 _ p3, p4, fun sig h => ?_, f10 _ hlink⟩, f10 _ o1, f10 _ o2⟩
    ⟨g_blind, va_recv d2 d1 hc9 (g_W_at hw), g_pre (as := vR b :: as) fx dy⟩ rfl (by rw [List.length_map]; exact hn) hl.1 ?_ (by show 2 * 0 + _ ≤ 8; rw [hcat]; omega) hd ⟨by omega, by omega⟩) hb hlen kk kx
  · rw [h] at o3
    exact (Option.some.inj o3).symm
  · show (as.reverse ++ vR b :: S).map (g_V ad) = (as.map (g_V ad)).reverse ++ .ref (ad b) :: S.map (g_V ad)
    rw [List.map_append, List.map_reverse]
    rfl
theorem g_callS {Mj : MT} {idx n : Nat} {as : List MV} {bc' bs' : Nat} {Q' : (Option MV) ⊕ String → List MC → Prop} (hok : g_okS Mj n) (hh : mH Mj = []) (hlink : Cond.methodLink (mY M).cls idx (mY Mj) ∈ g_WS) (hd : decode (mC M) pc = .ok (.invokestatic idx, 3))
    (hn : as.length = n) (hent : (g_ent as).length ≤ mL Mj) (hroom : mF Mj + 1 ≤ mF M ∧ 8 + (mL Mj + 11) + mO Mj ≤ mO M) (hsz : g_sz S ≤ 8)
    (hb : bc' ≤ bc ∧ bs' ≤ bs) (hj : GM Mj al as w bc' bs' Q') (hlen : al = true → ∀ r w', Q' (.inl r) w' → w'.length = w.length + bc')
    (kk : ∀ r w', Q' (.inl r) w' → G M scr al alE (pc + 3) L (r.toList ++ S) w' (bc - bc') (bs - bs') Q)
    (kx : ∀ E w', Q' (.inr E) w' → GX M scr alE pc L S E w' (bc - bc') (bs - bs') Q) : G M scr al alE pc L (as.reverse ++ S) w bc bs Q := by
  intro p l e R s m args below meth c D cA ad base A H locs cells slots mc ms ls fx dy hl
  obtain ⟨f1, f2, f3, f4, f5, f6, f7, f8, f9, f10, ⟨g1, g2, g3, g4⟩, f12, f13, f14⟩ := id fx
  obtain ⟨d1, d2, d3, d4, d5, d6, d7⟩ := id dy
  obtain ⟨hok', o1, o3⟩ := hok
  obtain ⟨p1, p2, p3, p4⟩ := id hok'
  have hcode : Cond.code (mY Mj) (mC Mj) (mL Mj) (mR Mj) ∈ g_WS := by rw [if_pos hh] at p2; exact p2
  have hM := g_met (l := l) f2 hent p1 D cA ad base H.size hj
  have hcat := g_cats (ad := ad) S
  refine g_run (bc' := bc') (bs' := bs') (Q' := Q') (as := as) fx dy hl (vx_runS (As := as.map (g_V ad)) (rest := S.map (g_V ad)) (n := n) ⟨f1, f3, f4, f9, f10⟩ hM ⟨⟨rfl, rfl, by rw [g1]; exact hroom.1, by rw [g2]; exact hroom.2, g_pws f10 hok', by rw [g_ws_code hh]; exact List.mem_cons_self, f10 _ hcode, f10 _ p3, p4, fun sig h => ?_, f10 _ hlink⟩, f10 _ o1⟩
    ⟨g_blind, g_pre (as := as) fx dy⟩ rfl (by rw [List.length_map]; exact hn) hl.1 ?_ (by show 2 * 0 + _ ≤ 8; rw [hcat]; omega) hd ⟨by omega, by omega⟩) hb hlen kk kx
  · rw [h] at o3
    exact (Option.some.inj o3).symm
  · show (as.reverse ++ S).map (g_V ad) = (as.map (g_V ad)).reverse ++ S.map (g_V ad)
    rw [List.map_append, List.map_reverse]
theorem g_callSX {Mj : MT} {idx n : Nat} {as : List MV} {bc' bs' : Nat} {Q' : (Option MV) ⊕ String → List MC → Prop} (hok : g_okS Mj n) (hh : mH Mj ≠ []) (hlink : Cond.methodLink (mY M).cls idx (mY Mj) ∈ g_WS) (hd : decode (mC M) pc = .ok (.invokestatic idx, 3))
    (hn : as.length = n) (hent : (g_ent as).length ≤ mL Mj) (hroom : mF Mj + 1 ≤ mF M ∧ 8 + (mL Mj + 11) + mO Mj ≤ mO M) (hsz : g_sz S ≤ 8)
    (hb : bc' ≤ bc ∧ bs' ≤ bs) (hj : GM Mj al as w bc' bs' Q') (hlen : al = true → ∀ r w', Q' (.inl r) w' → w'.length = w.length + bc')
    (kk : ∀ r w', Q' (.inl r) w' → G M scr al alE (pc + 3) L (r.toList ++ S) w' (bc - bc') (bs - bs') Q)
    (kx : ∀ E w', Q' (.inr E) w' → GX M scr alE pc L S E w' (bc - bc') (bs - bs') Q) : G M scr al alE pc L (as.reverse ++ S) w bc bs Q := by
  intro p l e R s m args below meth c D cA ad base A H locs cells slots mc ms ls fx dy hl
  obtain ⟨f1, f2, f3, f4, f5, f6, f7, f8, f9, f10, ⟨g1, g2, g3, g4⟩, f12, f13, f14⟩ := id fx
  obtain ⟨d1, d2, d3, d4, d5, d6, d7⟩ := id dy
  obtain ⟨hok', o1, o3⟩ := hok
  obtain ⟨p1, p2, p3, p4⟩ := id hok'
  have hcode : Cond.codeWith (mY Mj) (mC Mj) (mL Mj) (mR Mj) (mH Mj) ∈ g_WS := by rw [if_neg hh] at p2; exact p2
  have hM := g_met (l := l) f2 hent p1 D cA ad base H.size hj
  have hcat := g_cats (ad := ad) S
  refine g_run (bc' := bc') (bs' := bs') (Q' := Q') (as := as) fx dy hl (vx_runSX (hh := mH Mj) (As := as.map (g_V ad)) (rest := S.map (g_V ad)) (n := n) ⟨f1, f3, f4, f9, f10⟩ hM ⟨⟨rfl, rfl, by rw [g1]; exact hroom.1, by rw [g2]; exact hroom.2, g_pws f10 hok', by rw [g_ws_codeW hh]; exact List.mem_cons_self⟩, f10 _ hcode, f10 _ p3, p4, fun sig h => ?_, f10 _ hlink, f10 _ o1⟩
    ⟨g_blind, g_pre (as := as) fx dy⟩ rfl (by rw [List.length_map]; exact hn) hl.1 ?_ (by show 2 * 0 + _ ≤ 8; rw [hcat]; omega) hd ⟨by omega, by omega⟩) hb hlen kk kx
  · rw [h] at o3
    exact (Option.some.inj o3).symm
  · show (as.reverse ++ S).map (g_V ad) = (as.map (g_V ad)).reverse ++ S.map (g_V ad)
    rw [List.map_append, List.map_reverse]
end GCA
end
section
/-! constructors, what is made, the library's own, throws and catches, the script -/
section GMO
variable {M : MT} {scr : Option (Nat × (Nat → Int))} {al alE : Bool} {pc : Nat} {L : List (Option MV)} {S : List MV} {w : List MC} {bc bs : Nat} {Q : (Option MV) ⊕ String → List MC → Prop}
theorem g_metI {Mj : MT} {as : List MV} {Q' : (Option MV) ⊕ String → List MC → Prop} {l : Launch} (hl : l.stackTraces = false) (hn : (g_ent as).length ≤ mL Mj) (hy : plainName (mY Mj).cls = true) (D : va_G) (cA : Nat → ClassId) (ad : Nat → Nat) (base sz : Nat)
    (hx : ∀ E w', ¬ Q' (.inr E) w') (k : GM Mj al as w bc bs Q') : Met l (mY Mj) (g_ws Mj) (g_rm Mj bc bs) (g_Pc al D cA ad base sz as w) (G_Q al D cA ad base (va_A (g_W cA ad w) sz) Q') bc bs (va_A (g_W cA ad w) sz) := by
  refine Jvm.Free.MetFree.mono (g_met hl hn hy D cA ad base sz k) (fun _ _ h => h) (fun _ _ _ _ _ h => h) ?_
  intro a s o t _ h
  rcases h with h | ⟨q, -, E, ce, L9, ⟨⟨w', hq, -⟩, -⟩, -⟩
  · exact h
  · exact (hx E w' hq).elim
section
variable {D : va_G} {cA : Nat → ClassId} {ad : Nat → Nat} {base : Nat} {A : Nat → Prop} {p : Program} {l : Launch} {e : Env} {R : Room} {s : State} {m : MethodId} {args : Array Value} {below : List Frame} {meth : Method} {c : Code} {H : Heap} {locs : List Loc} {cells slots mc ms : Nat} {ls : Array Slot}
theorem g_runI {bc' bs' : Nat} {Q' : (Option MV) ⊕ String → List MC → Prop} {st0 : List Value} {a : Array Value} (fx : G_fx M scr p l R s m args meth c ad A mc ms) (dy : G_dy al D cA ad base A s H locs cells slots mc ms w bc bs) (hl : lv_has ls (mL M) (g_L ad 0 L))
    (hr : va_Run p l e R s m args below meth c H locs cells slots bc' bs' (F0 m pc ls st0) (S.map (g_V ad)) (G_Q al D cA ad base (va_A (g_W cA ad w) H.size) Q' a) (va_A (g_W cA ad w) H.size))
    (hb : bc' ≤ bc ∧ bs' ≤ bs) (hlen : al = true → ∀ r w', Q' (.inl r) w' → w'.length = w.length + bc')
    (kk : ∀ r w', Q' (.inl r) w' → G M scr al alE (pc + 3) L (r.toList ++ S) w' (bc - bc') (bs - bs') Q) : W p l e R s m args below meth c H locs cells slots (vx_MQ below (G_Q alE D cA ad base A Q) (G_X D cA ad base A Q) args s mc ms A) (F0 m pc ls st0) := by
  obtain ⟨f1, f2, f3, f4, f5, f6, f7, f8, f9, f10, f11, f12, f13, f14⟩ := id fx
  obtain ⟨d1, d2, d3, d4, ⟨d5, d5'⟩, d6, d7⟩ := id dy
  have hA : ∀ q, va_A (g_W cA ad w) H.size q → A q := by
    intro q hq
    rcases hq with ⟨k, x, h⟩ | h
    · exact d3.2 k _ h
    · exact f12 q (Nat.le_trans d4.1 h)
  intro T hT X
  obtain ⟨v, st₀, t, T', L9, h0, X', hL, e1, e2, ⟨⟨r, w', hv, hq, r1, r2, r3, r4⟩, hF⟩, st⟩ := hr T hT X
  cases hv
  obtain ⟨k1, k2, k3⟩ := vx_keep h0 e1 d4 (fun q _ h => hA q h) hA hL hF
  have dy' : G_dy al D cA ad base A s T'.heap (locs ++ L9) (cells + bc') (slots + bs') mc ms w' (bc - bc') (bs - bs') := by
    refine ⟨by rw [e1]; exact r1, d2, r3.weaken (fun _ _ _ h => hA _ h), k3, ⟨by rw [e1]; exact r4, fun h => ?_⟩, by omega, by omega⟩
    have := d5' h
    rw [hlen h r w' hq]
    omega
  obtain ⟨t2, a1, b1⟩ := kk r w' hq p l e R s m args below meth c D cA ad base A T'.heap (locs ++ L9) (cells + bc') (slots + bs') mc ms ls fx dy' hl T' rfl X'
  refine ⟨t2, st t2 ?_, b1⟩
  cases r <;> exact a1
end
theorem g_callI {Mj : MT} {idx b n : Nat} {as : List MV} {bc' bs' : Nat} {Q' : (Option MV) ⊕ String → List MC → Prop} (hok : g_okI Mj n) (hh : mH Mj = []) (hlink : Cond.methodLink (mY M).cls idx (mY Mj) ∈ g_WS) (hd : decode (mC M) pc = .ok (.invokespecial idx, 3))
    (hn : as.length = n) (hent : (g_ent (vR b :: as)).length ≤ mL Mj) (hroom : mF Mj + 1 ≤ mF M ∧ 8 + (mL Mj + 11) + mO Mj ≤ mO M) (hsz : g_sz S ≤ 8)
    (hb : bc' ≤ bc ∧ bs' ≤ bs) (hj : GM Mj al (vR b :: as) w bc' bs' Q') (hx : ∀ E w', ¬ Q' (.inr E) w') (hlen : al = true → ∀ r w', Q' (.inl r) w' → w'.length = w.length + bc')
    (kk : ∀ r w', Q' (.inl r) w' → G M scr al alE (pc + 3) L (r.toList ++ S) w' (bc - bc') (bs - bs') Q) : G M scr al alE pc L (as.reverse ++ vR b :: S) w bc bs Q := by
  intro p l e R s m args below meth c D cA ad base A H locs cells slots mc ms ls fx dy hl
  obtain ⟨f1, f2, f3, f4, f5, f6, f7, f8, f9, f10, ⟨g1, g2, g3, g4⟩, f12, f13, f14⟩ := id fx
  obtain ⟨d1, d2, d3, d4, d5, d6, d7⟩ := id dy
  obtain ⟨hok', o1, o2, o4, o3⟩ := hok
  obtain ⟨p1, p2, p3, p4⟩ := id hok'
  have hcode : Cond.code (mY Mj) (mC Mj) (mL Mj) (mR Mj) ∈ g_WS := by rw [if_pos hh] at p2; exact p2
  have hM := g_metI (l := l) f2 hent p1 D cA ad base H.size hx hj
  have hcat := g_cats (ad := ad) S
  rw [o4] at hcode
  refine g_runI (bc' := bc') (bs' := bs') (Q' := Q') fx dy hl (va_runI (b := ad b) (As := as.map (g_V ad)) (rest := S.map (g_V ad)) (n := n) ⟨f1, f3, f4, f9, f10⟩ hM ⟨⟨rfl, rfl, by rw [g1]; exact hroom.1, by rw [g2]; exact hroom.2, g_pws f10 hok', by rw [g_ws_code hh, o4]; exact List.mem_cons_self, f10 _ hcode, f10 _ p3, p4, fun sig h => ?_, f10 _ hlink⟩, o2, f10 _ o1⟩
    ⟨g_blind, g_pre (as := vR b :: as) fx dy⟩ rfl (by rw [List.length_map]; exact hn) hl.1 ?_ (by show 2 * 0 + _ ≤ 8; rw [hcat]; omega) hd ⟨by omega, by omega⟩) hb hlen kk
  · rw [h] at o3
    exact (Option.some.inj o3).symm
  · show (as.reverse ++ vR b :: S).map (g_V ad) = (as.map (g_V ad)).reverse ++ .ref (ad b) :: S.map (g_V ad)
    rw [List.map_append, List.map_reverse]
    rfl
/-- a private constructor of a nest mate -/
theorem g_callIN {Mj : MT} {idx b n : Nat} {as : List MV} {host : String} {bc' bs' : Nat} {Q' : (Option MV) ⊕ String → List MC → Prop} (hok : g_okI Mj n) (hh : mH Mj = []) (hlink : ((mY M).cls, idx, mY Mj, host) ∈ g_nest) (hd : decode (mC M) pc = .ok (.invokespecial idx, 3))
    (hn : as.length = n) (hent : (g_ent (vR b :: as)).length ≤ mL Mj) (hroom : mF Mj + 1 ≤ mF M ∧ 8 + (mL Mj + 11) + mO Mj ≤ mO M) (hsz : g_sz S ≤ 8)
    (hb : bc' ≤ bc ∧ bs' ≤ bs) (hj : GM Mj al (vR b :: as) w bc' bs' Q') (hx : ∀ E w', ¬ Q' (.inr E) w') (hlen : al = true → ∀ r w', Q' (.inl r) w' → w'.length = w.length + bc')
    (kk : ∀ r w', Q' (.inl r) w' → G M scr al alE (pc + 3) L (r.toList ++ S) w' (bc - bc') (bs - bs') Q) : G M scr al alE pc L (as.reverse ++ vR b :: S) w bc bs Q := by
  intro p l e R s m args below meth c D cA ad base A H locs cells slots mc ms ls fx dy hl
  obtain ⟨f1, f2, f3, f4, f5, f6, f7, f8, f9, f10, ⟨g1, g2, g3, g4⟩, f12, f13, f14⟩ := id fx
  obtain ⟨d1, d2, d3, d4, d5, d6, d7⟩ := id dy
  obtain ⟨hok', o1, o2, o4, o3⟩ := hok
  obtain ⟨p1, p2, p3, p4⟩ := id hok'
  have hcode : Cond.code (mY Mj) (mC Mj) (mL Mj) (mR Mj) ∈ g_WS := by rw [if_pos hh] at p2; exact p2
  have hM := g_metI (l := l) f2 hent p1 D cA ad base H.size hx hj
  have hcat := g_cats (ad := ad) S
  rw [o4] at hcode
  refine g_runI (bc' := bc') (bs' := bs') (Q' := Q') fx dy hl (va_runIN (host := host) (b := ad b) (As := as.map (g_V ad)) (rest := S.map (g_V ad)) (n := n) ⟨f1, f3, f4, f9, f10⟩ hM ⟨⟨⟨rfl, rfl, by rw [g1]; exact hroom.1, by rw [g2]; exact hroom.2, g_pws f10 hok', by rw [g_ws_code hh, o4]; exact List.mem_cons_self⟩, f10 _ hcode, f10 _ p3, p4, fun sig h => ?_, va_Nw.use rfl (f13.2.2.2.2.1 _ hlink)⟩, o2, f10 _ o1⟩
    ⟨g_blind, g_pre (as := vR b :: as) fx dy⟩ rfl (by rw [List.length_map]; exact hn) hl.1 ?_ (by show 2 * 0 + _ ≤ 8; rw [hcat]; omega) hd ⟨by omega, by omega⟩) hb hlen kk
  · rw [h] at o3
    exact (Option.some.inj o3).symm
  · show (as.reverse ++ vR b :: S).map (g_V ad) = (as.map (g_V ad)).reverse ++ .ref (ad b) :: S.map (g_V ad)
    rw [List.map_append, List.map_reverse]
    rfl
/-- Object.<init> -/
theorem g_obj {idx a : Nat} (h1 : Cond.methodLink (mY M).cls idx objectInit ∈ g_WS) (h2 : Cond.instanceMethod objectInit ∈ g_WS) (h3 : Cond.code objectInit ⟨#[0xb1]⟩ 1 none ∈ g_WS) (hd : decode (mC M) pc = .ok (.invokespecial idx, 3)) (hF : 1 ≤ mF M) (hO : g_sz S + 12 ≤ mO M) (kk : G M scr al alE (pc + 3) L S w bc bs Q) : G M scr al alE pc L (vR a :: S) w bc bs Q := by
  intro p l e R s m args below meth c D cA ad base A H locs cells slots mc ms ls fx dy hl
  obtain ⟨f1, f2, f3, f4, f5, f6, f7, f8, f9, f10, ⟨g1, g2, g3, g4⟩, f12, f13, f14⟩ := id fx
  have hcat := g_cats (ad := ad) S
  exact W.objInit (g := F0 m pc ls (.ref (ad a) :: S.map (g_V ad))) f1 f3 f9 (f10 _ h1) (f10 _ h2) (f10 _ h3) rfl (by rw [f4]; exact hl.1) rfl hd (by rw [g1]; exact hF) (by show 2 * 0 + _ + 12 ≤ _; rw [hcat, g2]; omega) (kk p l e R s m args below meth c D cA ad base A H locs cells slots mc ms ls fx dy hl)
/-! what is made -/
def g_N (own : String) (ci idx n : Nat) (fs : List MV) : Prop := ∃ (C : String) (T : u_T) (N : Nat) (ty0 : Nat → FieldType), vwCl[ci]? = some (C, T, N) ∧ (∀ wd ∈ u_ws C T N, wd ∈ g_WS) ∧ (∀ j, j < N → parseFieldDescriptor (T j).2.2.1 = some (ty0 j)) ∧ Cond.classLink own idx C ∈ g_WS ∧ Cond.instantiable C N ∈ g_WS ∧ Cond.initialized C ∈ g_WS ∧ N = n ∧
  ∀ ad : Nat → Nat, ∀ j, j < N → defaultValue (ty0 j) = vp_V (fs.map (g_V ad)) j
section
variable {D : va_G} {cA : Nat → ClassId} {ad : Nat → Nat} {base : Nat} {A : Nat → Prop} {p : Program} {l : Launch} {e : Env} {R : Room} {s : State} {m : MethodId} {args : Array Value} {below : List Frame} {meth : Method} {c : Code} {H H1 : Heap} {locs : List Loc} {cells slots mc ms : Nat} {ls : Array Slot}
theorem g_pushed {cl : MC} {n : Nat} (fx : G_fx M scr p l R s m args meth c ad A mc ms) (dy : G_dy true D cA ad base A s H locs cells slots mc ms w (bc + 1) (bs + n)) (hlen : w.length + 1 < SCR) (hcell : va_at D vwCl (ad w.length, g_C cA ad cl) H1) (z1 : H1.size = H.size + 1) (o1 : ∀ q, q < H.size → H1[q]? = H[q]?) :
    ad w.length = H.size ∧ G_dy true D cA ad base A s H1 locs (cells + 1) (slots + n) mc ms (w ++ [cl]) bc bs := by
  obtain ⟨f1, f2, f3, f4, f5, f6, f7, f8, f9, f10, f11, f12, f13, f14⟩ := id fx
  obtain ⟨d1, d2, d3, d4, ⟨d5, d5'⟩, d6, d7⟩ := id dy
  obtain ⟨a1, a2, a3⟩ := d5 rfl
  have a4 := d5' rfl
  have ha : ad w.length = H.size := by rw [a3 _ (by omega), a1]
  refine ⟨ha, ?_, d2, ?_, ⟨by rw [z1]; exact Nat.le_trans d4.1 (Nat.le_succ _), fun x h1 h2 => (o1 x (Nat.lt_of_lt_of_le h1 d4.1)).trans (d4.2.1 x h1 h2), d4.2.2⟩, ⟨fun _ => ⟨?_, ?_, a3⟩, fun _ => ?_⟩, by omega, by omega⟩
  · rw [g_W_app]
    refine va_P.app (d1.kept fun k x hx => o1 x.1 ((d1 k x hx).lt)) (fun k x hx => ?_)
    have hz : k < 1 := (List.getElem?_eq_some_iff.mp hx).1
    rw [show k = 0 by omega] at hx
    cases hx
    exact hcell
  · rw [g_W_app]
    exact d3.push d1 ha (f12 _ (by rw [ha]; exact d4.1))
  · rw [z1, List.length_append, a1]; rfl
  · rw [List.length_append]; exact hlen
  · rw [List.length_append]; show _ + (cells + 1) = base + (w.length + 1); omega
end
theorem g_new {ci idx n : Nat} {fs : List MV} (hN : g_N (mY M).cls ci idx n fs) (hd : decode (mC M) pc = .ok (.new idx, 3)) (hlen : w.length + 1 < SCR) (kk : G M scr true alE (pc + 3) L (vR w.length :: S) (w ++ [cObj ci fs]) bc bs Q) : G M scr true alE pc L S w (bc + 1) (bs + n) Q := by
  intro p l e R s m args below meth c D cA ad base A H locs cells slots mc ms ls fx dy hl
  obtain ⟨f1, f2, f3, f4, f5, f6, f7, f8, f9, f10, ⟨g1, g2, g3, g4⟩, f12, f13, f14⟩ := id fx
  obtain ⟨d1, d2, d3, d4, ⟨d5, d5'⟩, d6, d7⟩ := id dy
  obtain ⟨C, T, N, ty0, h1, h2, h3, h4, h5, h6, h7, h8⟩ := hN
  subst h7
  have hKn := d2.1 ci _ h1
  refine W.newcK (g := F0 m pc ls (S.map (g_V ad))) f1 f3 f9 (f10 _ h4) (f10 _ h5) (f10 _ h6) rfl hd (by omega) (by omega) hKn.2.1 rfl fun H1 kC hkC e1 z1 o1 => ?_
  obtain ⟨a1, a2, a3⟩ := d5 rfl
  have ha : ad w.length = H.size := by rw [a3 _ (by omega), a1]
  obtain ⟨-, dy'⟩ := g_pushed (cl := cObj ci fs) fx dy hlen (by rw [ha]; exact ⟨_, h1, (u_born ty0 f10 h2 hKn hkC e1 h3).to (h8 ad)⟩) z1 o1
  have := kk p l e R s m args below meth c D cA ad base A H1 locs (cells + 1) (slots + N) mc ms ls fx dy' hl
  rw [← ha]
  exact this
theorem g_newa {at9 : ArrayType} {t : Nat} {ty : FieldType} {z : Int} {n : Nat} (hty : newarray.typeOf at9 = ty) (hw : Cond.arrayClass ty ∈ g_WS) (ht : ∀ cA, (g_tys cA)[t]? = some (cA t, ty)) (hc : ∀ cA ad, vp_cell (cA t) (n, if t = 3 then .inr (.inl fun _ => Int64.ofInt 0) else .inl fun _ => Int32.ofInt 0) = arrV (cA t) n (fun _ => defaultValue ty) ∧ g_C cA ad (cArr t n fun _ => 0) = .inl (cA t, n, if t = 3 then .inr (.inl fun _ => Int64.ofInt 0) else .inl fun _ => Int32.ofInt 0))
    (hra : ∀ (U : State) (cA : ClassId), va_RA U cA ty → U.vm.findClass ("[" ++ ty.toString) = some cA) (hd : decode (mC M) pc = .ok (.newarray at9, 2)) (hz : 0 ≤ z ∧ z < 2147483648) (hn : z.toNat = n) (hbytes : n * componentBytes ty ≤ 536870912) (hlen : w.length + 1 < SCR)
    (kk : G M scr true alE (pc + 2) L (vR w.length :: S) (w ++ [cArr t n fun _ => 0]) bc bs Q) : G M scr true alE pc L (vI z :: S) w (bc + 1) (bs + n) Q := by
  intro p l e R s m args below meth c D cA ad base A H locs cells slots mc ms ls fx dy hl
  obtain ⟨f1, f2, f3, f4, f5, f6, f7, f8, f9, f10, ⟨g1, g2, g3, g4⟩, f12, f13, f14⟩ := id fx
  obtain ⟨d1, d2, d3, d4, ⟨d5, d5'⟩, d6, d7⟩ := id dy
  subst hty
  refine va_newaK (N := n) f1 f3 (f10 _ hw) (g := F0 m pc ls (.int (Int32.ofInt z) :: S.map (g_V ad))) rfl hd rfl ?_ (by rw [g_nc (by omega)]; exact hn) hbytes (by omega) (by omega) rfl fun H1 cB e1 z1 o1 hAr hNm => ?_
  · rw [show (0 : Int32) = Int32.ofInt 0 from rfl, g_lt (by omega) (by omega)]
    omega
  have hB : cB = cA t := Option.some.inj (hNm.symm.trans (hra s _ (d2.2 t _ (ht cA)).2))
  subst hB
  obtain ⟨a1, a2, a3⟩ := d5 rfl
  have ha : ad w.length = H.size := by rw [a3 _ (by omega), a1]
  obtain ⟨-, dy'⟩ := g_pushed (cl := cArr t n fun _ => 0) fx dy hlen (by rw [ha, (hc cA ad).2]; show H1[H.size]? = some (vp_cell _ _); rw [(hc cA ad).1]; exact e1) z1 o1
  have := kk p l e R s m args below meth c D cA ad base A H1 locs (cells + 1) (slots + n) mc ms ls fx dy' hl
  rw [← ha]
  exact this
theorem g_newq {idx : Nat} {z : Int} {n : Nat} (hw : Cond.classLink (mY M).cls idx RX1 ∈ g_WS) (hd : decode (mC M) pc = .ok (.anewarray idx, 3)) (hz : 0 ≤ z ∧ z < 2147483648) (hn : z.toNat = n) (hbytes : n * 4 ≤ 536870912) (hlen : w.length + 1 < SCR)
    (kk : G M scr true alE (pc + 3) L (vR w.length :: S) (w ++ [cRef n fun _ => none]) bc bs Q) : G M scr true alE pc L (vI z :: S) w (bc + 1) (bs + n) Q := by
  intro p l e R s m args below meth c D cA ad base A H locs cells slots mc ms ls fx dy hl
  obtain ⟨f1, f2, f3, f4, f5, f6, f7, f8, f9, f10, ⟨g1, g2, g3, g4⟩, f12, f13, f14⟩ := id fx
  obtain ⟨d1, d2, d3, d4, ⟨d5, d5'⟩, d6, d7⟩ := id dy
  have hnn : (Int32.ofInt z).toNatClampNeg = n := by rw [g_nc (by omega)]; exact hn
  refine W.anew (g := F0 m pc ls (.int (Int32.ofInt z) :: S.map (g_V ad))) f1 f3 f9 (f10 _ hw) (va_AO.use f13.2.2.2.2.2.1) rfl hd rfl ?_ (by rw [hnn]; exact hbytes) (by omega) (by rw [hnn]; omega) fun cB kA comp h1 h2 h3 h4 => ?_
  · rw [show (0 : Int32) = Int32.ofInt 0 from rfl, g_lt (by omega) (by omega)]
    omega
  rw [hnn]
  generalize hH1 : H.push ({ cls := cB, slots := Array.replicate n .null, vm := .none } : Cell) = H1
  have z1 : H1.size = H.size + 1 := by rw [← hH1, Array.size_push]
  have e1 : H1[H.size]? = some (arrV cB n (fun _ => .null)) := by rw [← hH1, Array.getElem?_push_size, ← arrV_new]
  have o1 : ∀ q : Nat, q < H.size → H1[q]? = H[q]? := fun q hq => by rw [← hH1, Array.getElem?_push, if_neg (Nat.ne_of_lt hq)]
  have hB : cB = cA 4 := by
    obtain ⟨kA', comp', q1, q2, q3, q4⟩ := (d2.2 4 _ rfl).2
    exact Option.some.inj (h1.symm.trans q4)
  subst hB
  obtain ⟨a1, a2, a3⟩ := d5 rfl
  have ha : ad w.length = H.size := by rw [a3 _ (by omega), a1]
  obtain ⟨-, dy'⟩ := g_pushed (cl := cRef n fun _ => none) fx dy hlen (by rw [ha]; exact e1) z1 o1
  have := kk p l e R s m args below meth c D cA ad base A H1 locs (cells + 1) (slots + n) mc ms ls fx dy' hl
  rw [← ha]
  exact this
/-! the library's own -/
theorem g_min {idx : Nat} {x y : Int} (h1 : Cond.methodLink (mY M).cls idx Lib.Math.min.name ∈ g_WS) (h2 : Cond.static Lib.Math.min.name ∈ g_WS) (h3 : Cond.initialized "java/lang/Math" ∈ g_WS) (h4 : Cond.code Lib.Math.min.name Lib.Math.min.code 2 (some .int) ∈ g_WS) (hd : decode (mC M) pc = .ok (.invokestatic idx, 3)) (h : (-2147483648 ≤ x ∧ x < 2147483648) ∧ -2147483648 ≤ y ∧ y < 2147483648) (hF : 1 ≤ mF M) (hO : g_sz S + 13 ≤ mO M)
    (kk : G M scr al alE (pc + 3) L (vI (if y < x then y else x) :: S) w bc bs Q) : G M scr al alE pc L (vI y :: vI x :: S) w bc bs Q := by
  intro p l e R s m args below meth c D cA ad base A H locs cells slots mc ms ls fx dy hl
  obtain ⟨f1, f2, f3, f4, f5, f6, f7, f8, f9, f10, ⟨g1, g2, g3, g4⟩, f12, f13, f14⟩ := id fx
  obtain ⟨d1, d2, d3, d4, d5, d6, d7⟩ := id dy
  have hcat := g_cats (ad := ad) S
  refine va_mmin f1 f3 (by rw [f4]; exact hl.1.symm) f9 (f10 _ h1) (f10 _ h2) (f10 _ h3) (f10 _ h4) (by rw [g1]; exact hF) (by rw [hcat, g2]; exact hO) (by omega) (by omega) hd ?_
  refine g_top (v' := .int (Int32.ofInt (if y < x then y else x))) ?_ (kk p l e R s m args below meth c D cA ad base A H locs cells slots mc ms ls fx dy hl)
  by_cases q : y < x
  · rw [if_pos q, if_pos ((g_lt h.2 h.1).mpr q)]
  · rw [if_neg q, if_neg (fun z => q ((g_lt h.2 h.1).mp z))]
theorem g_copy {idx a a0 n0 n1 : Nat} {f g : Nat → Int} {n : Int} {k : Nat} (h1 : Cond.methodLink (mY M).cls idx arraycopyName ∈ g_WS) (h2 : Cond.native arraycopyName ∈ g_WS) (h3 : Cond.static arraycopyName ∈ g_WS) (h4 : Cond.initialized "java/lang/System" ∈ g_WS) (hd : decode (mC M) pc = .ok (.invokestatic idx, 3))
    (hw0 : w[a0]? = some (cArr 0 n0 f)) (hw1 : w[a]? = some (cArr 0 n1 g)) (hn : n = k) (hk : k ≤ n0 ∧ k ≤ n1 ∧ k < 2147483648) (hF : 1 ≤ mF M) (hO : g_sz S + 18 ≤ mO M)
    (kk : G M scr al alE (pc + 3) L S (w.set a (cArr 0 n1 (va_cpy f g 0 0 k))) bc bs Q) : G M scr al alE pc L (vI n :: vI 0 :: vR a :: vI 0 :: vR a0 :: S) w bc bs Q := by
  intro p l e R s m args below meth c D cA ad base A H locs cells slots mc ms ls fx dy hl
  obtain ⟨f1, f2, f3, f4, f5, f6, f7, f8, f9, f10, ⟨g1, g2, g3, g4⟩, f12, f13, f14⟩ := id fx
  obtain ⟨d1, d2, d3, d4, d5, d6, d7⟩ := id dy
  subst hn
  have hcat := g_cats (ad := ad) S
  have h9 := g_stored (e := e) (below := below) (alE := alE) (Q := Q) fx dy hl (List.length_set ..) (g_pos hw1) kk
  rw [g_W_set, g_arr (by decide)] at h9
  have hkk : (Int32.ofInt (k : Int)).toNatClampNeg = k := by rw [g_nc (by omega)]; omega
  have h00 : (Int32.ofInt 0).toNatClampNeg = 0 := rfl
  have hcp : (va_cpy (fun j => Int32.ofInt (f j)) (fun j => Int32.ofInt (g j)) 0 0 k) = fun j => Int32.ofInt (va_cpy f g 0 0 k j) := by
    funext j
    unfold va_cpy
    by_cases q : 0 ≤ j ∧ j < 0 + k
    · rw [if_pos q, if_pos q]
    · rw [if_neg q, if_neg q]
  refine va_copyi f1 f3 (by rw [f4]; exact hl.1.symm) f9 (f10 _ h1) (f10 _ h2) (f10 _ h3) (f10 _ h4) d2 d1 d3 d4 a0 a 0 0 (by rw [g_W_at hw0, g_arr (by decide)]) (by rw [g_W_at hw1, g_arr (by decide)]) rfl rfl rfl (sp := Int32.ofInt 0) (dp := Int32.ofInt 0) (n := Int32.ofInt (k : Int)) (by decide) (by decide) ?_ (by rw [h00, hkk]; omega) (by rw [h00, hkk]; omega) (fun i hi => rfl) (by rw [g1]; exact hF) (by rw [hcat, g2]; exact hO) hd ?_
  · rw [show (0 : Int32) = Int32.ofInt 0 from rfl, g_lt (by omega) (by omega)]
    omega
  · rw [h00, hkk, hcp]
    exact h9
/-! the script -/
theorem g_slen {n : Nat} {f : Nat → Int} (hs : scr = some (n, f)) (hd : decode (mC M) pc = .ok (.arraylength, 1)) (kk : G M scr al alE (pc + 1) L (vI n :: S) w bc bs Q) : G M scr al alE pc L (vR SCR :: S) w bc bs Q := by
  intro p l e R s m args below meth c D cA ad base A H locs cells slots mc ms ls fx dy hl
  obtain ⟨f1, f2, f3, f4, f5, f6, f7, f8, f9, f10, f11, f12, f13, f14⟩ := id fx
  obtain ⟨d1, d2, d3, d4, d5, d6, d7⟩ := id dy
  obtain ⟨q1, q2, q3⟩ := f14 _ hs
  exact va_slen f1 f3 q1 q2 q3 d4 hd (g_top (congrArg Value.int (Int32.ofInt_eq_ofNat).symm) (kk p l e R s m args below meth c D cA ad base A H locs cells slots mc ms ls fx dy hl))
theorem g_sld {n : Nat} {f : Nat → Int} {i : Int} (hs : scr = some (n, f)) (hd : decode (mC M) pc = .ok (.iaload, 1)) (hi : 0 ≤ i ∧ i < n ∧ n < 2147483648) (kk : G M scr al alE (pc + 1) L (vI (f i.toNat) :: S) w bc bs Q) : G M scr al alE pc L (vI i :: vR SCR :: S) w bc bs Q := by
  intro p l e R s m args below meth c D cA ad base A H locs cells slots mc ms ls fx dy hl
  obtain ⟨f1, f2, f3, f4, f5, f6, f7, f8, f9, f10, f11, f12, f13, f14⟩ := id fx
  obtain ⟨d1, d2, d3, d4, d5, d6, d7⟩ := id dy
  obtain ⟨q1, q2, q3⟩ := f14 _ hs
  exact va_sld f1 f3 q1 q2 q3 d4 (g_in hi) hd (g_top (by rw [g_nc (by omega)]; rfl) (kk p l e R s m args below meth c D cA ad base A H locs cells slots mc ms ls fx dy hl))
/-! throws and catches -/
def g_xn : List String := ["java/lang/RuntimeException", "java/lang/Exception"]
/-- an exception E of this package's kind can be made in own: by the entries ik (its class), ic (its constructor) -/
def g_E (own : String) (ik ic : Nat) (E : String) : Prop := Bundle.fit E = true ∧ Cond.classLink own ik E ∈ g_WS ∧ Cond.initialized E ∈ g_WS ∧ (∀ wd ∈ vx_atS own ic E g_xn, wd ∈ g_WS ∨ ∃ q ∈ g_csts, wd = .castable q.1 q.2) ∧ ∀ wd ∈ Cond.classLink own ik E :: Cond.initialized E :: vx_atS own ic E g_xn, vx_ot wd = true
theorem g_throwC {p : Program} {l : Launch} {R : Room} {s : State} {m : MethodId} {args : Array Value} {meth : Method} {c : Code} {ad : Nat → Nat} {A : Nat → Prop} {mc ms ik ic : Nat} {E : String} (fx : G_fx M scr p l R s m args meth c ad A mc ms) (hE : g_E (mY M).cls ik ic E) : ∀ wd ∈ vx_atS (mY M).cls ic E g_xn, wd.before args s = true := by
  obtain ⟨f1, f2, f3, f4, f5, f6, f7, f8, f9, f10, f11, f12, f13, f14⟩ := id fx
  intro wd hw
  rcases hE.2.2.2.1 wd hw with h | ⟨q, hq, rfl⟩
  · exact f10 _ h
  · exact va_Nw.use rfl (f13.2.2.2.1 q hq)
theorem g_throw {ik is ic : Nat} {E tx : String} (hE : g_E (mY M).cls ik ic E) (hs : ((mY M).cls, is, tx) ∈ g_strs) (hh : mH M = [])
    (d0 : decode (mC M) pc = .ok (.new ik, 3)) (d3 : decode (mC M) (pc + 3) = .ok (.dup, 1)) (d4 : decode (mC M) (pc + 4) = .ok (.ldc is, 2)) (d6 : decode (mC M) (pc + 6) = .ok (.invokespecial ic, 3)) (d9 : decode (mC M) (pc + 9) = .ok (.athrow, 1))
    (hF : 5 < mF M) (hO : g_sz S + 82 ≤ mO M) (hb : 1 ≤ bc ∧ 6 ≤ bs) (hq : Q (.inr E) w) : G M scr al alE pc L S w bc bs Q := by
  intro p l e R s m args below meth c D cA ad base A H locs cells slots mc ms ls fx dy hl
  obtain ⟨f1, f2, f3, f4, f5, f6, f7, f8, f9, f10, ⟨g1, g2, g3, g4⟩, f12, f13, f14⟩ := id fx
  obtain ⟨e1, e2, e3, e4, e5, d6', d7⟩ := id dy
  obtain ⟨sa, hsa⟩ := f13.2.2.1 _ hs
  have hcat := g_cats (ad := ad) S
  refine vx_throwS (names := g_xn) f1 f3 f2 f9 hE.1 (by decide) (f10 _ hE.2.1) (f10 _ hE.2.2.1) hsa (g_throwC fx hE) hE.2.2.2.2 f13.1 f13.2.1 e4 (by rw [f4]; exact hl.1) d0 d3 d4 d6 d9 (fun x hx => ?_) (by rw [g1]; exact hF) (by rw [hcat, g2]; exact hO) (by omega) (by omega) f6 (fun t hv hz ho => ?_) e4.2.2 (by omega) (by omega)
  · rw [f8, hh] at hx; cases hx
  · refine ⟨⟨w, hq, ?_, va_K.moved hv e2, e3, fun h => nomatch h⟩, Nat.le_trans e4.1 hz, fun q h1 h2 => (ho q (Nat.lt_of_lt_of_le h1 e4.1)).trans (e4.2.1 q h1 h2)⟩
    exact e1.kept fun k x hx => ho x.1 ((e1 k x hx).lt)
theorem g_throwW {ik is ic : Nat} {E tx : String} (hE : g_E (mY M).cls ik ic E) (hs : ((mY M).cls, is, tx) ∈ g_strs) (hh : mH M = [])
    (d0 : decode (mC M) pc = .ok (.new ik, 3)) (d3 : decode (mC M) (pc + 3) = .ok (.dup, 1)) (d4 : decode (mC M) (pc + 4) = .ok (.ldc_w is, 3)) (d6 : decode (mC M) (pc + 7) = .ok (.invokespecial ic, 3)) (d9 : decode (mC M) (pc + 10) = .ok (.athrow, 1))
    (hF : 5 < mF M) (hO : g_sz S + 82 ≤ mO M) (hb : 1 ≤ bc ∧ 6 ≤ bs) (hq : Q (.inr E) w) : G M scr al alE pc L S w bc bs Q := by
  intro p l e R s m args below meth c D cA ad base A H locs cells slots mc ms ls fx dy hl
  obtain ⟨f1, f2, f3, f4, f5, f6, f7, f8, f9, f10, ⟨g1, g2, g3, g4⟩, f12, f13, f14⟩ := id fx
  obtain ⟨e1, e2, e3, e4, e5, d6', d7⟩ := id dy
  obtain ⟨sa, hsa⟩ := f13.2.2.1 _ hs
  have hcat := g_cats (ad := ad) S
  refine vx_throwSW (names := g_xn) f1 f3 f2 f9 hE.1 (by decide) (f10 _ hE.2.1) (f10 _ hE.2.2.1) hsa (g_throwC fx hE) hE.2.2.2.2 f13.1 f13.2.1 e4 (by rw [f4]; exact hl.1) d0 d3 d4 d6 d9 (fun x hx => ?_) (by rw [g1]; exact hF) (by rw [hcat, g2]; exact hO) (by omega) (by omega) f6 (fun t hv hz ho => ?_) e4.2.2 (by omega) (by omega)
  · rw [f8, hh] at hx; cases hx
  · refine ⟨⟨w, hq, ?_, va_K.moved hv e2, e3, fun h => nomatch h⟩, Nat.le_trans e4.1 hz, fun q h1 h2 => (ho q (Nat.lt_of_lt_of_le h1 e4.1)).trans (e4.2.1 q h1 h2)⟩
    exact e1.kept fun k x hx => ho x.1 ((e1 k x hx).lt)
/-- not caught here -/
theorem GX.out {E : String} (hh : mH M = []) (hq : Q (.inr E) w) : GX M scr alE pc L S E w bc bs Q := by
  intro p l e R s m args below meth c D cA ad base A H locs cells slots mc ms ls q ce fx dy hl hce hcv hcl
  obtain ⟨f1, f2, f3, f4, f5, f6, f7, f8, f9, f10, f11, f12, f13, f14⟩ := id fx
  obtain ⟨d1, d2, d3, d4, d5, d6, d7⟩ := id dy
  refine vx_out (fun x hx => ?_) f6 hce hcv hcl (fun t ht hv => ⟨⟨w, hq, by rw [ht]; exact d1, va_K.moved hv d2, d3, fun h => nomatch h⟩, d4.F ht⟩) d4.2.2 (by omega) (by omega)
  rw [f8, hh] at hx; cases hx
/-- caught here, by the row x; the exception goes into the local i -/
theorem GX.catch {E nm : String} (pre : List (Nat × Nat × Nat × Nat)) (x : Nat × Nat × Nat × Nat) (suf : List (Nat × Nat × Nat × Nat)) {i : Nat} {k9 : Fin 4} (hh : mH M = pre ++ x :: suf) (hpass : ∀ z ∈ pre, z.2.2.2 ≠ 0 ∧ ∃ n9 : String, Cond.classLink (mY M).cls z.2.2.2 n9 ∈ g_WS ∧ (E, n9) ∈ g_ncs) (hx : x.1 ≤ pc ∧ pc < x.2.1) (h0 : x.2.2.2 ≠ 0) (hlink : Cond.classLink (mY M).cls x.2.2.2 nm ∈ g_WS) (hc : (E, nm) ∈ g_csts)
    (hd : decode (mC M) x.2.2.1 = .ok (.astore_n k9, 1)) (hi : (k9 : Nat) = i) (hn : i < mL M) (hk : g_nl L i = true) (kk : G M scr false alE (x.2.2.1 + 1) (L.set i none) [] w bc bs Q) : GX M scr alE pc L S E w bc bs Q := by
  intro p l e R s m args below meth c D cA ad base A H locs cells slots mc ms ls q ce fx dy hl hce hcv hcl
  obtain ⟨f1, f2, f3, f4, f5, f6, f7, f8, f9, f10, f11, f12, f13, f14⟩ := id fx
  have hsp : c.exceptionTable.toList = tableOf pre ++ (⟨x.1, x.2.1, x.2.2.1, x.2.2.2⟩ : ExceptionTableEntry) :: tableOf suf := by rw [f8, hh]; simp [tableOf]
  refine vx_catch (E := E) (name := nm) f9 (tableOf pre) ⟨x.1, x.2.1, x.2.2.1, x.2.2.2⟩ (tableOf suf) hsp (fun z hz => ?_) ?_ h0 (f10 _ hlink) (va_Nw.use rfl (f13.2.2.2.1 _ hc)) hce hcv hcl ?_
  · unfold tableOf at hz
    obtain ⟨y, hy, rfl⟩ := List.mem_map.mp hz
    obtain ⟨a1, n9, a2, a3⟩ := hpass y hy
    exact Or.inr ⟨a1, n9, f10 _ a2, f13.2.2.2.2.2.2 _ a3⟩
  · simp [covers, hx.1, hx.2]
  · refine lv_astore_n f1 f3 hd hi hl hn rfl (fun ls' hl' => ?_)
    refine kk p l e R s m args below meth c D cA ad base A H locs cells slots mc ms ls' fx dy (g_keep hl' (fun q9 hq9 => ?_))
    have h7 := g_set1 (ad := ad) (x := vR q) hk q9
    refine List.mem_cons_of_mem _ ?_
    obtain ⟨j, v, b1, b2⟩ := g_L_mem.mp hq9
    by_cases hj : i = j
    · subst hj
      by_cases hl9 : i < L.length
      · rw [List.getElem?_set_self hl9] at b1; cases b1
      · rw [List.getElem?_eq_none (by simp; omega)] at b1; cases b1
    · rw [List.getElem?_set_ne hj] at b1
      have h8 : q9 ∈ g_L ad 0 (L.set i (some (vR q))) := g_L_mem.mpr ⟨j, v, by rw [List.getElem?_set_ne hj]; exact b1, b2⟩
      rcases List.mem_cons.mp (h7 h8) with h6 | h6
      · rw [b2] at h6
        exact absurd (congrArg Prod.fst h6).symm (by show ¬ i = 0 + j; omega)
      · exact h6
end GMO
end
