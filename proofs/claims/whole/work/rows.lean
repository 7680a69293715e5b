section
-- ===== PART A: goes FIRST, ahead of the names: the tables' words, and 'selects' of the private methods out of them =====
/-- a private method of a class that the tables say can be made, by its rows of tables_1 -/
def lw_okq (q : MethodName × Nat) : Prop := (q.1.cls ≠ "java/lang/invoke/MethodHandle" ∧ q.1.cls ≠ "java/lang/invoke/VarHandle") ∧ Cond.instantiable q.1.cls q.2 ∈ tables_1 ∧ Cond.privateMethod q.1 ∈ tables_1 ∧ Cond.instanceMethod q.1 ∈ tables_1
theorem lw_p0 : lw_okq (⟨"NameKeeper", "refuse", "(I)I"⟩, 16) := ⟨⟨by decide +kernel, by decide +kernel⟩, List.mem_of_getElem? (i := 16) (by decide +kernel), List.mem_of_getElem? (i := 369) (by decide +kernel), List.mem_of_getElem? (i := 370) (by decide +kernel)⟩
theorem lw_p1 : lw_okq (⟨"NameKeeper", "refuseFlatly", "(I)Z"⟩, 16) := ⟨⟨by decide +kernel, by decide +kernel⟩, List.mem_of_getElem? (i := 16) (by decide +kernel), List.mem_of_getElem? (i := 385) (by decide +kernel), List.mem_of_getElem? (i := 386) (by decide +kernel)⟩
theorem lw_p2 : lw_okq (⟨"NameKeeper$Reader", "skipBlanks", "(LNameKeeper$Tape;)V"⟩, 7) := ⟨⟨by decide +kernel, by decide +kernel⟩, List.mem_of_getElem? (i := 71) (by decide +kernel), List.mem_of_getElem? (i := 401) (by decide +kernel), List.mem_of_getElem? (i := 402) (by decide +kernel)⟩
theorem lw_p3 : lw_okq (⟨"NameKeeper$Reader", "readInside", "(LNameKeeper$Tape;I)Z"⟩, 7) := ⟨⟨by decide +kernel, by decide +kernel⟩, List.mem_of_getElem? (i := 71) (by decide +kernel), List.mem_of_getElem? (i := 409) (by decide +kernel), List.mem_of_getElem? (i := 410) (by decide +kernel)⟩
theorem lw_p4 : lw_okq (⟨"NameKeeper$Reader", "readItem", "(LNameKeeper$Tape;)Z"⟩, 7) := ⟨⟨by decide +kernel, by decide +kernel⟩, List.mem_of_getElem? (i := 71) (by decide +kernel), List.mem_of_getElem? (i := 424) (by decide +kernel), List.mem_of_getElem? (i := 425) (by decide +kernel)⟩
theorem lw_p5 : lw_okq (⟨"NameKeeper$Reader", "fail", "(II)Z"⟩, 7) := ⟨⟨by decide +kernel, by decide +kernel⟩, List.mem_of_getElem? (i := 71) (by decide +kernel), List.mem_of_getElem? (i := 428) (by decide +kernel), List.mem_of_getElem? (i := 429) (by decide +kernel)⟩
theorem lw_p6 : lw_okq (⟨"NameKeeper$Nodes", "put", "(IIII)I"⟩, 7) := ⟨⟨by decide +kernel, by decide +kernel⟩, List.mem_of_getElem? (i := 24) (by decide +kernel), List.mem_of_getElem? (i := 449) (by decide +kernel), List.mem_of_getElem? (i := 450) (by decide +kernel)⟩
theorem lw_p7 : lw_okq (⟨"NameKeeper$Reader", "openFolder", "(I)Z"⟩, 7) := ⟨⟨by decide +kernel, by decide +kernel⟩, List.mem_of_getElem? (i := 71) (by decide +kernel), List.mem_of_getElem? (i := 453) (by decide +kernel), List.mem_of_getElem? (i := 454) (by decide +kernel)⟩
theorem lw_p8 : lw_okq (⟨"NameKeeper$Reader", "readOutside", "(I)Z"⟩, 7) := ⟨⟨by decide +kernel, by decide +kernel⟩, List.mem_of_getElem? (i := 71) (by decide +kernel), List.mem_of_getElem? (i := 461) (by decide +kernel), List.mem_of_getElem? (i := 462) (by decide +kernel)⟩
theorem lw_p9 : lw_okq (⟨"NameKeeper$Memory", "add", "(III)I"⟩, 17) := ⟨⟨by decide +kernel, by decide +kernel⟩, List.mem_of_getElem? (i := 106) (by decide +kernel), List.mem_of_getElem? (i := 497) (by decide +kernel), List.mem_of_getElem? (i := 498) (by decide +kernel)⟩
theorem lw_p10 : lw_okq (⟨"NameKeeper$Memory", "leastUnused", "()I"⟩, 17) := ⟨⟨by decide +kernel, by decide +kernel⟩, List.mem_of_getElem? (i := 106) (by decide +kernel), List.mem_of_getElem? (i := 501) (by decide +kernel), List.mem_of_getElem? (i := 502) (by decide +kernel)⟩
theorem lw_p11 : lw_okq (⟨"NameKeeper$Memory", "comeTo", "(I)V"⟩, 17) := ⟨⟨by decide +kernel, by decide +kernel⟩, List.mem_of_getElem? (i := 106) (by decide +kernel), List.mem_of_getElem? (i := 509) (by decide +kernel), List.mem_of_getElem? (i := 510) (by decide +kernel)⟩
theorem lw_p12 : lw_okq (⟨"NameKeeper$Walker", "lastOfWay", "()I"⟩, 9) := ⟨⟨by decide +kernel, by decide +kernel⟩, List.mem_of_getElem? (i := 184) (by decide +kernel), List.mem_of_getElem? (i := 636) (by decide +kernel), List.mem_of_getElem? (i := 637) (by decide +kernel)⟩
theorem lw_p13 : lw_okq (⟨"NameKeeper", "takePaths", "(I)Z"⟩, 16) := ⟨⟨by decide +kernel, by decide +kernel⟩, List.mem_of_getElem? (i := 16) (by decide +kernel), List.mem_of_getElem? (i := 652) (by decide +kernel), List.mem_of_getElem? (i := 653) (by decide +kernel)⟩
theorem lw_p14 : lw_okq (⟨"NameKeeper", "takeRow", "()I"⟩, 16) := ⟨⟨by decide +kernel, by decide +kernel⟩, List.mem_of_getElem? (i := 16) (by decide +kernel), List.mem_of_getElem? (i := 656) (by decide +kernel), List.mem_of_getElem? (i := 657) (by decide +kernel)⟩
theorem lw_p15 : lw_okq (⟨"NameKeeper", "hasTrees", "()Z"⟩, 16) := ⟨⟨by decide +kernel, by decide +kernel⟩, List.mem_of_getElem? (i := 16) (by decide +kernel), List.mem_of_getElem? (i := 660) (by decide +kernel), List.mem_of_getElem? (i := 661) (by decide +kernel)⟩
def lw_privs_1 : List (MethodName × Nat) := [(⟨"NameKeeper", "refuse", "(I)I"⟩, 16), (⟨"NameKeeper", "refuseFlatly", "(I)Z"⟩, 16), (⟨"NameKeeper$Reader", "skipBlanks", "(LNameKeeper$Tape;)V"⟩, 7), (⟨"NameKeeper$Reader", "readInside", "(LNameKeeper$Tape;I)Z"⟩, 7), (⟨"NameKeeper$Reader", "readItem", "(LNameKeeper$Tape;)Z"⟩, 7), (⟨"NameKeeper$Reader", "fail", "(II)Z"⟩, 7), (⟨"NameKeeper$Nodes", "put", "(IIII)I"⟩, 7), (⟨"NameKeeper$Reader", "openFolder", "(I)Z"⟩, 7), (⟨"NameKeeper$Reader", "readOutside", "(I)Z"⟩, 7), (⟨"NameKeeper$Memory", "add", "(III)I"⟩, 17), (⟨"NameKeeper$Memory", "leastUnused", "()I"⟩, 17), (⟨"NameKeeper$Memory", "comeTo", "(I)V"⟩, 17), (⟨"NameKeeper$Walker", "lastOfWay", "()I"⟩, 9), (⟨"NameKeeper", "takePaths", "(I)Z"⟩, 16), (⟨"NameKeeper", "takeRow", "()I"⟩, 16), (⟨"NameKeeper", "hasTrees", "()Z"⟩, 16)]
theorem lw_r1 : ∀ q ∈ lw_privs_1, lw_okq q := List.forall_mem_cons.mpr ⟨lw_p0, List.forall_mem_cons.mpr ⟨lw_p1, List.forall_mem_cons.mpr ⟨lw_p2, List.forall_mem_cons.mpr ⟨lw_p3, List.forall_mem_cons.mpr ⟨lw_p4, List.forall_mem_cons.mpr ⟨lw_p5, List.forall_mem_cons.mpr ⟨lw_p6, List.forall_mem_cons.mpr ⟨lw_p7, List.forall_mem_cons.mpr ⟨lw_p8, List.forall_mem_cons.mpr ⟨lw_p9, List.forall_mem_cons.mpr ⟨lw_p10, List.forall_mem_cons.mpr ⟨lw_p11, List.forall_mem_cons.mpr ⟨lw_p12, List.forall_mem_cons.mpr ⟨lw_p13, List.forall_mem_cons.mpr ⟨lw_p14, List.forall_mem_cons.mpr ⟨lw_p15, fun _ h => absurd h List.not_mem_nil⟩⟩⟩⟩⟩⟩⟩⟩⟩⟩⟩⟩⟩⟩⟩⟩
theorem lw_p16 : lw_okq (⟨"NameKeeper", "tryOut", "(LNameKeeper$Route;)I"⟩, 16) := ⟨⟨by decide +kernel, by decide +kernel⟩, List.mem_of_getElem? (i := 16) (by decide +kernel), List.mem_of_getElem? (i := 682) (by decide +kernel), List.mem_of_getElem? (i := 683) (by decide +kernel)⟩
theorem lw_p17 : lw_okq (⟨"NameKeeper$Memory", "stepUp", "(I)I"⟩, 17) := ⟨⟨by decide +kernel, by decide +kernel⟩, List.mem_of_getElem? (i := 106) (by decide +kernel), List.mem_of_getElem? (i := 707) (by decide +kernel), List.mem_of_getElem? (i := 708) (by decide +kernel)⟩
theorem lw_p18 : lw_okq (⟨"NameKeeper$Memory", "shrink", "(I)V"⟩, 17) := ⟨⟨by decide +kernel, by decide +kernel⟩, List.mem_of_getElem? (i := 106) (by decide +kernel), List.mem_of_getElem? (i := 734) (by decide +kernel), List.mem_of_getElem? (i := 735) (by decide +kernel)⟩
theorem lw_p19 : lw_okq (⟨"NameKeeper$Memory", "howManyButRoots", "()I"⟩, 17) := ⟨⟨by decide +kernel, by decide +kernel⟩, List.mem_of_getElem? (i := 106) (by decide +kernel), List.mem_of_getElem? (i := 738) (by decide +kernel), List.mem_of_getElem? (i := 739) (by decide +kernel)⟩
theorem lw_p20 : lw_okq (⟨"NameKeeper", "writeRoute", "(LNameKeeper$Route;)V"⟩, 16) := ⟨⟨by decide +kernel, by decide +kernel⟩, List.mem_of_getElem? (i := 16) (by decide +kernel), List.mem_of_getElem? (i := 788) (by decide +kernel), List.mem_of_getElem? (i := 789) (by decide +kernel)⟩
theorem lw_p21 : lw_okq (⟨"NameKeeper", "writeByte", "(I)V"⟩, 16) := ⟨⟨by decide +kernel, by decide +kernel⟩, List.mem_of_getElem? (i := 16) (by decide +kernel), List.mem_of_getElem? (i := 792) (by decide +kernel), List.mem_of_getElem? (i := 793) (by decide +kernel)⟩
theorem lw_p22 : lw_okq (⟨"NameKeeper", "writeName", "(I)V"⟩, 16) := ⟨⟨by decide +kernel, by decide +kernel⟩, List.mem_of_getElem? (i := 16) (by decide +kernel), List.mem_of_getElem? (i := 797) (by decide +kernel), List.mem_of_getElem? (i := 798) (by decide +kernel)⟩
theorem lw_p23 : lw_okq (⟨"NameKeeper$World", "gapIn", "(ILNameKeeper$Route;)I"⟩, 4) := ⟨⟨by decide +kernel, by decide +kernel⟩, List.mem_of_getElem? (i := 104) (by decide +kernel), List.mem_of_getElem? (i := 851) (by decide +kernel), List.mem_of_getElem? (i := 852) (by decide +kernel)⟩
theorem lw_p24 : lw_okq (⟨"NameKeeper", "orRefuse", "(II)I"⟩, 16) := ⟨⟨by decide +kernel, by decide +kernel⟩, List.mem_of_getElem? (i := 16) (by decide +kernel), List.mem_of_getElem? (i := 866) (by decide +kernel), List.mem_of_getElem? (i := 867) (by decide +kernel)⟩
theorem lw_p25 : lw_okq (⟨"NameKeeper$World", "canTake", "(II)Z"⟩, 4) := ⟨⟨by decide +kernel, by decide +kernel⟩, List.mem_of_getElem? (i := 104) (by decide +kernel), List.mem_of_getElem? (i := 904) (by decide +kernel), List.mem_of_getElem? (i := 905) (by decide +kernel)⟩
theorem lw_p26 : lw_okq (⟨"NameKeeper$Memory", "isOf", "(II)Z"⟩, 17) := ⟨⟨by decide +kernel, by decide +kernel⟩, List.mem_of_getElem? (i := 106) (by decide +kernel), List.mem_of_getElem? (i := 968) (by decide +kernel), List.mem_of_getElem? (i := 969) (by decide +kernel)⟩
theorem lw_p27 : lw_okq (⟨"NameKeeper$Memory", "heldBelow", "(I)I"⟩, 17) := ⟨⟨by decide +kernel, by decide +kernel⟩, List.mem_of_getElem? (i := 106) (by decide +kernel), List.mem_of_getElem? (i := 973) (by decide +kernel), List.mem_of_getElem? (i := 974) (by decide +kernel)⟩
theorem lw_p28 : lw_okq (⟨"NameKeeper$World", "isReachable", "(I)Z"⟩, 4) := ⟨⟨by decide +kernel, by decide +kernel⟩, List.mem_of_getElem? (i := 104) (by decide +kernel), List.mem_of_getElem? (i := 1005) (by decide +kernel), List.mem_of_getElem? (i := 1006) (by decide +kernel)⟩
theorem lw_p29 : lw_okq (⟨"NameKeeper", "drawOf", "(I)I"⟩, 16) := ⟨⟨by decide +kernel, by decide +kernel⟩, List.mem_of_getElem? (i := 16) (by decide +kernel), List.mem_of_getElem? (i := 1010) (by decide +kernel), List.mem_of_getElem? (i := 1011) (by decide +kernel)⟩
theorem lw_p30 : lw_okq (⟨"NameKeeper$Walker", "goToRoot", "(LNameKeeper$Memory;)V"⟩, 9) := ⟨⟨by decide +kernel, by decide +kernel⟩, List.mem_of_getElem? (i := 184) (by decide +kernel), List.mem_of_getElem? (i := 1039) (by decide +kernel), List.mem_of_getElem? (i := 1040) (by decide +kernel)⟩
theorem lw_p31 : lw_okq (⟨"NameKeeper$Walker", "takeTrail", "(LNameKeeper$Memory;)V"⟩, 9) := ⟨⟨by decide +kernel, by decide +kernel⟩, List.mem_of_getElem? (i := 184) (by decide +kernel), List.mem_of_getElem? (i := 1044) (by decide +kernel), List.mem_of_getElem? (i := 1045) (by decide +kernel)⟩
def lw_privs_2 : List (MethodName × Nat) := [(⟨"NameKeeper", "tryOut", "(LNameKeeper$Route;)I"⟩, 16), (⟨"NameKeeper$Memory", "stepUp", "(I)I"⟩, 17), (⟨"NameKeeper$Memory", "shrink", "(I)V"⟩, 17), (⟨"NameKeeper$Memory", "howManyButRoots", "()I"⟩, 17), (⟨"NameKeeper", "writeRoute", "(LNameKeeper$Route;)V"⟩, 16), (⟨"NameKeeper", "writeByte", "(I)V"⟩, 16), (⟨"NameKeeper", "writeName", "(I)V"⟩, 16), (⟨"NameKeeper$World", "gapIn", "(ILNameKeeper$Route;)I"⟩, 4), (⟨"NameKeeper", "orRefuse", "(II)I"⟩, 16), (⟨"NameKeeper$World", "canTake", "(II)Z"⟩, 4), (⟨"NameKeeper$Memory", "isOf", "(II)Z"⟩, 17), (⟨"NameKeeper$Memory", "heldBelow", "(I)I"⟩, 17), (⟨"NameKeeper$World", "isReachable", "(I)Z"⟩, 4), (⟨"NameKeeper", "drawOf", "(I)I"⟩, 16), (⟨"NameKeeper$Walker", "goToRoot", "(LNameKeeper$Memory;)V"⟩, 9), (⟨"NameKeeper$Walker", "takeTrail", "(LNameKeeper$Memory;)V"⟩, 9)]
theorem lw_r2 : ∀ q ∈ lw_privs_2, lw_okq q := List.forall_mem_cons.mpr ⟨lw_p16, List.forall_mem_cons.mpr ⟨lw_p17, List.forall_mem_cons.mpr ⟨lw_p18, List.forall_mem_cons.mpr ⟨lw_p19, List.forall_mem_cons.mpr ⟨lw_p20, List.forall_mem_cons.mpr ⟨lw_p21, List.forall_mem_cons.mpr ⟨lw_p22, List.forall_mem_cons.mpr ⟨lw_p23, List.forall_mem_cons.mpr ⟨lw_p24, List.forall_mem_cons.mpr ⟨lw_p25, List.forall_mem_cons.mpr ⟨lw_p26, List.forall_mem_cons.mpr ⟨lw_p27, List.forall_mem_cons.mpr ⟨lw_p28, List.forall_mem_cons.mpr ⟨lw_p29, List.forall_mem_cons.mpr ⟨lw_p30, List.forall_mem_cons.mpr ⟨lw_p31, fun _ h => absurd h List.not_mem_nil⟩⟩⟩⟩⟩⟩⟩⟩⟩⟩⟩⟩⟩⟩⟩⟩
theorem lw_p32 : lw_okq (⟨"NameKeeper$Walker", "isChanged", "(LNameKeeper$Memory;)Z"⟩, 9) := ⟨⟨by decide +kernel, by decide +kernel⟩, List.mem_of_getElem? (i := 184) (by decide +kernel), List.mem_of_getElem? (i := 1059) (by decide +kernel), List.mem_of_getElem? (i := 1060) (by decide +kernel)⟩
theorem lw_p33 : lw_okq (⟨"NameKeeper$Walker", "letGo", "(LNameKeeper$Memory;)V"⟩, 9) := ⟨⟨by decide +kernel, by decide +kernel⟩, List.mem_of_getElem? (i := 184) (by decide +kernel), List.mem_of_getElem? (i := 1063) (by decide +kernel), List.mem_of_getElem? (i := 1064) (by decide +kernel)⟩
theorem lw_p34 : lw_okq (⟨"NameKeeper$Walker", "lacksNext", "(LNameKeeper$Memory;)Z"⟩, 9) := ⟨⟨by decide +kernel, by decide +kernel⟩, List.mem_of_getElem? (i := 184) (by decide +kernel), List.mem_of_getElem? (i := 1068) (by decide +kernel), List.mem_of_getElem? (i := 1069) (by decide +kernel)⟩
theorem lw_p35 : lw_okq (⟨"NameKeeper$Walker", "holdAll", "(LNameKeeper$Memory;)V"⟩, 9) := ⟨⟨by decide +kernel, by decide +kernel⟩, List.mem_of_getElem? (i := 184) (by decide +kernel), List.mem_of_getElem? (i := 1074) (by decide +kernel), List.mem_of_getElem? (i := 1075) (by decide +kernel)⟩
theorem lw_p36 : lw_okq (⟨"NameKeeper", "tellOutcome", "(LNameKeeper$Walker;I)V"⟩, 16) := ⟨⟨by decide +kernel, by decide +kernel⟩, List.mem_of_getElem? (i := 16) (by decide +kernel), List.mem_of_getElem? (i := 1084) (by decide +kernel), List.mem_of_getElem? (i := 1085) (by decide +kernel)⟩
theorem lw_p37 : lw_okq (⟨"NameKeeper$Trace", "prepare", "(LNameKeeper$Memory;)V"⟩, 7) := ⟨⟨by decide +kernel, by decide +kernel⟩, List.mem_of_getElem? (i := 275) (by decide +kernel), List.mem_of_getElem? (i := 1118) (by decide +kernel), List.mem_of_getElem? (i := 1119) (by decide +kernel)⟩
theorem lw_p38 : lw_okq (⟨"NameKeeper$Memory", "markUpFrom", "(I)V"⟩, 17) := ⟨⟨by decide +kernel, by decide +kernel⟩, List.mem_of_getElem? (i := 106) (by decide +kernel), List.mem_of_getElem? (i := 1127) (by decide +kernel), List.mem_of_getElem? (i := 1128) (by decide +kernel)⟩
theorem lw_p39 : lw_okq (⟨"NameKeeper$Trace", "runBy", "(I)Z"⟩, 7) := ⟨⟨by decide +kernel, by decide +kernel⟩, List.mem_of_getElem? (i := 275) (by decide +kernel), List.mem_of_getElem? (i := 1131) (by decide +kernel), List.mem_of_getElem? (i := 1132) (by decide +kernel)⟩
theorem lw_p40 : lw_okq (⟨"NameKeeper$Trace", "isFit", "(I)Z"⟩, 7) := ⟨⟨by decide +kernel, by decide +kernel⟩, List.mem_of_getElem? (i := 275) (by decide +kernel), List.mem_of_getElem? (i := 1161) (by decide +kernel), List.mem_of_getElem? (i := 1162) (by decide +kernel)⟩
theorem lw_p41 : lw_okq (⟨"NameKeeper$Trace", "mostLeft", "(I)I"⟩, 7) := ⟨⟨by decide +kernel, by decide +kernel⟩, List.mem_of_getElem? (i := 275) (by decide +kernel), List.mem_of_getElem? (i := 1173) (by decide +kernel), List.mem_of_getElem? (i := 1174) (by decide +kernel)⟩
theorem lw_p42 : lw_okq (⟨"NameKeeper$Trace", "alikeFits", "(II)I"⟩, 7) := ⟨⟨by decide +kernel, by decide +kernel⟩, List.mem_of_getElem? (i := 275) (by decide +kernel), List.mem_of_getElem? (i := 1177) (by decide +kernel), List.mem_of_getElem? (i := 1178) (by decide +kernel)⟩
theorem lw_p43 : lw_okq (⟨"NameKeeperModel", "refuses", "(I)I"⟩, 43) := ⟨⟨by decide +kernel, by decide +kernel⟩, List.mem_of_getElem? (i := 1198) (by decide +kernel), List.mem_of_getElem? (i := 1340) (by decide +kernel), List.mem_of_getElem? (i := 1341) (by decide +kernel)⟩
theorem lw_p44 : lw_okq (⟨"NameKeeperModel", "isRefused", "(I)Z"⟩, 43) := ⟨⟨by decide +kernel, by decide +kernel⟩, List.mem_of_getElem? (i := 1198) (by decide +kernel), List.mem_of_getElem? (i := 1348) (by decide +kernel), List.mem_of_getElem? (i := 1349) (by decide +kernel)⟩
theorem lw_p45 : lw_okq (⟨"NameKeeperModel", "look0", "()I"⟩, 43) := ⟨⟨by decide +kernel, by decide +kernel⟩, List.mem_of_getElem? (i := 1198) (by decide +kernel), List.mem_of_getElem? (i := 1368) (by decide +kernel), List.mem_of_getElem? (i := 1369) (by decide +kernel)⟩
theorem lw_p46 : lw_okq (⟨"NameKeeperModel", "fail", "(II)V"⟩, 43) := ⟨⟨by decide +kernel, by decide +kernel⟩, List.mem_of_getElem? (i := 1198) (by decide +kernel), List.mem_of_getElem? (i := 1372) (by decide +kernel), List.mem_of_getElem? (i := 1373) (by decide +kernel)⟩
theorem lw_p47 : lw_okq (⟨"NameKeeperModel", "volumeTold", "(I)V"⟩, 43) := ⟨⟨by decide +kernel, by decide +kernel⟩, List.mem_of_getElem? (i := 1198) (by decide +kernel), List.mem_of_getElem? (i := 1376) (by decide +kernel), List.mem_of_getElem? (i := 1377) (by decide +kernel)⟩
def lw_privs_3 : List (MethodName × Nat) := [(⟨"NameKeeper$Walker", "isChanged", "(LNameKeeper$Memory;)Z"⟩, 9), (⟨"NameKeeper$Walker", "letGo", "(LNameKeeper$Memory;)V"⟩, 9), (⟨"NameKeeper$Walker", "lacksNext", "(LNameKeeper$Memory;)Z"⟩, 9), (⟨"NameKeeper$Walker", "holdAll", "(LNameKeeper$Memory;)V"⟩, 9), (⟨"NameKeeper", "tellOutcome", "(LNameKeeper$Walker;I)V"⟩, 16), (⟨"NameKeeper$Trace", "prepare", "(LNameKeeper$Memory;)V"⟩, 7), (⟨"NameKeeper$Memory", "markUpFrom", "(I)V"⟩, 17), (⟨"NameKeeper$Trace", "runBy", "(I)Z"⟩, 7), (⟨"NameKeeper$Trace", "isFit", "(I)Z"⟩, 7), (⟨"NameKeeper$Trace", "mostLeft", "(I)I"⟩, 7), (⟨"NameKeeper$Trace", "alikeFits", "(II)I"⟩, 7), (⟨"NameKeeperModel", "refuses", "(I)I"⟩, 43), (⟨"NameKeeperModel", "isRefused", "(I)Z"⟩, 43), (⟨"NameKeeperModel", "look0", "()I"⟩, 43), (⟨"NameKeeperModel", "fail", "(II)V"⟩, 43), (⟨"NameKeeperModel", "volumeTold", "(I)V"⟩, 43)]
theorem lw_r3 : ∀ q ∈ lw_privs_3, lw_okq q := List.forall_mem_cons.mpr ⟨lw_p32, List.forall_mem_cons.mpr ⟨lw_p33, List.forall_mem_cons.mpr ⟨lw_p34, List.forall_mem_cons.mpr ⟨lw_p35, List.forall_mem_cons.mpr ⟨lw_p36, List.forall_mem_cons.mpr ⟨lw_p37, List.forall_mem_cons.mpr ⟨lw_p38, List.forall_mem_cons.mpr ⟨lw_p39, List.forall_mem_cons.mpr ⟨lw_p40, List.forall_mem_cons.mpr ⟨lw_p41, List.forall_mem_cons.mpr ⟨lw_p42, List.forall_mem_cons.mpr ⟨lw_p43, List.forall_mem_cons.mpr ⟨lw_p44, List.forall_mem_cons.mpr ⟨lw_p45, List.forall_mem_cons.mpr ⟨lw_p46, List.forall_mem_cons.mpr ⟨lw_p47, fun _ h => absurd h List.not_mem_nil⟩⟩⟩⟩⟩⟩⟩⟩⟩⟩⟩⟩⟩⟩⟩⟩
theorem lw_p48 : lw_okq (⟨"NameKeeperModel", "drafts", "(III)I"⟩, 43) := ⟨⟨by decide +kernel, by decide +kernel⟩, List.mem_of_getElem? (i := 1198) (by decide +kernel), List.mem_of_getElem? (i := 1380) (by decide +kernel), List.mem_of_getElem? (i := 1381) (by decide +kernel)⟩
theorem lw_p49 : lw_okq (⟨"NameKeeperModel", "drafted", "(II)I"⟩, 43) := ⟨⟨by decide +kernel, by decide +kernel⟩, List.mem_of_getElem? (i := 1198) (by decide +kernel), List.mem_of_getElem? (i := 1384) (by decide +kernel), List.mem_of_getElem? (i := 1385) (by decide +kernel)⟩
theorem lw_p50 : lw_okq (⟨"NameKeeperModel", "nameHere", "()I"⟩, 43) := ⟨⟨by decide +kernel, by decide +kernel⟩, List.mem_of_getElem? (i := 1198) (by decide +kernel), List.mem_of_getElem? (i := 1394) (by decide +kernel), List.mem_of_getElem? (i := 1395) (by decide +kernel)⟩
theorem lw_p51 : lw_okq (⟨"NameKeeperModel", "stands", "()V"⟩, 43) := ⟨⟨by decide +kernel, by decide +kernel⟩, List.mem_of_getElem? (i := 1198) (by decide +kernel), List.mem_of_getElem? (i := 1398) (by decide +kernel), List.mem_of_getElem? (i := 1399) (by decide +kernel)⟩
theorem lw_p52 : lw_okq (⟨"NameKeeperModel", "makes", "(III)I"⟩, 43) := ⟨⟨by decide +kernel, by decide +kernel⟩, List.mem_of_getElem? (i := 1198) (by decide +kernel), List.mem_of_getElem? (i := 1405) (by decide +kernel), List.mem_of_getElem? (i := 1406) (by decide +kernel)⟩
theorem lw_p53 : lw_okq (⟨"NameKeeperModel", "its", "(II)I"⟩, 43) := ⟨⟨by decide +kernel, by decide +kernel⟩, List.mem_of_getElem? (i := 1198) (by decide +kernel), List.mem_of_getElem? (i := 1409) (by decide +kernel), List.mem_of_getElem? (i := 1410) (by decide +kernel)⟩
theorem lw_p54 : lw_okq (⟨"NameKeeperModel", "comesTo", "(I)V"⟩, 43) := ⟨⟨by decide +kernel, by decide +kernel⟩, List.mem_of_getElem? (i := 1198) (by decide +kernel), List.mem_of_getElem? (i := 1416) (by decide +kernel), List.mem_of_getElem? (i := 1417) (by decide +kernel)⟩
theorem lw_p55 : lw_okq (⟨"NameKeeperModel", "notes", "(I)V"⟩, 43) := ⟨⟨by decide +kernel, by decide +kernel⟩, List.mem_of_getElem? (i := 1198) (by decide +kernel), List.mem_of_getElem? (i := 1420) (by decide +kernel), List.mem_of_getElem? (i := 1421) (by decide +kernel)⟩
theorem lw_p56 : lw_okq (⟨"NameKeeperModel", "walkerHas", "(II)I"⟩, 43) := ⟨⟨by decide +kernel, by decide +kernel⟩, List.mem_of_getElem? (i := 1198) (by decide +kernel), List.mem_of_getElem? (i := 1424) (by decide +kernel), List.mem_of_getElem? (i := 1425) (by decide +kernel)⟩
theorem lw_p57 : lw_okq (⟨"NameKeeperModel", "nodeMany", "(I)I"⟩, 43) := ⟨⟨by decide +kernel, by decide +kernel⟩, List.mem_of_getElem? (i := 1198) (by decide +kernel), List.mem_of_getElem? (i := 1436) (by decide +kernel), List.mem_of_getElem? (i := 1437) (by decide +kernel)⟩
theorem lw_p58 : lw_okq (⟨"NameKeeperModel", "nodeHas", "(II)I"⟩, 43) := ⟨⟨by decide +kernel, by decide +kernel⟩, List.mem_of_getElem? (i := 1198) (by decide +kernel), List.mem_of_getElem? (i := 1440) (by decide +kernel), List.mem_of_getElem? (i := 1441) (by decide +kernel)⟩
theorem lw_p59 : lw_okq (⟨"NameKeeperModel", "entryMany", "(Z)I"⟩, 43) := ⟨⟨by decide +kernel, by decide +kernel⟩, List.mem_of_getElem? (i := 1198) (by decide +kernel), List.mem_of_getElem? (i := 1444) (by decide +kernel), List.mem_of_getElem? (i := 1445) (by decide +kernel)⟩
theorem lw_p60 : lw_okq (⟨"NameKeeperModel", "isRoot", "(I)Z"⟩, 43) := ⟨⟨by decide +kernel, by decide +kernel⟩, List.mem_of_getElem? (i := 1198) (by decide +kernel), List.mem_of_getElem? (i := 1448) (by decide +kernel), List.mem_of_getElem? (i := 1449) (by decide +kernel)⟩
theorem lw_p61 : lw_okq (⟨"NameKeeperModel", "entriesWith", "(I)I"⟩, 43) := ⟨⟨by decide +kernel, by decide +kernel⟩, List.mem_of_getElem? (i := 1198) (by decide +kernel), List.mem_of_getElem? (i := 1452) (by decide +kernel), List.mem_of_getElem? (i := 1453) (by decide +kernel)⟩
theorem lw_p62 : lw_okq (⟨"NameKeeperModel", "counts", "()V"⟩, 43) := ⟨⟨by decide +kernel, by decide +kernel⟩, List.mem_of_getElem? (i := 1198) (by decide +kernel), List.mem_of_getElem? (i := 1456) (by decide +kernel), List.mem_of_getElem? (i := 1457) (by decide +kernel)⟩
theorem lw_p63 : lw_okq (⟨"NameKeeperModel", "countsHands", "()V"⟩, 43) := ⟨⟨by decide +kernel, by decide +kernel⟩, List.mem_of_getElem? (i := 1198) (by decide +kernel), List.mem_of_getElem? (i := 1460) (by decide +kernel), List.mem_of_getElem? (i := 1461) (by decide +kernel)⟩
def lw_privs_4 : List (MethodName × Nat) := [(⟨"NameKeeperModel", "drafts", "(III)I"⟩, 43), (⟨"NameKeeperModel", "drafted", "(II)I"⟩, 43), (⟨"NameKeeperModel", "nameHere", "()I"⟩, 43), (⟨"NameKeeperModel", "stands", "()V"⟩, 43), (⟨"NameKeeperModel", "makes", "(III)I"⟩, 43), (⟨"NameKeeperModel", "its", "(II)I"⟩, 43), (⟨"NameKeeperModel", "comesTo", "(I)V"⟩, 43), (⟨"NameKeeperModel", "notes", "(I)V"⟩, 43), (⟨"NameKeeperModel", "walkerHas", "(II)I"⟩, 43), (⟨"NameKeeperModel", "nodeMany", "(I)I"⟩, 43), (⟨"NameKeeperModel", "nodeHas", "(II)I"⟩, 43), (⟨"NameKeeperModel", "entryMany", "(Z)I"⟩, 43), (⟨"NameKeeperModel", "isRoot", "(I)Z"⟩, 43), (⟨"NameKeeperModel", "entriesWith", "(I)I"⟩, 43), (⟨"NameKeeperModel", "counts", "()V"⟩, 43), (⟨"NameKeeperModel", "countsHands", "()V"⟩, 43)]
theorem lw_r4 : ∀ q ∈ lw_privs_4, lw_okq q := List.forall_mem_cons.mpr ⟨lw_p48, List.forall_mem_cons.mpr ⟨lw_p49, List.forall_mem_cons.mpr ⟨lw_p50, List.forall_mem_cons.mpr ⟨lw_p51, List.forall_mem_cons.mpr ⟨lw_p52, List.forall_mem_cons.mpr ⟨lw_p53, List.forall_mem_cons.mpr ⟨lw_p54, List.forall_mem_cons.mpr ⟨lw_p55, List.forall_mem_cons.mpr ⟨lw_p56, List.forall_mem_cons.mpr ⟨lw_p57, List.forall_mem_cons.mpr ⟨lw_p58, List.forall_mem_cons.mpr ⟨lw_p59, List.forall_mem_cons.mpr ⟨lw_p60, List.forall_mem_cons.mpr ⟨lw_p61, List.forall_mem_cons.mpr ⟨lw_p62, List.forall_mem_cons.mpr ⟨lw_p63, fun _ h => absurd h List.not_mem_nil⟩⟩⟩⟩⟩⟩⟩⟩⟩⟩⟩⟩⟩⟩⟩⟩
theorem lw_p64 : lw_okq (⟨"NameKeeperModel", "handleMany", "()I"⟩, 43) := ⟨⟨by decide +kernel, by decide +kernel⟩, List.mem_of_getElem? (i := 1198) (by decide +kernel), List.mem_of_getElem? (i := 1464) (by decide +kernel), List.mem_of_getElem? (i := 1465) (by decide +kernel)⟩
theorem lw_p65 : lw_okq (⟨"NameKeeperModel", "walkerMany", "()I"⟩, 43) := ⟨⟨by decide +kernel, by decide +kernel⟩, List.mem_of_getElem? (i := 1198) (by decide +kernel), List.mem_of_getElem? (i := 1468) (by decide +kernel), List.mem_of_getElem? (i := 1469) (by decide +kernel)⟩
theorem lw_p66 : lw_okq (⟨"NameKeeperModel", "mounted", "()I"⟩, 43) := ⟨⟨by decide +kernel, by decide +kernel⟩, List.mem_of_getElem? (i := 1198) (by decide +kernel), List.mem_of_getElem? (i := 1472) (by decide +kernel), List.mem_of_getElem? (i := 1473) (by decide +kernel)⟩
theorem lw_p67 : lw_okq (⟨"NameKeeperModel", "isNode", "(I)Z"⟩, 43) := ⟨⟨by decide +kernel, by decide +kernel⟩, List.mem_of_getElem? (i := 1198) (by decide +kernel), List.mem_of_getElem? (i := 1480) (by decide +kernel), List.mem_of_getElem? (i := 1481) (by decide +kernel)⟩
theorem lw_p68 : lw_okq (⟨"NameKeeperModel", "isEntry", "(I)Z"⟩, 43) := ⟨⟨by decide +kernel, by decide +kernel⟩, List.mem_of_getElem? (i := 1198) (by decide +kernel), List.mem_of_getElem? (i := 1489) (by decide +kernel), List.mem_of_getElem? (i := 1490) (by decide +kernel)⟩
theorem lw_p69 : lw_okq (⟨"NameKeeperModel", "beginsPaths", "()V"⟩, 43) := ⟨⟨by decide +kernel, by decide +kernel⟩, List.mem_of_getElem? (i := 1198) (by decide +kernel), List.mem_of_getElem? (i := 1508) (by decide +kernel), List.mem_of_getElem? (i := 1509) (by decide +kernel)⟩
theorem lw_p70 : lw_okq (⟨"NameKeeperModel", "childHere", "(II)I"⟩, 43) := ⟨⟨by decide +kernel, by decide +kernel⟩, List.mem_of_getElem? (i := 1198) (by decide +kernel), List.mem_of_getElem? (i := 1513) (by decide +kernel), List.mem_of_getElem? (i := 1514) (by decide +kernel)⟩
theorem lw_p71 : lw_okq (⟨"NameKeeperModel", "isWalker", "(I)Z"⟩, 43) := ⟨⟨by decide +kernel, by decide +kernel⟩, List.mem_of_getElem? (i := 1198) (by decide +kernel), List.mem_of_getElem? (i := 1521) (by decide +kernel), List.mem_of_getElem? (i := 1522) (by decide +kernel)⟩
theorem lw_p72 : lw_okq (⟨"NameKeeperModel", "isPath", "()Z"⟩, 43) := ⟨⟨by decide +kernel, by decide +kernel⟩, List.mem_of_getElem? (i := 1198) (by decide +kernel), List.mem_of_getElem? (i := 1533) (by decide +kernel), List.mem_of_getElem? (i := 1534) (by decide +kernel)⟩
theorem lw_p73 : lw_okq (⟨"NameKeeperModel", "isPathHere", "()Z"⟩, 43) := ⟨⟨by decide +kernel, by decide +kernel⟩, List.mem_of_getElem? (i := 1198) (by decide +kernel), List.mem_of_getElem? (i := 1537) (by decide +kernel), List.mem_of_getElem? (i := 1538) (by decide +kernel)⟩
theorem lw_p74 : lw_okq (⟨"NameKeeperModel", "stepHere", "()I"⟩, 43) := ⟨⟨by decide +kernel, by decide +kernel⟩, List.mem_of_getElem? (i := 1198) (by decide +kernel), List.mem_of_getElem? (i := 1541) (by decide +kernel), List.mem_of_getElem? (i := 1542) (by decide +kernel)⟩
theorem lw_p75 : lw_okq (⟨"NameKeeperModel", "nodeBy", "(II)I"⟩, 43) := ⟨⟨by decide +kernel, by decide +kernel⟩, List.mem_of_getElem? (i := 1198) (by decide +kernel), List.mem_of_getElem? (i := 1545) (by decide +kernel), List.mem_of_getElem? (i := 1546) (by decide +kernel)⟩
theorem lw_p76 : lw_okq (⟨"NameKeeperModel", "nodeUp", "(I)I"⟩, 43) := ⟨⟨by decide +kernel, by decide +kernel⟩, List.mem_of_getElem? (i := 1198) (by decide +kernel), List.mem_of_getElem? (i := 1549) (by decide +kernel), List.mem_of_getElem? (i := 1550) (by decide +kernel)⟩
theorem lw_p77 : lw_okq (⟨"NameKeeperModel", "nodeIn", "(II)I"⟩, 43) := ⟨⟨by decide +kernel, by decide +kernel⟩, List.mem_of_getElem? (i := 1198) (by decide +kernel), List.mem_of_getElem? (i := 1553) (by decide +kernel), List.mem_of_getElem? (i := 1554) (by decide +kernel)⟩
theorem lw_p78 : lw_okq (⟨"NameKeeperModel", "volumeOver", "(I)I"⟩, 43) := ⟨⟨by decide +kernel, by decide +kernel⟩, List.mem_of_getElem? (i := 1198) (by decide +kernel), List.mem_of_getElem? (i := 1557) (by decide +kernel), List.mem_of_getElem? (i := 1558) (by decide +kernel)⟩
theorem lw_p79 : lw_okq (⟨"NameKeeperModel", "putsAside", "()V"⟩, 43) := ⟨⟨by decide +kernel, by decide +kernel⟩, List.mem_of_getElem? (i := 1198) (by decide +kernel), List.mem_of_getElem? (i := 1565) (by decide +kernel), List.mem_of_getElem? (i := 1566) (by decide +kernel)⟩
def lw_privs_5 : List (MethodName × Nat) := [(⟨"NameKeeperModel", "handleMany", "()I"⟩, 43), (⟨"NameKeeperModel", "walkerMany", "()I"⟩, 43), (⟨"NameKeeperModel", "mounted", "()I"⟩, 43), (⟨"NameKeeperModel", "isNode", "(I)Z"⟩, 43), (⟨"NameKeeperModel", "isEntry", "(I)Z"⟩, 43), (⟨"NameKeeperModel", "beginsPaths", "()V"⟩, 43), (⟨"NameKeeperModel", "childHere", "(II)I"⟩, 43), (⟨"NameKeeperModel", "isWalker", "(I)Z"⟩, 43), (⟨"NameKeeperModel", "isPath", "()Z"⟩, 43), (⟨"NameKeeperModel", "isPathHere", "()Z"⟩, 43), (⟨"NameKeeperModel", "stepHere", "()I"⟩, 43), (⟨"NameKeeperModel", "nodeBy", "(II)I"⟩, 43), (⟨"NameKeeperModel", "nodeUp", "(I)I"⟩, 43), (⟨"NameKeeperModel", "nodeIn", "(II)I"⟩, 43), (⟨"NameKeeperModel", "volumeOver", "(I)I"⟩, 43), (⟨"NameKeeperModel", "putsAside", "()V"⟩, 43)]
theorem lw_r5 : ∀ q ∈ lw_privs_5, lw_okq q := List.forall_mem_cons.mpr ⟨lw_p64, List.forall_mem_cons.mpr ⟨lw_p65, List.forall_mem_cons.mpr ⟨lw_p66, List.forall_mem_cons.mpr ⟨lw_p67, List.forall_mem_cons.mpr ⟨lw_p68, List.forall_mem_cons.mpr ⟨lw_p69, List.forall_mem_cons.mpr ⟨lw_p70, List.forall_mem_cons.mpr ⟨lw_p71, List.forall_mem_cons.mpr ⟨lw_p72, List.forall_mem_cons.mpr ⟨lw_p73, List.forall_mem_cons.mpr ⟨lw_p74, List.forall_mem_cons.mpr ⟨lw_p75, List.forall_mem_cons.mpr ⟨lw_p76, List.forall_mem_cons.mpr ⟨lw_p77, List.forall_mem_cons.mpr ⟨lw_p78, List.forall_mem_cons.mpr ⟨lw_p79, fun _ h => absurd h List.not_mem_nil⟩⟩⟩⟩⟩⟩⟩⟩⟩⟩⟩⟩⟩⟩⟩⟩
theorem lw_p80 : lw_okq (⟨"NameKeeperModel", "walks", "([II)I"⟩, 43) := ⟨⟨by decide +kernel, by decide +kernel⟩, List.mem_of_getElem? (i := 1198) (by decide +kernel), List.mem_of_getElem? (i := 1569) (by decide +kernel), List.mem_of_getElem? (i := 1570) (by decide +kernel)⟩
theorem lw_p81 : lw_okq (⟨"NameKeeperModel", "steps0", "(I)I"⟩, 43) := ⟨⟨by decide +kernel, by decide +kernel⟩, List.mem_of_getElem? (i := 1198) (by decide +kernel), List.mem_of_getElem? (i := 1573) (by decide +kernel), List.mem_of_getElem? (i := 1574) (by decide +kernel)⟩
theorem lw_p82 : lw_okq (⟨"NameKeeperModel", "goesUp", "()V"⟩, 43) := ⟨⟨by decide +kernel, by decide +kernel⟩, List.mem_of_getElem? (i := 1198) (by decide +kernel), List.mem_of_getElem? (i := 1577) (by decide +kernel), List.mem_of_getElem? (i := 1578) (by decide +kernel)⟩
theorem lw_p83 : lw_okq (⟨"NameKeeperModel", "rootOf", "(I)I"⟩, 43) := ⟨⟨by decide +kernel, by decide +kernel⟩, List.mem_of_getElem? (i := 1198) (by decide +kernel), List.mem_of_getElem? (i := 1581) (by decide +kernel), List.mem_of_getElem? (i := 1582) (by decide +kernel)⟩
theorem lw_p84 : lw_okq (⟨"NameKeeperModel", "isFolder", "(I)Z"⟩, 43) := ⟨⟨by decide +kernel, by decide +kernel⟩, List.mem_of_getElem? (i := 1198) (by decide +kernel), List.mem_of_getElem? (i := 1585) (by decide +kernel), List.mem_of_getElem? (i := 1586) (by decide +kernel)⟩
theorem lw_p85 : lw_okq (⟨"NameKeeperModel", "childOf", "(II)I"⟩, 43) := ⟨⟨by decide +kernel, by decide +kernel⟩, List.mem_of_getElem? (i := 1198) (by decide +kernel), List.mem_of_getElem? (i := 1589) (by decide +kernel), List.mem_of_getElem? (i := 1590) (by decide +kernel)⟩
theorem lw_p86 : lw_okq (⟨"NameKeeperModel", "trims", "(II)I"⟩, 43) := ⟨⟨by decide +kernel, by decide +kernel⟩, List.mem_of_getElem? (i := 1198) (by decide +kernel), List.mem_of_getElem? (i := 1593) (by decide +kernel), List.mem_of_getElem? (i := 1594) (by decide +kernel)⟩
theorem lw_p87 : lw_okq (⟨"NameKeeperModel", "leastFree", "(I)I"⟩, 43) := ⟨⟨by decide +kernel, by decide +kernel⟩, List.mem_of_getElem? (i := 1198) (by decide +kernel), List.mem_of_getElem? (i := 1597) (by decide +kernel), List.mem_of_getElem? (i := 1598) (by decide +kernel)⟩
theorem lw_p88 : lw_okq (⟨"NameKeeperModel", "takesBack", "()V"⟩, 43) := ⟨⟨by decide +kernel, by decide +kernel⟩, List.mem_of_getElem? (i := 1198) (by decide +kernel), List.mem_of_getElem? (i := 1601) (by decide +kernel), List.mem_of_getElem? (i := 1602) (by decide +kernel)⟩
theorem lw_p89 : lw_okq (⟨"NameKeeperModel", "writes", "(I)V"⟩, 43) := ⟨⟨by decide +kernel, by decide +kernel⟩, List.mem_of_getElem? (i := 1198) (by decide +kernel), List.mem_of_getElem? (i := 1613) (by decide +kernel), List.mem_of_getElem? (i := 1614) (by decide +kernel)⟩
theorem lw_p90 : lw_okq (⟨"NameKeeperModel", "keeps", "()V"⟩, 43) := ⟨⟨by decide +kernel, by decide +kernel⟩, List.mem_of_getElem? (i := 1198) (by decide +kernel), List.mem_of_getElem? (i := 1629) (by decide +kernel), List.mem_of_getElem? (i := 1630) (by decide +kernel)⟩
theorem lw_p91 : lw_okq (⟨"NameKeeperModel", "isPlace", "([II)Z"⟩, 43) := ⟨⟨by decide +kernel, by decide +kernel⟩, List.mem_of_getElem? (i := 1198) (by decide +kernel), List.mem_of_getElem? (i := 1637) (by decide +kernel), List.mem_of_getElem? (i := 1638) (by decide +kernel)⟩
theorem lw_p92 : lw_okq (⟨"NameKeeperModel", "isPlain", "([II)Z"⟩, 43) := ⟨⟨by decide +kernel, by decide +kernel⟩, List.mem_of_getElem? (i := 1198) (by decide +kernel), List.mem_of_getElem? (i := 1645) (by decide +kernel), List.mem_of_getElem? (i := 1646) (by decide +kernel)⟩
theorem lw_p93 : lw_okq (⟨"NameKeeperModel", "areTwoPaths", "()Z"⟩, 43) := ⟨⟨by decide +kernel, by decide +kernel⟩, List.mem_of_getElem? (i := 1198) (by decide +kernel), List.mem_of_getElem? (i := 1653) (by decide +kernel), List.mem_of_getElem? (i := 1654) (by decide +kernel)⟩
theorem lw_p94 : lw_okq (⟨"NameKeeperModel", "isRenamed", "(I)Z"⟩, 43) := ⟨⟨by decide +kernel, by decide +kernel⟩, List.mem_of_getElem? (i := 1198) (by decide +kernel), List.mem_of_getElem? (i := 1657) (by decide +kernel), List.mem_of_getElem? (i := 1658) (by decide +kernel)⟩
theorem lw_p95 : lw_okq (⟨"NameKeeperModel", "isBelow", "(II)Z"⟩, 43) := ⟨⟨by decide +kernel, by decide +kernel⟩, List.mem_of_getElem? (i := 1198) (by decide +kernel), List.mem_of_getElem? (i := 1661) (by decide +kernel), List.mem_of_getElem? (i := 1662) (by decide +kernel)⟩
def lw_privs_6 : List (MethodName × Nat) := [(⟨"NameKeeperModel", "walks", "([II)I"⟩, 43), (⟨"NameKeeperModel", "steps0", "(I)I"⟩, 43), (⟨"NameKeeperModel", "goesUp", "()V"⟩, 43), (⟨"NameKeeperModel", "rootOf", "(I)I"⟩, 43), (⟨"NameKeeperModel", "isFolder", "(I)Z"⟩, 43), (⟨"NameKeeperModel", "childOf", "(II)I"⟩, 43), (⟨"NameKeeperModel", "trims", "(II)I"⟩, 43), (⟨"NameKeeperModel", "leastFree", "(I)I"⟩, 43), (⟨"NameKeeperModel", "takesBack", "()V"⟩, 43), (⟨"NameKeeperModel", "writes", "(I)V"⟩, 43), (⟨"NameKeeperModel", "keeps", "()V"⟩, 43), (⟨"NameKeeperModel", "isPlace", "([II)Z"⟩, 43), (⟨"NameKeeperModel", "isPlain", "([II)Z"⟩, 43), (⟨"NameKeeperModel", "areTwoPaths", "()Z"⟩, 43), (⟨"NameKeeperModel", "isRenamed", "(I)Z"⟩, 43), (⟨"NameKeeperModel", "isBelow", "(II)Z"⟩, 43)]
theorem lw_r6 : ∀ q ∈ lw_privs_6, lw_okq q := List.forall_mem_cons.mpr ⟨lw_p80, List.forall_mem_cons.mpr ⟨lw_p81, List.forall_mem_cons.mpr ⟨lw_p82, List.forall_mem_cons.mpr ⟨lw_p83, List.forall_mem_cons.mpr ⟨lw_p84, List.forall_mem_cons.mpr ⟨lw_p85, List.forall_mem_cons.mpr ⟨lw_p86, List.forall_mem_cons.mpr ⟨lw_p87, List.forall_mem_cons.mpr ⟨lw_p88, List.forall_mem_cons.mpr ⟨lw_p89, List.forall_mem_cons.mpr ⟨lw_p90, List.forall_mem_cons.mpr ⟨lw_p91, List.forall_mem_cons.mpr ⟨lw_p92, List.forall_mem_cons.mpr ⟨lw_p93, List.forall_mem_cons.mpr ⟨lw_p94, List.forall_mem_cons.mpr ⟨lw_p95, fun _ h => absurd h List.not_mem_nil⟩⟩⟩⟩⟩⟩⟩⟩⟩⟩⟩⟩⟩⟩⟩⟩
theorem lw_p96 : lw_okq (⟨"NameKeeperModel", "sweeps", "()V"⟩, 43) := ⟨⟨by decide +kernel, by decide +kernel⟩, List.mem_of_getElem? (i := 1198) (by decide +kernel), List.mem_of_getElem? (i := 1674) (by decide +kernel), List.mem_of_getElem? (i := 1675) (by decide +kernel)⟩
theorem lw_p97 : lw_okq (⟨"NameKeeperModel", "isVolume", "(I)Z"⟩, 43) := ⟨⟨by decide +kernel, by decide +kernel⟩, List.mem_of_getElem? (i := 1198) (by decide +kernel), List.mem_of_getElem? (i := 1682) (by decide +kernel), List.mem_of_getElem? (i := 1683) (by decide +kernel)⟩
theorem lw_p98 : lw_okq (⟨"NameKeeperModel", "isInUse", "(I)Z"⟩, 43) := ⟨⟨by decide +kernel, by decide +kernel⟩, List.mem_of_getElem? (i := 1198) (by decide +kernel), List.mem_of_getElem? (i := 1690) (by decide +kernel), List.mem_of_getElem? (i := 1691) (by decide +kernel)⟩
theorem lw_p99 : lw_okq (⟨"NameKeeperModel", "volumeOf", "(I)I"⟩, 43) := ⟨⟨by decide +kernel, by decide +kernel⟩, List.mem_of_getElem? (i := 1198) (by decide +kernel), List.mem_of_getElem? (i := 1694) (by decide +kernel), List.mem_of_getElem? (i := 1695) (by decide +kernel)⟩
theorem lw_p100 : lw_okq (⟨"NameKeeperModel", "looksByDraw", "()V"⟩, 43) := ⟨⟨by decide +kernel, by decide +kernel⟩, List.mem_of_getElem? (i := 1198) (by decide +kernel), List.mem_of_getElem? (i := 1716) (by decide +kernel), List.mem_of_getElem? (i := 1717) (by decide +kernel)⟩
theorem lw_p101 : lw_okq (⟨"NameKeeperModel", "isMountedNode", "(I)Z"⟩, 43) := ⟨⟨by decide +kernel, by decide +kernel⟩, List.mem_of_getElem? (i := 1198) (by decide +kernel), List.mem_of_getElem? (i := 1720) (by decide +kernel), List.mem_of_getElem? (i := 1721) (by decide +kernel)⟩
theorem lw_p102 : lw_okq (⟨"NameKeeperModel", "drawOf", "(I)I"⟩, 43) := ⟨⟨by decide +kernel, by decide +kernel⟩, List.mem_of_getElem? (i := 1198) (by decide +kernel), List.mem_of_getElem? (i := 1724) (by decide +kernel), List.mem_of_getElem? (i := 1725) (by decide +kernel)⟩
theorem lw_p103 : lw_okq (⟨"NameKeeperModel", "laysPath", "(I)V"⟩, 43) := ⟨⟨by decide +kernel, by decide +kernel⟩, List.mem_of_getElem? (i := 1198) (by decide +kernel), List.mem_of_getElem? (i := 1732) (by decide +kernel), List.mem_of_getElem? (i := 1733) (by decide +kernel)⟩
theorem lw_p104 : lw_okq (⟨"NameKeeperModel", "beginsWay", "(I)V"⟩, 43) := ⟨⟨by decide +kernel, by decide +kernel⟩, List.mem_of_getElem? (i := 1198) (by decide +kernel), List.mem_of_getElem? (i := 1740) (by decide +kernel), List.mem_of_getElem? (i := 1741) (by decide +kernel)⟩
theorem lw_p105 : lw_okq (⟨"NameKeeperModel", "isWayOther", "(I)Z"⟩, 43) := ⟨⟨by decide +kernel, by decide +kernel⟩, List.mem_of_getElem? (i := 1198) (by decide +kernel), List.mem_of_getElem? (i := 1748) (by decide +kernel), List.mem_of_getElem? (i := 1749) (by decide +kernel)⟩
theorem lw_p106 : lw_okq (⟨"NameKeeperModel", "restarts", "(I)V"⟩, 43) := ⟨⟨by decide +kernel, by decide +kernel⟩, List.mem_of_getElem? (i := 1198) (by decide +kernel), List.mem_of_getElem? (i := 1752) (by decide +kernel), List.mem_of_getElem? (i := 1753) (by decide +kernel)⟩
theorem lw_p107 : lw_okq (⟨"NameKeeperModel", "turnsHeavy", "(I)V"⟩, 43) := ⟨⟨by decide +kernel, by decide +kernel⟩, List.mem_of_getElem? (i := 1198) (by decide +kernel), List.mem_of_getElem? (i := 1756) (by decide +kernel), List.mem_of_getElem? (i := 1757) (by decide +kernel)⟩
theorem lw_p108 : lw_okq (⟨"NameKeeperModel", "isThrough", "(I)Z"⟩, 43) := ⟨⟨by decide +kernel, by decide +kernel⟩, List.mem_of_getElem? (i := 1198) (by decide +kernel), List.mem_of_getElem? (i := 1760) (by decide +kernel), List.mem_of_getElem? (i := 1761) (by decide +kernel)⟩
theorem lw_p109 : lw_okq (⟨"NameKeeperModel", "nextStep", "(I)I"⟩, 43) := ⟨⟨by decide +kernel, by decide +kernel⟩, List.mem_of_getElem? (i := 1198) (by decide +kernel), List.mem_of_getElem? (i := 1764) (by decide +kernel), List.mem_of_getElem? (i := 1765) (by decide +kernel)⟩
theorem lw_p110 : lw_okq (⟨"NameKeeperModel", "doesStep", "(I)I"⟩, 43) := ⟨⟨by decide +kernel, by decide +kernel⟩, List.mem_of_getElem? (i := 1198) (by decide +kernel), List.mem_of_getElem? (i := 1768) (by decide +kernel), List.mem_of_getElem? (i := 1769) (by decide +kernel)⟩
theorem lw_p111 : lw_okq (⟨"NameKeeperModel", "isOver", "(II)I"⟩, 43) := ⟨⟨by decide +kernel, by decide +kernel⟩, List.mem_of_getElem? (i := 1198) (by decide +kernel), List.mem_of_getElem? (i := 1772) (by decide +kernel), List.mem_of_getElem? (i := 1773) (by decide +kernel)⟩
def lw_privs_7 : List (MethodName × Nat) := [(⟨"NameKeeperModel", "sweeps", "()V"⟩, 43), (⟨"NameKeeperModel", "isVolume", "(I)Z"⟩, 43), (⟨"NameKeeperModel", "isInUse", "(I)Z"⟩, 43), (⟨"NameKeeperModel", "volumeOf", "(I)I"⟩, 43), (⟨"NameKeeperModel", "looksByDraw", "()V"⟩, 43), (⟨"NameKeeperModel", "isMountedNode", "(I)Z"⟩, 43), (⟨"NameKeeperModel", "drawOf", "(I)I"⟩, 43), (⟨"NameKeeperModel", "laysPath", "(I)V"⟩, 43), (⟨"NameKeeperModel", "beginsWay", "(I)V"⟩, 43), (⟨"NameKeeperModel", "isWayOther", "(I)Z"⟩, 43), (⟨"NameKeeperModel", "restarts", "(I)V"⟩, 43), (⟨"NameKeeperModel", "turnsHeavy", "(I)V"⟩, 43), (⟨"NameKeeperModel", "isThrough", "(I)Z"⟩, 43), (⟨"NameKeeperModel", "nextStep", "(I)I"⟩, 43), (⟨"NameKeeperModel", "doesStep", "(I)I"⟩, 43), (⟨"NameKeeperModel", "isOver", "(II)I"⟩, 43)]
theorem lw_r7 : ∀ q ∈ lw_privs_7, lw_okq q := List.forall_mem_cons.mpr ⟨lw_p96, List.forall_mem_cons.mpr ⟨lw_p97, List.forall_mem_cons.mpr ⟨lw_p98, List.forall_mem_cons.mpr ⟨lw_p99, List.forall_mem_cons.mpr ⟨lw_p100, List.forall_mem_cons.mpr ⟨lw_p101, List.forall_mem_cons.mpr ⟨lw_p102, List.forall_mem_cons.mpr ⟨lw_p103, List.forall_mem_cons.mpr ⟨lw_p104, List.forall_mem_cons.mpr ⟨lw_p105, List.forall_mem_cons.mpr ⟨lw_p106, List.forall_mem_cons.mpr ⟨lw_p107, List.forall_mem_cons.mpr ⟨lw_p108, List.forall_mem_cons.mpr ⟨lw_p109, List.forall_mem_cons.mpr ⟨lw_p110, List.forall_mem_cons.mpr ⟨lw_p111, fun _ h => absurd h List.not_mem_nil⟩⟩⟩⟩⟩⟩⟩⟩⟩⟩⟩⟩⟩⟩⟩⟩
theorem lw_p112 : lw_okq (⟨"NameKeeperModel", "isTrace", "()Z"⟩, 43) := ⟨⟨by decide +kernel, by decide +kernel⟩, List.mem_of_getElem? (i := 1198) (by decide +kernel), List.mem_of_getElem? (i := 1788) (by decide +kernel), List.mem_of_getElem? (i := 1789) (by decide +kernel)⟩
theorem lw_p113 : lw_okq (⟨"NameKeeperModel", "laysLoads", "(I)I"⟩, 43) := ⟨⟨by decide +kernel, by decide +kernel⟩, List.mem_of_getElem? (i := 1198) (by decide +kernel), List.mem_of_getElem? (i := 1796) (by decide +kernel), List.mem_of_getElem? (i := 1797) (by decide +kernel)⟩
theorem lw_p114 : lw_okq (⟨"NameKeeperModel", "clears", "(I)V"⟩, 43) := ⟨⟨by decide +kernel, by decide +kernel⟩, List.mem_of_getElem? (i := 1198) (by decide +kernel), List.mem_of_getElem? (i := 1800) (by decide +kernel), List.mem_of_getElem? (i := 1801) (by decide +kernel)⟩
theorem lw_p115 : lw_okq (⟨"NameKeeperModel", "laysFits", "()I"⟩, 43) := ⟨⟨by decide +kernel, by decide +kernel⟩, List.mem_of_getElem? (i := 1198) (by decide +kernel), List.mem_of_getElem? (i := 1816) (by decide +kernel), List.mem_of_getElem? (i := 1817) (by decide +kernel)⟩
theorem lw_p116 : lw_okq (⟨"NameKeeperModel", "mostBy", "(I)I"⟩, 43) := ⟨⟨by decide +kernel, by decide +kernel⟩, List.mem_of_getElem? (i := 1198) (by decide +kernel), List.mem_of_getElem? (i := 1824) (by decide +kernel), List.mem_of_getElem? (i := 1825) (by decide +kernel)⟩
def lw_privs_8 : List (MethodName × Nat) := [(⟨"NameKeeperModel", "isTrace", "()Z"⟩, 43), (⟨"NameKeeperModel", "laysLoads", "(I)I"⟩, 43), (⟨"NameKeeperModel", "clears", "(I)V"⟩, 43), (⟨"NameKeeperModel", "laysFits", "()I"⟩, 43), (⟨"NameKeeperModel", "mostBy", "(I)I"⟩, 43)]
theorem lw_r8 : ∀ q ∈ lw_privs_8, lw_okq q := List.forall_mem_cons.mpr ⟨lw_p112, List.forall_mem_cons.mpr ⟨lw_p113, List.forall_mem_cons.mpr ⟨lw_p114, List.forall_mem_cons.mpr ⟨lw_p115, List.forall_mem_cons.mpr ⟨lw_p116, fun _ h => absurd h List.not_mem_nil⟩⟩⟩⟩⟩
def lw_privs : List (MethodName × Nat) := lw_privs_1 ++ (lw_privs_2 ++ (lw_privs_3 ++ (lw_privs_4 ++ (lw_privs_5 ++ (lw_privs_6 ++ (lw_privs_7 ++ (lw_privs_8)))))))
def lw_tbl : List Cond := k2_sels lw_privs ++ tables_1
theorem lw_privs_ok : ∀ q ∈ lw_privs, lw_okq q := by
  show ∀ q ∈ lw_privs_1 ++ (lw_privs_2 ++ (lw_privs_3 ++ (lw_privs_4 ++ (lw_privs_5 ++ (lw_privs_6 ++ (lw_privs_7 ++ (lw_privs_8))))))), lw_okq q
  exact List.forall_mem_append.mpr ⟨lw_r1, List.forall_mem_append.mpr ⟨lw_r2, List.forall_mem_append.mpr ⟨lw_r3, List.forall_mem_append.mpr ⟨lw_r4, List.forall_mem_append.mpr ⟨lw_r5, List.forall_mem_append.mpr ⟨lw_r6, List.forall_mem_append.mpr ⟨lw_r7, lw_r8⟩⟩⟩⟩⟩⟩⟩
-- ===== end of PART A; then your names; then what follows =====
end
section
def RX0 : String := "NameKeeper$History"
def TX0 : u_T := fun k => match k with
  | 0 => ("NameKeeper$History", "kept", "[LNameKeeper$World;", true)
  | 1 => ("NameKeeper$History", "next", "I", false)
  | _ => ("NameKeeper$History", "length", "I", false)
def tyX0 : Nat → FieldType := fun k => match k with
  | 0 => .array (.object "NameKeeper$World")
  | 1 => .int
  | _ => .int
theorem nmX0 : ∀ a, a < 3 → ∀ b, b < 3 → a ≠ b → (TX0 a).2.1 ≠ (TX0 b).2.1 := by decide +kernel
theorem tyX0_ok : ∀ k, k < 3 → parseFieldDescriptor (TX0 k).2.2.1 = some (tyX0 k) := by decide +kernel
abbrev cX0_init : ByteArray := prog_2_method_1_code
def yX0_init : MethodName := ⟨RX0, "<init>", "()V"⟩
abbrev cX0_forget : ByteArray := prog_2_method_2_code
def yX0_forget : MethodName := ⟨RX0, "forget", "()V"⟩
abbrev cX0_keep : ByteArray := prog_2_method_3_code
def yX0_keep : MethodName := ⟨RX0, "keep", "(LNameKeeper$World;)V"⟩
abbrev cX0_bringBack : ByteArray := prog_2_method_4_code
def yX0_bringBack : MethodName := ⟨RX0, "bringBack", "(LNameKeeper$World;)Z"⟩
def RX1 : String := "NameKeeper$Memory"
def TX1 : u_T := fun k => match k with
  | 0 => ("NameKeeper$Memory", "nodes", "LNameKeeper$Nodes;", true)
  | 1 => ("NameKeeper$Memory", "state", "[I", true)
  | 2 => ("NameKeeper$Memory", "parent", "[I", true)
  | 3 => ("NameKeeper$Memory", "name", "[I", true)
  | 4 => ("NameKeeper$Memory", "node", "[I", true)
  | 5 => ("NameKeeper$Memory", "held", "[I", true)
  | 6 => ("NameKeeper$Memory", "count", "[I", true)
  | 7 => ("NameKeeper$Memory", "lastUse", "[I", true)
  | 8 => ("NameKeeper$Memory", "birth", "[I", true)
  | 9 => ("NameKeeper$Memory", "rootEntry", "[I", true)
  | 10 => ("NameKeeper$Memory", "covered", "[I", true)
  | 11 => ("NameKeeper$Memory", "limit", "I", false)
  | 12 => ("NameKeeper$Memory", "tick", "I", false)
  | 13 => ("NameKeeper$Memory", "loaded", "I", false)
  | 14 => ("NameKeeper$Memory", "trimmed", "I", false)
  | 15 => ("NameKeeper$Memory", "trail", "[I", true)
  | _ => ("NameKeeper$Memory", "trailLength", "I", false)
def tyX1 : Nat → FieldType := fun k => match k with
  | 0 => .object "NameKeeper$Nodes"
  | 1 => .array .int
  | 2 => .array .int
  | 3 => .array .int
  | 4 => .array .int
  | 5 => .array .int
  | 6 => .array .int
  | 7 => .array .int
  | 8 => .array .int
  | 9 => .array .int
  | 10 => .array .int
  | 11 => .int
  | 12 => .int
  | 13 => .int
  | 14 => .int
  | 15 => .array .int
  | _ => .int
theorem nmX1 : ∀ a, a < 17 → ∀ b, b < 17 → a ≠ b → (TX1 a).2.1 ≠ (TX1 b).2.1 := by decide +kernel
theorem tyX1_ok : ∀ k, k < 17 → parseFieldDescriptor (TX1 k).2.2.1 = some (tyX1 k) := by decide +kernel
abbrev cX1_init : ByteArray := prog_3_method_1_code
def yX1_init : MethodName := ⟨RX1, "<init>", "(LNameKeeper$Nodes;)V"⟩
abbrev cX1_startAnew : ByteArray := prog_3_method_2_code
def yX1_startAnew : MethodName := ⟨RX1, "startAnew", "()V"⟩
abbrev cX1_copyFrom : ByteArray := prog_3_method_3_code
def yX1_copyFrom : MethodName := ⟨RX1, "copyFrom", "(LNameKeeper$Memory;)V"⟩
abbrev cX1_isEntry : ByteArray := prog_3_method_4_code
def yX1_isEntry : MethodName := ⟨RX1, "isEntry", "(I)Z"⟩
abbrev cX1_isGone : ByteArray := prog_3_method_5_code
def yX1_isGone : MethodName := ⟨RX1, "isGone", "(I)Z"⟩
abbrev cX1_isAbsence : ByteArray := prog_3_method_6_code
def yX1_isAbsence : MethodName := ⟨RX1, "isAbsence", "(I)Z"⟩
abbrev cX1_isFolder : ByteArray := prog_3_method_7_code
def yX1_isFolder : MethodName := ⟨RX1, "isFolder", "(I)Z"⟩
abbrev cX1_nodeOf : ByteArray := prog_3_method_8_code
def yX1_nodeOf : MethodName := ⟨RX1, "nodeOf", "(I)I"⟩
abbrev cX1_nameOf : ByteArray := prog_3_method_9_code
def yX1_nameOf : MethodName := ⟨RX1, "nameOf", "(I)I"⟩
abbrev cX1_isMounted : ByteArray := prog_3_method_10_code
def yX1_isMounted : MethodName := ⟨RX1, "isMounted", "(I)Z"⟩
abbrev cX1_rootVolume : ByteArray := prog_3_method_11_code
def yX1_rootVolume : MethodName := ⟨RX1, "rootVolume", "(I)I"⟩
abbrev cX1_coveringVolume : ByteArray := prog_3_method_12_code
def yX1_coveringVolume : MethodName := ⟨RX1, "coveringVolume", "(I)I"⟩
abbrev cX1_coveredBy : ByteArray := prog_3_method_13_code
def yX1_coveredBy : MethodName := ⟨RX1, "coveredBy", "(I)I"⟩
abbrev cX1_canChange : ByteArray := prog_3_method_14_code
def yX1_canChange : MethodName := ⟨RX1, "canChange", "(I)Z"⟩
abbrev cX1_find : ByteArray := prog_3_method_15_code
def yX1_find : MethodName := ⟨RX1, "find", "(II)I"⟩
abbrev cX1_leastUnused : ByteArray := prog_3_method_16_code
def yX1_leastUnused : MethodName := ⟨RX1, "leastUnused", "()I"⟩
abbrev cX1_add : ByteArray := prog_3_method_17_code
def yX1_add : MethodName := ⟨RX1, "add", "(III)I"⟩
abbrev cX1_comeTo : ByteArray := prog_3_method_18_code
def yX1_comeTo : MethodName := ⟨RX1, "comeTo", "(I)V"⟩
abbrev cX1_drop : ByteArray := prog_3_method_19_code
def yX1_drop : MethodName := ⟨RX1, "drop", "(I)V"⟩
abbrev cX1_hold : ByteArray := prog_3_method_20_code
def yX1_hold : MethodName := ⟨RX1, "hold", "(I)V"⟩
abbrev cX1_release : ByteArray := prog_3_method_21_code
def yX1_release : MethodName := ⟨RX1, "release", "(I)V"⟩
abbrev cX1_reach : ByteArray := prog_3_method_22_code
def yX1_reach : MethodName := ⟨RX1, "reach", "(II)I"⟩
abbrev cX1_shrink : ByteArray := prog_3_method_23_code
def yX1_shrink : MethodName := ⟨RX1, "shrink", "(I)V"⟩
abbrev cX1_longestUnused : ByteArray := prog_3_method_24_code
def yX1_longestUnused : MethodName := ⟨RX1, "longestUnused", "(I)I"⟩
abbrev cX1_trimSome : ByteArray := prog_3_method_25_code
def yX1_trimSome : MethodName := ⟨RX1, "trimSome", "(I)I"⟩
abbrev cX1_comeToRoot : ByteArray := prog_3_method_26_code
def yX1_comeToRoot : MethodName := ⟨RX1, "comeToRoot", "()I"⟩
abbrev cX1_walk : ByteArray := prog_3_method_27_code
def yX1_walk : MethodName := ⟨RX1, "walk", "(LNameKeeper$Route;I)I"⟩
abbrev cX1_stepFrom : ByteArray := prog_3_method_28_code
def yX1_stepFrom : MethodName := ⟨RX1, "stepFrom", "(II)I"⟩
abbrev cX1_stepUp : ByteArray := prog_3_method_29_code
def yX1_stepUp : MethodName := ⟨RX1, "stepUp", "(I)I"⟩
abbrev cX1_fill : ByteArray := prog_3_method_30_code
def yX1_fill : MethodName := ⟨RX1, "fill", "(II)I"⟩
abbrev cX1_empty : ByteArray := prog_3_method_31_code
def yX1_empty : MethodName := ⟨RX1, "empty", "(I)V"⟩
abbrev cX1_move : ByteArray := prog_3_method_32_code
def yX1_move : MethodName := ⟨RX1, "move", "(III)V"⟩
abbrev cX1_isWithin : ByteArray := prog_3_method_33_code
def yX1_isWithin : MethodName := ⟨RX1, "isWithin", "(II)Z"⟩
abbrev cX1_cover : ByteArray := prog_3_method_34_code
def yX1_cover : MethodName := ⟨RX1, "cover", "(II)I"⟩
abbrev cX1_isOf : ByteArray := prog_3_method_35_code
def yX1_isOf : MethodName := ⟨RX1, "isOf", "(II)Z"⟩
abbrev cX1_heldBelow : ByteArray := prog_3_method_36_code
def yX1_heldBelow : MethodName := ⟨RX1, "heldBelow", "(I)I"⟩
abbrev cX1_isBusy : ByteArray := prog_3_method_37_code
def yX1_isBusy : MethodName := ⟨RX1, "isBusy", "(I)Z"⟩
abbrev cX1_dropVolume : ByteArray := prog_3_method_38_code
def yX1_dropVolume : MethodName := ⟨RX1, "dropVolume", "(I)I"⟩
abbrev cX1_keepMountsAlone : ByteArray := prog_3_method_39_code
def yX1_keepMountsAlone : MethodName := ⟨RX1, "keepMountsAlone", "()V"⟩
abbrev cX1_markUpFrom : ByteArray := prog_3_method_40_code
def yX1_markUpFrom : MethodName := ⟨RX1, "markUpFrom", "(I)V"⟩
abbrev cX1_howMany : ByteArray := prog_3_method_41_code
def yX1_howMany : MethodName := ⟨RX1, "howMany", "()I"⟩
abbrev cX1_howManyButRoots : ByteArray := prog_3_method_42_code
def yX1_howManyButRoots : MethodName := ⟨RX1, "howManyButRoots", "()I"⟩
abbrev cX1_absences : ByteArray := prog_3_method_43_code
def yX1_absences : MethodName := ⟨RX1, "absences", "()I"⟩
abbrev cX1_freeOnes : ByteArray := prog_3_method_44_code
def yX1_freeOnes : MethodName := ⟨RX1, "freeOnes", "()I"⟩
abbrev cX1_goneOnes : ByteArray := prog_3_method_45_code
def yX1_goneOnes : MethodName := ⟨RX1, "goneOnes", "()I"⟩
abbrev cX1_mountedBits : ByteArray := prog_3_method_46_code
def yX1_mountedBits : MethodName := ⟨RX1, "mountedBits", "()I"⟩
abbrev cX1_tell : ByteArray := prog_3_method_47_code
def yX1_tell : MethodName := ⟨RX1, "tell", "(II)I"⟩
def RX2 : String := "NameKeeper$Nodes"
def TX2 : u_T := fun k => match k with
  | 0 => ("NameKeeper$Nodes", "volume", "[I", true)
  | 1 => ("NameKeeper$Nodes", "parent", "[I", true)
  | 2 => ("NameKeeper$Nodes", "name", "[I", true)
  | 3 => ("NameKeeper$Nodes", "kind", "[I", true)
  | 4 => ("NameKeeper$Nodes", "roots", "[I", true)
  | 5 => ("NameKeeper$Nodes", "ever", "I", false)
  | _ => ("NameKeeper$Nodes", "volumes", "I", false)
def tyX2 : Nat → FieldType := fun k => match k with
  | 0 => .array .int
  | 1 => .array .int
  | 2 => .array .int
  | 3 => .array .int
  | 4 => .array .int
  | 5 => .int
  | _ => .int
theorem nmX2 : ∀ a, a < 7 → ∀ b, b < 7 → a ≠ b → (TX2 a).2.1 ≠ (TX2 b).2.1 := by decide +kernel
theorem tyX2_ok : ∀ k, k < 7 → parseFieldDescriptor (TX2 k).2.2.1 = some (tyX2 k) := by decide +kernel
abbrev cX2_init : ByteArray := prog_4_method_1_code
def yX2_init : MethodName := ⟨RX2, "<init>", "()V"⟩
abbrev cX2_clear : ByteArray := prog_4_method_2_code
def yX2_clear : MethodName := ⟨RX2, "clear", "()V"⟩
abbrev cX2_copyFrom : ByteArray := prog_4_method_3_code
def yX2_copyFrom : MethodName := ⟨RX2, "copyFrom", "(LNameKeeper$Nodes;)V"⟩
abbrev cX2_isFull : ByteArray := prog_4_method_4_code
def yX2_isFull : MethodName := ⟨RX2, "isFull", "()Z"⟩
abbrev cX2_exists : ByteArray := prog_4_method_5_code
def yX2_exists : MethodName := ⟨RX2, "exists", "(I)Z"⟩
abbrev cX2_isFolder : ByteArray := prog_4_method_6_code
def yX2_isFolder : MethodName := ⟨RX2, "isFolder", "(I)Z"⟩
abbrev cX2_hasVolume : ByteArray := prog_4_method_7_code
def yX2_hasVolume : MethodName := ⟨RX2, "hasVolume", "(I)Z"⟩
abbrev cX2_rootOf : ByteArray := prog_4_method_8_code
def yX2_rootOf : MethodName := ⟨RX2, "rootOf", "(I)I"⟩
abbrev cX2_volumeOf : ByteArray := prog_4_method_9_code
def yX2_volumeOf : MethodName := ⟨RX2, "volumeOf", "(I)I"⟩
abbrev cX2_parentOf : ByteArray := prog_4_method_10_code
def yX2_parentOf : MethodName := ⟨RX2, "parentOf", "(I)I"⟩
abbrev cX2_nameOf : ByteArray := prog_4_method_11_code
def yX2_nameOf : MethodName := ⟨RX2, "nameOf", "(I)I"⟩
abbrev cX2_addVolume : ByteArray := prog_4_method_12_code
def yX2_addVolume : MethodName := ⟨RX2, "addVolume", "()Z"⟩
abbrev cX2_addIn : ByteArray := prog_4_method_13_code
def yX2_addIn : MethodName := ⟨RX2, "addIn", "(III)I"⟩
abbrev cX2_put : ByteArray := prog_4_method_14_code
def yX2_put : MethodName := ⟨RX2, "put", "(IIII)I"⟩
abbrev cX2_becomeFolder : ByteArray := prog_4_method_15_code
def yX2_becomeFolder : MethodName := ⟨RX2, "becomeFolder", "(I)V"⟩
abbrev cX2_take : ByteArray := prog_4_method_16_code
def yX2_take : MethodName := ⟨RX2, "take", "(I)V"⟩
abbrev cX2_move : ByteArray := prog_4_method_17_code
def yX2_move : MethodName := ⟨RX2, "move", "(III)V"⟩
abbrev cX2_find : ByteArray := prog_4_method_18_code
def yX2_find : MethodName := ⟨RX2, "find", "(II)I"⟩
abbrev cX2_howManyIn : ByteArray := prog_4_method_19_code
def yX2_howManyIn : MethodName := ⟨RX2, "howManyIn", "(I)I"⟩
abbrev cX2_howMany : ByteArray := prog_4_method_20_code
def yX2_howMany : MethodName := ⟨RX2, "howMany", "()I"⟩
abbrev cX2_tell : ByteArray := prog_4_method_21_code
def yX2_tell : MethodName := ⟨RX2, "tell", "(II)I"⟩
def RX3 : String := "NameKeeper$Reader"
def TX3 : u_T := fun k => match k with
  | 0 => ("NameKeeper$Reader", "draft", "LNameKeeper$Nodes;", true)
  | 1 => ("NameKeeper$Reader", "fault", "I", false)
  | 2 => ("NameKeeper$Reader", "place", "I", false)
  | 3 => ("NameKeeper$Reader", "pos", "I", false)
  | 4 => ("NameKeeper$Reader", "depth", "I", false)
  | 5 => ("NameKeeper$Reader", "folder", "I", false)
  | _ => ("NameKeeper$Reader", "inVolume", "Z", false)
def tyX3 : Nat → FieldType := fun k => match k with
  | 0 => .object "NameKeeper$Nodes"
  | 1 => .int
  | 2 => .int
  | 3 => .int
  | 4 => .int
  | 5 => .int
  | _ => .boolean
theorem nmX3 : ∀ a, a < 7 → ∀ b, b < 7 → a ≠ b → (TX3 a).2.1 ≠ (TX3 b).2.1 := by decide +kernel
theorem tyX3_ok : ∀ k, k < 7 → parseFieldDescriptor (TX3 k).2.2.1 = some (tyX3 k) := by decide +kernel
abbrev cX3_init : ByteArray := prog_5_method_1_code
def yX3_init : MethodName := ⟨RX3, "<init>", "()V"⟩
abbrev cX3_readTrees : ByteArray := prog_5_method_2_code
def yX3_readTrees : MethodName := ⟨RX3, "readTrees", "(LNameKeeper$Tape;)Z"⟩
abbrev cX3_fail : ByteArray := prog_5_method_3_code
def yX3_fail : MethodName := ⟨RX3, "fail", "(II)Z"⟩
abbrev cX3_skipBlanks : ByteArray := prog_5_method_4_code
def yX3_skipBlanks : MethodName := ⟨RX3, "skipBlanks", "(LNameKeeper$Tape;)V"⟩
abbrev cX3_readOutside : ByteArray := prog_5_method_5_code
def yX3_readOutside : MethodName := ⟨RX3, "readOutside", "(I)Z"⟩
abbrev cX3_readInside : ByteArray := prog_5_method_6_code
def yX3_readInside : MethodName := ⟨RX3, "readInside", "(LNameKeeper$Tape;I)Z"⟩
abbrev cX3_readItem : ByteArray := prog_5_method_7_code
def yX3_readItem : MethodName := ⟨RX3, "readItem", "(LNameKeeper$Tape;)Z"⟩
abbrev cX3_openFolder : ByteArray := prog_5_method_8_code
def yX3_openFolder : MethodName := ⟨RX3, "openFolder", "(I)Z"⟩
def RX4 : String := "NameKeeper$Route"
def TX4 : u_T := fun k => match k with
  | 0 => ("NameKeeper$Route", "steps", "[I", true)
  | _ => ("NameKeeper$Route", "length", "I", false)
def tyX4 : Nat → FieldType := fun k => match k with
  | 0 => .array .int
  | _ => .int
theorem nmX4 : ∀ a, a < 2 → ∀ b, b < 2 → a ≠ b → (TX4 a).2.1 ≠ (TX4 b).2.1 := by decide +kernel
theorem tyX4_ok : ∀ k, k < 2 → parseFieldDescriptor (TX4 k).2.2.1 = some (tyX4 k) := by decide +kernel
abbrev cX4_init : ByteArray := prog_6_method_1_code
def yX4_init : MethodName := ⟨RX4, "<init>", "(I)V"⟩
abbrev cX4_clear : ByteArray := prog_6_method_2_code
def yX4_clear : MethodName := ⟨RX4, "clear", "()V"⟩
abbrev cX4_push : ByteArray := prog_6_method_3_code
def yX4_push : MethodName := ⟨RX4, "push", "(I)Z"⟩
abbrev cX4_stepAt : ByteArray := prog_6_method_4_code
def yX4_stepAt : MethodName := ⟨RX4, "stepAt", "(I)I"⟩
abbrev cX4_last : ByteArray := prog_6_method_5_code
def yX4_last : MethodName := ⟨RX4, "last", "()I"⟩
abbrev cX4_turnAround : ByteArray := prog_6_method_6_code
def yX4_turnAround : MethodName := ⟨RX4, "turnAround", "()V"⟩
abbrev cX4_copyFrom : ByteArray := prog_6_method_7_code
def yX4_copyFrom : MethodName := ⟨RX4, "copyFrom", "(LNameKeeper$Route;)V"⟩
abbrev cX4_readFrom : ByteArray := prog_6_method_8_code
def yX4_readFrom : MethodName := ⟨RX4, "readFrom", "(LNameKeeper$Tape;II)Z"⟩
abbrev cX4_endOfStep : ByteArray := prog_6_method_9_code
def yX4_endOfStep : MethodName := ⟨RX4, "endOfStep", "(LNameKeeper$Tape;II)I"⟩
def RX5 : String := "NameKeeper$Tape"
def TX5 : u_T := fun k => match k with
  | 0 => ("NameKeeper$Tape", "bytes", "[I", true)
  | _ => ("NameKeeper$Tape", "length", "I", false)
def tyX5 : Nat → FieldType := fun k => match k with
  | 0 => .array .int
  | _ => .int
theorem nmX5 : ∀ a, a < 2 → ∀ b, b < 2 → a ≠ b → (TX5 a).2.1 ≠ (TX5 b).2.1 := by decide +kernel
theorem tyX5_ok : ∀ k, k < 2 → parseFieldDescriptor (TX5 k).2.2.1 = some (tyX5 k) := by decide +kernel
abbrev cX5_init : ByteArray := prog_7_method_1_code
def yX5_init : MethodName := ⟨RX5, "<init>", "()V"⟩
abbrev cX5_hasSpace : ByteArray := prog_7_method_2_code
def yX5_hasSpace : MethodName := ⟨RX5, "hasSpace", "(I)Z"⟩
abbrev cX5_addWord : ByteArray := prog_7_method_3_code
def yX5_addWord : MethodName := ⟨RX5, "addWord", "(I)V"⟩
abbrev cX5_cut : ByteArray := prog_7_method_4_code
def yX5_cut : MethodName := ⟨RX5, "cut", "(I)Z"⟩
abbrev cX5_clear : ByteArray := prog_7_method_5_code
def yX5_clear : MethodName := ⟨RX5, "clear", "()V"⟩
abbrev cX5_at : ByteArray := prog_7_method_6_code
def yX5_at : MethodName := ⟨RX5, "at", "(I)I"⟩
def RX6 : String := "NameKeeper$Trace"
def TX6 : u_T := fun k => match k with
  | 0 => ("NameKeeper$Trace", "routes", "[LNameKeeper$Route;", true)
  | 1 => ("NameKeeper$Trace", "length", "I", false)
  | 2 => ("NameKeeper$Trace", "seen", "I", false)
  | 3 => ("NameKeeper$Trace", "bare", "LNameKeeper$Memory;", true)
  | 4 => ("NameKeeper$Trace", "trial", "LNameKeeper$Memory;", true)
  | 5 => ("NameKeeper$Trace", "loads", "[[I", true)
  | _ => ("NameKeeper$Trace", "totals", "[I", true)
def tyX6 : Nat → FieldType := fun k => match k with
  | 0 => .array (.object "NameKeeper$Route")
  | 1 => .int
  | 2 => .int
  | 3 => .object "NameKeeper$Memory"
  | 4 => .object "NameKeeper$Memory"
  | 5 => .array (.array .int)
  | _ => .array .int
theorem nmX6 : ∀ a, a < 7 → ∀ b, b < 7 → a ≠ b → (TX6 a).2.1 ≠ (TX6 b).2.1 := by decide +kernel
theorem tyX6_ok : ∀ k, k < 7 → parseFieldDescriptor (TX6 k).2.2.1 = some (tyX6 k) := by decide +kernel
abbrev cX6_init : ByteArray := prog_8_method_1_code
def yX6_init : MethodName := ⟨RX6, "<init>", "(LNameKeeper$Memory;LNameKeeper$Memory;)V"⟩
abbrev cX6_forget : ByteArray := prog_8_method_2_code
def yX6_forget : MethodName := ⟨RX6, "forget", "()V"⟩
abbrev cX6_become : ByteArray := prog_8_method_3_code
def yX6_become : MethodName := ⟨RX6, "become", "([LNameKeeper$Route;I)V"⟩
abbrev cX6_prepare : ByteArray := prog_8_method_4_code
def yX6_prepare : MethodName := ⟨RX6, "prepare", "(LNameKeeper$Memory;)V"⟩
abbrev cX6_runBy : ByteArray := prog_8_method_5_code
def yX6_runBy : MethodName := ⟨RX6, "runBy", "(I)Z"⟩
abbrev cX6_runAll : ByteArray := prog_8_method_6_code
def yX6_runAll : MethodName := ⟨RX6, "runAll", "(LNameKeeper$Memory;)Z"⟩
abbrev cX6_isFit : ByteArray := prog_8_method_7_code
def yX6_isFit : MethodName := ⟨RX6, "isFit", "(I)Z"⟩
abbrev cX6_loadsBy : ByteArray := prog_8_method_8_code
def yX6_loadsBy : MethodName := ⟨RX6, "loadsBy", "(ILNameKeeper$Memory;)I"⟩
abbrev cX6_leastRoom : ByteArray := prog_8_method_9_code
def yX6_leastRoom : MethodName := ⟨RX6, "leastRoom", "(I)I"⟩
abbrev cX6_fitting : ByteArray := prog_8_method_10_code
def yX6_fitting : MethodName := ⟨RX6, "fitting", "(I)I"⟩
abbrev cX6_telling : ByteArray := prog_8_method_11_code
def yX6_telling : MethodName := ⟨RX6, "telling", "(Z)I"⟩
abbrev cX6_mostLeft : ByteArray := prog_8_method_12_code
def yX6_mostLeft : MethodName := ⟨RX6, "mostLeft", "(I)I"⟩
abbrev cX6_alikeFits : ByteArray := prog_8_method_13_code
def yX6_alikeFits : MethodName := ⟨RX6, "alikeFits", "(II)I"⟩
def RX7 : String := "NameKeeper$Walker"
def TX7 : u_T := fun k => match k with
  | 0 => ("NameKeeper$Walker", "route", "LNameKeeper$Route;", true)
  | 1 => ("NameKeeper$Walker", "way", "[I", true)
  | 2 => ("NameKeeper$Walker", "births", "[I", true)
  | 3 => ("NameKeeper$Walker", "counts", "[I", true)
  | 4 => ("NameKeeper$Walker", "wayLength", "I", false)
  | 5 => ("NameKeeper$Walker", "underWay", "Z", false)
  | 6 => ("NameKeeper$Walker", "heavy", "Z", false)
  | 7 => ("NameKeeper$Walker", "restarts", "I", false)
  | _ => ("NameKeeper$Walker", "done", "I", false)
def tyX7 : Nat → FieldType := fun k => match k with
  | 0 => .object "NameKeeper$Route"
  | 1 => .array .int
  | 2 => .array .int
  | 3 => .array .int
  | 4 => .int
  | 5 => .boolean
  | 6 => .boolean
  | 7 => .int
  | _ => .int
theorem nmX7 : ∀ a, a < 9 → ∀ b, b < 9 → a ≠ b → (TX7 a).2.1 ≠ (TX7 b).2.1 := by decide +kernel
theorem tyX7_ok : ∀ k, k < 9 → parseFieldDescriptor (TX7 k).2.2.1 = some (tyX7 k) := by decide +kernel
abbrev cX7_init : ByteArray := prog_9_method_1_code
def yX7_init : MethodName := ⟨RX7, "<init>", "()V"⟩
abbrev cX7_copyFrom : ByteArray := prog_9_method_2_code
def yX7_copyFrom : MethodName := ⟨RX7, "copyFrom", "(LNameKeeper$Walker;)V"⟩
abbrev cX7_start : ByteArray := prog_9_method_3_code
def yX7_start : MethodName := ⟨RX7, "start", "(LNameKeeper$Route;LNameKeeper$Memory;)V"⟩
abbrev cX7_stop : ByteArray := prog_9_method_4_code
def yX7_stop : MethodName := ⟨RX7, "stop", "(LNameKeeper$Memory;)V"⟩
abbrev cX7_isThrough : ByteArray := prog_9_method_5_code
def yX7_isThrough : MethodName := ⟨RX7, "isThrough", "()Z"⟩
abbrev cX7_goOn : ByteArray := prog_9_method_6_code
def yX7_goOn : MethodName := ⟨RX7, "goOn", "(LNameKeeper$Memory;)I"⟩
abbrev cX7_goToRoot : ByteArray := prog_9_method_7_code
def yX7_goToRoot : MethodName := ⟨RX7, "goToRoot", "(LNameKeeper$Memory;)V"⟩
abbrev cX7_takeTrail : ByteArray := prog_9_method_8_code
def yX7_takeTrail : MethodName := ⟨RX7, "takeTrail", "(LNameKeeper$Memory;)V"⟩
abbrev cX7_isChanged : ByteArray := prog_9_method_9_code
def yX7_isChanged : MethodName := ⟨RX7, "isChanged", "(LNameKeeper$Memory;)Z"⟩
abbrev cX7_lacksNext : ByteArray := prog_9_method_10_code
def yX7_lacksNext : MethodName := ⟨RX7, "lacksNext", "(LNameKeeper$Memory;)Z"⟩
abbrev cX7_holdAll : ByteArray := prog_9_method_11_code
def yX7_holdAll : MethodName := ⟨RX7, "holdAll", "(LNameKeeper$Memory;)V"⟩
abbrev cX7_letGo : ByteArray := prog_9_method_12_code
def yX7_letGo : MethodName := ⟨RX7, "letGo", "(LNameKeeper$Memory;)V"⟩
abbrev cX7_lastOfWay : ByteArray := prog_9_method_13_code
def yX7_lastOfWay : MethodName := ⟨RX7, "lastOfWay", "()I"⟩
abbrev cX7_tell : ByteArray := prog_9_method_14_code
def yX7_tell : MethodName := ⟨RX7, "tell", "(I)I"⟩
def RX8 : String := "NameKeeper$World"
def TX8 : u_T := fun k => match k with
  | 0 => ("NameKeeper$World", "nodes", "LNameKeeper$Nodes;", true)
  | 1 => ("NameKeeper$World", "memory", "LNameKeeper$Memory;", true)
  | 2 => ("NameKeeper$World", "handles", "[I", true)
  | _ => ("NameKeeper$World", "walkers", "[LNameKeeper$Walker;", true)
def tyX8 : Nat → FieldType := fun k => match k with
  | 0 => .object "NameKeeper$Nodes"
  | 1 => .object "NameKeeper$Memory"
  | 2 => .array .int
  | _ => .array (.object "NameKeeper$Walker")
theorem nmX8 : ∀ a, a < 4 → ∀ b, b < 4 → a ≠ b → (TX8 a).2.1 ≠ (TX8 b).2.1 := by decide +kernel
theorem tyX8_ok : ∀ k, k < 4 → parseFieldDescriptor (TX8 k).2.2.1 = some (tyX8 k) := by decide +kernel
abbrev cX8_init : ByteArray := prog_10_method_1_code
def yX8_init : MethodName := ⟨RX8, "<init>", "(LNameKeeper$Nodes;LNameKeeper$Memory;)V"⟩
abbrev cX8_copyFrom : ByteArray := prog_10_method_2_code
def yX8_copyFrom : MethodName := ⟨RX8, "copyFrom", "(LNameKeeper$World;)V"⟩
abbrev cX8_startWith : ByteArray := prog_10_method_3_code
def yX8_startWith : MethodName := ⟨RX8, "startWith", "(LNameKeeper$Nodes;)V"⟩
abbrev cX8_handleAt : ByteArray := prog_10_method_4_code
def yX8_handleAt : MethodName := ⟨RX8, "handleAt", "(I)I"⟩
abbrev cX8_freeHandle : ByteArray := prog_10_method_5_code
def yX8_freeHandle : MethodName := ⟨RX8, "freeHandle", "()I"⟩
abbrev cX8_handlesOpen : ByteArray := prog_10_method_6_code
def yX8_handlesOpen : MethodName := ⟨RX8, "handlesOpen", "()I"⟩
abbrev cX8_openAt : ByteArray := prog_10_method_7_code
def yX8_openAt : MethodName := ⟨RX8, "openAt", "(LNameKeeper$Route;)I"⟩
abbrev cX8_closeHandle : ByteArray := prog_10_method_8_code
def yX8_closeHandle : MethodName := ⟨RX8, "closeHandle", "(I)V"⟩
abbrev cX8_walkerAt : ByteArray := prog_10_method_9_code
def yX8_walkerAt : MethodName := ⟨RX8, "walkerAt", "(I)LNameKeeper$Walker;"⟩
abbrev cX8_freeWalker : ByteArray := prog_10_method_10_code
def yX8_freeWalker : MethodName := ⟨RX8, "freeWalker", "()I"⟩
abbrev cX8_walkersUnderWay : ByteArray := prog_10_method_11_code
def yX8_walkersUnderWay : MethodName := ⟨RX8, "walkersUnderWay", "()I"⟩
abbrev cX8_beginWalk : ByteArray := prog_10_method_12_code
def yX8_beginWalk : MethodName := ⟨RX8, "beginWalk", "(LNameKeeper$Route;)I"⟩
abbrev cX8_gapIn : ByteArray := prog_10_method_13_code
def yX8_gapIn : MethodName := ⟨RX8, "gapIn", "(ILNameKeeper$Route;)I"⟩
abbrev cX8_makeAt : ByteArray := prog_10_method_14_code
def yX8_makeAt : MethodName := ⟨RX8, "makeAt", "(LNameKeeper$Route;Z)I"⟩
abbrev cX8_removeAt : ByteArray := prog_10_method_15_code
def yX8_removeAt : MethodName := ⟨RX8, "removeAt", "(LNameKeeper$Route;)I"⟩
abbrev cX8_renameTo : ByteArray := prog_10_method_16_code
def yX8_renameTo : MethodName := ⟨RX8, "renameTo", "(LNameKeeper$Route;LNameKeeper$Route;)I"⟩
abbrev cX8_canTake : ByteArray := prog_10_method_17_code
def yX8_canTake : MethodName := ⟨RX8, "canTake", "(II)Z"⟩
abbrev cX8_mountAt : ByteArray := prog_10_method_18_code
def yX8_mountAt : MethodName := ⟨RX8, "mountAt", "(LNameKeeper$Route;I)I"⟩
abbrev cX8_isReachable : ByteArray := prog_10_method_19_code
def yX8_isReachable : MethodName := ⟨RX8, "isReachable", "(I)Z"⟩
abbrev cX8_mountedNodes : ByteArray := prog_10_method_20_code
def yX8_mountedNodes : MethodName := ⟨RX8, "mountedNodes", "()I"⟩
abbrev cX8_mountedNode : ByteArray := prog_10_method_21_code
def yX8_mountedNode : MethodName := ⟨RX8, "mountedNode", "(I)I"⟩
abbrev cX8_routeTo : ByteArray := prog_10_method_22_code
def yX8_routeTo : MethodName := ⟨RX8, "routeTo", "(ILNameKeeper$Route;)V"⟩
def RX9 : String := "NameKeeper"
def TX9 : u_T := fun k => match k with
  | 0 => ("NameKeeper", "tape", "LNameKeeper$Tape;", true)
  | 1 => ("NameKeeper", "reader", "LNameKeeper$Reader;", true)
  | 2 => ("NameKeeper", "world", "LNameKeeper$World;", true)
  | 3 => ("NameKeeper", "trial", "LNameKeeper$Memory;", true)
  | 4 => ("NameKeeper", "history", "LNameKeeper$History;", true)
  | 5 => ("NameKeeper", "traced", "LNameKeeper$Trace;", true)
  | 6 => ("NameKeeper", "first", "LNameKeeper$Route;", true)
  | 7 => ("NameKeeper", "second", "LNameKeeper$Route;", true)
  | 8 => ("NameKeeper", "told", "[LNameKeeper$Route;", true)
  | 9 => ("NameKeeper", "longWay", "LNameKeeper$Route;", true)
  | 10 => ("NameKeeper", "written", "[I", true)
  | 11 => ("NameKeeper", "writtenLength", "I", false)
  | 12 => ("NameKeeper", "refused", "[I", true)
  | 13 => ("NameKeeper", "outcome", "[I", true)
  | 14 => ("NameKeeper", "anyOutcome", "Z", false)
  | _ => ("NameKeeper", "draws", "J", false)
def tyX9 : Nat → FieldType := fun k => match k with
  | 0 => .object "NameKeeper$Tape"
  | 1 => .object "NameKeeper$Reader"
  | 2 => .object "NameKeeper$World"
  | 3 => .object "NameKeeper$Memory"
  | 4 => .object "NameKeeper$History"
  | 5 => .object "NameKeeper$Trace"
  | 6 => .object "NameKeeper$Route"
  | 7 => .object "NameKeeper$Route"
  | 8 => .array (.object "NameKeeper$Route")
  | 9 => .object "NameKeeper$Route"
  | 10 => .array .int
  | 11 => .int
  | 12 => .array .int
  | 13 => .array .int
  | 14 => .boolean
  | _ => .long
theorem nmX9 : ∀ a, a < 16 → ∀ b, b < 16 → a ≠ b → (TX9 a).2.1 ≠ (TX9 b).2.1 := by decide +kernel
theorem tyX9_ok : ∀ k, k < 16 → parseFieldDescriptor (TX9 k).2.2.1 = some (tyX9 k) := by decide +kernel
abbrev cX9_init : ByteArray := prog_1_method_1_code
def yX9_init : MethodName := ⟨RX9, "<init>", "()V"⟩
abbrev cX9_feed : ByteArray := prog_1_method_2_code
def yX9_feed : MethodName := ⟨RX9, "feed", "(IIIII)I"⟩
abbrev cX9_end : ByteArray := prog_1_method_3_code
def yX9_end : MethodName := ⟨RX9, "end", "(I)Z"⟩
abbrev cX9_trees : ByteArray := prog_1_method_4_code
def yX9_trees : MethodName := ⟨RX9, "trees", "()I"⟩
abbrev cX9_fault : ByteArray := prog_1_method_5_code
def yX9_fault : MethodName := ⟨RX9, "fault", "(I)I"⟩
abbrev cX9_has : ByteArray := prog_1_method_6_code
def yX9_has : MethodName := ⟨RX9, "has", "(I)I"⟩
abbrev cX9_node : ByteArray := prog_1_method_7_code
def yX9_node : MethodName := ⟨RX9, "node", "(II)I"⟩
abbrev cX9_letter : ByteArray := prog_1_method_8_code
def yX9_letter : MethodName := ⟨RX9, "letter", "(ZII)I"⟩
abbrev cX9_entry : ByteArray := prog_1_method_9_code
def yX9_entry : MethodName := ⟨RX9, "entry", "(II)I"⟩
abbrev cX9_child : ByteArray := prog_1_method_10_code
def yX9_child : MethodName := ⟨RX9, "child", "(I)I"⟩
abbrev cX9_walker : ByteArray := prog_1_method_11_code
def yX9_walker : MethodName := ⟨RX9, "walker", "(II)I"⟩
abbrev cX9_handle : ByteArray := prog_1_method_12_code
def yX9_handle : MethodName := ⟨RX9, "handle", "(I)I"⟩
abbrev cX9_where : ByteArray := prog_1_method_13_code
def yX9_where : MethodName := ⟨RX9, "where", "()I"⟩
abbrev cX9_needs : ByteArray := prog_1_method_14_code
def yX9_needs : MethodName := ⟨RX9, "needs", "()I"⟩
abbrev cX9_victim : ByteArray := prog_1_method_15_code
def yX9_victim : MethodName := ⟨RX9, "victim", "(I)I"⟩
abbrev cX9_path : ByteArray := prog_1_method_16_code
def yX9_path : MethodName := ⟨RX9, "path", "(I)I"⟩
abbrev cX9_octet : ByteArray := prog_1_method_17_code
def yX9_octet : MethodName := ⟨RX9, "octet", "(I)I"⟩
abbrev cX9_look : ByteArray := prog_1_method_18_code
def yX9_look : MethodName := ⟨RX9, "look", "()I"⟩
abbrev cX9_make : ByteArray := prog_1_method_19_code
def yX9_make : MethodName := ⟨RX9, "make", "(Z)I"⟩
abbrev cX9_remove : ByteArray := prog_1_method_20_code
def yX9_remove : MethodName := ⟨RX9, "remove", "()I"⟩
abbrev cX9_rename : ByteArray := prog_1_method_21_code
def yX9_rename : MethodName := ⟨RX9, "rename", "()I"⟩
abbrev cX9_open : ByteArray := prog_1_method_22_code
def yX9_open : MethodName := ⟨RX9, "open", "()I"⟩
abbrev cX9_close : ByteArray := prog_1_method_23_code
def yX9_close : MethodName := ⟨RX9, "close", "(I)Z"⟩
abbrev cX9_mount : ByteArray := prog_1_method_24_code
def yX9_mount : MethodName := ⟨RX9, "mount", "(I)I"⟩
abbrev cX9_unmount : ByteArray := prog_1_method_25_code
def yX9_unmount : MethodName := ⟨RX9, "unmount", "(I)I"⟩
abbrev cX9_trim : ByteArray := prog_1_method_26_code
def yX9_trim : MethodName := ⟨RX9, "trim", "(I)I"⟩
abbrev cX9_room : ByteArray := prog_1_method_27_code
def yX9_room : MethodName := ⟨RX9, "room", "(I)Z"⟩
abbrev cX9_chance : ByteArray := prog_1_method_28_code
def yX9_chance : MethodName := ⟨RX9, "chance", "(I)I"⟩
abbrev cX9_begin : ByteArray := prog_1_method_29_code
def yX9_begin : MethodName := ⟨RX9, "begin", "()I"⟩
abbrev cX9_step : ByteArray := prog_1_method_30_code
def yX9_step : MethodName := ⟨RX9, "step", "(I)I"⟩
abbrev cX9_result : ByteArray := prog_1_method_31_code
def yX9_result : MethodName := ⟨RX9, "result", "(I)I"⟩
abbrev cX9_quit : ByteArray := prog_1_method_32_code
def yX9_quit : MethodName := ⟨RX9, "quit", "(I)Z"⟩
abbrev cX9_trace : ByteArray := prog_1_method_33_code
def yX9_trace : MethodName := ⟨RX9, "trace", "()I"⟩
abbrev cX9_loads : ByteArray := prog_1_method_34_code
def yX9_loads : MethodName := ⟨RX9, "loads", "(I)I"⟩
abbrev cX9_least : ByteArray := prog_1_method_35_code
def yX9_least : MethodName := ⟨RX9, "least", "(I)I"⟩
abbrev cX9_see : ByteArray := prog_1_method_36_code
def yX9_see : MethodName := ⟨RX9, "see", "(I)Z"⟩
abbrev cX9_fits : ByteArray := prog_1_method_37_code
def yX9_fits : MethodName := ⟨RX9, "fits", "(I)I"⟩
abbrev cX9_tells : ByteArray := prog_1_method_38_code
def yX9_tells : MethodName := ⟨RX9, "tells", "(I)I"⟩
abbrev cX9_undo : ByteArray := prog_1_method_39_code
def yX9_undo : MethodName := ⟨RX9, "undo", "()Z"⟩
abbrev cX9_seed : ByteArray := prog_1_method_40_code
def yX9_seed : MethodName := ⟨RX9, "seed", "(I)Z"⟩
abbrev cX9_status : ByteArray := prog_1_method_41_code
def yX9_status : MethodName := ⟨RX9, "status", "(I)I"⟩
abbrev cX9_refuse : ByteArray := prog_1_method_42_code
def yX9_refuse : MethodName := ⟨RX9, "refuse", "(I)I"⟩
abbrev cX9_refuseFlatly : ByteArray := prog_1_method_43_code
def yX9_refuseFlatly : MethodName := ⟨RX9, "refuseFlatly", "(I)Z"⟩
abbrev cX9_orRefuse : ByteArray := prog_1_method_44_code
def yX9_orRefuse : MethodName := ⟨RX9, "orRefuse", "(II)I"⟩
abbrev cX9_hasTrees : ByteArray := prog_1_method_45_code
def yX9_hasTrees : MethodName := ⟨RX9, "hasTrees", "()Z"⟩
abbrev cX9_isRoom : ByteArray := prog_1_method_46_code
def yX9_isRoom : MethodName := ⟨RX9, "isRoom", "(I)Z"⟩
abbrev cX9_takeRow : ByteArray := prog_1_method_47_code
def yX9_takeRow : MethodName := ⟨RX9, "takeRow", "()I"⟩
abbrev cX9_takePaths : ByteArray := prog_1_method_48_code
def yX9_takePaths : MethodName := ⟨RX9, "takePaths", "(I)Z"⟩
abbrev cX9_tryOut : ByteArray := prog_1_method_49_code
def yX9_tryOut : MethodName := ⟨RX9, "tryOut", "(LNameKeeper$Route;)I"⟩
abbrev cX9_tellOutcome : ByteArray := prog_1_method_50_code
def yX9_tellOutcome : MethodName := ⟨RX9, "tellOutcome", "(LNameKeeper$Walker;I)V"⟩
abbrev cX9_drawOf : ByteArray := prog_1_method_51_code
def yX9_drawOf : MethodName := ⟨RX9, "drawOf", "(I)I"⟩
abbrev cX9_writeRoute : ByteArray := prog_1_method_52_code
def yX9_writeRoute : MethodName := ⟨RX9, "writeRoute", "(LNameKeeper$Route;)V"⟩
abbrev cX9_writeName : ByteArray := prog_1_method_53_code
def yX9_writeName : MethodName := ⟨RX9, "writeName", "(I)V"⟩
abbrev cX9_writeByte : ByteArray := prog_1_method_54_code
def yX9_writeByte : MethodName := ⟨RX9, "writeByte", "(I)V"⟩
abbrev cX9_isLetter : ByteArray := prog_1_method_55_code
def yX9_isLetter : MethodName := ⟨RX9, "isLetter", "(I)Z"⟩
abbrev cX9_letterOf : ByteArray := prog_1_method_56_code
def yX9_letterOf : MethodName := ⟨RX9, "letterOf", "(II)I"⟩
abbrev cX9_nameBetween : ByteArray := prog_1_method_57_code
def yX9_nameBetween : MethodName := ⟨RX9, "nameBetween", "(LNameKeeper$Tape;II)I"⟩
abbrev cX9_stepBetween : ByteArray := prog_1_method_58_code
def yX9_stepBetween : MethodName := ⟨RX9, "stepBetween", "(LNameKeeper$Tape;II)I"⟩
abbrev cX9_readRow : ByteArray := prog_1_method_59_code
def yX9_readRow : MethodName := ⟨RX9, "readRow", "(LNameKeeper$Tape;[LNameKeeper$Route;)I"⟩
def RX10 : String := "NameKeeperModel"
def TX10 : u_T := fun k => match k with
  | 0 => ("NameKeeperModel", "tape", "[I", true)
  | 1 => ("NameKeeperModel", "taped", "I", false)
  | 2 => ("NameKeeperModel", "at", "I", false)
  | 3 => ("NameKeeperModel", "end", "I", false)
  | 4 => ("NameKeeperModel", "bad", "I", false)
  | 5 => ("NameKeeperModel", "badPlace", "I", false)
  | 6 => ("NameKeeperModel", "fault", "I", false)
  | 7 => ("NameKeeperModel", "faultPlace", "I", false)
  | 8 => ("NameKeeperModel", "refused", "[I", true)
  | 9 => ("NameKeeperModel", "draft", "[I", true)
  | 10 => ("NameKeeperModel", "draftMany", "I", false)
  | 11 => ("NameKeeperModel", "volumes", "I", false)
  | 12 => ("NameKeeperModel", "draftVolumes", "I", false)
  | 13 => ("NameKeeperModel", "isTold", "Z", false)
  | 14 => ("NameKeeperModel", "steps", "[I", true)
  | 15 => ("NameKeeperModel", "stepMany", "I", false)
  | 16 => ("NameKeeperModel", "steps2", "[I", true)
  | 17 => ("NameKeeperModel", "stepMany2", "I", false)
  | 18 => ("NameKeeperModel", "now", "[I", true)
  | 19 => ("NameKeeperModel", "holders", "[I", true)
  | 20 => ("NameKeeperModel", "heldBesides", "I", false)
  | 21 => ("NameKeeperModel", "walking", "I", false)
  | 22 => ("NameKeeperModel", "cur", "I", false)
  | 23 => ("NameKeeperModel", "aside", "[I", true)
  | 24 => ("NameKeeperModel", "octet", "[I", true)
  | 25 => ("NameKeeperModel", "octets", "I", false)
  | 26 => ("NameKeeperModel", "names", "[I", true)
  | 27 => ("NameKeeperModel", "acts", "[I", true)
  | 28 => ("NameKeeperModel", "undoable", "I", false)
  | 29 => ("NameKeeperModel", "newest", "I", false)
  | 30 => ("NameKeeperModel", "isGoing", "[Z", true)
  | 31 => ("NameKeeperModel", "seeded", "J", false)
  | 32 => ("NameKeeperModel", "hasResult", "Z", false)
  | 33 => ("NameKeeperModel", "results", "[I", true)
  | 34 => ("NameKeeperModel", "traceSteps", "[I", true)
  | 35 => ("NameKeeperModel", "traceLong", "[I", true)
  | 36 => ("NameKeeperModel", "traceMany", "I", false)
  | 37 => ("NameKeeperModel", "seen", "I", false)
  | 38 => ("NameKeeperModel", "draftTrace", "I", false)
  | 39 => ("NameKeeperModel", "draftSteps", "[I", true)
  | 40 => ("NameKeeperModel", "draftLong", "[I", true)
  | 41 => ("NameKeeperModel", "loadsBy", "[I", true)
  | _ => ("NameKeeperModel", "isFit", "[Z", true)
def tyX10 : Nat → FieldType := fun k => match k with
  | 0 => .array .int
  | 1 => .int
  | 2 => .int
  | 3 => .int
  | 4 => .int
  | 5 => .int
  | 6 => .int
  | 7 => .int
  | 8 => .array .int
  | 9 => .array .int
  | 10 => .int
  | 11 => .int
  | 12 => .int
  | 13 => .boolean
  | 14 => .array .int
  | 15 => .int
  | 16 => .array .int
  | 17 => .int
  | 18 => .array .int
  | 19 => .array .int
  | 20 => .int
  | 21 => .int
  | 22 => .int
  | 23 => .array .int
  | 24 => .array .int
  | 25 => .int
  | 26 => .array .int
  | 27 => .array .int
  | 28 => .int
  | 29 => .int
  | 30 => .array .boolean
  | 31 => .long
  | 32 => .boolean
  | 33 => .array .int
  | 34 => .array .int
  | 35 => .array .int
  | 36 => .int
  | 37 => .int
  | 38 => .int
  | 39 => .array .int
  | 40 => .array .int
  | 41 => .array .int
  | _ => .array .boolean
theorem nmX10 : ∀ a, a < 43 → ∀ b, b < 43 → a ≠ b → (TX10 a).2.1 ≠ (TX10 b).2.1 := by decide +kernel
theorem tyX10_ok : ∀ k, k < 43 → parseFieldDescriptor (TX10 k).2.2.1 = some (tyX10 k) := by decide +kernel
abbrev cX10_init : ByteArray := prog_12_method_1_code
def yX10_init : MethodName := ⟨RX10, "<init>", "()V"⟩
abbrev cX10_isIn : ByteArray := prog_12_method_2_code
def yX10_isIn : MethodName := ⟨RX10, "isIn", "(JJJ)Z"⟩
abbrev cX10_flag : ByteArray := prog_12_method_3_code
def yX10_flag : MethodName := ⟨RX10, "flag", "(Z)I"⟩
abbrev cX10_refuses : ByteArray := prog_12_method_4_code
def yX10_refuses : MethodName := ⟨RX10, "refuses", "(I)I"⟩
abbrev cX10_isRefused : ByteArray := prog_12_method_5_code
def yX10_isRefused : MethodName := ⟨RX10, "isRefused", "(I)Z"⟩
abbrev cX10_feed : ByteArray := prog_12_method_6_code
def yX10_feed : MethodName := ⟨RX10, "feed", "(IIIII)I"⟩
abbrev cX10_end : ByteArray := prog_12_method_7_code
def yX10_end : MethodName := ⟨RX10, "end", "(I)Z"⟩
abbrev cX10_status : ByteArray := prog_12_method_8_code
def yX10_status : MethodName := ⟨RX10, "status", "(I)I"⟩
abbrev cX10_fault : ByteArray := prog_12_method_9_code
def yX10_fault : MethodName := ⟨RX10, "fault", "(I)I"⟩
abbrev cX10_fail : ByteArray := prog_12_method_10_code
def yX10_fail : MethodName := ⟨RX10, "fail", "(II)V"⟩
abbrev cX10_isLetter : ByteArray := prog_12_method_11_code
def yX10_isLetter : MethodName := ⟨RX10, "isLetter", "(I)Z"⟩
abbrev cX10_look0 : ByteArray := prog_12_method_12_code
def yX10_look0 : MethodName := ⟨RX10, "look0", "()I"⟩
abbrev cX10_drafted : ByteArray := prog_12_method_13_code
def yX10_drafted : MethodName := ⟨RX10, "drafted", "(II)I"⟩
abbrev cX10_drafts : ByteArray := prog_12_method_14_code
def yX10_drafts : MethodName := ⟨RX10, "drafts", "(III)I"⟩
abbrev cX10_nameHere : ByteArray := prog_12_method_15_code
def yX10_nameHere : MethodName := ⟨RX10, "nameHere", "()I"⟩
abbrev cX10_volumeTold : ByteArray := prog_12_method_16_code
def yX10_volumeTold : MethodName := ⟨RX10, "volumeTold", "(I)V"⟩
abbrev cX10_trees : ByteArray := prog_12_method_17_code
def yX10_trees : MethodName := ⟨RX10, "trees", "()I"⟩
abbrev cX10_stands : ByteArray := prog_12_method_18_code
def yX10_stands : MethodName := ⟨RX10, "stands", "()V"⟩
abbrev cX10_stepHere : ByteArray := prog_12_method_19_code
def yX10_stepHere : MethodName := ⟨RX10, "stepHere", "()I"⟩
abbrev cX10_isPathHere : ByteArray := prog_12_method_20_code
def yX10_isPathHere : MethodName := ⟨RX10, "isPathHere", "()Z"⟩
abbrev cX10_beginsPaths : ByteArray := prog_12_method_21_code
def yX10_beginsPaths : MethodName := ⟨RX10, "beginsPaths", "()V"⟩
abbrev cX10_isPath : ByteArray := prog_12_method_22_code
def yX10_isPath : MethodName := ⟨RX10, "isPath", "()Z"⟩
abbrev cX10_nodeAt : ByteArray := prog_12_method_23_code
def yX10_nodeAt : MethodName := ⟨RX10, "nodeAt", "(II)I"⟩
abbrev cX10_nodeHas : ByteArray := prog_12_method_24_code
def yX10_nodeHas : MethodName := ⟨RX10, "nodeHas", "(II)I"⟩
abbrev cX10_entryAt : ByteArray := prog_12_method_25_code
def yX10_entryAt : MethodName := ⟨RX10, "entryAt", "(II)I"⟩
abbrev cX10_its : ByteArray := prog_12_method_26_code
def yX10_its : MethodName := ⟨RX10, "its", "(II)I"⟩
abbrev cX10_walkerAt : ByteArray := prog_12_method_27_code
def yX10_walkerAt : MethodName := ⟨RX10, "walkerAt", "(II)I"⟩
abbrev cX10_walkerHas : ByteArray := prog_12_method_28_code
def yX10_walkerHas : MethodName := ⟨RX10, "walkerHas", "(II)I"⟩
abbrev cX10_isNode : ByteArray := prog_12_method_29_code
def yX10_isNode : MethodName := ⟨RX10, "isNode", "(I)Z"⟩
abbrev cX10_isEntry : ByteArray := prog_12_method_30_code
def yX10_isEntry : MethodName := ⟨RX10, "isEntry", "(I)Z"⟩
abbrev cX10_isRoot : ByteArray := prog_12_method_31_code
def yX10_isRoot : MethodName := ⟨RX10, "isRoot", "(I)Z"⟩
abbrev cX10_rootOf : ByteArray := prog_12_method_32_code
def yX10_rootOf : MethodName := ⟨RX10, "rootOf", "(I)I"⟩
abbrev cX10_counts : ByteArray := prog_12_method_33_code
def yX10_counts : MethodName := ⟨RX10, "counts", "()V"⟩
abbrev cX10_countsHands : ByteArray := prog_12_method_34_code
def yX10_countsHands : MethodName := ⟨RX10, "countsHands", "()V"⟩
abbrev cX10_leastFree : ByteArray := prog_12_method_35_code
def yX10_leastFree : MethodName := ⟨RX10, "leastFree", "(I)I"⟩
abbrev cX10_sweeps : ByteArray := prog_12_method_36_code
def yX10_sweeps : MethodName := ⟨RX10, "sweeps", "()V"⟩
abbrev cX10_entryMany : ByteArray := prog_12_method_37_code
def yX10_entryMany : MethodName := ⟨RX10, "entryMany", "(Z)I"⟩
abbrev cX10_trims : ByteArray := prog_12_method_38_code
def yX10_trims : MethodName := ⟨RX10, "trims", "(II)I"⟩
abbrev cX10_notes : ByteArray := prog_12_method_39_code
def yX10_notes : MethodName := ⟨RX10, "notes", "(I)V"⟩
abbrev cX10_comesTo : ByteArray := prog_12_method_40_code
def yX10_comesTo : MethodName := ⟨RX10, "comesTo", "(I)V"⟩
abbrev cX10_makes : ByteArray := prog_12_method_41_code
def yX10_makes : MethodName := ⟨RX10, "makes", "(III)I"⟩
abbrev cX10_childHere : ByteArray := prog_12_method_42_code
def yX10_childHere : MethodName := ⟨RX10, "childHere", "(II)I"⟩
abbrev cX10_nodeIn : ByteArray := prog_12_method_43_code
def yX10_nodeIn : MethodName := ⟨RX10, "nodeIn", "(II)I"⟩
abbrev cX10_childOf : ByteArray := prog_12_method_44_code
def yX10_childOf : MethodName := ⟨RX10, "childOf", "(II)I"⟩
abbrev cX10_goesUp : ByteArray := prog_12_method_45_code
def yX10_goesUp : MethodName := ⟨RX10, "goesUp", "()V"⟩
abbrev cX10_isFolder : ByteArray := prog_12_method_46_code
def yX10_isFolder : MethodName := ⟨RX10, "isFolder", "(I)Z"⟩
abbrev cX10_steps0 : ByteArray := prog_12_method_47_code
def yX10_steps0 : MethodName := ⟨RX10, "steps0", "(I)I"⟩
abbrev cX10_walks : ByteArray := prog_12_method_48_code
def yX10_walks : MethodName := ⟨RX10, "walks", "([II)I"⟩
abbrev cX10_has : ByteArray := prog_12_method_49_code
def yX10_has : MethodName := ⟨RX10, "has", "(I)I"⟩
abbrev cX10_entriesWith : ByteArray := prog_12_method_50_code
def yX10_entriesWith : MethodName := ⟨RX10, "entriesWith", "(I)I"⟩
abbrev cX10_handleMany : ByteArray := prog_12_method_51_code
def yX10_handleMany : MethodName := ⟨RX10, "handleMany", "()I"⟩
abbrev cX10_walkerMany : ByteArray := prog_12_method_52_code
def yX10_walkerMany : MethodName := ⟨RX10, "walkerMany", "()I"⟩
abbrev cX10_mounted : ByteArray := prog_12_method_53_code
def yX10_mounted : MethodName := ⟨RX10, "mounted", "()I"⟩
abbrev cX10_nodeMany : ByteArray := prog_12_method_54_code
def yX10_nodeMany : MethodName := ⟨RX10, "nodeMany", "(I)I"⟩
abbrev cX10_node : ByteArray := prog_12_method_55_code
def yX10_node : MethodName := ⟨RX10, "node", "(II)I"⟩
abbrev cX10_lettersOf : ByteArray := prog_12_method_56_code
def yX10_lettersOf : MethodName := ⟨RX10, "lettersOf", "(I)I"⟩
abbrev cX10_letterOf : ByteArray := prog_12_method_57_code
def yX10_letterOf : MethodName := ⟨RX10, "letterOf", "(II)I"⟩
abbrev cX10_letter : ByteArray := prog_12_method_58_code
def yX10_letter : MethodName := ⟨RX10, "letter", "(ZII)I"⟩
abbrev cX10_entry : ByteArray := prog_12_method_59_code
def yX10_entry : MethodName := ⟨RX10, "entry", "(II)I"⟩
abbrev cX10_child : ByteArray := prog_12_method_60_code
def yX10_child : MethodName := ⟨RX10, "child", "(I)I"⟩
abbrev cX10_walker : ByteArray := prog_12_method_61_code
def yX10_walker : MethodName := ⟨RX10, "walker", "(II)I"⟩
abbrev cX10_isWalker : ByteArray := prog_12_method_62_code
def yX10_isWalker : MethodName := ⟨RX10, "isWalker", "(I)Z"⟩
abbrev cX10_handle : ByteArray := prog_12_method_63_code
def yX10_handle : MethodName := ⟨RX10, "handle", "(I)I"⟩
abbrev cX10_volumeOver : ByteArray := prog_12_method_64_code
def yX10_volumeOver : MethodName := ⟨RX10, "volumeOver", "(I)I"⟩
abbrev cX10_nodeUp : ByteArray := prog_12_method_65_code
def yX10_nodeUp : MethodName := ⟨RX10, "nodeUp", "(I)I"⟩
abbrev cX10_nodeBy : ByteArray := prog_12_method_66_code
def yX10_nodeBy : MethodName := ⟨RX10, "nodeBy", "(II)I"⟩
abbrev cX10_where : ByteArray := prog_12_method_67_code
def yX10_where : MethodName := ⟨RX10, "where", "()I"⟩
abbrev cX10_putsAside : ByteArray := prog_12_method_68_code
def yX10_putsAside : MethodName := ⟨RX10, "putsAside", "()V"⟩
abbrev cX10_takesBack : ByteArray := prog_12_method_69_code
def yX10_takesBack : MethodName := ⟨RX10, "takesBack", "()V"⟩
abbrev cX10_needs : ByteArray := prog_12_method_70_code
def yX10_needs : MethodName := ⟨RX10, "needs", "()I"⟩
abbrev cX10_victim : ByteArray := prog_12_method_71_code
def yX10_victim : MethodName := ⟨RX10, "victim", "(I)I"⟩
abbrev cX10_path : ByteArray := prog_12_method_72_code
def yX10_path : MethodName := ⟨RX10, "path", "(I)I"⟩
abbrev cX10_writes : ByteArray := prog_12_method_73_code
def yX10_writes : MethodName := ⟨RX10, "writes", "(I)V"⟩
abbrev cX10_octet : ByteArray := prog_12_method_74_code
def yX10_octet : MethodName := ⟨RX10, "octet", "(I)I"⟩
abbrev cX10_keeps : ByteArray := prog_12_method_75_code
def yX10_keeps : MethodName := ⟨RX10, "keeps", "()V"⟩
abbrev cX10_undo : ByteArray := prog_12_method_76_code
def yX10_undo : MethodName := ⟨RX10, "undo", "()Z"⟩
abbrev cX10_look : ByteArray := prog_12_method_77_code
def yX10_look : MethodName := ⟨RX10, "look", "()I"⟩
abbrev cX10_isPlace : ByteArray := prog_12_method_78_code
def yX10_isPlace : MethodName := ⟨RX10, "isPlace", "([II)Z"⟩
abbrev cX10_make : ByteArray := prog_12_method_79_code
def yX10_make : MethodName := ⟨RX10, "make", "(Z)I"⟩
abbrev cX10_isPlain : ByteArray := prog_12_method_80_code
def yX10_isPlain : MethodName := ⟨RX10, "isPlain", "([II)Z"⟩
abbrev cX10_remove : ByteArray := prog_12_method_81_code
def yX10_remove : MethodName := ⟨RX10, "remove", "()I"⟩
abbrev cX10_isBelow : ByteArray := prog_12_method_82_code
def yX10_isBelow : MethodName := ⟨RX10, "isBelow", "(II)Z"⟩
abbrev cX10_isRenamed : ByteArray := prog_12_method_83_code
def yX10_isRenamed : MethodName := ⟨RX10, "isRenamed", "(I)Z"⟩
abbrev cX10_areTwoPaths : ByteArray := prog_12_method_84_code
def yX10_areTwoPaths : MethodName := ⟨RX10, "areTwoPaths", "()Z"⟩
abbrev cX10_rename : ByteArray := prog_12_method_85_code
def yX10_rename : MethodName := ⟨RX10, "rename", "()I"⟩
abbrev cX10_open : ByteArray := prog_12_method_86_code
def yX10_open : MethodName := ⟨RX10, "open", "()I"⟩
abbrev cX10_close : ByteArray := prog_12_method_87_code
def yX10_close : MethodName := ⟨RX10, "close", "(I)Z"⟩
abbrev cX10_isVolume : ByteArray := prog_12_method_88_code
def yX10_isVolume : MethodName := ⟨RX10, "isVolume", "(I)Z"⟩
abbrev cX10_mount : ByteArray := prog_12_method_89_code
def yX10_mount : MethodName := ⟨RX10, "mount", "(I)I"⟩
abbrev cX10_volumeOf : ByteArray := prog_12_method_90_code
def yX10_volumeOf : MethodName := ⟨RX10, "volumeOf", "(I)I"⟩
abbrev cX10_unmount : ByteArray := prog_12_method_91_code
def yX10_unmount : MethodName := ⟨RX10, "unmount", "(I)I"⟩
abbrev cX10_isInUse : ByteArray := prog_12_method_92_code
def yX10_isInUse : MethodName := ⟨RX10, "isInUse", "(I)Z"⟩
abbrev cX10_trim : ByteArray := prog_12_method_93_code
def yX10_trim : MethodName := ⟨RX10, "trim", "(I)I"⟩
abbrev cX10_room : ByteArray := prog_12_method_94_code
def yX10_room : MethodName := ⟨RX10, "room", "(I)Z"⟩
abbrev cX10_seed : ByteArray := prog_12_method_95_code
def yX10_seed : MethodName := ⟨RX10, "seed", "(I)Z"⟩
abbrev cX10_drawOf : ByteArray := prog_12_method_96_code
def yX10_drawOf : MethodName := ⟨RX10, "drawOf", "(I)I"⟩
abbrev cX10_isMountedNode : ByteArray := prog_12_method_97_code
def yX10_isMountedNode : MethodName := ⟨RX10, "isMountedNode", "(I)Z"⟩
abbrev cX10_laysPath : ByteArray := prog_12_method_98_code
def yX10_laysPath : MethodName := ⟨RX10, "laysPath", "(I)V"⟩
abbrev cX10_looksByDraw : ByteArray := prog_12_method_99_code
def yX10_looksByDraw : MethodName := ⟨RX10, "looksByDraw", "()V"⟩
abbrev cX10_chance : ByteArray := prog_12_method_100_code
def yX10_chance : MethodName := ⟨RX10, "chance", "(I)I"⟩
abbrev cX10_begin : ByteArray := prog_12_method_101_code
def yX10_begin : MethodName := ⟨RX10, "begin", "()I"⟩
abbrev cX10_beginsWay : ByteArray := prog_12_method_102_code
def yX10_beginsWay : MethodName := ⟨RX10, "beginsWay", "(I)V"⟩
abbrev cX10_isWayOther : ByteArray := prog_12_method_103_code
def yX10_isWayOther : MethodName := ⟨RX10, "isWayOther", "(I)Z"⟩
abbrev cX10_restarts : ByteArray := prog_12_method_104_code
def yX10_restarts : MethodName := ⟨RX10, "restarts", "(I)V"⟩
abbrev cX10_nextStep : ByteArray := prog_12_method_105_code
def yX10_nextStep : MethodName := ⟨RX10, "nextStep", "(I)I"⟩
abbrev cX10_doesStep : ByteArray := prog_12_method_106_code
def yX10_doesStep : MethodName := ⟨RX10, "doesStep", "(I)I"⟩
abbrev cX10_isThrough : ByteArray := prog_12_method_107_code
def yX10_isThrough : MethodName := ⟨RX10, "isThrough", "(I)Z"⟩
abbrev cX10_isOver : ByteArray := prog_12_method_108_code
def yX10_isOver : MethodName := ⟨RX10, "isOver", "(II)I"⟩
abbrev cX10_step : ByteArray := prog_12_method_109_code
def yX10_step : MethodName := ⟨RX10, "step", "(I)I"⟩
abbrev cX10_turnsHeavy : ByteArray := prog_12_method_110_code
def yX10_turnsHeavy : MethodName := ⟨RX10, "turnsHeavy", "(I)V"⟩
abbrev cX10_result : ByteArray := prog_12_method_111_code
def yX10_result : MethodName := ⟨RX10, "result", "(I)I"⟩
abbrev cX10_quit : ByteArray := prog_12_method_112_code
def yX10_quit : MethodName := ⟨RX10, "quit", "(I)Z"⟩
abbrev cX10_isTrace : ByteArray := prog_12_method_113_code
def yX10_isTrace : MethodName := ⟨RX10, "isTrace", "()Z"⟩
abbrev cX10_trace : ByteArray := prog_12_method_114_code
def yX10_trace : MethodName := ⟨RX10, "trace", "()I"⟩
abbrev cX10_clears : ByteArray := prog_12_method_115_code
def yX10_clears : MethodName := ⟨RX10, "clears", "(I)V"⟩
abbrev cX10_laysLoads : ByteArray := prog_12_method_116_code
def yX10_laysLoads : MethodName := ⟨RX10, "laysLoads", "(I)I"⟩
abbrev cX10_loads : ByteArray := prog_12_method_117_code
def yX10_loads : MethodName := ⟨RX10, "loads", "(I)I"⟩
abbrev cX10_least : ByteArray := prog_12_method_118_code
def yX10_least : MethodName := ⟨RX10, "least", "(I)I"⟩
abbrev cX10_see : ByteArray := prog_12_method_119_code
def yX10_see : MethodName := ⟨RX10, "see", "(I)Z"⟩
abbrev cX10_laysFits : ByteArray := prog_12_method_120_code
def yX10_laysFits : MethodName := ⟨RX10, "laysFits", "()I"⟩
abbrev cX10_fits : ByteArray := prog_12_method_121_code
def yX10_fits : MethodName := ⟨RX10, "fits", "(I)I"⟩
abbrev cX10_mostBy : ByteArray := prog_12_method_122_code
def yX10_mostBy : MethodName := ⟨RX10, "mostBy", "(I)I"⟩
abbrev cX10_tells : ByteArray := prog_12_method_123_code
def yX10_tells : MethodName := ⟨RX10, "tells", "(I)I"⟩
def RJ9 : String := "java/lang/Math"
abbrev cJ9_max_7cf53 : ByteArray := prog_13_method_65_code
def yJ9_max_7cf53 : MethodName := ⟨RJ9, "max", "(II)I"⟩
abbrev cJ9_min_7cf53 : ByteArray := prog_13_method_69_code
def yJ9_min_7cf53 : MethodName := ⟨RJ9, "min", "(II)I"⟩
def RJ10 : String := "java/lang/System"
def RJ7 : String := "java/util/Arrays"
abbrev cJ7_fill_53178 : ByteArray := prog_15_method_103_code
def yJ7_fill_53178 : MethodName := ⟨RJ7, "fill", "([II)V"⟩
def RL : String := "NameKeeperLaw"
abbrev cL_law : ByteArray := code
def yL_law : MethodName := ⟨RL, "law", "([I)Z"⟩
end
section
/-! A SMALL MACHINE: values, a heap of typed maps by abstract addresses (0, 1 .. as the cells are made), one instruction as a function with what follows as its continuation. -/
abbrev MV : Type := Int32 ⊕ (Int64 ⊕ Option Nat)
abbrev mI (x : Int32) : MV := Sum.inl x
abbrev mL (x : Int64) : MV := Sum.inr (Sum.inl x)
abbrev mR (r : Option Nat) : MV := Sum.inr (Sum.inr r)
/-- ints, longs, references by address and place; kind and length of each cell; how many cells, how many slots. Kinds 0 to 10: the classes; 11 int[], 12 boolean[], 13 Route[], 14 Walker[], 15 World[], 16 int[][], 17 none yet -/
abbrev MH : Type := (Nat → Nat → Int32) × (Nat → Nat → Int64) × (Nat → Nat → Option Nat) × (Nat → Nat × Nat) × Nat × Nat
abbrev MO : Type := Option MV × MH
abbrev MF : Type := List MV → MH → Option MO
abbrev MLs : Type := List (Option MV)
abbrev MK : Type := Nat → MLs → List MV → MH → Option MO
def lk {α : Type} (k : Nat) : List (Nat × α) → Option α
  | [] => none
  | q :: l => cond (Nat.beq k q.1) (some q.2) (lk k l)
def pI (st : List MV) (f : Int32 → List MV → Option MO) : Option MO := match st with
  | Sum.inl x :: r => f x r
  | _ => none
def pL (st : List MV) (f : Int64 → List MV → Option MO) : Option MO := match st with
  | Sum.inr (Sum.inl x) :: r => f x r
  | _ => none
def pR (st : List MV) (f : Option Nat → List MV → Option MO) : Option MO := match st with
  | Sum.inr (Sum.inr x) :: r => f x r
  | _ => none
/-- any value of one word -/
def pC (st : List MV) (f : MV → List MV → Option MO) : Option MO := match st with
  | Sum.inl x :: r => f (Sum.inl x) r
  | Sum.inr (Sum.inr x) :: r => f (Sum.inr (Sum.inr x)) r
  | _ => none
/-- so many values, the deepest first -/
def pN : Nat → List MV → List MV → (List MV → List MV → Option MO) → Option MO
  | 0, acc, st, f => f acc st
  | n + 1, acc, st, f => match st with
    | v :: r => pN n (v :: acc) r f
    | [] => none
def nth : MLs → Nat → Option MV
  | [], _ => none
  | v :: _, 0 => v
  | _ :: l, n + 1 => nth l n
def dl (v : Option MV) : Option MV := match v with
  | some (Sum.inr (Sum.inl _)) => none
  | w => w
def lset : MLs → Nat → MV → MLs
  | [], _, _ => []
  | _ :: l, 0, v => some v :: l
  | w :: l, n + 1, v => dl w :: lset l n v
def lI (lo : MLs) (j : Nat) (f : Int32 → Option MO) : Option MO := match nth lo j with
  | some (Sum.inl x) => f x
  | _ => none
def lL (lo : MLs) (j : Nat) (f : Int64 → Option MO) : Option MO := match nth lo j with
  | some (Sum.inr (Sum.inl x)) => f x
  | _ => none
def lR (lo : MLs) (j : Nat) (f : Option Nat → Option MO) : Option MO := match nth lo j with
  | some (Sum.inr (Sum.inr x)) => f x
  | _ => none
def asV (r : Option MV) : Option Unit := match r with
  | none => some ()
  | _ => none
def asI (r : Option MV) : Option Int32 := match r with
  | some (Sum.inl x) => some x
  | _ => none
def asR (r : Option MV) : Option (Option Nat) := match r with
  | some (Sum.inr (Sum.inr x)) => some x
  | _ => none
def up2 {α : Type} (f : Nat → Nat → α) (a k : Nat) (v : α) : Nat → Nat → α := fun x y => if x = a ∧ y = k then v else f x y
def bz (x : Int32) : Int32 := if x = 0 then 0 else 1
abbrev sI (s : MH) (a k : Nat) (v : Int32) : MH := (up2 s.1 a k v, s.2)
abbrev sL (s : MH) (a k : Nat) (v : Int64) : MH := (s.1, up2 s.2.1 a k v, s.2.2)
abbrev sR (s : MH) (a k : Nat) (v : Option Nat) : MH := (s.1, s.2.1, up2 s.2.2.1 a k v, s.2.2.2)
abbrev kd (s : MH) (a : Nat) : Nat := (s.2.2.2.1 a).1
abbrev ln (s : MH) (a : Nat) : Nat := (s.2.2.2.1 a).2
abbrev sz (s : MH) : Nat := s.2.2.2.2.1
/-- a new cell -/
abbrev al (s : MH) (d n : Nat) : MH := (fun x y => if x = s.2.2.2.2.1 then 0 else s.1 x y, fun x y => if x = s.2.2.2.2.1 then 0 else s.2.1 x y, fun x y => if x = s.2.2.2.2.1 then none else s.2.2.1 x y, fun x => if x = s.2.2.2.2.1 then (d, n) else s.2.2.2.1 x, s.2.2.2.2.1 + 1, s.2.2.2.2.2 + n)
/-- new int[n][m]: the outer row, then the inner ones -/
abbrev alM (s : MH) (n w : Nat) : MH := (fun x y => if s.2.2.2.2.1 ≤ x ∧ x < s.2.2.2.2.1 + 1 + n then 0 else s.1 x y, fun x y => if s.2.2.2.2.1 ≤ x ∧ x < s.2.2.2.2.1 + 1 + n then 0 else s.2.1 x y, fun x y => if x = s.2.2.2.2.1 then (if y < n then some (s.2.2.2.2.1 + 1 + y) else none) else if s.2.2.2.2.1 ≤ x ∧ x < s.2.2.2.2.1 + 1 + n then none else s.2.2.1 x y, fun x => if x = s.2.2.2.2.1 then (16, n) else if s.2.2.2.2.1 ≤ x ∧ x < s.2.2.2.2.1 + 1 + n then (11, w) else s.2.2.2.1 x, s.2.2.2.2.1 + 1 + n, s.2.2.2.2.2 + n + n * w)
abbrev inb (j : Int32) (n : Nat) : Prop := ¬ (j < 0 ∨ n ≤ j.toNatClampNeg)
def fI (s : MH) (c a k : Nat) : Option Int32 := if kd s a = c then some (s.1 a k) else none
def fZ (s : MH) (c a k : Nat) : Option Int32 := if kd s a = c then some (bz (s.1 a k)) else none
def fL (s : MH) (c a k : Nat) : Option Int64 := if kd s a = c then some (s.2.1 a k) else none
def fR (s : MH) (c a k : Nat) : Option (Option Nat) := if kd s a = c then some (s.2.2.1 a k) else none
def wI (s : MH) (c a k : Nat) (v : Int32) : Option MH := if kd s a = c then some (sI s a k v) else none
def wZ (s : MH) (c a k : Nat) (v : Int32) : Option MH := if kd s a = c ∧ (v = 0 ∨ v = 1) then some (sI s a k v) else none
def wL (s : MH) (c a k : Nat) (v : Int64) : Option MH := if kd s a = c then some (sL s a k v) else none
def wR (s : MH) (c a k : Nat) (v : Option Nat) : Option MH := if kd s a = c then some (sR s a k v) else none
def ld (s : MH) (d a : Nat) (j : Int32) : Option Int32 := if kd s a = d ∧ inb j (ln s a) then some (s.1 a j.toNatClampNeg) else none
def st (s : MH) (d a : Nat) (j v : Int32) : Option MH := if kd s a = d ∧ inb j (ln s a) then some (sI s a j.toNatClampNeg v) else none
def ldR (s : MH) (a : Nat) (j : Int32) : Option (Option Nat) := if (13 ≤ kd s a ∧ kd s a ≤ 16) ∧ inb j (ln s a) then some (s.2.2.1 a j.toNatClampNeg) else none
/-- what an array of references may hold: nothing, or an object of its class -/
def elt (s : MH) (d : Nat) (v : Option Nat) : Bool := match v with
  | none => true
  | some b => (d == 13 && kd s b == 4) || (d == 14 && kd s b == 7) || (d == 15 && kd s b == 8)
def stR (s : MH) (a : Nat) (j : Int32) (v : Option Nat) : Option MH := if (13 ≤ kd s a ∧ kd s a ≤ 15) ∧ inb j (ln s a) ∧ elt s (kd s a) v = true then some (sR s a j.toNatClampNeg v) else none
def aln (s : MH) (a : Nat) : Option Int32 := if 11 ≤ kd s a ∧ kd s a ≤ 16 then some (Int32.ofNat (ln s a)) else none
/-- System.arraycopy over rows of ints, both apart -/
def cpy (s : MH) (a : Nat) (sp : Int32) (b : Nat) (dp n : Int32) : Option MH := if kd s a = 11 ∧ kd s b = 11 ∧ ¬ sp < 0 ∧ ¬ dp < 0 ∧ ¬ n < 0 ∧ sp.toNatClampNeg + n.toNatClampNeg ≤ ln s a ∧ dp.toNatClampNeg + n.toNatClampNeg ≤ ln s b ∧ a ≠ b then some (fun x y => if x = b ∧ dp.toNatClampNeg ≤ y ∧ y < dp.toNatClampNeg + n.toNatClampNeg then s.1 a (sp.toNatClampNeg + (y - dp.toNatClampNeg)) else s.1 x y, s.2) else none
def nw (s : MH) (d : Nat) (n : Int32) : Option MH := if ¬ n < 0 ∧ n.toNatClampNeg ≤ 100000 then some (al s d n.toNatClampNeg) else none
def nfl (c : Nat) : Nat := match c with
  | 0 => 3 | 1 => 17 | 2 => 7 | 3 => 7 | 4 => 2 | 5 => 2 | 6 => 7 | 7 => 9 | 8 => 4 | 9 => 16 | _ => 43
/-- an instruction, the next place, where it jumps (or the kind that it makes), its constant, its long constant, its cases -/
abbrev EN : Type := Jvm.ClassFile.Instr × Nat × Nat × Int32 × Int64 × List (Int32 × Nat)
/-- a method that is called: how many arguments behind the receiver, the receiver's class (95 Math.min, 96 Math.max, 97 arraycopy, 98 Object's constructor, 99 static), 0 void 1 int 2 reference, what it does -/
abbrev CE : Type := Nat × Nat × Nat × MF
/-- code; places where a walk is cut, with the locals that are kept there; fields by their entries: class, place, 0 int 1 boolean 2 long 3 reference; calls; 0 void 1 int 2 boolean 3 reference -/
abbrev MT : Type := List (Nat × EN) × List (Nat × List Bool) × List (Nat × Nat × Nat × Nat) × List (Nat × CE) × Nat
def swt (x : Int32) (d : Nat) : List (Int32 × Nat) → (Nat → Option MO) → Option MO
  | [], f => f d
  | q :: l, f => if x = q.1 then f q.2 else swt x d l f
def psh (rk : Nat) (o : MO) (r : List MV) (f : List MV → MH → Option MO) : Option MO := match rk with
  | 0 => (asV o.1).bind fun _ => f r o.2
  | 1 => (asI o.1).bind fun x => f (mI x :: r) o.2
  | _ => (asR o.1).bind fun x => f (mR x :: r) o.2
def csum : List MV → Nat
  | [] => 0
  | v :: l => (match v with
    | Sum.inr (Sum.inl _) => 2
    | _ => 1) + csum l
/-- not too much lies on the stack at a call -/
def few (r : List MV) (f : Option MO) : Option MO := cond (Nat.ble (csum r) 8) f none
def rtI (rk : Nat) (x : Int32) (r : List MV) (s : MH) : Option MO := match r with
  | [] => match rk with
    | 1 => some (some (mI x), s)
    | 2 => if x = 0 ∨ x = 1 then some (some (mI x), s) else none
    | _ => none
  | _ => none
def rtR (rk : Nat) (x : Option Nat) (r : List MV) (s : MH) : Option MO := match r with
  | [] => match rk with
    | 3 => some (some (mR x), s)
    | _ => none
  | _ => none
def rtV (rk : Nat) (r : List MV) (s : MH) : Option MO := match r with
  | [] => match rk with
    | 0 => some (none, s)
    | _ => none
  | _ => none
def c2 (c : Jvm.ClassFile.Cond) (x y : Int32) (t f : Option MO) : Option MO := match c with
  | .eq => if x = y then t else f
  | .ne => if x = y then f else t
  | .lt => if x < y then t else f
  | .ge => if y ≤ x then t else f
  | .gt => if y < x then t else f
  | .le => if x ≤ y then t else f
def cR (r : Option Nat) (n s : Option MO) : Option MO := match r with
  | none => n
  | some _ => s
def fgt (s : MH) (q : Nat × Nat × Nat) (a : Nat) (f : MV → Option MO) : Option MO := match q.2.2 with
  | 0 => (fI s q.1 a q.2.1).bind fun v => f (mI v)
  | 1 => (fZ s q.1 a q.2.1).bind fun v => f (mI v)
  | 2 => (fL s q.1 a q.2.1).bind fun v => f (mL v)
  | _ => (fR s q.1 a q.2.1).bind fun v => f (mR v)
def fpt (s : MH) (q : Nat × Nat × Nat) (o : List MV) (f : List MV → MH → Option MO) : Option MO := match q.2.2 with
  | 0 => pI o fun v r => pR r fun b r => b.bind fun a => (wI s q.1 a q.2.1 v).bind fun t => f r t
  | 1 => pI o fun v r => pR r fun b r => b.bind fun a => (wZ s q.1 a q.2.1 v).bind fun t => f r t
  | 2 => pL o fun v r => pR r fun b r => b.bind fun a => (wL s q.1 a q.2.1 v).bind fun t => f r t
  | _ => pR o fun v r => pR r fun b r => b.bind fun a => (wR s q.1 a q.2.1 v).bind fun t => f r t
/-- one instruction -/
def stI (T : MT) (k : MK) (q : EN) (lo : MLs) (o : List MV) (s : MH) : Option MO := match q.1 with
  | .iconst _ => k q.2.1 lo (mI q.2.2.2.1 :: o) s
  | .bipush _ => k q.2.1 lo (mI q.2.2.2.1 :: o) s
  | .sipush _ => k q.2.1 lo (mI q.2.2.2.1 :: o) s
  | .ldc _ => k q.2.1 lo (mI q.2.2.2.1 :: o) s
  | .lconst _ => k q.2.1 lo (mL q.2.2.2.2.1 :: o) s
  | .ldc2_w _ => k q.2.1 lo (mL q.2.2.2.2.1 :: o) s
  | .aconst_null => k q.2.1 lo (mR none :: o) s
  | .iload j => lI lo j fun x => k q.2.1 lo (mI x :: o) s
  | .iload_n j => lI lo j.val fun x => k q.2.1 lo (mI x :: o) s
  | .lload j => lL lo j fun x => k q.2.1 lo (mL x :: o) s
  | .lload_n j => lL lo j.val fun x => k q.2.1 lo (mL x :: o) s
  | .aload j => lR lo j fun x => k q.2.1 lo (mR x :: o) s
  | .aload_n j => lR lo j.val fun x => k q.2.1 lo (mR x :: o) s
  | .istore j => pI o fun x r => k q.2.1 (lset lo j (mI x)) r s
  | .istore_n j => pI o fun x r => k q.2.1 (lset lo j.val (mI x)) r s
  | .astore j => pR o fun x r => k q.2.1 (lset lo j (mR x)) r s
  | .astore_n j => pR o fun x r => k q.2.1 (lset lo j.val (mR x)) r s
  | .iinc j _ => lI lo j fun x => k q.2.1 (lset lo j (mI (x + q.2.2.2.1))) o s
  | .dup => pC o fun v r => k q.2.1 lo (v :: v :: r) s
  | .pop => pC o fun _ r => k q.2.1 lo r s
  | .dup2 => pC o fun v r => pC r fun w r => k q.2.1 lo (v :: w :: v :: w :: r) s
  | .iadd => pI o fun y r => pI r fun x r => k q.2.1 lo (mI (x + y) :: r) s
  | .isub => pI o fun y r => pI r fun x r => k q.2.1 lo (mI (x - y) :: r) s
  | .imul => pI o fun y r => pI r fun x r => k q.2.1 lo (mI (x * y) :: r) s
  | .idiv => pI o fun y r => pI r fun x r => if y = 0 then none else k q.2.1 lo (mI (x / y) :: r) s
  | .irem => pI o fun y r => pI r fun x r => if y = 0 then none else k q.2.1 lo (mI (x - x / y * y) :: r) s
  | .iand => pI o fun y r => pI r fun x r => k q.2.1 lo (mI (x &&& y) :: r) s
  | .ior => pI o fun y r => pI r fun x r => k q.2.1 lo (mI (x ||| y) :: r) s
  | .ishl => pI o fun y r => pI r fun x r => k q.2.1 lo (mI (x <<< (y &&& 31)) :: r) s
  | .ishr => pI o fun y r => pI r fun x r => k q.2.1 lo (mI (x >>> (y &&& 31)) :: r) s
  | .iushr => pI o fun y r => pI r fun x r => k q.2.1 lo (mI (x.toUInt32 >>> (y.toUInt32 &&& Int32.toUInt32 31)).toInt32 :: r) s
  | .ladd => pL o fun y r => pL r fun x r => k q.2.1 lo (mL (x + y) :: r) s
  | .lmul => pL o fun y r => pL r fun x r => k q.2.1 lo (mL (x * y) :: r) s
  | .ldiv => pL o fun y r => pL r fun x r => if y = 0 then none else k q.2.1 lo (mL (x / y) :: r) s
  | .lrem => pL o fun y r => pL r fun x r => if y = 0 then none else k q.2.1 lo (mL (x - x / y * y) :: r) s
  | .land => pL o fun y r => pL r fun x r => k q.2.1 lo (mL (x &&& y) :: r) s
  | .i2l => pI o fun x r => k q.2.1 lo (mL x.toInt64 :: r) s
  | .l2i => pL o fun x r => k q.2.1 lo (mI x.toInt32 :: r) s
  | .lcmp => pL o fun y r => pL r fun x r => k q.2.1 lo (mI (lg_cmp x y) :: r) s
  | .ifCond c _ => pI o fun x r => c2 c x 0 (k q.2.2.1 lo r s) (k q.2.1 lo r s)
  | .if_icmp c _ => pI o fun y r => pI r fun x r => c2 c x y (k q.2.2.1 lo r s) (k q.2.1 lo r s)
  | .ifnull _ => pR o fun x r => cR x (k q.2.2.1 lo r s) (k q.2.1 lo r s)
  | .ifnonnull _ => pR o fun x r => cR x (k q.2.1 lo r s) (k q.2.2.1 lo r s)
  | .goto _ => k q.2.2.1 lo o s
  | .tableswitch _ _ _ _ => pI o fun x r => swt x q.2.2.1 q.2.2.2.2.2 fun pc => k pc lo r s
  | .lookupswitch _ _ => pI o fun x r => swt x q.2.2.1 q.2.2.2.2.2 fun pc => k pc lo r s
  | .getfield i => (lk i T.2.2.1).bind fun g => pR o fun b r => b.bind fun a => fgt s g a fun v => k q.2.1 lo (v :: r) s
  | .putfield i => (lk i T.2.2.1).bind fun g => fpt s g o fun r t => k q.2.1 lo r t
  | .arraylength => pR o fun b r => b.bind fun a => (aln s a).bind fun n => k q.2.1 lo (mI n :: r) s
  | .iaload => pI o fun j r => pR r fun b r => b.bind fun a => (ld s 11 a j).bind fun x => k q.2.1 lo (mI x :: r) s
  | .baload => pI o fun j r => pR r fun b r => b.bind fun a => (ld s 12 a j).bind fun x => k q.2.1 lo (mI x :: r) s
  | .aaload => pI o fun j r => pR r fun b r => b.bind fun a => (ldR s a j).bind fun x => k q.2.1 lo (mR x :: r) s
  | .iastore => pI o fun v r => pI r fun j r => pR r fun b r => b.bind fun a => (st s 11 a j v).bind fun t => k q.2.1 lo r t
  | .bastore => pI o fun v r => pI r fun j r => pR r fun b r => b.bind fun a => (st s 12 a j (vp_nar .boolean v)).bind fun t => k q.2.1 lo r t
  | .aastore => pR o fun v r => pI r fun j r => pR r fun b r => b.bind fun a => (stR s a j v).bind fun t => k q.2.1 lo r t
  | .new _ => k q.2.1 lo (mR (some (sz s)) :: o) (al s q.2.2.1 (nfl q.2.2.1))
  | .newarray _ => pI o fun n r => (nw s q.2.2.1 n).bind fun t => k q.2.1 lo (mR (some (sz s)) :: r) t
  | .anewarray _ => pI o fun n r => (nw s q.2.2.1 n).bind fun t => k q.2.1 lo (mR (some (sz s)) :: r) t
  | .multianewarray _ _ => pI o fun m r => pI r fun n r => if (¬ m < 0 ∧ m.toNatClampNeg ≤ 1000) ∧ ¬ n < 0 ∧ n.toNatClampNeg ≤ 1000 then k q.2.1 lo (mR (some (sz s)) :: r) (alM s n.toNatClampNeg m.toNatClampNeg) else none
  | .invokevirtual i => (lk i T.2.2.2.1).bind fun g => pN g.1 [] o fun as r => pR r fun b r => b.bind fun a => few r (if kd s a = g.2.1 then (g.2.2.2 (mR (some a) :: as) s).bind fun u => psh g.2.2.1 u r fun r t => k q.2.1 lo r t else none)
  | .invokespecial i => (lk i T.2.2.2.1).bind fun g => cond (Nat.beq g.2.1 98) (pR o fun b r => b.bind fun _ => few r (k q.2.1 lo r s)) (pN g.1 [] o fun as r => pR r fun b r => b.bind fun a => few r (if kd s a = g.2.1 then (g.2.2.2 (mR (some a) :: as) s).bind fun u => psh g.2.2.1 u r fun r t => k q.2.1 lo r t else none))
  | .invokestatic i => (lk i T.2.2.2.1).bind fun g => cond (Nat.beq g.2.1 97) (pI o fun n r => pI r fun dp r => pR r fun b r => pI r fun sp r => pR r fun a r => a.bind fun a => b.bind fun b => few r ((cpy s a sp b dp n).bind fun t => k q.2.1 lo r t)) (cond (Nat.beq g.2.1 96) (pI o fun y r => pI r fun x r => few r (k q.2.1 lo (mI (if x < y then y else x) :: r) s)) (cond (Nat.beq g.2.1 95) (pI o fun y r => pI r fun x r => few r (k q.2.1 lo (mI (if y < x then y else x) :: r) s)) (pN g.1 [] o fun as r => few r ((g.2.2.2 as s).bind fun u => psh g.2.2.1 u r fun r t => k q.2.1 lo r t))))
  | .ireturn => pI o fun x r => rtI T.2.2.2.2 x r s
  | .areturn => pR o fun x r => rtR T.2.2.2.2 x r s
  | .return_ => rtV T.2.2.2.2 o s
  | _ => none
def stp (T : MT) (k : MK) (pc : Nat) (lo : MLs) (o : List MV) (s : MH) : Option MO := (lk pc T.1).bind fun q => stI T k q lo o s
def msk : List Bool → MLs → MLs
  | b :: m, v :: l => cond b v none :: msk m l
  | _, _ => []
def cutAt (T : MT) (pc : Nat) (lo : MLs) : MLs := match lk pc T.2.1 with
  | none => lo
  | some m => msk m lo
def exec (T : MT) : Nat → MK
  | 0 => fun _ _ _ _ => none
  | n + 1 => stp T fun pc lo o s => exec T n pc (cutAt T pc lo) o s
/-- so many instructions at most, up to a place where the walk is cut -/
def segK (T : MT) (k : MK) : Nat → MK
  | 0 => k
  | n + 1 => stp T fun pc lo o s => match lk pc T.2.1 with
    | none => segK T k n pc lo o s
    | some m => k pc (msk m lo) o s
end
section
/-! A walk of the small machine: what an instruction does with its continuation, the walk without a count of steps, its unfolding. -/
def Lin (F : MK → Option MO) : Prop := (∃ o, ∀ k, F k = o) ∨ ∃ pc lo o s, ∀ k, F k = k pc lo o s
theorem lin_c (o : Option MO) : Lin (fun _ => o) := Or.inl ⟨o, fun _ => rfl⟩
theorem lin_k (pc : Nat) (lo : MLs) (o : List MV) (s : MH) : Lin (fun k => k pc lo o s) := Or.inr ⟨pc, lo, o, s, fun _ => rfl⟩
theorem lin_ite (c : Prop) [h : Decidable c] {F G : MK → Option MO} (hF : Lin F) (hG : Lin G) : Lin (fun k => if c then F k else G k) := by
  by_cases hc : c
  · simp only [hc, if_true]; exact hF
  · simp only [hc, if_false]; exact hG
theorem lin_cond (b : Bool) {F G : MK → Option MO} (hF : Lin F) (hG : Lin G) : Lin (fun k => cond b (F k) (G k)) := by
  cases b
  · exact hG
  · exact hF
theorem lin_bind {α : Type} (x : Option α) {F : α → MK → Option MO} (h : ∀ a, Lin (F a)) : Lin (fun k => x.bind fun a => F a k) := by
  cases x with
  | none => exact lin_c none
  | some a => exact h a
theorem lin_pI (o : List MV) {F : Int32 → List MV → MK → Option MO} (h : ∀ x r, Lin (F x r)) : Lin (fun k => pI o fun x r => F x r k) := by
  unfold pI
  split
  · exact h _ _
  · exact lin_c none
theorem lin_pL (o : List MV) {F : Int64 → List MV → MK → Option MO} (h : ∀ x r, Lin (F x r)) : Lin (fun k => pL o fun x r => F x r k) := by
  unfold pL
  split
  · exact h _ _
  · exact lin_c none
theorem lin_pR (o : List MV) {F : Option Nat → List MV → MK → Option MO} (h : ∀ x r, Lin (F x r)) : Lin (fun k => pR o fun x r => F x r k) := by
  unfold pR
  split
  · exact h _ _
  · exact lin_c none
theorem lin_pC (o : List MV) {F : MV → List MV → MK → Option MO} (h : ∀ x r, Lin (F x r)) : Lin (fun k => pC o fun x r => F x r k) := by
  unfold pC
  split
  · exact h _ _
  · exact h _ _
  · exact lin_c none
theorem lin_pN (n : Nat) : ∀ (acc o : List MV) {F : List MV → List MV → MK → Option MO} (_ : ∀ x r, Lin (F x r)), Lin (fun k => pN n acc o fun x r => F x r k) := by
  induction n with
  | zero => intro acc o F h; exact h _ _
  | succ n ih =>
    intro acc o F h
    cases o with
    | nil => exact lin_c none
    | cons v r => exact ih (v :: acc) r h
theorem lin_lI (lo : MLs) (j : Nat) {F : Int32 → MK → Option MO} (h : ∀ x, Lin (F x)) : Lin (fun k => lI lo j fun x => F x k) := by
  unfold lI
  split
  · exact h _
  · exact lin_c none
theorem lin_lL (lo : MLs) (j : Nat) {F : Int64 → MK → Option MO} (h : ∀ x, Lin (F x)) : Lin (fun k => lL lo j fun x => F x k) := by
  unfold lL
  split
  · exact h _
  · exact lin_c none
theorem lin_lR (lo : MLs) (j : Nat) {F : Option Nat → MK → Option MO} (h : ∀ x, Lin (F x)) : Lin (fun k => lR lo j fun x => F x k) := by
  unfold lR
  split
  · exact h _
  · exact lin_c none
theorem lin_swt (x : Int32) (d : Nat) (l : List (Int32 × Nat)) {F : Nat → MK → Option MO} (h : ∀ x, Lin (F x)) : Lin (fun k => swt x d l fun x => F x k) := by
  induction l with
  | nil => exact h _
  | cons q l ih => exact lin_ite (x = q.1) (h q.2) ih
theorem lin_psh (rk : Nat) (u : MO) (r : List MV) {F : List MV → MH → MK → Option MO} (h : ∀ x r, Lin (F x r)) : Lin (fun k => psh rk u r fun x r => F x r k) := by
  unfold psh
  split
  · exact lin_bind _ fun _ => h _ _
  · exact lin_bind _ fun _ => h _ _
  · exact lin_bind _ fun _ => h _ _
theorem lin_few (r : List MV) {F : MK → Option MO} (h : Lin F) : Lin (fun k => few r (F k)) := lin_cond _ h (lin_c none)
theorem lin_c2 (c : Jvm.ClassFile.Cond) (x y : Int32) {F G : MK → Option MO} (hF : Lin F) (hG : Lin G) : Lin (fun k => c2 c x y (F k) (G k)) := by
  cases c
  · exact lin_ite _ hF hG
  · exact lin_ite _ hG hF
  · exact lin_ite _ hF hG
  · exact lin_ite _ hF hG
  · exact lin_ite _ hF hG
  · exact lin_ite _ hF hG
theorem lin_cR (r : Option Nat) {F G : MK → Option MO} (hF : Lin F) (hG : Lin G) : Lin (fun k => cR r (F k) (G k)) := by
  cases r
  · exact hF
  · exact hG
theorem lin_fgt (s : MH) (q : Nat × Nat × Nat) (a : Nat) {F : MV → MK → Option MO} (h : ∀ x, Lin (F x)) : Lin (fun k => fgt s q a fun x => F x k) := by
  unfold fgt
  split
  · exact lin_bind _ fun _ => h _
  · exact lin_bind _ fun _ => h _
  · exact lin_bind _ fun _ => h _
  · exact lin_bind _ fun _ => h _
theorem lin_fpt (s : MH) (q : Nat × Nat × Nat) (o : List MV) {F : List MV → MH → MK → Option MO} (h : ∀ x r, Lin (F x r)) : Lin (fun k => fpt s q o fun x r => F x r k) := by
  unfold fpt
  split
  · exact lin_pI _ fun _ _ => lin_pR _ fun _ _ => lin_bind _ fun _ => lin_bind _ fun _ => h _ _
  · exact lin_pI _ fun _ _ => lin_pR _ fun _ _ => lin_bind _ fun _ => lin_bind _ fun _ => h _ _
  · exact lin_pL _ fun _ _ => lin_pR _ fun _ _ => lin_bind _ fun _ => lin_bind _ fun _ => h _ _
  · exact lin_pR _ fun _ _ => lin_pR _ fun _ _ => lin_bind _ fun _ => lin_bind _ fun _ => h _ _
set_option maxHeartbeats 4000000 in
theorem lin_stI (T : MT) (q : EN) (lo : MLs) (o : List MV) (s : MH) : Lin (fun k => stI T k q lo o s) := by
  obtain ⟨i, nx, tg, cv, cl, sw⟩ := q
  cases i <;> dsimp only [stI] <;>
    repeat' (first
      | exact lin_c _
      | exact lin_k _ _ _ _
      | (refine lin_pI _ fun _ _ => ?_)
      | (refine lin_pL _ fun _ _ => ?_)
      | (refine lin_pR _ fun _ _ => ?_)
      | (refine lin_pC _ fun _ _ => ?_)
      | (refine lin_pN _ _ _ fun _ _ => ?_)
      | (refine lin_lI _ _ fun _ => ?_)
      | (refine lin_lL _ _ fun _ => ?_)
      | (refine lin_lR _ _ fun _ => ?_)
      | (refine lin_swt _ _ _ fun _ => ?_)
      | (refine lin_psh _ _ _ fun _ _ => ?_)
      | (refine lin_fgt _ _ _ fun _ => ?_)
      | (refine lin_fpt _ _ _ fun _ _ => ?_)
      | (refine lin_few _ ?_)
      | (refine lin_c2 _ _ _ ?_ ?_)
      | (refine lin_cR _ ?_ ?_)
      | (refine lin_bind _ fun _ => ?_)
      | (refine lin_ite _ ?_ ?_)
      | (refine lin_cond _ ?_ ?_))
theorem lin_stp (T : MT) (pc : Nat) (lo : MLs) (o : List MV) (s : MH) : (∃ q, ∀ k, stp T k pc lo o s = q) ∨ ∃ pc' lo' o' s', ∀ k : MK, stp T k pc lo o s = k pc' lo' o' s' := lin_bind _ fun q => lin_stI T q lo o s
theorem exec_succ {T : MT} : ∀ (n : Nat) {pc : Nat} {lo : MLs} {o : List MV} {s : MH} {r : MO}, exec T n pc lo o s = some r → exec T (n + 1) pc lo o s = some r := by
  intro n
  induction n with
  | zero => intro pc lo o s r h; cases h
  | succ n ih =>
    intro pc lo o s r h
    have e1 : exec T (n + 1) pc lo o s = stp T (fun pc lo o s => exec T n pc (cutAt T pc lo) o s) pc lo o s := rfl
    have e2 : exec T (n + 1 + 1) pc lo o s = stp T (fun pc lo o s => exec T (n + 1) pc (cutAt T pc lo) o s) pc lo o s := rfl
    rw [e1] at h
    rw [e2]
    rcases lin_stp T pc lo o s with ⟨q, hq⟩ | ⟨pc', lo', o', s', hq⟩
    · rw [hq] at h ⊢; exact h
    · rw [hq] at h ⊢; exact ih h
theorem exec_add {T : MT} {n : Nat} {pc : Nat} {lo : MLs} {o : List MV} {s : MH} {r : MO} (h : exec T n pc lo o s = some r) : ∀ k : Nat, exec T (n + k) pc lo o s = some r
  | 0 => h
  | k + 1 => exec_succ (n + k) (exec_add h k)
theorem exec_det {T : MT} {n m : Nat} {pc : Nat} {lo : MLs} {o : List MV} {s : MH} {r r' : MO} (h : exec T n pc lo o s = some r) (h' : exec T m pc lo o s = some r') : r = r' := by
  have h1 := exec_add h m
  have h2 := exec_add h' n
  rw [Nat.add_comm m n] at h2
  exact Option.some.inj (h1.symm.trans h2)
noncomputable def Ev (T : MT) : MK := fun pc lo o s => @dite (Option MO) (∃ (r : MO) (n : Nat), exec T n pc lo o s = some r) (Classical.propDecidable _) (fun h => some (Classical.choose h)) (fun _ => none)
theorem Ev_of {T : MT} {n : Nat} {pc : Nat} {lo : MLs} {o : List MV} {s : MH} {r : MO} (h : exec T n pc lo o s = some r) : Ev T pc lo o s = some r := by
  have hx : ∃ (r : MO) (n : Nat), exec T n pc lo o s = some r := ⟨r, n, h⟩
  unfold Ev
  rw [dif_pos hx]
  obtain ⟨m, hm⟩ := Classical.choose_spec hx
  exact congrArg some (exec_det hm h)
theorem Ev_ex {T : MT} {pc : Nat} {lo : MLs} {o : List MV} {s : MH} {r : MO} (h : Ev T pc lo o s = some r) : ∃ n, exec T n pc lo o s = some r := by
  by_cases hx : ∃ (r : MO) (n : Nat), exec T n pc lo o s = some r
  · obtain ⟨r', n, hr⟩ := hx
    have := Ev_of hr
    rw [h] at this
    exact ⟨n, by rw [hr, ← this]⟩
  · unfold Ev at h
    rw [dif_neg hx] at h
    cases h
theorem Ev_unf (T : MT) (pc : Nat) (lo : MLs) (o : List MV) (s : MH) : Ev T pc lo o s = stp T (fun pc lo o s => Ev T pc (cutAt T pc lo) o s) pc lo o s := by
  have key : ∀ r, Ev T pc lo o s = some r ↔ stp T (fun pc lo o s => Ev T pc (cutAt T pc lo) o s) pc lo o s = some r := by
    intro r
    constructor
    · intro h
      obtain ⟨n, hn⟩ := Ev_ex h
      cases n with
      | zero => cases hn
      | succ n =>
        have e1 : exec T (n + 1) pc lo o s = stp T (fun pc lo o s => exec T n pc (cutAt T pc lo) o s) pc lo o s := rfl
        rw [e1] at hn
        rcases lin_stp T pc lo o s with ⟨q, hq⟩ | ⟨pc', lo', o', s', hq⟩
        · rw [hq] at hn ⊢; exact hn
        · rw [hq] at hn ⊢; exact Ev_of hn
    · intro h
      rcases lin_stp T pc lo o s with ⟨q, hq⟩ | ⟨pc', lo', o', s', hq⟩
      · refine Ev_of (n := 1) ?_
        have e1 : exec T 1 pc lo o s = stp T (fun pc lo o s => exec T 0 pc (cutAt T pc lo) o s) pc lo o s := rfl
        rw [e1]
        rw [hq] at h ⊢; exact h
      · rw [hq] at h
        obtain ⟨n, hn⟩ := Ev_ex h
        refine Ev_of (n := n + 1) ?_
        have e1 : exec T (n + 1) pc lo o s = stp T (fun pc lo o s => exec T n pc (cutAt T pc lo) o s) pc lo o s := rfl
        rw [e1, hq]
        exact hn
  cases h : Ev T pc lo o s with
  | some r => exact ((key r).mp h).symm
  | none =>
    cases h2 : stp T (fun pc lo o s => Ev T pc (cutAt T pc lo) o s) pc lo o s with
    | none => rfl
    | some r => rw [(key r).mpr h2] at h; cases h
theorem Ev_seg (T : MT) : ∀ (n : Nat) (pc : Nat) (lo : MLs) (o : List MV) (s : MH), Ev T pc lo o s = segK T (Ev T) n pc lo o s := by
  intro n
  induction n with
  | zero => intro pc lo o s; rfl
  | succ n ih =>
    intro pc lo o s
    rw [Ev_unf]
    show stp T _ pc lo o s = stp T _ pc lo o s
    congr 1
    funext pc lo o s
    unfold cutAt
    cases lk pc T.2.1 with
    | none => exact ih pc lo o s
    | some m => rfl
/-- a method by its table: its arguments are the first locals, so many locals in all -/
noncomputable def runM (T : MT) (nL : Nat) : MF := fun as s => Ev T 0 (as.map some ++ List.replicate (nL - as.length) none) [] s
end
section
/-! The small machine's heap beside the machine's: which cell stands at base + a, and that it stays so behind each write. -/
def RXc (c : Nat) : String := match c with
  | 0 => RX0 | 1 => RX1 | 2 => RX2 | 3 => RX3 | 4 => RX4 | 5 => RX5 | 6 => RX6 | 7 => RX7 | 8 => RX8 | 9 => RX9 | _ => RX10
def TXc (c : Nat) : u_T := match c with
  | 0 => TX0 | 1 => TX1 | 2 => TX2 | 3 => TX3 | 4 => TX4 | 5 => TX5 | 6 => TX6 | 7 => TX7 | 8 => TX8 | 9 => TX9 | _ => TX10
def tyc (c : Nat) : Nat → FieldType := match c with
  | 0 => tyX0 | 1 => tyX1 | 2 => tyX2 | 3 => tyX3 | 4 => tyX4 | 5 => tyX5 | 6 => tyX6 | 7 => tyX7 | 8 => tyX8 | 9 => tyX9 | _ => tyX10
def mcl : List vw_C := [(RX0, TX0, 3), (RX1, TX1, 17), (RX2, TX2, 7), (RX3, TX3, 7), (RX4, TX4, 2), (RX5, TX5, 2), (RX6, TX6, 7), (RX7, TX7, 9), (RX8, TX8, 4), (RX9, TX9, 16), (RX10, TX10, 43)]
theorem le10 {P : Nat → Prop} (h0 : P 0) (h1 : P 1) (h2 : P 2) (h3 : P 3) (h4 : P 4) (h5 : P 5) (h6 : P 6) (h7 : P 7) (h8 : P 8) (h9 : P 9) (h10 : P 10) : ∀ c, c ≤ 10 → P c
  | 0, _ => h0 | 1, _ => h1 | 2, _ => h2 | 3, _ => h3 | 4, _ => h4 | 5, _ => h5 | 6, _ => h6 | 7, _ => h7 | 8, _ => h8 | 9, _ => h9 | 10, _ => h10
  | n + 11, h => absurd h (by omega)
theorem mcl_at : ∀ c, c ≤ 10 → mcl[c]? = some (RXc c, TXc c, nfl c) := le10 rfl rfl rfl rfl rfl rfl rfl rfl rfl rfl rfl
theorem ty_ok : ∀ c, c ≤ 10 → ∀ k, k < nfl c → parseFieldDescriptor (TXc c k).2.2.1 = some (tyc c k) := le10 tyX0_ok tyX1_ok tyX2_ok tyX3_ok tyX4_ok tyX5_ok tyX6_ok tyX7_ok tyX8_ok tyX9_ok tyX10_ok
theorem nm_ok : ∀ c, c ≤ 10 → ∀ a, a < nfl c → ∀ b, b < nfl c → a ≠ b → (TXc c a).2.1 ≠ (TXc c b).2.1 := le10 nmX0 nmX1 nmX2 nmX3 nmX4 nmX5 nmX6 nmX7 nmX8 nmX9 nmX10
theorem own_ok : ∀ c, c ≤ 10 → ∀ k, k < nfl c → (TXc c k).1 = RXc c := by
  refine le10 ?_ ?_ ?_ ?_ ?_ ?_ ?_ ?_ ?_ ?_ ?_ <;> decide +kernel
def isNestW (w : Cond) : Bool := match w with
  | .fieldLinkNest .. => true
  | .methodLinkNest .. => true
  | _ => false
def lw_nest : List Cond := tables_1.filter isNestW
def lw_good : List Cond := lw_tbl.filter goodWord
theorem lw_goodIn : GoodIn lw_good lw_good := fun w h => ⟨h, good_of_word (List.mem_filter.mp h).2⟩
theorem in_good {w : Cond} (h : w ∈ tables_1) (g : goodWord w = true) : w ∈ lw_good := List.mem_filter.mpr ⟨List.mem_append_right _ h, g⟩
theorem in_nest {w : Cond} (h : w ∈ tables_1) (g : isNestW w = true) : w ∈ lw_nest := List.mem_filter.mpr ⟨h, g⟩
/-- words by their places -/
theorem in_places {ws : List Cond} (ps : List Nat) (hp : ws = ps.filterMap (fun i => tables_1[i]?)) (h : ws.all goodWord = true) : ∀ w ∈ ws, w ∈ lw_good := by
  intro w hw
  have h1 := List.all_eq_true.mp h w hw
  rw [hp] at hw
  obtain ⟨i, -, hi⟩ := List.mem_filterMap.mp hw
  exact in_good (List.mem_of_getElem? hi) h1
def mval (base : Nat) (v : MV) : Value := match v with
  | Sum.inl x => .int x
  | Sum.inr (Sum.inl x) => .long x
  | Sum.inr (Sum.inr r) => va_rf (r.map (fun a => base + a))
def ftc (t : FieldType) : Nat := match t with
  | .int => 0
  | .boolean => 1
  | .long => 2
  | _ => 3
/-- a field's value by its type -/
def mfv (base : Nat) (s : MH) (a k : Nat) (t : Nat) : Value := match t with
  | 0 => .int (s.1 a k)
  | 1 => .int (bz (s.1 a k))
  | 2 => .long (s.2.1 a k)
  | _ => va_rf ((s.2.2.1 a k).map (fun a => base + a))
def mfs (base : Nat) (s : MH) (a c : Nat) : List Value := (List.range (nfl c)).map fun k => mfv base s a k (ftc (tyc c k))
def mcell (cy : Nat → ClassId) (base : Nat) (s : MH) (a : Nat) : va_E :=
  if kd s a ≤ 10 then .inr (kd s a, mfs base s a (kd s a))
  else if kd s a ≤ 12 then .inl (cy (kd s a), ln s a, .inl (s.1 a))
  else .inl (cy (kd s a), ln s a, .inr (.inr (.inr (.inr fun j => (s.2.2.1 a j).map (fun a => base + a)))))
def mty (cy : Nat → ClassId) : List (ClassId × FieldType) := [(cy 11, .int), (cy 12, .boolean), (cy 13, .object RX4), (cy 14, .object RX7), (cy 15, .object RX8), (cy 16, .array .int)]
def HR (D : va_G) (cy : Nat → ClassId) (base : Nat) (s : MH) (H : Heap) : Prop :=
  H.size = base + sz s ∧ (∀ a, a < sz s → kd s a ≤ 16 ∧ va_at D mcl (base + a, mcell cy base s a) H) ∧ ∀ a, sz s ≤ a → kd s a = 17
theorem HR.lt {D : va_G} {cy : Nat → ClassId} {base : Nat} {s : MH} {H : Heap} (h : HR D cy base s H) {a : Nat} (hk : kd s a ≤ 16) : a < sz s := by
  rcases Nat.lt_or_ge a (sz s) with q | q
  · exact q
  · have := h.2.2 a q; omega
theorem HR.cell {D : va_G} {cy : Nat → ClassId} {base : Nat} {s : MH} {H : Heap} (h : HR D cy base s H) {a : Nat} (hk : kd s a ≤ 16) : va_at D mcl (base + a, mcell cy base s a) H := (h.2.1 a (h.lt hk)).2
theorem HR.obj {D : va_G} {cy : Nat → ClassId} {base : Nat} {s : MH} {H : Heap} (h : HR D cy base s H) {a c : Nat} (hk : kd s a = c) (hc : c ≤ 10) : va_at D mcl (base + a, .inr (c, mfs base s a c)) H := by
  subst hk
  have := h.cell (a := a) (by omega)
  unfold mcell at this
  rw [if_pos hc] at this
  exact this
theorem HR.ints {D : va_G} {cy : Nat → ClassId} {base : Nat} {s : MH} {H : Heap} (h : HR D cy base s H) {a d : Nat} (hk : kd s a = d) (h1 : 11 ≤ d) (h2 : d ≤ 12) : va_at D mcl (base + a, .inl (cy d, ln s a, .inl (s.1 a))) H := by
  subst hk
  have := h.cell (a := a) (by omega)
  unfold mcell at this
  rw [if_neg (by omega), if_pos h2] at this
  exact this
theorem HR.refs {D : va_G} {cy : Nat → ClassId} {base : Nat} {s : MH} {H : Heap} (h : HR D cy base s H) {a d : Nat} (hk : kd s a = d) (h1 : 13 ≤ d) (h2 : d ≤ 16) : va_at D mcl (base + a, .inl (cy d, ln s a, .inr (.inr (.inr (.inr fun j => (s.2.2.1 a j).map (fun a => base + a)))))) H := by
  subst hk
  have := h.cell (a := a) (by omega)
  unfold mcell at this
  rw [if_neg (by omega), if_neg (by omega)] at this
  exact this
/-- one cell was written -/
theorem HR.upd {D : va_G} {cy : Nat → ClassId} {base : Nat} {s s' : MH} {H H1 : Heap} (h : HR D cy base s H) (hz : sz s' = sz s) (hs : s'.2.2.2.1 = s.2.2.2.1) {a : Nat} (hcell : va_at D mcl (base + a, mcell cy base s' a) H1) (hsize : H1.size = H.size) (ho : ∀ q : Nat, q ≠ base + a → H1[q]? = H[q]?) (hb : ∀ b, b ≠ a → mcell cy base s' b = mcell cy base s b) : HR D cy base s' H1 := by
  have hk : ∀ b, kd s' b = kd s b := fun b => by show (s'.2.2.2.1 b).1 = _; rw [hs]
  refine ⟨by rw [hsize, hz]; exact h.1, fun b hbz => ?_, fun b hbz => by rw [hk]; exact h.2.2 b (by rw [← hz]; exact hbz)⟩
  rw [hz] at hbz
  refine ⟨by rw [hk]; exact (h.2.1 b hbz).1, ?_⟩
  by_cases e : b = a
  · subst e; exact hcell
  · rw [hb b e]
    exact (h.2.1 b hbz).2.kept (ho _ (by show base + b ≠ base + a; omega))
theorem mcell_same {cy : Nat → ClassId} {base : Nat} {s s' : MH} {b : Nat} (h0 : s'.2.2.2.1 b = s.2.2.2.1 b) (h1 : s'.1 b = s.1 b) (h2 : s'.2.1 b = s.2.1 b) (h3 : s'.2.2.1 b = s.2.2.1 b) : mcell cy base s' b = mcell cy base s b := by
  have e : mfs base s' b = mfs base s b := by
    funext c
    unfold mfs
    congr 1
    funext k
    unfold mfv
    rw [h1, h2, h3]
  have hk : kd s' b = kd s b := by show (s'.2.2.2.1 b).1 = _; rw [h0]
  have hl : ln s' b = ln s b := by show (s'.2.2.2.1 b).2 = _; rw [h0]
  unfold mcell
  rw [hk, hl, h1, h3, e]
theorem up2_ne {α : Type} (f : Nat → Nat → α) (a k : Nat) (v : α) {b : Nat} (h : b ≠ a) : up2 f a k v b = f b := by
  funext y
  simp [up2, h]
theorem up2_at {α : Type} (f : Nat → Nat → α) (a k : Nat) (v : α) (j : Nat) : up2 f a k v a j = if j = k then v else f a j := by
  simp [up2]
theorem mfs_len (base : Nat) (s : MH) (a c : Nat) : (mfs base s a c).length = nfl c := by simp [mfs]
theorem mfs_get (base : Nat) (s : MH) (a : Nat) {c k : Nat} (hk : k < nfl c) : (mfs base s a c)[k]? = some (mfv base s a k (ftc (tyc c k))) := by
  simp [mfs, hk]
/-- a row of fields with one of them written -/
theorem mfs_set {base : Nat} {s s' : MH} {a c k : Nat} {v : Value} (hv : mfv base s' a k (ftc (tyc c k)) = v) (ho : ∀ j, j ≠ k → ∀ t, mfv base s' a j t = mfv base s a j t) : (mfs base s a c).set k v = mfs base s' a c := by
  apply List.ext_getElem?
  intro j
  rw [List.getElem?_set]
  by_cases hj : j < nfl c
  · rw [mfs_get base s' a hj, mfs_get base s a hj]
    by_cases e : k = j
    · subst e
      rw [if_pos rfl, if_pos (by rw [mfs_len]; exact hj), hv]
    · rw [if_neg e, ho j (Ne.symm e)]
  · have h1 : (mfs base s a c)[j]? = none := by rw [List.getElem?_eq_none]; rw [mfs_len]; omega
    have h2 : (mfs base s' a c)[j]? = none := by rw [List.getElem?_eq_none]; rw [mfs_len]; omega
    rw [h1, h2]
    by_cases e : k = j
    · subst e
      rw [if_pos rfl, if_neg (by rw [mfs_len]; exact hj)]
    · rw [if_neg e]
end
section
/-! Rows: an instruction of the machine that reads or writes the heap, over HR. -/
section ROWS
variable {p : Program} {l : Launch} {e : Env} {R : Room} {s : State} {m : MethodId} {args : Array Value} {below : List Frame} {meth : Method} {c : Code} {H : Heap} {locs : List Loc} {cells slots : Nat} {Q : State → Prop}
variable {cc : ByteArray} {pc : Nat} {ls : Array Slot} {rest : List Value} {D : va_G} {cy : Nat → ClassId} {base : Nat} {H0 : Heap} {u : MH}
/-- the fields' words stand among the good ones -/
def FW : Prop := ∀ ci, ci ≤ 10 → ∀ w ∈ u_ws (RXc ci) (TXc ci) (nfl ci), w ∈ lw_good
/-- an entry of a class that names a field -/
def FLk (own : String) (i ci fk : Nat) (s : State) (args : Array Value) : Prop := (Cond.fieldLink own i (RXc ci) (TXc ci fk).2.1 (TXc ci fk).2.2.1).before args s = true ∨ (Cond.fieldLinkNest own i (RXc ci) (TXc ci fk).2.1 (TXc ci fk).2.2.1 "NameKeeper").before args s = true
theorem hr_get (hF : FW) (hx : p.tables.exec = Jvm.exec) (hb : c.code = cc) (hts : ∀ w ∈ lw_good, w.before args s = true) {own : String} (hown : s.vm.findClass own = some m.cls) (hK : va_K D mcl (mty cy) s) (hH : HR D cy base u H) {a ci fk i : Nat} (hk : kd u a = ci) (hci : ci ≤ 10) (hfk : fk < nfl ci) (hlink : FLk own i ci fk s args) (hdg : decode cc pc = .ok (.getfield i, 3))
    (kk : W p l e R s m args below meth c H locs cells slots Q (F0 m (pc + 3) ls (mfv base u a fk (ftc (tyc ci fk)) :: rest))) : W p l e R s m args below meth c H locs cells slots Q (F0 m pc ls (.ref (base + a) :: rest)) := by
  have hP : va_P D mcl [(base + a, .inr (ci, mfs base u a ci))] H := fun k q hq => by
    cases k with
    | zero => cases hq; exact hH.obj hk hci
    | succ k => simp at hq
  have hsame : ∀ x, s.fieldFound? (TXc ci fk).1 (TXc ci fk).2.1 (TXc ci fk).2.2.1 = some x → s.fieldFound? (RXc ci) (TXc ci fk).2.1 (TXc ci fk).2.2.1 = some x := fun x h => by rw [← own_ok ci hci fk hfk]; exact h
  rcases hlink with h | h
  · exact va_get hx hb hts (hF ci hci) hown hK hP 0 rfl (mcl_at ci hci) fk hfk h hsame (mfs_get base u a hfk) hdg kk
  · exact va_getN hx hb hts (hF ci hci) hown hK hP 0 rfl (mcl_at ci hci) fk hfk h hsame (mfs_get base u a hfk) hdg kk
theorem va_S.wr {A : Nat → Prop} {H0 H H1 : Heap} {locs L : List Loc} {a : Nat} (h : va_S A H0 H locs) (z : H1.size = H.size) (oq : ∀ q : Nat, q ≠ a → H1[q]? = H[q]?) (ha : A a) (hL : ∀ q ∈ L, q.base = a) : va_S A H0 H1 (locs ++ L) := by
  refine ⟨by rw [z]; exact h.1, fun q h1 h2 => ?_, fun q hq => ?_⟩
  · rw [oq q (fun e => h2 (by rw [e]; exact ha))]
    exact h.2.1 q h1 h2
  · rcases List.mem_append.mp hq with h1 | h1
    · exact h.2.2 q h1
    · rw [hL q h1]; exact ha
/-- putfield: the value v of the field fk, s' the heap behind it -/
theorem hr_put (hF : FW) (hx : p.tables.exec = Jvm.exec) (hb : c.code = cc) (hts : ∀ w ∈ lw_good, w.before args s = true) {own : String} (hown : s.vm.findClass own = some m.cls) (hK : va_K D mcl (mty cy) s) (hH : HR D cy base u H) (hS : va_S (fun q => base ≤ q) H0 H locs) {a ci fk i : Nat} (hk : kd u a = ci) (hci : ci ≤ 10) (hfk : fk < nfl ci) (hlink : FLk own i ci fk s args)
    (hfin : (TXc ci fk).2.2.2 = false ∨ (meth.name = "<init>" ∧ RXc ci = own ∧ (Cond.fieldLink own i (RXc ci) (TXc ci fk).2.1 (TXc ci fk).2.2.1).before args s = true)) {v : Value} (hn : narrow (tyc ci fk) v = v) (hfit : fits (tyc ci fk) v = true) {u' : MH} (hz : sz u' = sz u) (hs : u'.2.2.2.1 = u.2.2.2.1) (hv : mfv base u' a fk (ftc (tyc ci fk)) = v) (ho : ∀ j, j ≠ fk → ∀ t, mfv base u' a j t = mfv base u a j t) (hb2 : ∀ b, b ≠ a → mcell cy base u' b = mcell cy base u b)
    (hdg : decode cc pc = .ok (.putfield i, 3)) (kk : ∀ (H1 : Heap) (locs1 : List Loc), HR D cy base u' H1 → va_S (fun q => base ≤ q) H0 H1 locs1 → W p l e R s m args below meth c H1 locs1 cells slots Q (F0 m (pc + 3) ls rest)) : W p l e R s m args below meth c H locs cells slots Q (F0 m pc ls (v :: .ref (base + a) :: rest)) := by
  have hc := mcl_at ci hci
  have hap := va_apart (own := own) hts (hF ci hci) (tyc ci) (ty_ok ci hci) (nm_ok ci hci) hK hc
  obtain ⟨r, h1, cell, q1, q2, q3, q4⟩ := hH.obj hk hci
  have hr : r = (RXc ci, TXc ci, nfl ci) := Option.some.inj (h1.symm.trans hc)
  subst hr
  obtain ⟨hSl, hfc, kC, hkC, hkind⟩ := hK.1 ci _ hc
  obtain ⟨cf, kf, fi, f, hi, hsl⟩ := hSl fk hfk
  have hd := ty_ok ci hci fk hfk
  have hlay0 := u_lays hts (hF ci hci) hfk
  have hst := (u_facts hfc hkC hlay0 hi).1
  have hi2 : s.fieldFound? (RXc ci) (TXc ci fk).2.1 (TXc ci fk).2.2.1 = some (cf, kf, fi, f) := by rw [← own_ok ci hci fk hfk]; exact hi
  have hkd : kd u' a = ci := by show (u'.2.2.2.1 a).1 = ci; rw [hs]; exact hk
  have fin : ∀ H' : Heap, H'[base + a]? = some (cell.setSlot f.slot v) → H'.size = H.size → (∀ q, q ≠ base + a → H'[q]? = H[q]?) → W p l e R s m args below meth c H' (locs ++ [⟨base + a, f.slot⟩]) cells slots Q (F0 m (pc + 3) ls rest) := by
    intro H' e1 e2 e3
    rw [hsl] at e1 ⊢
    refine kk H' _ (hH.upd hz hs (a := a) ?_ e2 e3 hb2) (hS.wr e2 e3 (Nat.le_add_right _ _) (fun q hq => by rw [List.mem_singleton.mp hq]))
    unfold mcell
    rw [hkd, if_pos hci]
    have := mfs_set (c := ci) hv ho
    rw [← this]
    exact ⟨_, hc, t_OB.to (V := updV (vp_V (mfs base u a ci)) fk v) ⟨_, e1, q2, q3, t_set q4 hap hfk v⟩ (fun j _ => vp_updV_set (by rw [mfs_len]; exact hfk) v j)⟩
  have hsz : f.slot < cell.slots.size := by rw [hsl]; exact k2_hasslot (q4 fk hfk)
  cases hff : (TXc ci fk).2.2.2 with
  | false =>
    have hlay := hts _ (hF ci hci _ (u_in_lay hfk))
    unfold u_lay at hlay
    rw [if_neg (by rw [hff]; decide)] at hlay
    have h6 := u_store hfc hkC hkind hlay hi hd hn hfit
    rcases hlink with hl | hl
    · exact W.putK hx hb (f := f) ⟨hown, hl, ⟨_, _, _, hi2⟩, hst⟩ (by rw [q2]; exact h6) q1 q3 hsz rfl rfl hdg fin
    · exact va_WputK hx hb (f := f) hown hl hi2 hst (by rw [q2]; exact h6) q1 q3 hsz rfl rfl hdg fin
  | true =>
    rcases hfin with hfin | ⟨hin2, hdecl, hl⟩
    · rw [hff] at hfin; cases hfin
    · have hlay := hts _ (hF ci hci _ (u_in_lay hfk))
      unfold u_lay at hlay
      rw [if_pos hff] at hlay
      have hcf : m.cls = cf := by
        obtain ⟨_, _, c', _, _, _, -, -, hf', -, -, -, hown2, -⟩ := Cond.laysFinal_spec hlay
        have e1 : c' = cf := by have := hi.symm.trans hf'; simp at this; exact this.1.symm
        rw [own_ok ci hci fk hfk, hdecl] at hown2
        rw [← e1]; exact Option.some.inj (hown.symm.trans hown2)
      have h6 := u_fits hfc hkC hkind (Or.inr hlay) hi hd hn hfit
      exact W.putFinK hx hb hown hl hi2 hst hcf hin2 (by rw [q2]; exact h6) q1 q3 hsz rfl rfl hdg fin
theorem hr_len (hx : p.tables.exec = Jvm.exec) (hb : c.code = cc) (hK : va_K D mcl (mty cy) s) (hH : HR D cy base u H) {a : Nat} (h1 : 11 ≤ kd u a) (h2 : kd u a ≤ 16) (hdg : decode cc pc = .ok (.arraylength, 1))
    (kk : W p l e R s m args below meth c H locs cells slots Q (F0 m (pc + 1) ls (.int (Int32.ofNat (ln u a)) :: rest))) : W p l e R s m args below meth c H locs cells slots Q (F0 m pc ls (.ref (base + a) :: rest)) := by
  have hcell := hH.cell (a := a) h2
  unfold mcell at hcell
  rw [if_neg (by omega)] at hcell
  have go : ∀ (x : vp_A), x.1 = ln u a → va_at D mcl (base + a, .inl (cy (kd u a), x)) H → W p l e R s m args below meth c H locs cells slots Q (F0 m pc ls (.ref (base + a) :: rest)) := by
    intro x hxl hat
    have hP : va_P D mcl [(base + a, .inl (cy (kd u a), x))] H := fun k q hq => by
      cases k with
      | zero => cases hq; exact hat
      | succ k => simp at hq
    have hd : kd u a = 11 ∨ kd u a = 12 ∨ kd u a = 13 ∨ kd u a = 14 ∨ kd u a = 15 ∨ kd u a = 16 := by omega
    rcases hd with hd | hd | hd | hd | hd | hd <;> rw [hd] at hP
    · exact va_alen hx hb hK hP 0 0 rfl (ty := .int) rfl (by rw [hxl]) hdg kk
    · exact va_alen hx hb hK hP 0 1 rfl (ty := .boolean) rfl (by rw [hxl]) hdg kk
    · exact va_alen hx hb hK hP 0 2 rfl (ty := .object RX4) rfl (by rw [hxl]) hdg kk
    · exact va_alen hx hb hK hP 0 3 rfl (ty := .object RX7) rfl (by rw [hxl]) hdg kk
    · exact va_alen hx hb hK hP 0 4 rfl (ty := .object RX8) rfl (by rw [hxl]) hdg kk
    · exact va_alen hx hb hK hP 0 5 rfl (ty := .array .int) rfl (by rw [hxl]) hdg kk
  by_cases h12 : kd u a ≤ 12
  · rw [if_pos h12] at hcell; exact go _ rfl hcell
  · rw [if_neg h12] at hcell; exact go _ rfl hcell
theorem hr_iald (hx : p.tables.exec = Jvm.exec) (hb : c.code = cc) (hK : va_K D mcl (mty cy) s) (hH : HR D cy base u H) {a : Nat} (hk : kd u a = 11) {j : Int32} (hin : inb j (ln u a)) (hdg : decode cc pc = .ok (.iaload, 1))
    (kk : W p l e R s m args below meth c H locs cells slots Q (F0 m (pc + 1) ls (.int (u.1 a j.toNatClampNeg) :: rest))) : W p l e R s m args below meth c H locs cells slots Q (F0 m pc ls (.int j :: .ref (base + a) :: rest)) := by
  have hP : va_P D mcl [(base + a, .inl (cy 11, ln u a, .inl (u.1 a)))] H := fun k q hq => by
    cases k with
    | zero => cases hq; exact hH.ints hk (by omega) (by omega)
    | succ k => simp at hq
  exact va_iald hx hb hK hP 0 0 rfl rfl hin hdg kk
theorem hr_zald (hx : p.tables.exec = Jvm.exec) (hb : c.code = cc) (hK : va_K D mcl (mty cy) s) (hH : HR D cy base u H) {a : Nat} (hk : kd u a = 12) {j : Int32} (hin : inb j (ln u a)) (hdg : decode cc pc = .ok (.baload, 1))
    (kk : W p l e R s m args below meth c H locs cells slots Q (F0 m (pc + 1) ls (.int (u.1 a j.toNatClampNeg) :: rest))) : W p l e R s m args below meth c H locs cells slots Q (F0 m pc ls (.int j :: .ref (base + a) :: rest)) := by
  have hP : va_P D mcl [(base + a, .inl (cy 12, ln u a, .inl (u.1 a)))] H := fun k q hq => by
    cases k with
    | zero => cases hq; exact hH.ints hk (by omega) (by omega)
    | succ k => simp at hq
  exact va_zald hx hb hK hP 0 1 rfl rfl hin hdg kk
theorem hr_aald (hx : p.tables.exec = Jvm.exec) (hb : c.code = cc) (hK : va_K D mcl (mty cy) s) (hH : HR D cy base u H) {a : Nat} (h1 : 13 ≤ kd u a) (h2 : kd u a ≤ 16) {j : Int32} (hin : inb j (ln u a)) (hdg : decode cc pc = .ok (.aaload, 1))
    (kk : W p l e R s m args below meth c H locs cells slots Q (F0 m (pc + 1) ls (va_rf ((u.2.2.1 a j.toNatClampNeg).map (fun a => base + a)) :: rest))) : W p l e R s m args below meth c H locs cells slots Q (F0 m pc ls (.int j :: .ref (base + a) :: rest)) := by
  have hP : va_P D mcl [(base + a, .inl (cy (kd u a), ln u a, .inr (.inr (.inr (.inr fun j => (u.2.2.1 a j).map (fun a => base + a))))))] H := fun k q hq => by
    cases k with
    | zero => cases hq; exact hH.refs rfl h1 h2
    | succ k => simp at hq
  have hd : kd u a = 13 ∨ kd u a = 14 ∨ kd u a = 15 ∨ kd u a = 16 := by omega
  have hlt : j.toNatClampNeg < ln u a := Nat.not_le.mp fun q => hin (Or.inr q)
  rcases hd with hd | hd | hd | hd <;> rw [hd] at hP
  · exact va_aldq hx hb hK hP 0 2 rfl (C := RX4) rfl hin hdg kk
  · exact va_aldq hx hb hK hP 0 3 rfl (C := RX7) rfl hin hdg kk
  · exact va_aldq hx hb hK hP 0 4 rfl (C := RX8) rfl hin hdg kk
  · exact W.aald (v := va_rf ((u.2.2.1 a j.toNatClampNeg).map (fun a => base + a))) (ty := .array .int) hx hb (hP 0 _ rfl) ((hK.2 5 _ rfl).1 (ln u a) (fun j => va_rf ((u.2.2.1 a j).map (fun a => base + a)))) rfl (fun q => by cases q) (by show ¬ (j < 0 ∨ (arrV _ _ _).slots.size ≤ _); rw [arrV_size]; exact hin) (by show (arrV _ _ _).slots[_]? = _; rw [arrV_read _ _ hlt]) rfl rfl hdg kk
/-- a cell of ints behind a store -/
theorem hr_sI {a : Nat} {d : Nat} (hk : kd u a = d) (h1 : 11 ≤ d) (h2 : d ≤ 12) {H1 : Heap} (hH : HR D cy base u H) {k : Nat} {x : Int32} (e : H1[base + a]? = some ((vp_cell (cy d) (ln u a, .inl (u.1 a))).setSlot k (.int x))) (z : H1.size = H.size) (oq : ∀ q, q ≠ base + a → H1[q]? = H[q]?) : HR D cy base (sI u a k x) H1 := by
  refine hH.upd rfl rfl (a := a) ?_ z oq (fun b hb => mcell_same rfl (up2_ne _ _ _ _ hb) rfl rfl)
  have hkd : kd (sI u a k x) a = d := hk
  unfold mcell
  rw [hkd, if_neg (by omega), if_pos h2]
  show H1[base + a]? = some (vp_cell _ _)
  rw [e, vp_cell_i, vp_cell_i, arrV_store]
  congr 2
  funext q
  by_cases hq : q = k
  · subst hq; simp [updV, up2]
  · simp [updV, up2, hq]
theorem hr_iast (hx : p.tables.exec = Jvm.exec) (hb : c.code = cc) (hK : va_K D mcl (mty cy) s) (hH : HR D cy base u H) (hS : va_S (fun q => base ≤ q) H0 H locs) {a : Nat} (hk : kd u a = 11) {j x : Int32} (hin : inb j (ln u a)) (hdg : decode cc pc = .ok (.iastore, 1))
    (kk : ∀ (H1 : Heap) (locs1 : List Loc), HR D cy base (sI u a j.toNatClampNeg x) H1 → va_S (fun q => base ≤ q) H0 H1 locs1 → W p l e R s m args below meth c H1 locs1 cells slots Q (F0 m (pc + 1) ls rest)) : W p l e R s m args below meth c H locs cells slots Q (F0 m pc ls (.int x :: .int j :: .ref (base + a) :: rest)) := by
  have hat : va_at D mcl (base + a, .inl (cy 11, ln u a, .inl (u.1 a))) H := hH.ints hk (by omega) (by omega)
  refine W.iast hx hb hat ((hK.2 0 _ rfl).1 (ln u a) (fun j => .int (u.1 a j))) (fun q => by cases q) (by show ¬ (j < 0 ∨ (arrV _ _ _).slots.size ≤ _); rw [arrV_size]; exact hin) rfl rfl hdg fun H1 e z oq => ?_
  exact kk H1 _ (hr_sI hk (by omega) (by omega) hH e z oq) (hS.wr z oq (Nat.le_add_right _ _) (fun q hq => by rw [List.mem_singleton.mp hq]))
theorem hr_zast (hx : p.tables.exec = Jvm.exec) (hb : c.code = cc) (hK : va_K D mcl (mty cy) s) (hH : HR D cy base u H) (hS : va_S (fun q => base ≤ q) H0 H locs) {a : Nat} (hk : kd u a = 12) {j x : Int32} (hin : inb j (ln u a)) (hdg : decode cc pc = .ok (.bastore, 1))
    (kk : ∀ (H1 : Heap) (locs1 : List Loc), HR D cy base (sI u a j.toNatClampNeg (vp_nar .boolean x)) H1 → va_S (fun q => base ≤ q) H0 H1 locs1 → W p l e R s m args below meth c H1 locs1 cells slots Q (F0 m (pc + 1) ls rest)) : W p l e R s m args below meth c H locs cells slots Q (F0 m pc ls (.int x :: .int j :: .ref (base + a) :: rest)) := by
  have hat : va_at D mcl (base + a, .inl (cy 12, ln u a, .inl (u.1 a))) H := hH.ints hk (by omega) (by omega)
  refine W.zast hx hb hat ((hK.2 1 _ rfl).1 (ln u a) (fun j => .int (u.1 a j))) (fun q => by cases q) (by show ¬ (j < 0 ∨ (arrV _ _ _).slots.size ≤ _); rw [arrV_size]; exact hin) rfl rfl hdg fun H1 e z oq => ?_
  exact kk H1 _ (hr_sI hk (by omega) (by omega) hH e z oq) (hS.wr z oq (Nat.le_add_right _ _) (fun q hq => by rw [List.mem_singleton.mp hq]))
/-- a cell of references behind a store -/
theorem hr_sR {a : Nat} {d : Nat} (hk : kd u a = d) (h1 : 13 ≤ d) (h2 : d ≤ 16) {H1 : Heap} (hH : HR D cy base u H) {k : Nat} {v : Option Nat} (e : H1[base + a]? = some ((vp_cell (cy d) (ln u a, .inr (.inr (.inr (.inr fun j => (u.2.2.1 a j).map (fun a => base + a)))))).setSlot k (va_rf (v.map (fun a => base + a))))) (z : H1.size = H.size) (oq : ∀ q, q ≠ base + a → H1[q]? = H[q]?) : HR D cy base (sR u a k v) H1 := by
  refine hH.upd rfl rfl (a := a) ?_ z oq (fun b hb => mcell_same rfl rfl rfl (up2_ne _ _ _ _ hb))
  have hkd : kd (sR u a k v) a = d := hk
  unfold mcell
  rw [hkd, if_neg (by omega), if_neg (by omega)]
  show H1[base + a]? = some (vp_cell _ _)
  rw [e, vp_cell_q, vp_cell_q, arrV_store]
  congr 2
  funext q
  by_cases hq : q = k
  · subst hq; simp [updV, up2]
  · simp [updV, up2, hq]
theorem hr_aast (hx : p.tables.exec = Jvm.exec) (hb : c.code = cc) (hK : va_K D mcl (mty cy) s) (hH : HR D cy base u H) (hS : va_S (fun q => base ≤ q) H0 H locs) {a : Nat} (h1 : 13 ≤ kd u a) (h2 : kd u a ≤ 15) {j : Int32} {v : Option Nat} (hin : inb j (ln u a)) (hv : elt u (kd u a) v = true) (hdg : decode cc pc = .ok (.aastore, 1))
    (kk : ∀ (H1 : Heap) (locs1 : List Loc), HR D cy base (sR u a j.toNatClampNeg v) H1 → va_S (fun q => base ≤ q) H0 H1 locs1 → W p l e R s m args below meth c H1 locs1 cells slots Q (F0 m (pc + 1) ls rest)) : W p l e R s m args below meth c H locs cells slots Q (F0 m pc ls (va_rf (v.map (fun a => base + a)) :: .int j :: .ref (base + a) :: rest)) := by
  have go : ∀ (d t0 ci : Nat), kd u a = d → 13 ≤ d → d ≤ 16 → ci ≤ 10 → (mty cy)[t0]? = some (cy d, .object (RXc ci)) → (∀ b, v = some b → kd u b = ci) → W p l e R s m args below meth c H locs cells slots Q (F0 m pc ls (va_rf (v.map (fun a => base + a)) :: .int j :: .ref (base + a) :: rest)) := by
    intro d t0 ci hk hd1 hd2 hci ht hvb
    have hat := hH.refs hk hd1 hd2
    have hlt : j.toNatClampNeg < ln u a := Nat.not_le.mp fun q => hin (Or.inr q)
    have h0 : ¬ j < 0 := fun q => hin (Or.inl q)
    cases v with
    | none =>
      refine va_WaastN (C := RXc ci) hx hb hat ((hK.2 t0 _ ht).1 (ln u a) (fun j => va_rf ((u.2.2.1 a j).map (fun a => base + a)))) (fun h => by cases h) (by show ¬ (j < 0 ∨ (arrV _ _ _).slots.size ≤ _); rw [arrV_size]; exact hin) rfl rfl hdg fun H1 e z oq => ?_
      exact kk H1 _ (hr_sR hk hd1 hd2 hH (v := none) e z oq) (hS.wr z oq (Nat.le_add_right _ _) (fun q hq => by rw [List.mem_singleton.mp hq]))
    | some b =>
      obtain ⟨r', hr', cellV, g1, g2, g3, -⟩ := hH.obj (hvb b rfl) hci
      have hcls := (hK.1 ci _ (mcl_at ci hci)).2
      obtain ⟨kA, comp, k1, k2, k3, -⟩ := (hK.2 t0 _ ht).2
      have hcomp : comp = D.1 ci := Option.some.inj (k3.symm.trans hcls.1)
      subst hcomp
      obtain ⟨kC, hkC, -⟩ := hcls.2
      refine W.aast hx hb hat (fun q h => by cases h) (fun h => by cases h) k1 k2 rfl hkC ⟨h0, by show _ < (arrV _ _ _).slots.size; rw [arrV_size]; exact hlt⟩ g1 (fun q h => by rw [g3] at h; cases h) (by rw [g2]; exact hkC) (by rw [g2]; exact va_assign hcls) rfl rfl hdg fun H1 e z oq => ?_
      exact kk H1 _ (hr_sR hk hd1 hd2 hH (v := some b) e z oq) (hS.wr z oq (Nat.le_add_right _ _) (fun q hq => by rw [List.mem_singleton.mp hq]))
  have hd : kd u a = 13 ∨ kd u a = 14 ∨ kd u a = 15 := by omega
  rcases hd with hd | hd | hd
  · refine go 13 2 4 hd (by omega) (by omega) (by omega) rfl (fun b hb => ?_)
    subst hb
    rw [hd] at hv
    simpa [elt] using hv
  · refine go 14 3 7 hd (by omega) (by omega) (by omega) rfl (fun b hb => ?_)
    subst hb
    rw [hd] at hv
    simpa [elt] using hv
  · refine go 15 4 8 hd (by omega) (by omega) (by omega) rfl (fun b hb => ?_)
    subst hb
    rw [hd] at hv
    simpa [elt] using hv
/-- a new cell at the end -/
theorem HR.grow {d n : Nat} {H1 : Heap} (hH : HR D cy base u H) (hd : d ≤ 16) (z : H1.size = H.size + 1) (oq : ∀ q, q < H.size → H1[q]? = H[q]?) (hcell : va_at D mcl (base + sz u, mcell cy base (al u d n) (sz u)) H1) : HR D cy base (al u d n) H1 := by
  have hsz : sz (al u d n) = sz u + 1 := rfl
  have hkn : ∀ b, b ≠ sz u → kd (al u d n) b = kd u b := fun b hb => by
    show ((if b = sz u then (d, n) else u.2.2.2.1 b)).1 = _
    rw [if_neg hb]
  refine ⟨by rw [z, hH.1, hsz]; omega, fun b hb => ?_, fun b hb => ?_⟩
  · rw [hsz] at hb
    by_cases e : b = sz u
    · subst e
      refine ⟨?_, hcell⟩
      show ((if sz u = sz u then (d, n) else u.2.2.2.1 (sz u))).1 ≤ 16
      rw [if_pos rfl]; exact hd
    · have hlt : b < sz u := by omega
      refine ⟨by rw [hkn b e]; exact (hH.2.1 b hlt).1, ?_⟩
      have hs : mcell cy base (al u d n) b = mcell cy base u b := by
        refine mcell_same ?_ ?_ ?_ ?_
        · show (if b = sz u then (d, n) else u.2.2.2.1 b) = _
          rw [if_neg e]
        · funext y
          show (if b = sz u then (0 : Int32) else u.1 b y) = _
          rw [if_neg e]
        · funext y
          show (if b = sz u then (0 : Int64) else u.2.1 b y) = _
          rw [if_neg e]
        · funext y
          show (if b = sz u then (none : Option Nat) else u.2.2.1 b y) = _
          rw [if_neg e]
      rw [hs]
      refine (hH.2.1 b hlt).2.kept (oq _ ?_)
      show base + b < H.size
      rw [hH.1]; omega
  · rw [hsz] at hb
    rw [hkn b (by omega)]
    exact hH.2.2 b (by omega)
theorem va_S.nw {A : Nat → Prop} {H0 H H1 : Heap} {locs : List Loc} (h : va_S A H0 H locs) (z : H1.size = H.size + 1) (oq : ∀ q : Nat, q < H.size → H1[q]? = H[q]?) : va_S A H0 H1 locs :=
  ⟨Nat.le_trans h.1 (by omega), fun q h1 h2 => (oq q (Nat.lt_of_lt_of_le h1 h.1)).trans (h.2.1 q h1 h2), h.2.2⟩
def okT (t : FieldType) : Bool := match t with
  | .int => true | .boolean => true | .long => true | .object _ => true | .array _ => true | _ => false
theorem okT_all : ∀ c, c ≤ 10 → ∀ k, k < nfl c → okT (tyc c k) = true := by
  refine le10 ?_ ?_ ?_ ?_ ?_ ?_ ?_ ?_ ?_ ?_ ?_ <;> decide +kernel
theorem hr_new (hF : FW) (hx : p.tables.exec = Jvm.exec) (hb : c.code = cc) (hts : ∀ w ∈ lw_good, w.before args s = true) {own : String} (hown : s.vm.findClass own = some m.cls) (hK : va_K D mcl (mty cy) s) (hH : HR D cy base u H) (hS : va_S (fun q => base ≤ q) H0 H locs) {ci i : Nat} (hci : ci ≤ 10) (hcl : (Cond.classLink own i (RXc ci)).before args s = true) (hinst : (Cond.instantiable (RXc ci) (nfl ci)).before args s = true) (hini : (Cond.initialized (RXc ci)).before args s = true)
    (hcells : cells + 1 ≤ R.cells) (hslots : slots + nfl ci ≤ R.slots) (hdg : decode cc pc = .ok (.new i, 3))
    (kk : ∀ (H1 : Heap), HR D cy base (al u ci (nfl ci)) H1 → va_S (fun q => base ≤ q) H0 H1 locs → W p l e R s m args below meth c H1 locs (cells + 1) (slots + nfl ci) Q (F0 m (pc + 3) ls (.ref (base + sz u) :: rest))) : W p l e R s m args below meth c H locs cells slots Q (F0 m pc ls rest) := by
  have hc := mcl_at ci hci
  have hKn := hK.1 ci _ hc
  refine W.newcK hx hb hown hcl hinst hini rfl hdg hcells hslots hKn.2.1 hH.1 fun H1 kC hkC e1 z1 o1 => ?_
  refine kk H1 (hH.grow (by omega) (by rw [z1, hH.1]) (fun q hq => o1 q (by rw [← hH.1]; exact hq)) ?_) (hS.nw (by rw [z1, hH.1]) (fun q hq => o1 q (by rw [← hH.1]; exact hq)))
  have hkd : kd (al u ci (nfl ci)) (sz u) = ci := by
    show ((if sz u = sz u then (ci, nfl ci) else u.2.2.2.1 (sz u))).1 = ci
    rw [if_pos rfl]
  unfold mcell
  rw [hkd, if_pos hci]
  refine ⟨_, hc, (u_born (tyc ci) hts (hF ci hci) hKn hkC e1 (ty_ok ci hci)).to (fun k hk => ?_)⟩
  have h1 : vp_V (mfs base (al u ci (nfl ci)) (sz u) ci) k = mfv base (al u ci (nfl ci)) (sz u) k (ftc (tyc ci k)) := by
    unfold vp_V
    rw [List.getD_eq_getElem?_getD, mfs_get _ _ _ hk]
    rfl
  rw [h1]
  have ho := okT_all ci hci k hk
  cases ht : tyc ci k <;> rw [ht] at ho <;> first | (cases ho; done) | simp [defaultValue, mfv, ftc, bz, va_rf]
theorem hr_newa (hx : p.tables.exec = Jvm.exec) (hb : c.code = cc) (hK : va_K D mcl (mty cy) s) (hH : HR D cy base u H) (hS : va_S (fun q => base ≤ q) H0 H locs) {atype : ArrayType} (harr : (Cond.arrayClass (newarray.typeOf atype)).before args s = true) {d t0 : Nat} {ty : FieldType} (hty : newarray.typeOf atype = ty) (hd1 : 11 ≤ d) (hd2 : d ≤ 12) (ht0 : (mty cy)[t0]? = some (cy d, ty)) (hdv : defaultValue ty = .int 0) (hobj : ∀ C, ty ≠ .object C)
    {n : Int32} (hn : ¬ n < 0) (hbytes : n.toNatClampNeg * componentBytes ty ≤ 536870912) (hcells : cells + 1 ≤ R.cells) (hslots : slots + n.toNatClampNeg ≤ R.slots) (hdg : decode cc pc = .ok (.newarray atype, 2))
    (kk : ∀ (H1 : Heap), HR D cy base (al u d n.toNatClampNeg) H1 → va_S (fun q => base ≤ q) H0 H1 locs → W p l e R s m args below meth c H1 locs (cells + 1) (slots + n.toNatClampNeg) Q (F0 m (pc + 2) ls (.ref (base + sz u) :: rest))) : W p l e R s m args below meth c H locs cells slots Q (F0 m pc ls (.int n :: rest)) := by
  subst hty
  refine va_newaK hx hb harr rfl hdg rfl hn rfl hbytes hcells hslots hH.1 fun H1 cA e1 z1 o1 hAr hNm => ?_
  have hcA : cA = cy d := by
    have h2 := (hK.2 t0 _ ht0).2
    have h3 : s.vm.findClass ("[" ++ (newarray.typeOf atype).toString) = some (cy d) := by
      revert h2
      unfold va_RA
      cases hq : newarray.typeOf atype <;> first | exact (fun h => h) | exact absurd hq (hobj _)
    exact Option.some.inj (hNm.symm.trans h3)
  refine kk H1 (hH.grow (by omega) (by rw [z1, hH.1]) (fun q hq => o1 q (by rw [← hH.1]; exact hq)) ?_) (hS.nw (by rw [z1, hH.1]) (fun q hq => o1 q (by rw [← hH.1]; exact hq)))
  have hkd : kd (al u d n.toNatClampNeg) (sz u) = d := by
    show ((if sz u = sz u then (d, n.toNatClampNeg) else u.2.2.2.1 (sz u))).1 = d
    rw [if_pos rfl]
  have hln : ln (al u d n.toNatClampNeg) (sz u) = n.toNatClampNeg := by
    show ((if sz u = sz u then (d, n.toNatClampNeg) else u.2.2.2.1 (sz u))).2 = _
    rw [if_pos rfl]
  unfold mcell
  rw [hkd, if_neg (by omega), if_pos hd2, hln]
  show H1[base + sz u]? = some (vp_cell _ _)
  rw [e1, hcA, vp_cell_i, hdv]
  congr 2
  funext q
  show _ = Value.int (if sz u = sz u then 0 else u.1 (sz u) q)
  rw [if_pos rfl]
theorem hr_anew (hx : p.tables.exec = Jvm.exec) (hb : c.code = cc) {own : String} {i : Nat} (hown : s.vm.findClass own = some m.cls) (hK : va_K D mcl (mty cy) s) (hH : HR D cy base u H) (hS : va_S (fun q => base ≤ q) H0 H locs) {d t0 : Nat} {C : String} (hclink : (Cond.classLink own i C).before args s = true) (hover : va_AO C s) (hd1 : 13 ≤ d) (hd2 : d ≤ 16) (ht0 : (mty cy)[t0]? = some (cy d, .object C))
    {n : Int32} (hn : ¬ n < 0) (hbytes : n.toNatClampNeg * 4 ≤ 536870912) (hcells : cells + 1 ≤ R.cells) (hslots : slots + n.toNatClampNeg ≤ R.slots) (hdg : decode cc pc = .ok (.anewarray i, 3))
    (kk : ∀ (H1 : Heap), HR D cy base (al u d n.toNatClampNeg) H1 → va_S (fun q => base ≤ q) H0 H1 locs → W p l e R s m args below meth c H1 locs (cells + 1) (slots + n.toNatClampNeg) Q (F0 m (pc + 3) ls (.ref (base + sz u) :: rest))) : W p l e R s m args below meth c H locs cells slots Q (F0 m pc ls (.int n :: rest)) := by
  refine W.anew hx hb hown hclink (va_AO.use hover) rfl hdg rfl hn hbytes hcells hslots fun cA kA comp f1 f2 f3 f4 => ?_
  obtain ⟨_, _, _, _, _, f5⟩ := (hK.2 t0 _ ht0).2
  have hcA : cA = cy d := Option.some.inj (f1.symm.trans f5)
  subst hcA
  generalize hH1 : H.push ({ cls := cy d, slots := Array.replicate n.toNatClampNeg .null, vm := .none } : Cell) = H1
  have z1 : H1.size = H.size + 1 := by rw [← hH1, Array.size_push]
  have e1 : H1[H.size]? = some (arrV (cy d) n.toNatClampNeg (fun _ => .null)) := by rw [← hH1, Array.getElem?_push_size, ← arrV_new]
  have o1 : ∀ q : Nat, q < H.size → H1[q]? = H[q]? := fun q hq => by rw [← hH1, Array.getElem?_push, if_neg (Nat.ne_of_lt hq)]
  have hkd : kd (al u d n.toNatClampNeg) (sz u) = d := by
    show ((if sz u = sz u then (d, n.toNatClampNeg) else u.2.2.2.1 (sz u))).1 = d
    rw [if_pos rfl]
  have hln : ln (al u d n.toNatClampNeg) (sz u) = n.toNatClampNeg := by
    show ((if sz u = sz u then (d, n.toNatClampNeg) else u.2.2.2.1 (sz u))).2 = _
    rw [if_pos rfl]
  have hk := kk H1 (hH.grow (by omega) z1 o1 (by
    unfold mcell
    rw [hkd, if_neg (by omega), if_neg (by omega), hln]
    show H1[base + sz u]? = some (vp_cell _ _)
    rw [← hH.1, e1, vp_cell_q]
    congr 2
    funext q
    show _ = va_rf (Option.map (fun a => base + a) (if sz u = sz u then none else u.2.2.1 (sz u) q))
    rw [if_pos rfl]
    rfl)) (hS.nw z1 o1)
  rw [← hH.1] at hk
  exact hk
end ROWS
end
section
/-! The fields' words by their places. -/
theorem fw_0 : ∀ w ∈ u_ws RX0 TX0 3, w ∈ lw_good := in_places [267, 269, 271] (by decide +kernel) (by decide +kernel)
theorem fw_1 : ∀ w ∈ u_ws RX1 TX1 17, w ∈ lw_good := in_places [142, 144, 146, 148, 150, 152, 154, 156, 158, 160, 162, 164, 166, 168, 170, 172, 174] (by decide +kernel) (by decide +kernel)
theorem fw_2 : ∀ w ∈ u_ws RX2 TX2 7, w ∈ lw_good := in_places [39, 41, 43, 45, 47, 49, 51] (by decide +kernel) (by decide +kernel)
theorem fw_3 : ∀ w ∈ u_ws RX3 TX3 7, w ∈ lw_good := in_places [88, 90, 92, 94, 96, 98, 100] (by decide +kernel) (by decide +kernel)
theorem fw_4 : ∀ w ∈ u_ws RX4 TX4 2, w ∈ lw_good := in_places [204, 206] (by decide +kernel) (by decide +kernel)
theorem fw_5 : ∀ w ∈ u_ws RX5 TX5 2, w ∈ lw_good := in_places [65, 67] (by decide +kernel) (by decide +kernel)
theorem fw_6 : ∀ w ∈ u_ws RX6 TX6 7, w ∈ lw_good := in_places [294, 296, 298, 300, 302, 304, 306] (by decide +kernel) (by decide +kernel)
theorem fw_7 : ∀ w ∈ u_ws RX7 TX7 9, w ∈ lw_good := in_places [221, 223, 225, 227, 229, 231, 233, 235, 237] (by decide +kernel) (by decide +kernel)
theorem fw_8 : ∀ w ∈ u_ws RX8 TX8 4, w ∈ lw_good := in_places [246, 248, 250, 252] (by decide +kernel) (by decide +kernel)
theorem fw_9 : ∀ w ∈ u_ws RX9 TX9 16, w ∈ lw_good := in_places [327, 329, 331, 333, 335, 337, 339, 341, 343, 345, 347, 349, 351, 353, 355, 357] (by decide +kernel) (by decide +kernel)
theorem fw_10 : ∀ w ∈ u_ws RX10 TX10 43, w ∈ lw_good := in_places [1247, 1249, 1251, 1253, 1255, 1257, 1259, 1261, 1263, 1265, 1267, 1269, 1271, 1273, 1275, 1277, 1279, 1281, 1283, 1285, 1287, 1289, 1291, 1293, 1295, 1297, 1299, 1301, 1303, 1305, 1307, 1309, 1311, 1313, 1315, 1317, 1319, 1321, 1323, 1325, 1327, 1329, 1331] (by decide +kernel) (by decide +kernel)
theorem fw_all : FW := le10 fw_0 fw_1 fw_2 fw_3 fw_4 fw_5 fw_6 fw_7 fw_8 fw_9 fw_10
end
section
/-! Locals; what a pop says; arraycopy; a call. -/
def lva (base : Nat) : Nat → MLs → List (Nat × Value)
  | _, [] => []
  | i, none :: l => lva base (i + 1) l
  | i, some v :: l => (i, mval base v) :: lva base (i + 1) l
theorem lva_mem {base : Nat} {q : Nat × Value} : ∀ (lo : MLs) (i : Nat), q ∈ lva base i lo ↔ ∃ j v, nth lo j = some v ∧ q = (i + j, mval base v)
  | [], i => by simp [lva, nth]
  | none :: l, i => by
    rw [lva, lva_mem l (i + 1)]
    constructor
    · rintro ⟨j, v, h1, h2⟩
      exact ⟨j + 1, v, h1, by rw [h2]; congr 1; omega⟩
    · rintro ⟨j, v, h1, h2⟩
      cases j with
      | zero => cases h1
      | succ j => exact ⟨j, v, h1, by rw [h2]; congr 1; omega⟩
  | some w :: l, i => by
    rw [lva, List.mem_cons, lva_mem l (i + 1)]
    constructor
    · rintro (h | ⟨j, v, h1, h2⟩)
      · exact ⟨0, w, rfl, h⟩
      · exact ⟨j + 1, v, h1, by rw [h2]; congr 1; omega⟩
    · rintro ⟨j, v, h1, h2⟩
      cases j with
      | zero =>
        have : w = v := by simpa [nth] using h1
        subst this
        exact Or.inl h2
      | succ j => exact Or.inr ⟨j, v, h1, by rw [h2]; congr 1; omega⟩
/-- the slots hold what the small machine's locals say -/
def LR (base : Nat) (ls : Array Slot) (nL : Nat) (lo : MLs) : Prop := lv_has ls nL (lva base 0 lo)
theorem LR.at {base : Nat} {ls : Array Slot} {nL : Nat} {lo : MLs} (h : LR base ls nL lo) {j : Nat} {v : MV} (hj : nth lo j = some v) : ls[j]? = some (.val (mval base v)) := by
  have := h.2.2 (0 + j, mval base v) ((lva_mem lo 0).mpr ⟨j, v, hj, rfl⟩)
  rwa [Nat.zero_add] at this
theorem LR.weak {base : Nat} {ls : Array Slot} {nL : Nat} {lo lo' : MLs} (h : LR base ls nL lo) (hw : ∀ j v, nth lo' j = some v → nth lo j = some v) : LR base ls nL lo' := by
  refine ⟨h.1, h.2.1, fun q hq => ?_⟩
  obtain ⟨j, v, h1, h2⟩ := (lva_mem lo' 0).mp hq
  exact h.2.2 q ((lva_mem lo 0).mpr ⟨j, v, hw j v h1, h2⟩)
theorem nth_msk : ∀ (m : List Bool) (lo : MLs) (j : Nat) (v : MV), nth (msk m lo) j = some v → nth lo j = some v
  | [], lo, j, v, h => by simp [msk, nth] at h
  | b :: m, [], j, v, h => by simp [msk, nth] at h
  | b :: m, w :: l, 0, v, h => by
    cases b with
    | true => exact h
    | false => simp [msk, nth] at h
  | b :: m, w :: l, j + 1, v, h => nth_msk m l j v h
theorem LR.cut {base : Nat} {ls : Array Slot} {nL : Nat} {lo : MLs} (T : MT) (pc : Nat) (h : LR base ls nL lo) : LR base ls nL (cutAt T pc lo) := by
  unfold cutAt
  cases lk pc T.2.1 with
  | none => exact h
  | some m => exact h.weak (nth_msk m lo)
def isL (v : MV) : Bool := match v with
  | Sum.inr (Sum.inl _) => true
  | _ => false
theorem nth_dl {w : Option MV} {u : MV} (h : dl w = some u) : w = some u ∧ isL u = false := by
  unfold dl at h
  split at h
  · cases h
  · subst h
    refine ⟨rfl, ?_⟩
    match u with
    | Sum.inl x => rfl
    | Sum.inr (Sum.inr x) => rfl
    | Sum.inr (Sum.inl x) => rename_i hh; exact (hh x rfl).elim
theorem nth_lset : ∀ (lo : MLs) (j : Nat) (v : MV) (i : Nat) (u : MV), nth (lset lo j v) i = some u → (i = j ∧ u = v) ∨ (i ≠ j ∧ nth lo i = some u ∧ (i < j → isL u = false))
  | [], j, v, i, u, h => by simp [lset, nth] at h
  | w :: l, 0, v, 0, u, h => by
    have : v = u := by simpa [lset, nth] using h
    exact Or.inl ⟨rfl, this.symm⟩
  | w :: l, 0, v, i + 1, u, h => Or.inr ⟨by omega, h, by omega⟩
  | w :: l, j + 1, v, 0, u, h => by
    have h2 : dl w = some u := h
    obtain ⟨h3, h4⟩ := nth_dl h2
    exact Or.inr ⟨by omega, h3, fun _ => h4⟩
  | w :: l, j + 1, v, i + 1, u, h => by
    rcases nth_lset l j v i u h with ⟨h1, h2⟩ | ⟨h1, h2, h3⟩
    · exact Or.inl ⟨by omega, h2⟩
    · exact Or.inr ⟨by omega, h2, fun h => h3 (by omega)⟩
theorem cat_mval {base : Nat} {v : MV} (h : isL v = false) : (mval base v).category = 1 := by
  match v, h with
  | Sum.inl x, _ => rfl
  | Sum.inr (Sum.inr none), _ => rfl
  | Sum.inr (Sum.inr (some a)), _ => rfl
theorem LR.set {base : Nat} {ls' : Array Slot} {nL : Nat} {lo : MLs} {j : Nat} {v : MV} {w : Value} (hw : w = mval base v) (h : lv_has ls' nL ((j, w) :: (lva base 0 lo).filter (fun q => !(q.1 == j) && !(q.1 + 1 == j && q.2.category == 2)))) : LR base ls' nL (lset lo j v) := by
  refine ⟨h.1, h.2.1, fun q hq => h.2.2 q ?_⟩
  obtain ⟨i, u, h1, h2⟩ := (lva_mem _ 0).mp hq
  rw [Nat.zero_add] at h2
  rcases nth_lset lo j v i u h1 with ⟨rfl, rfl⟩ | ⟨h3, h4, h5⟩
  · rw [h2, hw]; exact List.mem_cons_self
  · refine List.mem_cons_of_mem _ (List.mem_filter.mpr ⟨(lva_mem lo 0).mpr ⟨i, u, h4, by rw [h2, Nat.zero_add]⟩, ?_⟩)
    rw [h2]
    have e1 : (i == j) = false := by simpa using h3
    simp only [e1, Bool.not_false, Bool.true_and, Bool.not_eq_true', Bool.and_eq_false_iff]
    by_cases h6 : i < j
    · exact Or.inr (by rw [cat_mval (h5 h6)]; rfl)
    · exact Or.inl (by simp; omega)
theorem pI_some {o : List MV} {f : Int32 → List MV → Option MO} {x : MO} (h : pI o f = some x) : ∃ y r, o = Sum.inl y :: r ∧ f y r = some x := by
  unfold pI at h
  split at h
  · exact ⟨_, _, rfl, h⟩
  · cases h
theorem pL_some {o : List MV} {f : Int64 → List MV → Option MO} {x : MO} (h : pL o f = some x) : ∃ y r, o = Sum.inr (Sum.inl y) :: r ∧ f y r = some x := by
  unfold pL at h
  split at h
  · exact ⟨_, _, rfl, h⟩
  · cases h
theorem pR_some {o : List MV} {f : Option Nat → List MV → Option MO} {x : MO} (h : pR o f = some x) : ∃ y r, o = Sum.inr (Sum.inr y) :: r ∧ f y r = some x := by
  unfold pR at h
  split at h
  · exact ⟨_, _, rfl, h⟩
  · cases h
theorem pC_some {o : List MV} {f : MV → List MV → Option MO} {x : MO} (h : pC o f = some x) : ∃ y r, o = y :: r ∧ isL y = false ∧ f y r = some x := by
  unfold pC at h
  split at h
  · exact ⟨_, _, rfl, rfl, h⟩
  · exact ⟨_, _, rfl, rfl, h⟩
  · cases h
theorem pN_some {f : List MV → List MV → Option MO} {x : MO} : ∀ (n : Nat) (acc o : List MV), pN n acc o f = some x → ∃ t r, o = t ++ r ∧ t.length = n ∧ f (t.reverse ++ acc) r = some x
  | 0, acc, o, h => ⟨[], o, rfl, rfl, h⟩
  | n + 1, acc, [], h => by cases h
  | n + 1, acc, v :: o, h => by
    obtain ⟨t, r, h1, h2, h3⟩ := pN_some n (v :: acc) o h
    exact ⟨v :: t, r, by rw [h1]; rfl, by rw [List.length_cons, h2], by rw [List.reverse_cons, List.append_assoc]; exact h3⟩
theorem lI_some {lo : MLs} {j : Nat} {f : Int32 → Option MO} {x : MO} (h : lI lo j f = some x) : ∃ y, nth lo j = some (Sum.inl y) ∧ f y = some x := by
  unfold lI at h
  split at h
  · exact ⟨_, by assumption, h⟩
  · cases h
theorem lL_some {lo : MLs} {j : Nat} {f : Int64 → Option MO} {x : MO} (h : lL lo j f = some x) : ∃ y, nth lo j = some (Sum.inr (Sum.inl y)) ∧ f y = some x := by
  unfold lL at h
  split at h
  · exact ⟨_, by assumption, h⟩
  · cases h
theorem lR_some {lo : MLs} {j : Nat} {f : Option Nat → Option MO} {x : MO} (h : lR lo j f = some x) : ∃ y, nth lo j = some (Sum.inr (Sum.inr y)) ∧ f y = some x := by
  unfold lR at h
  split at h
  · exact ⟨_, by assumption, h⟩
  · cases h
theorem bnd_some {α : Type} {o : Option α} {f : α → Option MO} {x : MO} (h : o.bind f = some x) : ∃ y, o = some y ∧ f y = some x := by
  cases o with
  | none => cases h
  | some y => exact ⟨y, rfl, h⟩
theorem few_some {r : List MV} {f : Option MO} {x : MO} (h : few r f = some x) : csum r ≤ 8 ∧ f = some x := by
  unfold few at h
  cases hb : Nat.ble (csum r) 8 with
  | true => rw [hb] at h; exact ⟨Nat.le_of_ble_eq_true hb, h⟩
  | false => rw [hb] at h; cases h
theorem cats (base : Nat) (r : List MV) : ((r.map (mval base)).map fun v => v.category).sum ≤ csum r := by
  induction r with
  | nil => simp
  | cons v r ih =>
    match v with
    | Sum.inl x =>
      show (Value.int x).category + _ ≤ 1 + csum r
      exact Nat.add_le_add (Nat.le_refl 1) ih
    | Sum.inr (Sum.inl x) =>
      show (Value.long x).category + _ ≤ 2 + csum r
      exact Nat.add_le_add (Nat.le_refl 2) ih
    | Sum.inr (Sum.inr x) =>
      show (mval base (Sum.inr (Sum.inr x))).category + _ ≤ 1 + csum r
      exact Nat.add_le_add (by rw [cat_mval rfl]; exact Nat.le_refl 1) ih
/-- a method's arguments as its first locals: a long takes two -/
def lay : List MV → MLs
  | [] => []
  | v :: l => match v with
    | Sum.inr (Sum.inl x) => some (Sum.inr (Sum.inl x)) :: none :: lay l
    | w => some w :: lay l
theorem lay_args (base : Nat) : ∀ (as : List MV) (i : Nat) (k : Nat), ∀ q ∈ lva base i (lay as ++ List.replicate k none), q ∈ lv_args i (as.map (mval base))
  | [], i, k, q, h => by
    exfalso
    obtain ⟨j, v, h1, -⟩ := (lva_mem _ i).mp h
    have : ∀ (k j : Nat), nth (List.replicate k none) j = none := by
      intro k
      induction k with
      | zero => intro j; rfl
      | succ k ih => intro j; cases j with
        | zero => rfl
        | succ j => exact ih j
    rw [show lay [] ++ List.replicate k none = List.replicate k none from rfl, this] at h1
    cases h1
  | v :: l, i, k, q, h => by
    match v, h with
    | Sum.inl x, h =>
      have h : q ∈ (i, Value.int x) :: lva base (i + 1) (lay l ++ List.replicate k none) := h
      show q ∈ (i, Value.int x) :: lv_args (i + 1) (l.map (mval base))
      rcases List.mem_cons.mp h with h | h
      · rw [h]; exact List.mem_cons_self
      · exact List.mem_cons_of_mem _ (lay_args base l (i + 1) k q h)
    | Sum.inr (Sum.inl x), h =>
      have h : q ∈ (i, Value.long x) :: lva base (i + 1 + 1) (lay l ++ List.replicate k none) := h
      show q ∈ (i, Value.long x) :: lv_args (i + 2) (l.map (mval base))
      rcases List.mem_cons.mp h with h | h
      · rw [h]; exact List.mem_cons_self
      · exact List.mem_cons_of_mem _ (lay_args base l (i + 2) k q h)
    | Sum.inr (Sum.inr r), h =>
      have h : q ∈ (i, mval base (Sum.inr (Sum.inr r))) :: lva base (i + 1) (lay l ++ List.replicate k none) := h
      have hc : (mval base (Sum.inr (Sum.inr r))).category = 1 := cat_mval rfl
      show q ∈ (i, mval base (Sum.inr (Sum.inr r))) :: lv_args (if (mval base (Sum.inr (Sum.inr r))).category = 2 then i + 2 else i + 1) (l.map (mval base))
      rw [if_neg (by rw [hc]; decide)]
      rcases List.mem_cons.mp h with h | h
      · rw [h]; exact List.mem_cons_self
      · exact List.mem_cons_of_mem _ (lay_args base l (i + 1) k q h)
theorem lay_len (base : Nat) : ∀ as : List MV, (lg_sl (as.map (mval base))).length = (lay as).length
  | [] => rfl
  | v :: l => by
    have ih := lay_len base l
    match v with
    | Sum.inl x =>
      show (lg_sl (Value.int x :: l.map (mval base))).length = (lay l).length + 1
      rw [← ih]; simp [lg_sl, Value.category]
    | Sum.inr (Sum.inl x) =>
      show (lg_sl (Value.long x :: l.map (mval base))).length = (lay l).length + 1 + 1
      rw [← ih]; simp [lg_sl, Value.category]
    | Sum.inr (Sum.inr r) =>
      have hc : (mval base (Sum.inr (Sum.inr r))).category = 1 := cat_mval rfl
      show (lg_sl (mval base (Sum.inr (Sum.inr r)) :: l.map (mval base))).length = (lay l).length + 1
      rw [← ih]; simp [lg_sl, hc]
/-- a method by its table: its arguments are the first locals, so many locals in all -/
noncomputable def runT (T : MT) (nL : Nat) : MF := fun as s => cond (Nat.ble (lay as).length nL) (Ev T 0 (lay as ++ List.replicate (nL - (lay as).length) none) [] s) none
end
section
/-! What a method's contract is over the small machine's heap; calls; arraycopy. -/
def NW (U : State) : Prop := (∀ w ∈ lw_nest, w.before #[] U = true) ∧ va_AO RX4 U ∧ va_AO RX7 U ∧ va_AO RX8 U ∧ (Cond.arrayOver (.array .int)).before #[] U = true
theorem AOA_moved {t : FieldType} {u U : State} (hvm : u.vm.Alike U.vm) (h : (Cond.arrayOver (.array t)).before #[] u = true) : (Cond.arrayOver (.array t)).before #[] U = true := by
  obtain ⟨comp, c, k, h1, h2, h3, h4, h5⟩ := arrayOverA_spec h
  obtain ⟨k', hk', he⟩ := hvm.2.2 _ _ h3
  have hi : (U.vm.classes.findIdx? fun (x : Class) => match x.kind with | .array component _ => component == comp | _ => false) = some c := by
    have e1 := va_idx_bare U.vm comp
    have e2 := va_idx_bare u.vm comp
    have e3 : U.vm.bare = u.vm.bare := by first | exact hvm.bare_eq | exact hvm.bare_eq.symm
    rw [e3] at e1
    exact e1.symm.trans (e2.trans h2)
  have hkind : k'.kind = .array comp (.array t) := by rw [he]; exact h4
  have f1 : U.vm.findClass (FieldType.array t).toString = some comp := by rw [hvm.findClass]; exact h1
  have f2 : U.vm.findClass ("[" ++ (FieldType.array t).toString) = some c := by rw [hvm.findClass]; exact h5
  unfold Cond.before Cond.holds
  simp only [Cond.value]
  rw [f1, Option.bind_some]
  refine (congrArg (fun o : Option Nat => (o.bind (fun c => (U.vm.classes[c]?).map fun (k : Class) => match k.kind with | .array _ ty => decide (ty = FieldType.array t) && decide (U.vm.findClass ("[" ++ (FieldType.array t).toString) = some c) | _ => false) == some true)) hi).trans ?_
  simp [hk', hkind, f2]
theorem NW.warm {s U : State} (hW : s.WarmedH U.vm) (h : NW s) : NW U := by
  obtain ⟨h1, h2, h3, h4, h5⟩ := h
  refine ⟨fun w hw => ?_, h2.moved hW.alike, h3.moved hW.alike, h4.moved hW.alike, AOA_moved hW.alike h5⟩
  have h6 := (List.mem_filter.mp hw).2
  have h7 := h1 w hw
  cases w <;> first | (cases h6; done) | exact va_Nw.warmF hW h7 | exact va_Nw.warmM hW h7
theorem NW.same {u U : State} (hv : u.vm = U.vm) (h : NW u) : NW U := by
  obtain ⟨h1, h2, h3, h4, h5⟩ := h
  have hal : u.vm.Alike U.vm := by rw [hv]; exact Vm.Alike.refl _
  refine ⟨fun w hw => ?_, h2.moved hal, h3.moved hal, h4.moved hal, AOA_moved hal h5⟩
  have h6 := (List.mem_filter.mp hw).2
  have h7 := h1 w hw
  cases w <;> first | (cases h6; done) | exact va_Nw.same rfl hv h7
def mP (D : va_G) (cy : Nat → ClassId) (base : Nat) (u : MH) (as : List MV) : Array Value → State → Prop := va_Pc (as.map (mval base)) (fun U => HR D cy base u U.heap ∧ va_K D mcl (mty cy) U ∧ NW U)
def mQ (D : va_G) (cy : Nat → ClassId) (base : Nat) (u' : MH) (r : Option MV) : Array Value → State → Outcome → State → Prop := fun _ st oc t => (oc = .returned (r.map (mval base)) ∧ HR D cy base u' t.heap) ∧ va_F (fun q => base ≤ q) st t
abbrev sl (s : MH) : Nat := s.2.2.2.2.2
theorem mP_blind (D : va_G) (cy : Nat → ClassId) (base : Nat) (u : MH) (as : List MV) : FrameBlind (mP D cy base u as) := by
  intro a U g mk h
  obtain ⟨h1, h2, h3, h4⟩ := h
  exact ⟨h1, h2, va_K.moved (u := U) (Vm.Alike.refl _) h3, NW.same (u := U) rfl h4⟩
/-- the method y keeps M, in every world -/
def Sd (y : MethodName) (cc : ByteArray) (nL : Nat) (ret : Option FieldType) (fr lc : Nat) (M : MF) : Prop :=
  ∀ (as : List MV) (u u' : MH) (r : Option MV), M as u = some (r, u') → (sz u ≤ sz u' ∧ sl u ≤ sl u') ∧
    ∀ (l : Launch) (D : va_G) (cy : Nat → ClassId) (base : Nat), Met l y (.code y cc nL ret :: lw_good) { frames := fr, cells := sz u' - sz u, slots := sl u' - sl u, locals := lc } (mP D cy base u as) (mQ D cy base u' r) (sz u' - sz u) (sl u' - sl u) (fun q => base ≤ q)
section CALLS
variable {p : Program} {l : Launch} {e : Env} {R : Room} {s : State} {m : MethodId} {args : Array Value} {below : List Frame} {meth : Method} {c : Code} {H : Heap} {locs : List Loc} {cells slots : Nat} {Q : State → Prop}
variable {cc : ByteArray} {pc : Nat} {ls : Array Slot} {rest : List Value} {D : va_G} {cy : Nat → ClassId} {base : Nat} {H0 : Heap} {u : MH}
theorem mm_call {u' : MH} {r : Option MV} {a : Array Value} {st0 : List Value} {mc ms : Nat} (hr : va_Run p l e R s m args below meth c H locs cells slots mc ms (F0 m pc ls st0) rest (mQ D cy base u' r a) (fun q => base ≤ q)) (hS : va_S (fun q => base ≤ q) H0 H locs)
    (kk : ∀ (H1 : Heap) (locs1 : List Loc), HR D cy base u' H1 → va_S (fun q => base ≤ q) H0 H1 locs1 → W p l e R s m args below meth c H1 locs1 (cells + mc) (slots + ms) Q (F0 m (pc + 3) ls ((r.map (mval base)).toList ++ rest))) : W p l e R s m args below meth c H locs cells slots Q (F0 m pc ls st0) := by
  intro T hT X
  obtain ⟨v, st₀, t, T', L, h0, X', hL, e1, e2, ⟨⟨hv, hh⟩, hz, hk⟩, st⟩ := hr T hT X
  cases hv
  rw [h0] at hz hk
  obtain ⟨t2, a1, b1⟩ := kk T'.heap (locs ++ L) (by rw [e1]; exact hh)
    ⟨Nat.le_trans hS.1 (by rw [e1]; exact hz), fun q h1 h2 => by rw [e1, hk q (Nat.lt_of_lt_of_le h1 hS.1) h2]; exact hS.2.1 q h1 h2, fun q hq => by
      rcases List.mem_append.mp hq with h | h
      · exact hS.2.2 q h
      · exact hL q h⟩ T' rfl X'
  exact ⟨t2, st t2 a1, b1⟩
/-- rows of ints copied, the two apart -/
theorem hr_copy (hx : p.tables.exec = Jvm.exec) (hb : c.code = cc) (hml : c.maxLocals = ls.size) {own : String} {i : Nat} (hown : s.vm.findClass own = some m.cls) (hlink : (Cond.methodLink own i arraycopyName).before args s = true) (hnat : (Cond.native arraycopyName).before args s = true) (hstat : (Cond.static arraycopyName).before args s = true) (hini : (Cond.initialized "java/lang/System").before args s = true)
    (hK : va_K D mcl (mty cy) s) (hH : HR D cy base u H) (hS : va_S (fun q => base ≤ q) H0 H locs) {a b : Nat} (hka : kd u a = 11) (hkb : kd u b = 11)
    {sp dp n : Int32} (h1 : ¬ sp < 0) (h2 : ¬ dp < 0) (h3 : ¬ n < 0) (h4 : sp.toNatClampNeg + n.toNatClampNeg ≤ ln u a) (h5 : dp.toNatClampNeg + n.toNatClampNeg ≤ ln u b)
    (hframes : 1 ≤ R.frames) (hlocals : (rest.map fun v => v.category).sum + (nativeFrameWords "java/lang/System" "arraycopy" 5 + 11) ≤ R.locals) (hdg : decode cc pc = .ok (.invokestatic i, 3))
    (kk : ∀ (H1 : Heap) (locs1 : List Loc), HR D cy base (fun x y => if x = b ∧ dp.toNatClampNeg ≤ y ∧ y < dp.toNatClampNeg + n.toNatClampNeg then u.1 a (sp.toNatClampNeg + (y - dp.toNatClampNeg)) else u.1 x y, u.2) H1 → va_S (fun q => base ≤ q) H0 H1 locs1 → W p l e R s m args below meth c H1 locs1 cells slots Q (F0 m (pc + 3) ls rest)) : W p l e R s m args below meth c H locs cells slots Q (F0 m pc ls (.int n :: .int dp :: .ref (base + b) :: .int sp :: .ref (base + a) :: rest)) := by
  have nn : ∀ z : Int32, ¬ z < 0 → z.toInt = (z.toNatClampNeg : Int) := by
    intro z hz
    have hz0 : (0 : Int) ≤ z.toInt := by
      have := Int32.not_lt.mp hz
      simpa using Int32.le_iff_toInt_le.mp this
    show z.toInt = ((z.toInt.toNat : Nat) : Int)
    omega
  intro T hT X
  have hc0 : H[base + a]? = some (vp_cell (cy 11) (ln u a, .inl (u.1 a))) := hH.ints hka (by omega) (by omega)
  have hc1 : H[base + b]? = some (vp_cell (cy 11) (ln u b, .inl (u.1 b))) := hH.ints hkb (by omega) (by omega)
  obtain ⟨-, k0, hk0, cm0, hkk0⟩ := (hK.2 0 _ rfl).1 (ln u a) (fun j => .int (u.1 a j))
  obtain ⟨-, k1, hk1, cm1, hkk1⟩ := (hK.2 0 _ rfl).1 (ln u b) (fun j => .int (u.1 b j))
  obtain ⟨vm', X', step⟩ := X.arraycopy hx hown hlink hnat hstat hini (src := base + a) (dst := base + b) (cs := vp_cell (cy 11) (ln u a, .inl (u.1 a))) (cd := vp_cell (cy 11) (ln u b, .inl (u.1 b))) (srcPos := sp) (destPos := dp) (n := n) (by rw [hT]; exact hc0) (by rw [hT]; exact hc1)
    (fun _ h => by cases h) (fun _ h => by cases h) (fun h => by cases h) (fun h => by cases h) hk0 hk1 hkk0 hkk1 (by simp [refKind]) h1 h2 h3
    (by rw [nn sp h1, nn n h3]; show ¬ _ > ((arrV (cy 11) (ln u a) (fun j => .int (u.1 a j))).slots.size : Int); rw [arrV_size]; omega)
    (by rw [nn dp h2, nn n h3]; show ¬ _ > ((arrV (cy 11) (ln u b) (fun j => .int (u.1 b j))).slots.size : Int); rw [arrV_size]; omega)
    (fun vm₁ _ i hi => by
      have e : (vp_cell (cy 11) (ln u a, .inl (u.1 a))).slots.getD (sp.toNatClampNeg + i) .null = .int (u.1 a (sp.toNatClampNeg + i)) := by
        show (arrV (cy 11) (ln u a) (fun j => .int (u.1 a j))).slots.getD _ _ = _
        rw [Array.getD_eq_getD_getElem?, arrV_read _ _ (by omega)]
        rfl
      refine ⟨?_, ?_⟩
      · rw [e]
        rfl
      · rw [e]
        exact trivial)
    (g := F0 m pc ls (.int n :: .int dp :: .ref (base + b) :: .int sp :: .ref (base + a) :: rest)) rfl (by rw [hml]) (rest := rest) rfl (by rw [hb]; exact hdg) hframes (by show 2 * 0 + _ + _ ≤ _; omega)
  have e1 : copied (vp_cell (cy 11) (ln u a, .inl (u.1 a))) (vp_cell (cy 11) (ln u b, .inl (u.1 b))) sp dp n = vp_cell (cy 11) (ln u b, .inl (va_cpy (u.1 a) (u.1 b) sp.toNatClampNeg dp.toNatClampNeg n.toNatClampNeg)) := va_copied (fun z => .int z) (cy 11) (cy 11) (u.1 a) (u.1 b) h4
  rw [e1] at X' step
  have hl : base + b < H.size := (Array.getElem?_eq_some_iff.mp hc1).1
  have hheap : ((T.setVm vm').setCell (base + b) (vp_cell (cy 11) (ln u b, .inl (va_cpy (u.1 a) (u.1 b) sp.toNatClampNeg dp.toNatClampNeg n.toNatClampNeg)))).heap = H.setIfInBounds (base + b) (vp_cell (cy 11) (ln u b, .inl (va_cpy (u.1 a) (u.1 b) sp.toNatClampNeg dp.toNatClampNeg n.toNatClampNeg))) := by rw [← hT]; rfl
  have oq : ∀ q : Nat, q ≠ base + b → (H.setIfInBounds (base + b) (vp_cell (cy 11) (ln u b, .inl (va_cpy (u.1 a) (u.1 b) sp.toNatClampNeg dp.toNatClampNeg n.toNatClampNeg))))[q]? = H[q]? := fun q hq => by simp [Array.getElem?_setIfInBounds, Ne.symm hq]
  have hsz : (H.setIfInBounds (base + b) (vp_cell (cy 11) (ln u b, .inl (va_cpy (u.1 a) (u.1 b) sp.toNatClampNeg dp.toNatClampNeg n.toNatClampNeg)))).size = H.size := by simp
  obtain ⟨t, a1, b1⟩ := kk _ _ (hH.upd rfl rfl (a := b) (by
      unfold mcell
      rw [show kd ((fun x y => if x = b ∧ dp.toNatClampNeg ≤ y ∧ y < dp.toNatClampNeg + n.toNatClampNeg then u.1 a (sp.toNatClampNeg + (y - dp.toNatClampNeg)) else u.1 x y, u.2) : MH) b = 11 from hkb, if_neg (by omega), if_pos (by omega)]
      show (H.setIfInBounds (base + b) _)[base + b]? = some _
      rw [Array.getElem?_setIfInBounds, if_pos rfl, if_pos hl]
      congr 2
      congr 2
      funext y
      show _ = (if b = b ∧ dp.toNatClampNeg ≤ y ∧ y < dp.toNatClampNeg + n.toNatClampNeg then u.1 a (sp.toNatClampNeg + (y - dp.toNatClampNeg)) else u.1 b y)
      simp [va_cpy]) hsz oq (fun x hxb => mcell_same rfl (by
        funext y
        show (if x = b ∧ dp.toNatClampNeg ≤ y ∧ y < dp.toNatClampNeg + n.toNatClampNeg then u.1 a (sp.toNatClampNeg + (y - dp.toNatClampNeg)) else u.1 x y) = _
        rw [if_neg (fun h => hxb h.1)]) rfl rfl)) (hS.wr hsz oq (Nat.le_add_right _ _) (fun q hq => by
      obtain ⟨z, -, hz⟩ := List.mem_map.mp hq
      rw [← hz])) _ hheap X'
  exact ⟨t, step t a1, b1⟩
end CALLS
end
section
/-! new int[n][m] -/
theorem grid_outer (c : ClassId) (N h0 : Nat) : ∀ i : Nat, Jvm.Free.Multi.outerC c N h0 i = arrV c N (fun j => va_rf (if j < i then some (h0 + 1 + j) else none))
  | 0 => by
    show ({ cls := c, slots := Array.replicate N .null, vm := .none } : Cell) = _
    rw [arrV_new]
    refine congrArg (arrV c N) (funext fun j => ?_)
    simp [va_rf]
  | i + 1 => by
    show (Jvm.Free.Multi.outerC c N h0 i).setSlot i (.ref (h0 + 1 + i)) = _
    rw [grid_outer c N h0 i, arrV_store]
    refine congrArg (arrV c N) (funext fun j => ?_)
    by_cases e : j = i
    · subst e
      simp [updV, va_rf]
    · by_cases h : j < i
      · simp [updV, e, h, Nat.lt_succ_of_lt h]
      · simp [updV, e, h, show ¬ j < i + 1 by omega]
section GRID
variable {p : Program} {l : Launch} {e : Env} {R : Room} {s : State} {m : MethodId} {args : Array Value} {below : List Frame} {meth : Method} {c : Code} {H : Heap} {locs : List Loc} {cells slots : Nat} {Q : State → Prop}
variable {cc : ByteArray} {pc : Nat} {ls : Array Slot} {rest : List Value} {D : va_G} {cy : Nat → ClassId} {base : Nat} {H0 : Heap} {u : MH}
theorem HR.grid {N K : Nat} {H1 : Heap} (hH : HR D cy base u H) (z : H1.size = H.size + 1 + N) (oq : ∀ q, q < H.size → H1[q]? = H[q]?) (hout : H1[base + sz u]? = some (vp_cell (cy 16) (N, .inr (.inr (.inr (.inr (fun i => if i < N then some (base + sz u + 1 + i) else none))))))) (hrow : ∀ j, j < N → H1[base + sz u + 1 + j]? = some (vp_cell (cy 11) (K, .inl fun _ => 0))) : HR D cy base (alM u N K) H1 := by
  have hsz : sz (alM u N K) = sz u + 1 + N := rfl
  have hsh : ∀ b, (alM u N K).2.2.2.1 b = if b = sz u then (16, N) else if sz u ≤ b ∧ b < sz u + 1 + N then (11, K) else u.2.2.2.1 b := fun _ => rfl
  refine ⟨by rw [z, hH.1, hsz]; omega, fun b hb => ?_, fun b hb => ?_⟩
  · rw [hsz] at hb
    by_cases e : b = sz u
    · subst e
      have h1 : (alM u N K).2.2.2.1 (sz u) = (16, N) := by rw [hsh, if_pos rfl]
      have hk : kd (alM u N K) (sz u) = 16 := by show ((alM u N K).2.2.2.1 (sz u)).1 = 16; rw [h1]
      have hl : ln (alM u N K) (sz u) = N := by show ((alM u N K).2.2.2.1 (sz u)).2 = N; rw [h1]
      refine ⟨by rw [hk]; decide, ?_⟩
      unfold mcell
      rw [hk, if_neg (by omega), if_neg (by omega), hl]
      show H1[base + sz u]? = some _
      rw [hout]
      congr 2
      congr 5
      funext i
      show _ = Option.map (fun a => base + a) (if sz u = sz u then (if i < N then some (sz u + 1 + i) else none) else _)
      rw [if_pos rfl]
      by_cases hi : i < N
      · rw [if_pos hi, if_pos hi]; simp; omega
      · rw [if_neg hi, if_neg hi]; rfl
    · by_cases e2 : sz u ≤ b
      · have hc : sz u ≤ b ∧ b < sz u + 1 + N := ⟨e2, hb⟩
        have h1 : (alM u N K).2.2.2.1 b = (11, K) := by rw [hsh, if_neg e, if_pos hc]
        have hk : kd (alM u N K) b = 11 := by show ((alM u N K).2.2.2.1 b).1 = 11; rw [h1]
        have hl : ln (alM u N K) b = K := by show ((alM u N K).2.2.2.1 b).2 = K; rw [h1]
        refine ⟨by rw [hk]; decide, ?_⟩
        unfold mcell
        rw [hk, if_neg (by omega), if_pos (by omega), hl]
        show H1[base + b]? = some _
        have := hrow (b - (sz u + 1)) (by omega)
        rw [show base + sz u + 1 + (b - (sz u + 1)) = base + b by omega] at this
        rw [this]
        congr 2
        congr 2
        funext y
        show (0 : Int32) = if sz u ≤ b ∧ b < sz u + 1 + N then 0 else _
        rw [if_pos hc]
      · have hlt : b < sz u := by omega
        have hc : ¬ (sz u ≤ b ∧ b < sz u + 1 + N) := by omega
        have hs : mcell cy base (alM u N K) b = mcell cy base u b := by
          refine mcell_same ?_ ?_ ?_ ?_
          · rw [hsh, if_neg e, if_neg hc]
          · funext y
            show (if sz u ≤ b ∧ b < sz u + 1 + N then (0 : Int32) else u.1 b y) = _
            rw [if_neg hc]
          · funext y
            show (if sz u ≤ b ∧ b < sz u + 1 + N then (0 : Int64) else u.2.1 b y) = _
            rw [if_neg hc]
          · funext y
            show (if b = sz u then (if y < N then some (sz u + 1 + y) else none) else if sz u ≤ b ∧ b < sz u + 1 + N then (none : Option Nat) else u.2.2.1 b y) = _
            rw [if_neg e, if_neg hc]
        have hk : kd (alM u N K) b = kd u b := by show ((alM u N K).2.2.2.1 b).1 = _; rw [hsh, if_neg e, if_neg hc]
        refine ⟨by rw [hk]; exact (hH.2.1 b hlt).1, ?_⟩
        rw [hs]
        refine (hH.2.1 b hlt).2.kept (oq _ ?_)
        show base + b < H.size
        rw [hH.1]; omega
  · rw [hsz] at hb
    have hk : kd (alM u N K) b = kd u b := by show ((alM u N K).2.2.2.1 b).1 = _; rw [hsh, if_neg (by omega), if_neg (by omega)]
    rw [hk]
    exact hH.2.2 b (by omega)
theorem hr_mna (hx : p.tables.exec = Jvm.exec) (hb : c.code = cc) {own : String} {i : Nat} (hown : s.vm.findClass own = some m.cls) (hclink : (Cond.classLink own i ("[" ++ (FieldType.array .int).toString)).before args s = true) (hover : (Cond.arrayOver (.array .int)).before args s = true) (harr : (Cond.arrayClass .int).before args s = true) (hK : va_K D mcl (mty cy) s) (hH : HR D cy base u H) (hS : va_S (fun q => base ≤ q) H0 H locs)
    {n k : Int32} (hn : ¬ n < 0) (hk : ¬ k < 0) (hb1 : n.toNatClampNeg ≤ 1000) (hb2 : k.toNatClampNeg ≤ 1000) (hcells : cells + (1 + n.toNatClampNeg) ≤ R.cells) (hslots : slots + (n.toNatClampNeg + n.toNatClampNeg * k.toNatClampNeg) ≤ R.slots) (hdg : decode cc pc = .ok (.multianewarray i 2, 4))
    (kk : ∀ (H1 : Heap), HR D cy base (alM u n.toNatClampNeg k.toNatClampNeg) H1 → va_S (fun q => base ≤ q) H0 H1 locs → W p l e R s m args below meth c H1 locs (cells + 1 + n.toNatClampNeg) (slots + n.toNatClampNeg + n.toNatClampNeg * k.toNatClampNeg) Q (F0 m (pc + 4) ls (.ref (base + sz u) :: rest))) : W p l e R s m args below meth c H locs cells slots Q (F0 m pc ls (.int k :: .int n :: rest)) := by
  intro T hT Xs
  obtain ⟨vm₁, cA, comp, -, fA, fC, hO, -, X', step⟩ := Xs.multianewarray2F hx hown hclink hover harr (g := F0 m pc ls (.int k :: .int n :: rest)) rfl (by rw [hb]; exact hdg) rfl hn hk (by omega) (by show k.toNatClampNeg * 4 ≤ _; omega) (by omega) rfl rfl hcells hslots
  have h16 : s.vm.findClass ("[" ++ (FieldType.array .int).toString) = some (cy 16) := (hK.2 5 _ rfl).2
  have h11 : s.vm.findClass ("[" ++ FieldType.int.toString) = some (cy 11) := (hK.2 0 _ rfl).2
  have e16 : cA = cy 16 := Option.some.inj (fA.symm.trans h16)
  have e11 : comp = cy 11 := Option.some.inj (fC.symm.trans h11)
  subst e16
  subst e11
  generalize hF : Jvm.Free.Multi.fill (T.setVm vm₁) (cy 16) (cy 11) n.toNatClampNeg k.toNatClampNeg (defaultValue .int) n.toNatClampNeg = F at X' step
  have hTh : (T.setVm vm₁).heap = H := hT
  obtain ⟨f1, f2, -, -⟩ := Jvm.Free.Multi.fill_facts (T.setVm vm₁) (cy 16) (cy 11) n.toNatClampNeg k.toNatClampNeg (defaultValue .int) n.toNatClampNeg
  rw [hF, hTh] at f1 f2
  have hold : ∀ x : Nat, x < H.size → F.heap[x]? = H[x]? := fun x hx => by
    have := Jvm.Free.Multi.fill_old (T.setVm vm₁) (cy 16) (cy 11) n.toNatClampNeg k.toNatClampNeg (defaultValue .int) (a := x) (by rw [hTh]; exact hx) n.toNatClampNeg
    rw [hF, hTh] at this
    exact this
  have hrow : ∀ j : Nat, j < n.toNatClampNeg → F.heap[H.size + 1 + j]? = some (vp_cell (cy 11) (k.toNatClampNeg, .inl fun _ => 0)) := fun j hj => by
    have := Jvm.Free.Multi.fill_inner (T.setVm vm₁) (cy 16) (cy 11) n.toNatClampNeg k.toNatClampNeg (defaultValue .int) n.toNatClampNeg j hj
    rw [hF, hTh] at this
    rw [this, vp_cell_i]
    exact congrArg some (arrV_new _ _ _)
  have hout : Jvm.Free.Multi.outerC (cy 16) n.toNatClampNeg H.size n.toNatClampNeg = vp_cell (cy 16) (n.toNatClampNeg, .inr (.inr (.inr (.inr (fun i => if i < n.toNatClampNeg then some (H.size + 1 + i) else none))))) := by
    rw [vp_cell_q]
    exact grid_outer (cy 16) n.toNatClampNeg H.size n.toNatClampNeg
  rw [hout] at f2
  have hz := hH.1
  rw [hz] at f2 hrow
  obtain ⟨t, a1, b1⟩ := kk F.heap (hH.grid f1 hold f2 hrow) ⟨by rw [f1]; have := hS.1; omega, fun x h1 h2 => (hold x (Nat.lt_of_lt_of_le h1 hS.1)).trans (hS.2.1 x h1 h2), hS.2.2⟩ F rfl X'
  refine ⟨t, step t ?_, b1⟩
  have e : T.heap.size = base + sz u := by rw [hT]; exact hz
  rw [e]
  exact a1
end GRID
end
section
/-! What a method's table must pass, by the kernel. -/
/-- of a method that is called: its name, code, locals, answer, frames, words of locals, how (0 static, 1 virtual, 2 a constructor, 10 more: through the nest; 5 Object's constructor, 6 arraycopy), the places of its words -/
abbrev INF : Type := MethodName × ByteArray × Nat × Option FieldType × Nat × Nat × Nat × List Nat
def wAt (i : Nat) (w : Cond) : Bool := decide (lw_tbl[i]? = some w) && goodWord w
def nAt (i : Nat) (w : Cond) : Bool := decide (tables_1[i]? = some w) && isNestW w
theorem wAt_in {i : Nat} {w : Cond} (h : wAt i w = true) : w ∈ lw_good := by
  simp only [wAt, Bool.and_eq_true, decide_eq_true_eq] at h
  exact List.mem_filter.mpr ⟨List.mem_of_getElem? h.1, h.2⟩
theorem nAt_in {i : Nat} {w : Cond} (h : nAt i w = true) : w ∈ lw_nest := by
  simp only [nAt, Bool.and_eq_true, decide_eq_true_eq] at h
  exact List.mem_filter.mpr ⟨List.mem_of_getElem? h.1, h.2⟩
def wIn (w : Cond) : Bool := decide (w ∈ lw_tbl) && goodWord w
theorem wIn_in {w : Cond} (h : wIn w = true) : w ∈ lw_good := by
  simp only [wIn, Bool.and_eq_true, decide_eq_true_eq] at h
  exact List.mem_filter.mpr ⟨h.1, h.2⟩
def all2 {α β : Type} (f : α → β → Bool) : List α → List β → Bool
  | [], [] => true
  | a :: l, b :: m => f a b && all2 f l m
  | _, _ => false
theorem all2_lk {α β : Type} {f : Nat × α → Nat × β → Bool} {i : Nat} {a : α} : ∀ (l : List (Nat × α)) (m : List (Nat × β)), all2 f l m = true → (∀ x y, f x y = true → x.1 = y.1) → lk i l = some a → ∃ b, lk i m = some b ∧ f (i, a) (i, b) = true
  | [], _, _, _, h => by cases h
  | q :: l, [], h, _, _ => by cases h
  | q :: l, b :: m, h, hk, hl => by
    simp only [all2, Bool.and_eq_true] at h
    have hq := hk q b h.1
    unfold lk at hl ⊢
    cases hb : Nat.beq i q.1 with
    | true =>
      rw [hb] at hl
      have e : i = q.1 := Nat.eq_of_beq_eq_true hb
      have : q.2 = a := Option.some.inj hl
      rw [← hq, hb]
      refine ⟨b.2, rfl, ?_⟩
      have e1 : (i, a) = q := by rw [e, ← this]
      have e2 : (i, b.2) = b := by rw [e, hq]
      rw [e1, e2]
      exact h.1
    | false =>
      rw [hb] at hl
      rw [← hq, hb]
      exact all2_lk l m h.2 hk hl
def cChk (own : String) (FR LC : Nat) (q : Nat × CE) (i : Nat × INF) : Bool :=
  Nat.beq q.1 i.1 && (match i.2.2.2.2.2.2.2.1 with
    | 5 => Nat.beq q.2.2.1 98 && wAt (i.2.2.2.2.2.2.2.2.getD 0 0) (.methodLink own q.1 Lib.objectInit) && wAt (i.2.2.2.2.2.2.2.2.getD 1 0) (.instanceMethod Lib.objectInit) && wAt (i.2.2.2.2.2.2.2.2.getD 2 0) (.code Lib.objectInit ⟨#[0xb1]⟩ 1 none) && Nat.ble 1 FR && Nat.ble 20 LC
    | 6 => Nat.beq q.2.2.1 97 && wAt (i.2.2.2.2.2.2.2.2.getD 0 0) (.methodLink own q.1 arraycopyName) && wAt (i.2.2.2.2.2.2.2.2.getD 1 0) (.native arraycopyName) && wAt (i.2.2.2.2.2.2.2.2.getD 2 0) (.static arraycopyName) && wAt (i.2.2.2.2.2.2.2.2.getD 3 0) (.initialized "java/lang/System") && Nat.ble 1 FR && Nat.ble (8 + (nativeFrameWords "java/lang/System" "arraycopy" 5 + 11)) LC
    | 7 => Nat.beq q.2.2.1 96 && wAt (i.2.2.2.2.2.2.2.2.getD 0 0) (.methodLink own q.1 Lib.Math.max.name) && wAt (i.2.2.2.2.2.2.2.2.getD 1 0) (.static Lib.Math.max.name) && wAt (i.2.2.2.2.2.2.2.2.getD 2 0) (.initialized "java/lang/Math") && wAt (i.2.2.2.2.2.2.2.2.getD 3 0) (.code Lib.Math.max.name Lib.Math.max.code 2 (some .int)) && Nat.ble 1 FR && Nat.ble 21 LC
    | 8 => Nat.beq q.2.2.1 95 && wAt (i.2.2.2.2.2.2.2.2.getD 0 0) (.methodLink own q.1 Lib.Math.min.name) && wAt (i.2.2.2.2.2.2.2.2.getD 1 0) (.static Lib.Math.min.name) && wAt (i.2.2.2.2.2.2.2.2.getD 2 0) (.initialized "java/lang/Math") && wAt (i.2.2.2.2.2.2.2.2.getD 3 0) (.code Lib.Math.min.name Lib.Math.min.code 2 (some .int)) && Nat.ble 1 FR && Nat.ble 21 LC
    | k => cond (Nat.ble 10 k) (nAt (i.2.2.2.2.2.2.2.2.getD 0 0) (.methodLinkNest own q.1 i.2.1 "NameKeeper")) (wAt (i.2.2.2.2.2.2.2.2.getD 0 0) (.methodLink own q.1 i.2.1))
      && wAt (i.2.2.2.2.2.2.2.2.getD 1 0) (.code i.2.1 i.2.2.1 i.2.2.2.1 i.2.2.2.2.1) && wAt (i.2.2.2.2.2.2.2.2.getD 2 0) (.initialized i.2.1.cls)
      && decide (i.2.1.cls ≠ "java/lang/invoke/MethodHandle" ∧ i.2.1.cls ≠ "java/lang/invoke/VarHandle" ∧ (parseMethodDescriptor i.2.1.desc).map (fun d => d.parameters.length) = some q.2.1)
      && Nat.ble (i.2.2.2.2.2.1 + 1) FR && Nat.ble (8 + (i.2.2.2.1 + 11) + i.2.2.2.2.2.2.1) LC
      && (match k % 10 with
        | 0 => Nat.beq q.2.2.1 99 && wAt (i.2.2.2.2.2.2.2.2.getD 3 0) (.static i.2.1)
        | 1 => Nat.ble q.2.2.1 10 && wAt (i.2.2.2.2.2.2.2.2.getD 3 0) (.instanceMethod i.2.1) && wAt (i.2.2.2.2.2.2.2.2.getD 4 0) (.selects (RXc q.2.2.1) i.2.1 i.2.1)
        | _ => Nat.ble q.2.2.1 10 && wAt (i.2.2.2.2.2.2.2.2.getD 3 0) (.instanceMethod i.2.1) && decide (i.2.1.name = "<init>") && decide (i.2.2.2.2.1 = none)))
def fChk (own : String) (q : Nat × Nat × Nat × Nat) (i : Nat × Nat × Bool) : Bool :=
  Nat.beq q.1 i.1 && Nat.ble q.2.1 10 && Nat.blt q.2.2.1 (nfl q.2.1) && Nat.beq (ftc (tyc q.2.1 q.2.2.1)) q.2.2.2
    && cond i.2.2 (nAt i.2.1 (.fieldLinkNest own q.1 (RXc q.2.1) (TXc q.2.1 q.2.2.1).2.1 (TXc q.2.1 q.2.2.1).2.2.1 "NameKeeper")) (wAt i.2.1 (.fieldLink own q.1 (RXc q.2.1) (TXc q.2.1 q.2.2.1).2.1 (TXc q.2.1 q.2.2.1).2.2.1))
def iln (i : Jvm.ClassFile.Instr) : Nat := match i with
  | .bipush _ => 2 | .sipush _ => 3 | .ldc _ => 2 | .ldc2_w _ => 3 | .iload _ => 2 | .lload _ => 2 | .aload _ => 2 | .istore _ => 2 | .astore _ => 2 | .iinc _ _ => 3
  | .ifCond _ _ => 3 | .if_icmp _ _ => 3 | .ifnull _ => 3 | .ifnonnull _ => 3 | .goto _ => 3 | .getfield _ => 3 | .putfield _ => 3 | .new _ => 3 | .newarray _ => 2 | .anewarray _ => 3 | .multianewarray _ _ => 4
  | .invokevirtual _ => 3 | .invokespecial _ => 3 | .invokestatic _ => 3 | _ => 1
/-- the cases of a switch over lo, lo + 1 .. in their order -/
def swB (pc : Nat) : Int → List Int → List (Int32 × Nat) → Bool
  | _, [], [] => true
  | v, o :: os, q :: l => decide (q.1.toInt = v) && decide ((pc : Int) + o = (q.2 : Int)) && swB pc (v + 1) os l
  | _, _, _ => false
/-- the cases of a switch by pairs, in their order -/
def swL (pc : Nat) : List (Int × Int) → List (Int32 × Nat) → Bool
  | [], [] => true
  | o :: os, q :: l => decide (q.1.toInt = o.1) && decide ((pc : Int) + o.2 = (q.2 : Int)) && swL pc os l
  | _, _ => false
def hiB (lo hi : Int) (n : Nat) : Bool := decide (hi + 1 = lo + n)
def enB (own : String) (nL : Nat) (ini : Bool) (T : MT) (fi : List (Nat × Nat × Bool)) (ci : List (Nat × INF)) (pc : Nat) (q : EN) : Bool := match q.1 with
  | .iconst n => decide (Int32.ofInt n = q.2.2.2.1)
  | .bipush n => decide ((Int8.ofInt n).toInt32 = q.2.2.2.1)
  | .sipush n => decide ((Int16.ofInt n).toInt32 = q.2.2.2.1)
  | .ldc i => wIn (.constant own i q.2.2.2.1)
  | .lconst n => decide (Int64.ofNat (n : Nat) = q.2.2.2.2.1)
  | .ldc2_w i => wIn (.constantLong own i q.2.2.2.2.1)
  | .istore j => Nat.blt j nL
  | .istore_n j => Nat.blt j.val nL
  | .astore j => Nat.blt j nL
  | .astore_n j => Nat.blt j.val nL
  | .iinc j n => decide (Int32.ofInt n = q.2.2.2.1) && Nat.blt j nL
  | .ifCond _ off => decide ((pc : Int) + off = (q.2.2.1 : Int))
  | .if_icmp _ off => decide ((pc : Int) + off = (q.2.2.1 : Int))
  | .ifnull off => decide ((pc : Int) + off = (q.2.2.1 : Int))
  | .ifnonnull off => decide ((pc : Int) + off = (q.2.2.1 : Int))
  | .goto off => decide ((pc : Int) + off = (q.2.2.1 : Int))
  | .tableswitch d lo hi os => decide ((pc : Int) + d = (q.2.2.1 : Int)) && swB pc lo os.toList q.2.2.2.2.2 && hiB lo hi os.toList.length
  | .lookupswitch d ps => decide ((pc : Int) + d = (q.2.2.1 : Int)) && swL pc ps.toList q.2.2.2.2.2 && (ps.toList.zip (ps.toList.drop 1)).all (fun (a, next) => a.1 < next.1)
  | .putfield i => match lk i T.2.2.1, lk i fi with
    | some g, some f => !(TXc g.1 g.2.1).2.2.2 || (ini && decide (RXc g.1 = own) && !f.2)
    | _, _ => false
  | .new i => Nat.ble q.2.2.1 10 && wIn (.classLink own i (RXc q.2.2.1)) && wIn (.instantiable (RXc q.2.2.1) (nfl q.2.2.1)) && wIn (.initialized (RXc q.2.2.1))
  | .newarray t => match t with
    | .int => Nat.beq q.2.2.1 11 && wIn (.arrayClass .int)
    | .boolean => Nat.beq q.2.2.1 12 && wIn (.arrayClass .boolean)
    | _ => false
  | .anewarray i => (Nat.beq q.2.2.1 13 && wIn (.classLink own i RX4)) || (Nat.beq q.2.2.1 14 && wIn (.classLink own i RX7)) || (Nat.beq q.2.2.1 15 && wIn (.classLink own i RX8))
  | .multianewarray i d => Nat.beq d 2 && wIn (.classLink own i ("[" ++ (FieldType.array .int).toString)) && wIn (.arrayClass .int)
  | .invokevirtual i => match lk i ci with
    | some f => Nat.beq (f.2.2.2.2.2.2.1 % 10) 1
    | none => false
  | .invokespecial i => match lk i ci with
    | some f => Nat.beq (f.2.2.2.2.2.2.1 % 10) 2 || Nat.beq f.2.2.2.2.2.2.1 5
    | none => false
  | .invokestatic i => match lk i ci with
    | some f => Nat.beq (f.2.2.2.2.2.2.1 % 10) 0 || Nat.beq f.2.2.2.2.2.2.1 6 || Nat.beq f.2.2.2.2.2.2.1 7 || Nat.beq f.2.2.2.2.2.2.1 8
    | none => false
  | _ => true
def isSw (i : Jvm.ClassFile.Instr) : Bool := match i with
  | .tableswitch _ _ _ _ => true
  | .lookupswitch _ _ => true
  | _ => false
def dcB (cc : ByteArray) (pc : Nat) (q : EN) : Bool := match decode cc pc with
  | .ok (i, n) => decide (i = q.1) && (isSw q.1 || (Nat.beq n (iln q.1) && Nat.beq q.2.1 (pc + n)))
  | _ => false
/-- code, fields, calls of a method's table -/
def tabB (own : String) (cc : ByteArray) (nL : Nat) (ini : Bool) (FR LC : Nat) (T : MT) (fi : List (Nat × Nat × Bool)) (ci : List (Nat × INF)) : Bool :=
  T.1.all (fun q => dcB cc q.1 q.2 && enB own nL ini T fi ci q.1 q.2) && all2 (fChk own) T.2.2.1 fi && all2 (cChk own FR LC) T.2.2.2.1 ci
theorem lk_mem {α : Type} {i : Nat} {a : α} : ∀ (l : List (Nat × α)), lk i l = some a → (i, a) ∈ l
  | [], h => by cases h
  | q :: l, h => by
    unfold lk at h
    cases hb : Nat.beq i q.1 with
    | true =>
      rw [hb] at h
      have e : i = q.1 := Nat.eq_of_beq_eq_true hb
      have : q.2 = a := Option.some.inj h
      rw [e, ← this]
      exact List.mem_cons_self
    | false =>
      rw [hb] at h
      exact List.mem_cons_of_mem _ (lk_mem l h)
theorem dcB_ok {cc : ByteArray} {pc : Nat} {q : EN} (h : dcB cc pc q = true) : (∃ n, decode cc pc = .ok (q.1, n)) ∧ (isSw q.1 = false → decode cc pc = .ok (q.1, iln q.1) ∧ q.2.1 = pc + iln q.1) := by
  unfold dcB at h
  split at h
  · rename_i i n hd
    simp only [Bool.and_eq_true, decide_eq_true_eq, Bool.or_eq_true] at h
    obtain ⟨h1, h2⟩ := h
    subst h1
    refine ⟨⟨n, hd⟩, fun hs => ?_⟩
    rcases h2 with h2 | ⟨h2, h3⟩
    · rw [hs] at h2; cases h2
    · have e1 := Nat.eq_of_beq_eq_true h2
      have e2 := Nat.eq_of_beq_eq_true h3
      rw [e1] at hd e2
      exact ⟨hd, e2⟩
  · cases h
/-- cells and slots don't get fewer -/
def le2 (u t : MH) : Prop := sz u ≤ sz t ∧ sl u ≤ sl t
/-- those that are called keep what the table says of them -/
def SdAll : List (Nat × CE) → List (Nat × INF) → Prop
  | [], [] => True
  | q :: c, i :: n => (((95 ≤ q.2.2.1 ∧ q.2.2.1 ≤ 98) ∨ Sd i.2.1 i.2.2.1 i.2.2.2.1 i.2.2.2.2.1 i.2.2.2.2.2.1 i.2.2.2.2.2.2.1 q.2.2.2.2) ∧ ∀ as u v, q.2.2.2.2 as u = some v → le2 u v.2) ∧ SdAll c n
  | _, _ => False
theorem SdAll_lk {own : String} {FR LC i : Nat} {g : CE} : ∀ (c : List (Nat × CE)) (n : List (Nat × INF)), SdAll c n → all2 (cChk own FR LC) c n = true → lk i c = some g → ∃ f, lk i n = some f ∧ cChk own FR LC (i, g) (i, f) = true ∧ ((95 ≤ g.2.1 ∧ g.2.1 ≤ 98) ∨ Sd f.1 f.2.1 f.2.2.1 f.2.2.2.1 f.2.2.2.2.1 f.2.2.2.2.2.1 g.2.2.2)
  | [], _, _, _, h => by cases h
  | q :: c, [], h, _, _ => h.elim
  | q :: c, b :: n, h, h2, hl => by
    simp only [all2, Bool.and_eq_true] at h2
    have hk : q.1 = b.1 := by
      have := h2.1
      simp only [cChk, Bool.and_eq_true] at this
      exact Nat.eq_of_beq_eq_true this.1
    unfold lk at hl ⊢
    cases hb : Nat.beq i q.1 with
    | true =>
      rw [hb] at hl
      have e : i = q.1 := Nat.eq_of_beq_eq_true hb
      have : q.2 = g := Option.some.inj hl
      rw [← hk, hb]
      have e1 : (i, g) = q := by rw [e, ← this]
      have e2 : (i, b.2) = b := by rw [e, hk]
      refine ⟨b.2, rfl, ?_, ?_⟩
      · rw [e1, e2]; exact h2.1
      · rw [← this]; exact h.1.1
    | false =>
      rw [hb] at hl
      rw [← hk, hb]
      exact SdAll_lk c n h.2 h2.2 hl
theorem SdAll_mn {i : Nat} {g : CE} : ∀ (c : List (Nat × CE)) (n : List (Nat × INF)), SdAll c n → lk i c = some g → ∀ as u v, g.2.2.2 as u = some v → le2 u v.2
  | [], _, _, h => by cases h
  | q :: c, [], h, _ => h.elim
  | q :: c, b :: n, h, hl => by
    unfold lk at hl
    cases hb : Nat.beq i q.1 with
    | true =>
      rw [hb] at hl
      have : q.2 = g := Option.some.inj hl
      rw [← this]
      exact h.1.2
    | false =>
      rw [hb] at hl
      exact SdAll_mn c n h.2 hl
theorem sd_in {y : MethodName} {cc : ByteArray} {nL : Nat} {ret : Option FieldType} {fr lc rc : Nat} {M : MF} (S : Sd y cc nL ret fr lc M) : ((95 ≤ rc ∧ rc ≤ 98) ∨ Sd y cc nL ret fr lc M) ∧ ∀ as u v, M as u = some v → le2 u v.2 := ⟨Or.inr S, fun as u v h => (S as u v.2 v.1 h).1⟩
theorem sd_97 {P : Prop} : ((95 ≤ 97 ∧ 97 ≤ 98) ∨ P) ∧ ∀ (as : List MV) (u : MH) (v : MO), (fun _ _ => none : MF) as u = some v → le2 u v.2 := ⟨Or.inl (by decide), fun as u v h => by cases h⟩
theorem sd_98 {P : Prop} : ((95 ≤ 98 ∧ 98 ≤ 98) ∨ P) ∧ ∀ (as : List MV) (u : MH) (v : MO), (fun _ _ => none : MF) as u = some v → le2 u v.2 := ⟨Or.inl (by decide), fun as u v h => by cases h⟩
theorem sd_96 {P : Prop} : ((95 ≤ 96 ∧ 96 ≤ 98) ∨ P) ∧ ∀ (as : List MV) (u : MH) (v : MO), (fun _ _ => none : MF) as u = some v → le2 u v.2 := ⟨Or.inl (by decide), fun as u v h => by cases h⟩
theorem sd_95 {P : Prop} : ((95 ≤ 95 ∧ 95 ≤ 98) ∨ P) ∧ ∀ (as : List MV) (u : MH) (v : MO), (fun _ _ => none : MF) as u = some v → le2 u v.2 := ⟨Or.inl (by decide), fun as u v h => by cases h⟩
end
section
/-! THE SMALL MACHINE IS SOUND: what it says a method does, the machine does. -/
theorem swt_some {x : Int32} {d : Nat} {f : Nat → Option MO} {r : MO} : ∀ (l : List (Int32 × Nat)), swt x d l f = some r → (∃ (k : Nat) (q : Int32 × Nat), l[k]? = some q ∧ x = q.1 ∧ f q.2 = some r) ∨ ((∀ (k : Nat) (q : Int32 × Nat), l[k]? = some q → x ≠ q.1) ∧ f d = some r)
  | [], h => Or.inr ⟨fun k q hq => by simp at hq, h⟩
  | q :: l, h => by
    unfold swt at h
    by_cases e : x = q.1
    · rw [if_pos e] at h
      exact Or.inl ⟨0, q, rfl, e, h⟩
    · rw [if_neg e] at h
      rcases swt_some l h with ⟨k, q', h1, h2, h3⟩ | ⟨h1, h2⟩
      · exact Or.inl ⟨k + 1, q', h1, h2, h3⟩
      · refine Or.inr ⟨fun k q' hq => ?_, h2⟩
        cases k with
        | zero => cases hq; exact e
        | succ k => exact h1 k q' hq
theorem swB_get {pc : Nat} : ∀ (v : Int) (os : List Int) (l : List (Int32 × Nat)), swB pc v os l = true → os.length = l.length ∧ ∀ (k : Nat) (q : Int32 × Nat), l[k]? = some q → ∃ o, os[k]? = some o ∧ q.1.toInt = v + k ∧ (pc : Int) + o = (q.2 : Int)
  | v, [], [], _ => ⟨rfl, fun k q h => by simp at h⟩
  | v, [], q :: l, h => by cases h
  | v, o :: os, [], h => by cases h
  | v, o :: os, q :: l, h => by
    simp only [swB, Bool.and_eq_true, decide_eq_true_eq] at h
    obtain ⟨h1, h2⟩ := swB_get (v + 1) os l h.2
    refine ⟨by simp [h1], fun k q' hq => ?_⟩
    cases k with
    | zero => cases hq; exact ⟨o, rfl, by rw [h.1.1]; simp, h.1.2⟩
    | succ k =>
      obtain ⟨o', a1, a2, a3⟩ := h2 k q' hq
      exact ⟨o', a1, by rw [a2]; push_cast; omega, a3⟩
theorem swL_off {pc : Nat} {x : Int32} {dd : Int} {d : Nat} {f : Nat → Option MO} {r : MO} (hd : (pc : Int) + dd = (d : Int)) : ∀ (ps : List (Int × Int)) (l : List (Int32 × Nat)), swL pc ps l = true → swt x d l f = some r → ∃ t, f t = some r ∧ (pc : Int) + Op.lookupswitch.offset ps dd x.toInt = (t : Int)
  | [], [], _, h => ⟨d, h, hd⟩
  | [], q :: l, h, _ => by cases h
  | o :: os, [], h, _ => by cases h
  | (oa, ob) :: os, q :: l, h, h2 => by
    simp only [swL, Bool.and_eq_true, decide_eq_true_eq] at h
    unfold swt at h2
    by_cases e : x = q.1
    · rw [if_pos e] at h2
      exact ⟨q.2, h2, by rw [Op.lookupswitch.offset_cons, if_pos (by rw [e, h.1.1])]; exact h.1.2⟩
    · rw [if_neg e] at h2
      obtain ⟨t, a1, a2⟩ := swL_off hd os l h.2 h2
      refine ⟨t, a1, ?_⟩
      rw [Op.lookupswitch.offset_cons, if_neg (fun hz => e (Int32.toInt_inj.mp (by rw [h.1.1]; exact hz.symm)))]
      exact a2
theorem psh_some {rk : Nat} {v : MO} {r : List MV} {f : List MV → MH → Option MO} {x : MO} (h : psh rk v r f = some x) : f (v.1.toList ++ r) v.2 = some x := by
  obtain ⟨v1, v2⟩ := v
  unfold psh at h
  split at h
  · obtain ⟨y, hy, h⟩ := bnd_some h
    match v1, hy with
    | none, _ => exact h
  · obtain ⟨y, hy, h⟩ := bnd_some h
    match v1, hy with
    | some (Sum.inl z), hy => cases hy; exact h
  · obtain ⟨y, hy, h⟩ := bnd_some h
    match v1, hy with
    | some (Sum.inr (Sum.inr z)), hy => cases hy; exact h
def rkOk (rk : Nat) (ret : Option FieldType) : Prop := (rk = 0 ∧ ret = none) ∨ (rk = 1 ∧ ret = some .int) ∨ (rk = 2 ∧ ret = some .boolean) ∨ (rk = 3 ∧ ∃ n, ret = some (.object n))
theorem rng {x : Int32} {lo hi : Int} {n : Nat} (h : hi + 1 = lo + n) (hno : ∀ k, k < n → x.toInt ≠ lo + k) : x.toInt < lo ∨ hi < x.toInt := by
  rcases Int.lt_or_le x.toInt lo with q | q
  · exact Or.inl q
  · rcases Int.lt_or_le hi x.toInt with q2 | q2
    · exact Or.inr q2
    · exact absurd (by omega : x.toInt = lo + ((x.toInt - lo).toNat : Nat)) (hno (x.toInt - lo).toNat (by omega))
section SND
variable {p : Program} {l : Launch} {e : Env} {R : Room} {s : State} {m : MethodId} {args : Array Value} {below : List Frame} {meth : Method} {c : Code}
variable {cc : ByteArray} {D : va_G} {cy : Nat → ClassId} {base : Nat} {z0 w0 nL FR LC : Nat} {u' : MH} {rr : Option MV} {T : MT} {own : String} {ini : Bool} {fi : List (Nat × Nat × Bool)} {ci : List (Nat × INF)} {ret : Option FieldType}
def Gd (p : Program) (l : Launch) (e : Env) (R : Room) (s : State) (m : MethodId) (args : Array Value) (below : List Frame) (meth : Method) (c : Code) (D : va_G) (cy : Nat → ClassId) (base z0 w0 nL : Nat) (u' : MH) (rr : Option MV) (pc : Nat) (lo : MLs) (o : List MV) (u : MH) : Prop :=
  (sz u ≤ sz u' ∧ sl u ≤ sl u') ∧ ∀ (H : Heap) (locs : List Loc) (ls : Array Slot) (cells slots : Nat), HR D cy base u H → va_S (fun q => base ≤ q) s.heap H locs → LR base ls nL lo → z0 + cells = sz u → w0 + slots = sl u →
    W p l e R s m args below meth c H locs cells slots (MQ below (mQ D cy base u' rr) args s (sz u' - z0) (sl u' - w0) (fun q => base ≤ q)) (F0 m pc ls (o.map (mval base)))
def Cx (p : Program) (R : Room) (s : State) (m : MethodId) (args : Array Value) (meth : Method) (c : Code) (cc : ByteArray) (D : va_G) (cy : Nat → ClassId) (z0 w0 nL FR LC : Nat) (u' : MH) (T : MT) (own : String) (ini : Bool) (fi : List (Nat × Nat × Bool)) (ci : List (Nat × INF)) (ret : Option FieldType) : Prop :=
  p.tables.exec = Jvm.exec ∧ c.code = cc ∧ c.maxLocals = nL ∧ s.vm.findClass own = some m.cls ∧ (∀ w ∈ lw_good, w.before args s = true) ∧ va_K D mcl (mty cy) s ∧ NW s ∧ meth.locks = false ∧ meth.sig.returnType = ret ∧ rkOk T.2.2.2.2 ret ∧ (ini = true → meth.name = "<init>") ∧ (R.frames = FR ∧ R.locals = LC ∧ R.cells = sz u' - z0 ∧ R.slots = sl u' - w0) ∧ all2 (fChk own) T.2.2.1 fi = true ∧ all2 (cChk own FR LC) T.2.2.2.1 ci = true ∧ SdAll T.2.2.2.1 ci
theorem fld_ok (C : Cx p R s m args meth c cc D cy z0 w0 nL FR LC u' T own ini fi ci ret) {i : Nat} {g : Nat × Nat × Nat} (h : lk i T.2.2.1 = some g) : g.1 ≤ 10 ∧ g.2.1 < nfl g.1 ∧ ftc (tyc g.1 g.2.1) = g.2.2 ∧ FLk own i g.1 g.2.1 s args ∧ ∃ f, lk i fi = some f ∧ (f.2 = false → (Cond.fieldLink own i (RXc g.1) (TXc g.1 g.2.1).2.1 (TXc g.1 g.2.1).2.2.1).before args s = true) := by
  obtain ⟨hx, hb, hml, hown, hts, hK, hN, hlk, hrt, hrk, hini, hR, hF, hC, hA⟩ := C
  obtain ⟨f, hf, hchk⟩ := all2_lk _ _ hF (fun x y hxy => by
    simp only [fChk, Bool.and_eq_true] at hxy
    exact Nat.eq_of_beq_eq_true hxy.1.1.1.1) h
  simp only [fChk, Bool.and_eq_true] at hchk
  obtain ⟨⟨⟨⟨-, h1⟩, h2⟩, h3⟩, h4⟩ := hchk
  have hnest : f.2 = true → (Cond.fieldLinkNest own i (RXc g.1) (TXc g.1 g.2.1).2.1 (TXc g.1 g.2.1).2.2.1 "NameKeeper").before args s = true := fun hf2 => by
    rw [hf2] at h4
    exact va_Nw.use rfl (hN.1 _ (nAt_in h4))
  have hpl : f.2 = false → (Cond.fieldLink own i (RXc g.1) (TXc g.1 g.2.1).2.1 (TXc g.1 g.2.1).2.2.1).before args s = true := fun hf2 => by
    rw [hf2] at h4
    exact hts _ (wAt_in h4)
  refine ⟨Nat.le_of_ble_eq_true h1, Nat.le_of_ble_eq_true h2, Nat.eq_of_beq_eq_true h3, ?_, f, hf, hpl⟩
  cases hf2 : f.2 with
  | true => exact Or.inr (hnest hf2)
  | false => exact Or.inl (hpl hf2)
/-- a call of a method that is proved -/
theorem cal_ok (C : Cx p R s m args meth c cc D cy z0 w0 nL FR LC u' T own ini fi ci ret) {i : Nat} {g : CE} (h : lk i T.2.2.2.1 = some g) : ∃ f : INF, lk i ci = some f ∧ ((f.2.2.2.2.2.2.1 = 5 ∧ g.2.1 = 98 ∧ (Cond.methodLink own i Lib.objectInit).before args s = true ∧ (Cond.instanceMethod Lib.objectInit).before args s = true ∧ (Cond.code Lib.objectInit ⟨#[0xb1]⟩ 1 none).before args s = true ∧ 1 ≤ FR ∧ 20 ≤ LC)
    ∨ (f.2.2.2.2.2.2.1 = 6 ∧ g.2.1 = 97 ∧ (Cond.methodLink own i arraycopyName).before args s = true ∧ (Cond.native arraycopyName).before args s = true ∧ (Cond.static arraycopyName).before args s = true ∧ (Cond.initialized "java/lang/System").before args s = true ∧ 1 ≤ FR ∧ 8 + (nativeFrameWords "java/lang/System" "arraycopy" 5 + 11) ≤ LC)
    ∨ (f.2.2.2.2.2.2.1 = 7 ∧ g.2.1 = 96 ∧ (Cond.methodLink own i Lib.Math.max.name).before args s = true ∧ (Cond.static Lib.Math.max.name).before args s = true ∧ (Cond.initialized "java/lang/Math").before args s = true ∧ (Cond.code Lib.Math.max.name Lib.Math.max.code 2 (some .int)).before args s = true ∧ 1 ≤ FR ∧ 21 ≤ LC)
    ∨ (f.2.2.2.2.2.2.1 = 8 ∧ g.2.1 = 95 ∧ (Cond.methodLink own i Lib.Math.min.name).before args s = true ∧ (Cond.static Lib.Math.min.name).before args s = true ∧ (Cond.initialized "java/lang/Math").before args s = true ∧ (Cond.code Lib.Math.min.name Lib.Math.min.code 2 (some .int)).before args s = true ∧ 1 ≤ FR ∧ 21 ≤ LC)
    ∨ ((f.2.2.2.2.2.2.1 ≠ 5 ∧ f.2.2.2.2.2.2.1 ≠ 6 ∧ f.2.2.2.2.2.2.1 ≠ 7 ∧ f.2.2.2.2.2.2.1 ≠ 8) ∧ Sd f.1 f.2.1 f.2.2.1 f.2.2.2.1 f.2.2.2.2.1 f.2.2.2.2.2.1 g.2.2.2 ∧ ((Cond.methodLink own i f.1).before args s = true ∨ va_Nw (.methodLinkNest own i f.1 "NameKeeper") s) ∧ Cond.code f.1 f.2.1 f.2.2.1 f.2.2.2.1 ∈ lw_good ∧ (Cond.initialized f.1.cls).before args s = true ∧ (f.1.cls ≠ "java/lang/invoke/MethodHandle" ∧ f.1.cls ≠ "java/lang/invoke/VarHandle") ∧ (∀ sig, parseMethodDescriptor f.1.desc = some sig → g.1 = sig.parameters.length) ∧ f.2.2.2.2.1 + 1 ≤ FR ∧ 8 + (f.2.2.1 + 11) + f.2.2.2.2.2.1 ≤ LC
      ∧ ((f.2.2.2.2.2.2.1 % 10 = 0 ∧ g.2.1 = 99 ∧ (Cond.static f.1).before args s = true) ∨ (f.2.2.2.2.2.2.1 % 10 = 1 ∧ g.2.1 ≤ 10 ∧ (Cond.instanceMethod f.1).before args s = true ∧ (Cond.selects (RXc g.2.1) f.1 f.1).before args s = true) ∨ (f.2.2.2.2.2.2.1 % 10 ≠ 0 ∧ f.2.2.2.2.2.2.1 % 10 ≠ 1 ∧ g.2.1 ≤ 10 ∧ (Cond.instanceMethod f.1).before args s = true ∧ f.1.name = "<init>" ∧ f.2.2.2.1 = none)))) := by
  obtain ⟨hx, hb, hml, hown, hts, hK, hN, hlk, hrt, hrk, hini, hR, hF, hC, hA⟩ := C
  obtain ⟨f, hf, hchk, hsd⟩ := SdAll_lk _ _ hA hC h
  refine ⟨f, hf, ?_⟩
  simp only [cChk, Bool.and_eq_true] at hchk
  have h2 := hchk.2
  split at h2
  · rename_i hkd
    simp only [Bool.and_eq_true] at h2
    obtain ⟨⟨⟨⟨⟨a1, a2⟩, a3⟩, a4⟩, a5⟩, a6⟩ := h2
    exact Or.inl ⟨hkd, Nat.eq_of_beq_eq_true a1, hts _ (wAt_in a2), hts _ (wAt_in a3), hts _ (wAt_in a4), Nat.le_of_ble_eq_true a5, Nat.le_of_ble_eq_true a6⟩
  · rename_i hkd
    simp only [Bool.and_eq_true] at h2
    obtain ⟨⟨⟨⟨⟨⟨a1, a2⟩, a3⟩, a4⟩, a5⟩, a6⟩, a7⟩ := h2
    exact Or.inr (Or.inl ⟨hkd, Nat.eq_of_beq_eq_true a1, hts _ (wAt_in a2), hts _ (wAt_in a3), hts _ (wAt_in a4), hts _ (wAt_in a5), Nat.le_of_ble_eq_true a6, Nat.le_of_ble_eq_true a7⟩)
  · rename_i hkd
    simp only [Bool.and_eq_true] at h2
    obtain ⟨⟨⟨⟨⟨⟨a1, a2⟩, a3⟩, a4⟩, a5⟩, a6⟩, a7⟩ := h2
    exact Or.inr (Or.inr (Or.inl ⟨hkd, Nat.eq_of_beq_eq_true a1, hts _ (wAt_in a2), hts _ (wAt_in a3), hts _ (wAt_in a4), hts _ (wAt_in a5), Nat.le_of_ble_eq_true a6, Nat.le_of_ble_eq_true a7⟩))
  · rename_i hkd
    simp only [Bool.and_eq_true] at h2
    obtain ⟨⟨⟨⟨⟨⟨a1, a2⟩, a3⟩, a4⟩, a5⟩, a6⟩, a7⟩ := h2
    exact Or.inr (Or.inr (Or.inr (Or.inl ⟨hkd, Nat.eq_of_beq_eq_true a1, hts _ (wAt_in a2), hts _ (wAt_in a3), hts _ (wAt_in a4), hts _ (wAt_in a5), Nat.le_of_ble_eq_true a6, Nat.le_of_ble_eq_true a7⟩)))
  · rename_i hk5 hk6 hk7 hk8
    simp only [Bool.and_eq_true, decide_eq_true_eq] at h2
    obtain ⟨⟨⟨⟨⟨⟨a1, a2⟩, a3⟩, a4⟩, a5⟩, a6⟩, a7⟩ := h2
    have hlink : (Cond.methodLink own i f.1).before args s = true ∨ va_Nw (.methodLinkNest own i f.1 "NameKeeper") s := by
      cases hb2 : Nat.ble 10 f.2.2.2.2.2.2.1 with
      | true => rw [hb2] at a1; exact Or.inr (hN.1 _ (nAt_in a1))
      | false => rw [hb2] at a1; exact Or.inl (hts _ (wAt_in a1))
    have hpar : ∀ sig, parseMethodDescriptor f.1.desc = some sig → g.1 = sig.parameters.length := fun sig hs => by
      have h3 := a4.2.2
      rw [hs] at h3
      exact (Option.some.inj h3).symm
    have hlast : (f.2.2.2.2.2.2.1 % 10 = 0 ∧ g.2.1 = 99 ∧ (Cond.static f.1).before args s = true) ∨ (f.2.2.2.2.2.2.1 % 10 = 1 ∧ g.2.1 ≤ 10 ∧ (Cond.instanceMethod f.1).before args s = true ∧ (Cond.selects (RXc g.2.1) f.1 f.1).before args s = true) ∨ (f.2.2.2.2.2.2.1 % 10 ≠ 0 ∧ f.2.2.2.2.2.2.1 % 10 ≠ 1 ∧ g.2.1 ≤ 10 ∧ (Cond.instanceMethod f.1).before args s = true ∧ f.1.name = "<init>" ∧ f.2.2.2.1 = none) := by
      split at a7
      · rename_i hk0
        simp only [Bool.and_eq_true] at a7
        exact Or.inl ⟨hk0, Nat.eq_of_beq_eq_true a7.1, hts _ (wAt_in a7.2)⟩
      · rename_i hk0
        simp only [Bool.and_eq_true] at a7
        exact Or.inr (Or.inl ⟨hk0, Nat.le_of_ble_eq_true a7.1.1, hts _ (wAt_in a7.1.2), hts _ (wAt_in a7.2)⟩)
      · rename_i hk0 hk1
        simp only [Bool.and_eq_true, decide_eq_true_eq] at a7
        exact Or.inr (Or.inr ⟨hk0, hk1, Nat.le_of_ble_eq_true a7.1.1.1, hts _ (wAt_in a7.1.1.2), a7.1.2, a7.2⟩)
    have hg : ¬ (95 ≤ g.2.1 ∧ g.2.1 ≤ 98) := by rcases hlast with h | h | h <;> omega
    rcases hsd with h | h
    · exact absurd h hg
    · exact Or.inr (Or.inr (Or.inr (Or.inr ⟨⟨hk5, hk6, hk7, hk8⟩, h, hlink, wAt_in a2, hts _ (wAt_in a3), ⟨a4.1, a4.2.1⟩, hpar, Nat.le_of_ble_eq_true a5, Nat.le_of_ble_eq_true a6, hlast⟩)))

set_option maxHeartbeats 8000000 in
theorem stI_snd (C : Cx p R s m args meth c cc D cy z0 w0 nL FR LC u' T own ini fi ci ret) {k : MK} (hk : ∀ (pc : Nat) (lo : MLs) (o : List MV) (u : MH), k pc lo o u = some (rr, u') → Gd p l e R s m args below meth c D cy base z0 w0 nL u' rr pc lo o u) {pc : Nat} {q : EN} (hd : dcB cc pc q = true) (hq : enB own nL ini T fi ci pc q = true) {lo : MLs} {o : List MV} {u : MH} (h : stI T k q lo o u = some (rr, u')) : Gd p l e R s m args below meth c D cy base z0 w0 nL u' rr pc lo o u := by
  have C0 := C
  obtain ⟨hx, hb, hml, hown, hts, hK, hN, hlocks, hrt, hrk, hini, ⟨hR1, hR2, hR3, hR4⟩, hF, hC, hA⟩ := C
  obtain ⟨hd0, hd1⟩ := dcB_ok hd
  obtain ⟨i, nx, tg, cv, cl, sw⟩ := q
  cases i
  case iconst v =>
    obtain ⟨hdg, hnx⟩ := hd1 rfl
    have hnx : nx = pc + 1 := hnx
    subst hnx
    dsimp only [stI] at h
    have hq := of_decide_eq_true hq
    have g := hk _ _ _ _ h
    refine ⟨g.1, fun H locs ls cells slots hH hS hl hz hw => ?_⟩
    exact lv_iconst hx hb hdg hq (g.2 H locs ls cells slots hH hS hl hz hw)
  case bipush v =>
    obtain ⟨hdg, hnx⟩ := hd1 rfl
    have hnx : nx = pc + 2 := hnx
    subst hnx
    dsimp only [stI] at h
    have hq := of_decide_eq_true hq
    have g := hk _ _ _ _ h
    refine ⟨g.1, fun H locs ls cells slots hH hS hl hz hw => ?_⟩
    exact lv_bipush hx hb hdg hq (g.2 H locs ls cells slots hH hS hl hz hw)
  case sipush v =>
    obtain ⟨hdg, hnx⟩ := hd1 rfl
    have hnx : nx = pc + 3 := hnx
    subst hnx
    dsimp only [stI] at h
    have hq := of_decide_eq_true hq
    have g := hk _ _ _ _ h
    refine ⟨g.1, fun H locs ls cells slots hH hS hl hz hw => ?_⟩
    exact lv_sipush hx hb hdg hq (g.2 H locs ls cells slots hH hS hl hz hw)
  case ldc v =>
    obtain ⟨hdg, hnx⟩ := hd1 rfl
    have hnx : nx = pc + 2 := hnx
    subst hnx
    dsimp only [stI] at h
    have g := hk _ _ _ _ h
    refine ⟨g.1, fun H locs ls cells slots hH hS hl hz hw => ?_⟩
    exact lv_ldc hx hb hown (hts _ (wIn_in hq)) hdg (g.2 H locs ls cells slots hH hS hl hz hw)
  case lconst v =>
    obtain ⟨hdg, hnx⟩ := hd1 rfl
    have hnx : nx = pc + 1 := hnx
    subst hnx
    dsimp only [stI] at h
    have hq := of_decide_eq_true hq
    have g := hk _ _ _ _ h
    refine ⟨g.1, fun H locs ls cells slots hH hS hl hz hw => ?_⟩
    exact lv_lconst hx hb hdg hq (g.2 H locs ls cells slots hH hS hl hz hw)
  case ldc2_w v =>
    obtain ⟨hdg, hnx⟩ := hd1 rfl
    have hnx : nx = pc + 3 := hnx
    subst hnx
    dsimp only [stI] at h
    have g := hk _ _ _ _ h
    refine ⟨g.1, fun H locs ls cells slots hH hS hl hz hw => ?_⟩
    exact lv_ldc2 hx hb hown (hts _ (wIn_in hq)) hdg (g.2 H locs ls cells slots hH hS hl hz hw)
  case aconst_null =>
    obtain ⟨hdg, hnx⟩ := hd1 rfl
    have hnx : nx = pc + 1 := hnx
    subst hnx
    dsimp only [stI] at h
    have g := hk _ _ _ _ h
    refine ⟨g.1, fun H locs ls cells slots hH hS hl hz hw => ?_⟩
    exact lv_null hx hb hdg (g.2 H locs ls cells slots hH hS hl hz hw)
  case iload j =>
    obtain ⟨hdg, hnx⟩ := hd1 rfl
    have hnx : nx = pc + 2 := hnx
    subst hnx
    dsimp only [stI] at h
    obtain ⟨x, hj, h⟩ := lI_some h
    have g := hk _ _ _ _ h
    refine ⟨g.1, fun H locs ls cells slots hH hS hl hz hw => ?_⟩
    exact lv_iload hx hb hdg (hl.at hj) (g.2 H locs ls cells slots hH hS hl hz hw)
  case iload_n j =>
    obtain ⟨hdg, hnx⟩ := hd1 rfl
    have hnx : nx = pc + 1 := hnx
    subst hnx
    dsimp only [stI] at h
    obtain ⟨x, hj, h⟩ := lI_some h
    have g := hk _ _ _ _ h
    refine ⟨g.1, fun H locs ls cells slots hH hS hl hz hw => ?_⟩
    exact lv_iload_n hx hb hdg rfl (hl.at hj) (g.2 H locs ls cells slots hH hS hl hz hw)
  case lload j =>
    obtain ⟨hdg, hnx⟩ := hd1 rfl
    have hnx : nx = pc + 2 := hnx
    subst hnx
    dsimp only [stI] at h
    obtain ⟨x, hj, h⟩ := lL_some h
    have g := hk _ _ _ _ h
    refine ⟨g.1, fun H locs ls cells slots hH hS hl hz hw => ?_⟩
    exact lv_lload hx hb hdg (hl.at hj) (g.2 H locs ls cells slots hH hS hl hz hw)
  case lload_n j =>
    obtain ⟨hdg, hnx⟩ := hd1 rfl
    have hnx : nx = pc + 1 := hnx
    subst hnx
    dsimp only [stI] at h
    obtain ⟨x, hj, h⟩ := lL_some h
    have g := hk _ _ _ _ h
    refine ⟨g.1, fun H locs ls cells slots hH hS hl hz hw => ?_⟩
    exact lv_lload_n hx hb hdg rfl (hl.at hj) (g.2 H locs ls cells slots hH hS hl hz hw)
  case aload j =>
    obtain ⟨hdg, hnx⟩ := hd1 rfl
    have hnx : nx = pc + 2 := hnx
    subst hnx
    dsimp only [stI] at h
    obtain ⟨x, hj, h⟩ := lR_some h
    have g := hk _ _ _ _ h
    refine ⟨g.1, fun H locs ls cells slots hH hS hl hz hw => ?_⟩
    cases x with
    | none => exact lv_aloadN hx hb hdg (hl.at hj) (g.2 H locs ls cells slots hH hS hl hz hw)
    | some x => exact lv_aload hx hb hdg (hl.at hj) (g.2 H locs ls cells slots hH hS hl hz hw)
  case aload_n j =>
    obtain ⟨hdg, hnx⟩ := hd1 rfl
    have hnx : nx = pc + 1 := hnx
    subst hnx
    dsimp only [stI] at h
    obtain ⟨x, hj, h⟩ := lR_some h
    have g := hk _ _ _ _ h
    refine ⟨g.1, fun H locs ls cells slots hH hS hl hz hw => ?_⟩
    cases x with
    | none => exact lv_aload_nN hx hb hdg rfl (hl.at hj) (g.2 H locs ls cells slots hH hS hl hz hw)
    | some x => exact lv_aload_n hx hb hdg rfl (hl.at hj) (g.2 H locs ls cells slots hH hS hl hz hw)
  case istore j =>
    obtain ⟨hdg, hnx⟩ := hd1 rfl
    have hnx : nx = pc + 2 := hnx
    subst hnx
    dsimp only [stI] at h
    obtain ⟨x, r, eo, h1⟩ := pI_some h; clear h; subst eo; have h := h1; clear h1
    have g := hk _ _ _ _ h
    refine ⟨g.1, fun H locs ls cells slots hH hS hl hz hw => ?_⟩
    exact lv_istore hx hb hdg hl (Nat.le_of_ble_eq_true hq) rfl (fun ls1 hl1 => g.2 H locs ls1 cells slots hH hS (LR.set rfl hl1) hz hw)
  case istore_n j =>
    obtain ⟨hdg, hnx⟩ := hd1 rfl
    have hnx : nx = pc + 1 := hnx
    subst hnx
    dsimp only [stI] at h
    obtain ⟨x, r, eo, h1⟩ := pI_some h; clear h; subst eo; have h := h1; clear h1
    have g := hk _ _ _ _ h
    refine ⟨g.1, fun H locs ls cells slots hH hS hl hz hw => ?_⟩
    exact lv_istore_n hx hb hdg rfl hl (Nat.le_of_ble_eq_true hq) rfl (fun ls1 hl1 => g.2 H locs ls1 cells slots hH hS (LR.set rfl hl1) hz hw)
  case astore j =>
    obtain ⟨hdg, hnx⟩ := hd1 rfl
    have hnx : nx = pc + 2 := hnx
    subst hnx
    dsimp only [stI] at h
    obtain ⟨x, r, eo, h1⟩ := pR_some h; clear h; subst eo; have h := h1; clear h1
    have g := hk _ _ _ _ h
    refine ⟨g.1, fun H locs ls cells slots hH hS hl hz hw => ?_⟩
    cases x with
    | none => exact lv_astoreN hx hb hdg hl (Nat.le_of_ble_eq_true hq) rfl (fun ls1 hl1 => g.2 H locs ls1 cells slots hH hS (LR.set rfl hl1) hz hw)
    | some x => exact lv_astore hx hb hdg hl (Nat.le_of_ble_eq_true hq) rfl (fun ls1 hl1 => g.2 H locs ls1 cells slots hH hS (LR.set rfl hl1) hz hw)
  case astore_n j =>
    obtain ⟨hdg, hnx⟩ := hd1 rfl
    have hnx : nx = pc + 1 := hnx
    subst hnx
    dsimp only [stI] at h
    obtain ⟨x, r, eo, h1⟩ := pR_some h; clear h; subst eo; have h := h1; clear h1
    have g := hk _ _ _ _ h
    refine ⟨g.1, fun H locs ls cells slots hH hS hl hz hw => ?_⟩
    cases x with
    | none => exact lv_astore_nN hx hb hdg rfl hl (Nat.le_of_ble_eq_true hq) rfl (fun ls1 hl1 => g.2 H locs ls1 cells slots hH hS (LR.set rfl hl1) hz hw)
    | some x => exact lv_astore_n hx hb hdg rfl hl (Nat.le_of_ble_eq_true hq) rfl (fun ls1 hl1 => g.2 H locs ls1 cells slots hH hS (LR.set rfl hl1) hz hw)
  case iinc j n =>
    obtain ⟨hdg, hnx⟩ := hd1 rfl
    have hnx : nx = pc + 3 := hnx
    subst hnx
    dsimp only [stI] at h
    simp only [enB, Bool.and_eq_true, decide_eq_true_eq] at hq
    obtain ⟨x, hj, h⟩ := lI_some h
    have g := hk _ _ _ _ h
    refine ⟨g.1, fun H locs ls cells slots hH hS hl hz hw => ?_⟩
    obtain ⟨kk, hkk⟩ := List.getElem?_of_mem ((lva_mem (base := base) lo 0).mpr ⟨j, _, hj, rfl⟩)
    rw [Nat.zero_add] at hkk
    exact lv_iinc hx hb hdg hl hkk (by rw [hq.1]) (Nat.le_of_ble_eq_true hq.2) rfl (fun ls1 hl1 => g.2 H locs ls1 cells slots hH hS (LR.set rfl hl1) hz hw)
  case dup =>
    obtain ⟨hdg, hnx⟩ := hd1 rfl
    have hnx : nx = pc + 1 := hnx
    subst hnx
    dsimp only [stI] at h
    obtain ⟨v, r, eo, hv, h1⟩ := pC_some h; clear h; subst eo; have h := h1; clear h1
    have g := hk _ _ _ _ h
    refine ⟨g.1, fun H locs ls cells slots hH hS hl hz hw => ?_⟩
    exact lv_dup hx hb hdg (cat_mval hv) (g.2 H locs ls cells slots hH hS hl hz hw)
  case pop =>
    obtain ⟨hdg, hnx⟩ := hd1 rfl
    have hnx : nx = pc + 1 := hnx
    subst hnx
    dsimp only [stI] at h
    obtain ⟨v, r, eo, hv, h1⟩ := pC_some h; clear h; subst eo; have h := h1; clear h1
    have g := hk _ _ _ _ h
    refine ⟨g.1, fun H locs ls cells slots hH hS hl hz hw => ?_⟩
    exact lv_pop hx hb hdg (cat_mval hv) (g.2 H locs ls cells slots hH hS hl hz hw)
  case dup2 =>
    obtain ⟨hdg, hnx⟩ := hd1 rfl
    have hnx : nx = pc + 1 := hnx
    subst hnx
    dsimp only [stI] at h
    obtain ⟨v, r, eo, hv, h1⟩ := pC_some h; clear h; subst eo; have h := h1; clear h1
    obtain ⟨w, r, eo, hw2, h1⟩ := pC_some h; clear h; subst eo; have h := h1; clear h1
    have g := hk _ _ _ _ h
    refine ⟨g.1, fun H locs ls cells slots hH hS hl hz hw => ?_⟩
    exact lv_dup2_11 hx hb hdg (cat_mval hv) (cat_mval hw2) (g.2 H locs ls cells slots hH hS hl hz hw)
  case iadd =>
    obtain ⟨hdg, hnx⟩ := hd1 rfl
    have hnx : nx = pc + 1 := hnx
    subst hnx
    dsimp only [stI] at h
    obtain ⟨y, r, eo, h1⟩ := pI_some h; clear h; subst eo; have h := h1; clear h1
    obtain ⟨x, r, eo, h1⟩ := pI_some h; clear h; subst eo; have h := h1; clear h1
    have g := hk _ _ _ _ h
    refine ⟨g.1, fun H locs ls cells slots hH hS hl hz hw => ?_⟩
    exact lv_iadd hx hb hdg (g.2 H locs ls cells slots hH hS hl hz hw)
  case isub =>
    obtain ⟨hdg, hnx⟩ := hd1 rfl
    have hnx : nx = pc + 1 := hnx
    subst hnx
    dsimp only [stI] at h
    obtain ⟨y, r, eo, h1⟩ := pI_some h; clear h; subst eo; have h := h1; clear h1
    obtain ⟨x, r, eo, h1⟩ := pI_some h; clear h; subst eo; have h := h1; clear h1
    have g := hk _ _ _ _ h
    refine ⟨g.1, fun H locs ls cells slots hH hS hl hz hw => ?_⟩
    exact lv_isub hx hb hdg (g.2 H locs ls cells slots hH hS hl hz hw)
  case imul =>
    obtain ⟨hdg, hnx⟩ := hd1 rfl
    have hnx : nx = pc + 1 := hnx
    subst hnx
    dsimp only [stI] at h
    obtain ⟨y, r, eo, h1⟩ := pI_some h; clear h; subst eo; have h := h1; clear h1
    obtain ⟨x, r, eo, h1⟩ := pI_some h; clear h; subst eo; have h := h1; clear h1
    have g := hk _ _ _ _ h
    refine ⟨g.1, fun H locs ls cells slots hH hS hl hz hw => ?_⟩
    exact lv_imul hx hb hdg (g.2 H locs ls cells slots hH hS hl hz hw)
  case iand =>
    obtain ⟨hdg, hnx⟩ := hd1 rfl
    have hnx : nx = pc + 1 := hnx
    subst hnx
    dsimp only [stI] at h
    obtain ⟨y, r, eo, h1⟩ := pI_some h; clear h; subst eo; have h := h1; clear h1
    obtain ⟨x, r, eo, h1⟩ := pI_some h; clear h; subst eo; have h := h1; clear h1
    have g := hk _ _ _ _ h
    refine ⟨g.1, fun H locs ls cells slots hH hS hl hz hw => ?_⟩
    exact lv_iand hx hb hdg (g.2 H locs ls cells slots hH hS hl hz hw)
  case ior =>
    obtain ⟨hdg, hnx⟩ := hd1 rfl
    have hnx : nx = pc + 1 := hnx
    subst hnx
    dsimp only [stI] at h
    obtain ⟨y, r, eo, h1⟩ := pI_some h; clear h; subst eo; have h := h1; clear h1
    obtain ⟨x, r, eo, h1⟩ := pI_some h; clear h; subst eo; have h := h1; clear h1
    have g := hk _ _ _ _ h
    refine ⟨g.1, fun H locs ls cells slots hH hS hl hz hw => ?_⟩
    exact lv_ior hx hb hdg (g.2 H locs ls cells slots hH hS hl hz hw)
  case ishl =>
    obtain ⟨hdg, hnx⟩ := hd1 rfl
    have hnx : nx = pc + 1 := hnx
    subst hnx
    dsimp only [stI] at h
    obtain ⟨y, r, eo, h1⟩ := pI_some h; clear h; subst eo; have h := h1; clear h1
    obtain ⟨x, r, eo, h1⟩ := pI_some h; clear h; subst eo; have h := h1; clear h1
    have g := hk _ _ _ _ h
    refine ⟨g.1, fun H locs ls cells slots hH hS hl hz hw => ?_⟩
    exact lv_ishl hx hb hdg (g.2 H locs ls cells slots hH hS hl hz hw)
  case ishr =>
    obtain ⟨hdg, hnx⟩ := hd1 rfl
    have hnx : nx = pc + 1 := hnx
    subst hnx
    dsimp only [stI] at h
    obtain ⟨y, r, eo, h1⟩ := pI_some h; clear h; subst eo; have h := h1; clear h1
    obtain ⟨x, r, eo, h1⟩ := pI_some h; clear h; subst eo; have h := h1; clear h1
    have g := hk _ _ _ _ h
    refine ⟨g.1, fun H locs ls cells slots hH hS hl hz hw => ?_⟩
    exact lv_ishr hx hb hdg (g.2 H locs ls cells slots hH hS hl hz hw)
  case iushr =>
    obtain ⟨hdg, hnx⟩ := hd1 rfl
    have hnx : nx = pc + 1 := hnx
    subst hnx
    dsimp only [stI] at h
    obtain ⟨y, r, eo, h1⟩ := pI_some h; clear h; subst eo; have h := h1; clear h1
    obtain ⟨x, r, eo, h1⟩ := pI_some h; clear h; subst eo; have h := h1; clear h1
    have g := hk _ _ _ _ h
    refine ⟨g.1, fun H locs ls cells slots hH hS hl hz hw => ?_⟩
    exact lv_iushr hx hb hdg rfl (g.2 H locs ls cells slots hH hS hl hz hw)
  case idiv =>
    obtain ⟨hdg, hnx⟩ := hd1 rfl
    have hnx : nx = pc + 1 := hnx
    subst hnx
    dsimp only [stI] at h
    obtain ⟨y, r, eo, h1⟩ := pI_some h; clear h; subst eo; have h := h1; clear h1
    obtain ⟨x, r, eo, h1⟩ := pI_some h; clear h; subst eo; have h := h1; clear h1
    by_cases hy : y = 0
    · rw [if_pos hy] at h; cases h
    rw [if_neg hy] at h
    have g := hk _ _ _ _ h
    refine ⟨g.1, fun H locs ls cells slots hH hS hl hz hw => ?_⟩
    exact lv_idiv hx hb hdg hy (g.2 H locs ls cells slots hH hS hl hz hw)
  case irem =>
    obtain ⟨hdg, hnx⟩ := hd1 rfl
    have hnx : nx = pc + 1 := hnx
    subst hnx
    dsimp only [stI] at h
    obtain ⟨y, r, eo, h1⟩ := pI_some h; clear h; subst eo; have h := h1; clear h1
    obtain ⟨x, r, eo, h1⟩ := pI_some h; clear h; subst eo; have h := h1; clear h1
    by_cases hy : y = 0
    · rw [if_pos hy] at h; cases h
    rw [if_neg hy] at h
    have g := hk _ _ _ _ h
    refine ⟨g.1, fun H locs ls cells slots hH hS hl hz hw => ?_⟩
    exact lv_irem hx hb hdg hy (g.2 H locs ls cells slots hH hS hl hz hw)
  case ladd =>
    obtain ⟨hdg, hnx⟩ := hd1 rfl
    have hnx : nx = pc + 1 := hnx
    subst hnx
    dsimp only [stI] at h
    obtain ⟨y, r, eo, h1⟩ := pL_some h; clear h; subst eo; have h := h1; clear h1
    obtain ⟨x, r, eo, h1⟩ := pL_some h; clear h; subst eo; have h := h1; clear h1
    have g := hk _ _ _ _ h
    refine ⟨g.1, fun H locs ls cells slots hH hS hl hz hw => ?_⟩
    exact lv_ladd hx hb hdg (g.2 H locs ls cells slots hH hS hl hz hw)
  case lmul =>
    obtain ⟨hdg, hnx⟩ := hd1 rfl
    have hnx : nx = pc + 1 := hnx
    subst hnx
    dsimp only [stI] at h
    obtain ⟨y, r, eo, h1⟩ := pL_some h; clear h; subst eo; have h := h1; clear h1
    obtain ⟨x, r, eo, h1⟩ := pL_some h; clear h; subst eo; have h := h1; clear h1
    have g := hk _ _ _ _ h
    refine ⟨g.1, fun H locs ls cells slots hH hS hl hz hw => ?_⟩
    exact lv_lmul hx hb hdg (g.2 H locs ls cells slots hH hS hl hz hw)
  case land =>
    obtain ⟨hdg, hnx⟩ := hd1 rfl
    have hnx : nx = pc + 1 := hnx
    subst hnx
    dsimp only [stI] at h
    obtain ⟨y, r, eo, h1⟩ := pL_some h; clear h; subst eo; have h := h1; clear h1
    obtain ⟨x, r, eo, h1⟩ := pL_some h; clear h; subst eo; have h := h1; clear h1
    have g := hk _ _ _ _ h
    refine ⟨g.1, fun H locs ls cells slots hH hS hl hz hw => ?_⟩
    exact lv_land hx hb hdg (g.2 H locs ls cells slots hH hS hl hz hw)
  case ldiv =>
    obtain ⟨hdg, hnx⟩ := hd1 rfl
    have hnx : nx = pc + 1 := hnx
    subst hnx
    dsimp only [stI] at h
    obtain ⟨y, r, eo, h1⟩ := pL_some h; clear h; subst eo; have h := h1; clear h1
    obtain ⟨x, r, eo, h1⟩ := pL_some h; clear h; subst eo; have h := h1; clear h1
    by_cases hy : y = 0
    · rw [if_pos hy] at h; cases h
    rw [if_neg hy] at h
    have g := hk _ _ _ _ h
    refine ⟨g.1, fun H locs ls cells slots hH hS hl hz hw => ?_⟩
    exact lv_ldiv hx hb hdg hy (g.2 H locs ls cells slots hH hS hl hz hw)
  case lrem =>
    obtain ⟨hdg, hnx⟩ := hd1 rfl
    have hnx : nx = pc + 1 := hnx
    subst hnx
    dsimp only [stI] at h
    obtain ⟨y, r, eo, h1⟩ := pL_some h; clear h; subst eo; have h := h1; clear h1
    obtain ⟨x, r, eo, h1⟩ := pL_some h; clear h; subst eo; have h := h1; clear h1
    by_cases hy : y = 0
    · rw [if_pos hy] at h; cases h
    rw [if_neg hy] at h
    have g := hk _ _ _ _ h
    refine ⟨g.1, fun H locs ls cells slots hH hS hl hz hw => ?_⟩
    exact lv_lrem hx hb hdg hy (g.2 H locs ls cells slots hH hS hl hz hw)
  case i2l =>
    obtain ⟨hdg, hnx⟩ := hd1 rfl
    have hnx : nx = pc + 1 := hnx
    subst hnx
    dsimp only [stI] at h
    obtain ⟨x, r, eo, h1⟩ := pI_some h; clear h; subst eo; have h := h1; clear h1
    have g := hk _ _ _ _ h
    refine ⟨g.1, fun H locs ls cells slots hH hS hl hz hw => ?_⟩
    exact lv_i2l hx hb hdg rfl (g.2 H locs ls cells slots hH hS hl hz hw)
  case l2i =>
    obtain ⟨hdg, hnx⟩ := hd1 rfl
    have hnx : nx = pc + 1 := hnx
    subst hnx
    dsimp only [stI] at h
    obtain ⟨x, r, eo, h1⟩ := pL_some h; clear h; subst eo; have h := h1; clear h1
    have g := hk _ _ _ _ h
    refine ⟨g.1, fun H locs ls cells slots hH hS hl hz hw => ?_⟩
    exact lv_l2i hx hb hdg rfl (g.2 H locs ls cells slots hH hS hl hz hw)
  case lcmp =>
    obtain ⟨hdg, hnx⟩ := hd1 rfl
    have hnx : nx = pc + 1 := hnx
    subst hnx
    dsimp only [stI] at h
    obtain ⟨y, r, eo, h1⟩ := pL_some h; clear h; subst eo; have h := h1; clear h1
    obtain ⟨x, r, eo, h1⟩ := pL_some h; clear h; subst eo; have h := h1; clear h1
    have g := hk _ _ _ _ h
    refine ⟨g.1, fun H locs ls cells slots hH hS hl hz hw => ?_⟩
    exact W.lcmp hx hb hdg (g.2 H locs ls cells slots hH hS hl hz hw)
  case ifCond co off =>
    obtain ⟨hdg, hnx⟩ := hd1 rfl
    have hnx : nx = pc + 3 := hnx
    subst hnx
    dsimp only [stI] at h
    have ht := of_decide_eq_true hq
    obtain ⟨x, r, eo, h1⟩ := pI_some h; clear h; subst eo; have h := h1; clear h1
    cases co
    case eq =>
      by_cases hc : x = 0
      · have h2 : k tg lo r u = some (rr, u') := by simpa [c2, hc] using h
        have g := hk _ _ _ _ h2
        exact ⟨g.1, fun H locs ls cells slots hH hS hl hz hw => lv_if_eq hx hb hdg ht (fun _ => (g.2 H locs ls cells slots hH hS hl hz hw)) (fun z => absurd hc z)⟩
      · have h2 : k (pc + 3) lo r u = some (rr, u') := by simpa [c2, hc] using h
        have g := hk _ _ _ _ h2
        exact ⟨g.1, fun H locs ls cells slots hH hS hl hz hw => lv_if_eq hx hb hdg ht (fun z => absurd z hc) (fun _ => (g.2 H locs ls cells slots hH hS hl hz hw))⟩
    case ne =>
      by_cases hc : x = 0
      · have h2 : k (pc + 3) lo r u = some (rr, u') := by simpa [c2, hc] using h
        have g := hk _ _ _ _ h2
        exact ⟨g.1, fun H locs ls cells slots hH hS hl hz hw => lv_if_ne hx hb hdg ht (fun z => absurd hc z) (fun _ => (g.2 H locs ls cells slots hH hS hl hz hw))⟩
      · have h2 : k tg lo r u = some (rr, u') := by simpa [c2, hc] using h
        have g := hk _ _ _ _ h2
        exact ⟨g.1, fun H locs ls cells slots hH hS hl hz hw => lv_if_ne hx hb hdg ht (fun _ => (g.2 H locs ls cells slots hH hS hl hz hw)) (fun z => absurd z hc)⟩
    case lt =>
      by_cases hc : x < 0
      · have h2 : k tg lo r u = some (rr, u') := by simpa [c2, hc] using h
        have g := hk _ _ _ _ h2
        exact ⟨g.1, fun H locs ls cells slots hH hS hl hz hw => lv_if_lt hx hb hdg ht (fun _ => (g.2 H locs ls cells slots hH hS hl hz hw)) (fun z => absurd hc z)⟩
      · have h2 : k (pc + 3) lo r u = some (rr, u') := by simpa [c2, hc] using h
        have g := hk _ _ _ _ h2
        exact ⟨g.1, fun H locs ls cells slots hH hS hl hz hw => lv_if_lt hx hb hdg ht (fun z => absurd z hc) (fun _ => (g.2 H locs ls cells slots hH hS hl hz hw))⟩
    case ge =>
      by_cases hc : 0 ≤ x
      · have h2 : k tg lo r u = some (rr, u') := by simpa [c2, hc] using h
        have g := hk _ _ _ _ h2
        exact ⟨g.1, fun H locs ls cells slots hH hS hl hz hw => lv_if_ge hx hb hdg ht (fun _ => (g.2 H locs ls cells slots hH hS hl hz hw)) (fun z => absurd hc z)⟩
      · have h2 : k (pc + 3) lo r u = some (rr, u') := by simpa [c2, hc] using h
        have g := hk _ _ _ _ h2
        exact ⟨g.1, fun H locs ls cells slots hH hS hl hz hw => lv_if_ge hx hb hdg ht (fun z => absurd z hc) (fun _ => (g.2 H locs ls cells slots hH hS hl hz hw))⟩
    case gt =>
      by_cases hc : 0 < x
      · have h2 : k tg lo r u = some (rr, u') := by simpa [c2, hc] using h
        have g := hk _ _ _ _ h2
        exact ⟨g.1, fun H locs ls cells slots hH hS hl hz hw => lv_if_gt hx hb hdg ht (fun _ => (g.2 H locs ls cells slots hH hS hl hz hw)) (fun z => absurd hc z)⟩
      · have h2 : k (pc + 3) lo r u = some (rr, u') := by simpa [c2, hc] using h
        have g := hk _ _ _ _ h2
        exact ⟨g.1, fun H locs ls cells slots hH hS hl hz hw => lv_if_gt hx hb hdg ht (fun z => absurd z hc) (fun _ => (g.2 H locs ls cells slots hH hS hl hz hw))⟩
    case le =>
      by_cases hc : x ≤ 0
      · have h2 : k tg lo r u = some (rr, u') := by simpa [c2, hc] using h
        have g := hk _ _ _ _ h2
        exact ⟨g.1, fun H locs ls cells slots hH hS hl hz hw => lv_if_le hx hb hdg ht (fun _ => (g.2 H locs ls cells slots hH hS hl hz hw)) (fun z => absurd hc z)⟩
      · have h2 : k (pc + 3) lo r u = some (rr, u') := by simpa [c2, hc] using h
        have g := hk _ _ _ _ h2
        exact ⟨g.1, fun H locs ls cells slots hH hS hl hz hw => lv_if_le hx hb hdg ht (fun z => absurd z hc) (fun _ => (g.2 H locs ls cells slots hH hS hl hz hw))⟩
  case if_icmp co off =>
    obtain ⟨hdg, hnx⟩ := hd1 rfl
    have hnx : nx = pc + 3 := hnx
    subst hnx
    dsimp only [stI] at h
    have ht := of_decide_eq_true hq
    obtain ⟨y, r, eo, h1⟩ := pI_some h; clear h; subst eo; have h := h1; clear h1
    obtain ⟨x, r, eo, h1⟩ := pI_some h; clear h; subst eo; have h := h1; clear h1
    cases co
    case eq =>
      by_cases hc : x = y
      · have h2 : k tg lo r u = some (rr, u') := by simpa [c2, hc] using h
        have g := hk _ _ _ _ h2
        exact ⟨g.1, fun H locs ls cells slots hH hS hl hz hw => lv_icmp_eq hx hb hdg ht (fun _ => (g.2 H locs ls cells slots hH hS hl hz hw)) (fun z => absurd hc z)⟩
      · have h2 : k (pc + 3) lo r u = some (rr, u') := by simpa [c2, hc] using h
        have g := hk _ _ _ _ h2
        exact ⟨g.1, fun H locs ls cells slots hH hS hl hz hw => lv_icmp_eq hx hb hdg ht (fun z => absurd z hc) (fun _ => (g.2 H locs ls cells slots hH hS hl hz hw))⟩
    case ne =>
      by_cases hc : x = y
      · have h2 : k (pc + 3) lo r u = some (rr, u') := by simpa [c2, hc] using h
        have g := hk _ _ _ _ h2
        exact ⟨g.1, fun H locs ls cells slots hH hS hl hz hw => lv_icmp_ne hx hb hdg ht (fun z => absurd hc z) (fun _ => (g.2 H locs ls cells slots hH hS hl hz hw))⟩
      · have h2 : k tg lo r u = some (rr, u') := by simpa [c2, hc] using h
        have g := hk _ _ _ _ h2
        exact ⟨g.1, fun H locs ls cells slots hH hS hl hz hw => lv_icmp_ne hx hb hdg ht (fun _ => (g.2 H locs ls cells slots hH hS hl hz hw)) (fun z => absurd z hc)⟩
    case lt =>
      by_cases hc : x < y
      · have h2 : k tg lo r u = some (rr, u') := by simpa [c2, hc] using h
        have g := hk _ _ _ _ h2
        exact ⟨g.1, fun H locs ls cells slots hH hS hl hz hw => lv_icmp_lt hx hb hdg ht (fun _ => (g.2 H locs ls cells slots hH hS hl hz hw)) (fun z => absurd hc z)⟩
      · have h2 : k (pc + 3) lo r u = some (rr, u') := by simpa [c2, hc] using h
        have g := hk _ _ _ _ h2
        exact ⟨g.1, fun H locs ls cells slots hH hS hl hz hw => lv_icmp_lt hx hb hdg ht (fun z => absurd z hc) (fun _ => (g.2 H locs ls cells slots hH hS hl hz hw))⟩
    case ge =>
      by_cases hc : y ≤ x
      · have h2 : k tg lo r u = some (rr, u') := by simpa [c2, hc] using h
        have g := hk _ _ _ _ h2
        exact ⟨g.1, fun H locs ls cells slots hH hS hl hz hw => lv_icmp_ge hx hb hdg ht (fun _ => (g.2 H locs ls cells slots hH hS hl hz hw)) (fun z => absurd hc z)⟩
      · have h2 : k (pc + 3) lo r u = some (rr, u') := by simpa [c2, hc] using h
        have g := hk _ _ _ _ h2
        exact ⟨g.1, fun H locs ls cells slots hH hS hl hz hw => lv_icmp_ge hx hb hdg ht (fun z => absurd z hc) (fun _ => (g.2 H locs ls cells slots hH hS hl hz hw))⟩
    case gt =>
      by_cases hc : y < x
      · have h2 : k tg lo r u = some (rr, u') := by simpa [c2, hc] using h
        have g := hk _ _ _ _ h2
        exact ⟨g.1, fun H locs ls cells slots hH hS hl hz hw => lv_icmp_gt hx hb hdg ht (fun _ => (g.2 H locs ls cells slots hH hS hl hz hw)) (fun z => absurd hc z)⟩
      · have h2 : k (pc + 3) lo r u = some (rr, u') := by simpa [c2, hc] using h
        have g := hk _ _ _ _ h2
        exact ⟨g.1, fun H locs ls cells slots hH hS hl hz hw => lv_icmp_gt hx hb hdg ht (fun z => absurd z hc) (fun _ => (g.2 H locs ls cells slots hH hS hl hz hw))⟩
    case le =>
      by_cases hc : x ≤ y
      · have h2 : k tg lo r u = some (rr, u') := by simpa [c2, hc] using h
        have g := hk _ _ _ _ h2
        exact ⟨g.1, fun H locs ls cells slots hH hS hl hz hw => lv_icmp_le hx hb hdg ht (fun _ => (g.2 H locs ls cells slots hH hS hl hz hw)) (fun z => absurd hc z)⟩
      · have h2 : k (pc + 3) lo r u = some (rr, u') := by simpa [c2, hc] using h
        have g := hk _ _ _ _ h2
        exact ⟨g.1, fun H locs ls cells slots hH hS hl hz hw => lv_icmp_le hx hb hdg ht (fun z => absurd z hc) (fun _ => (g.2 H locs ls cells slots hH hS hl hz hw))⟩
  case ifnull off =>
    obtain ⟨hdg, hnx⟩ := hd1 rfl
    have hnx : nx = pc + 3 := hnx
    subst hnx
    dsimp only [stI] at h
    have ht := of_decide_eq_true hq
    obtain ⟨x, r, eo, h1⟩ := pR_some h; clear h; subst eo; have h := h1; clear h1
    cases x with
    | none =>
      have g := hk _ _ _ _ h
      exact ⟨g.1, fun H locs ls cells slots hH hS hl hz hw => lv_ifnullN hx hb hdg ht (g.2 H locs ls cells slots hH hS hl hz hw)⟩
    | some x =>
      have g := hk _ _ _ _ h
      exact ⟨g.1, fun H locs ls cells slots hH hS hl hz hw => lv_ifnull hx hb hdg (g.2 H locs ls cells slots hH hS hl hz hw)⟩
  case ifnonnull off =>
    obtain ⟨hdg, hnx⟩ := hd1 rfl
    have hnx : nx = pc + 3 := hnx
    subst hnx
    dsimp only [stI] at h
    have ht := of_decide_eq_true hq
    obtain ⟨x, r, eo, h1⟩ := pR_some h; clear h; subst eo; have h := h1; clear h1
    cases x with
    | none =>
      have g := hk _ _ _ _ h
      exact ⟨g.1, fun H locs ls cells slots hH hS hl hz hw => lv_ifnonnullN hx hb hdg (g.2 H locs ls cells slots hH hS hl hz hw)⟩
    | some x =>
      have g := hk _ _ _ _ h
      exact ⟨g.1, fun H locs ls cells slots hH hS hl hz hw => lv_ifnonnull hx hb hdg ht (g.2 H locs ls cells slots hH hS hl hz hw)⟩
  case goto off =>
    obtain ⟨hdg, hnx⟩ := hd1 rfl
    have hnx : nx = pc + 3 := hnx
    subst hnx
    dsimp only [stI] at h
    have ht := of_decide_eq_true hq
    have g := hk _ _ _ _ h
    refine ⟨g.1, fun H locs ls cells slots hH hS hl hz hw => ?_⟩
    exact lv_goto hx hb hdg ht (g.2 H locs ls cells slots hH hS hl hz hw)
  case tableswitch d lw hi os =>
    obtain ⟨len, hdg⟩ := hd0
    simp only [enB, Bool.and_eq_true, decide_eq_true_eq, hiB] at hq
    obtain ⟨⟨q1, q2⟩, q3⟩ := hq
    obtain ⟨hlen, hget⟩ := swB_get _ _ _ q2
    obtain ⟨x, r, eo, h1⟩ := pI_some h; clear h; subst eo; have h := h1; clear h1
    rcases swt_some _ h with ⟨kk, g0, a1, a2, a3⟩ | ⟨a1, a2⟩
    · obtain ⟨oo, b1, b2, b3⟩ := hget kk g0 a1
      have g := hk _ _ _ _ a3
      have hkl : kk < os.toList.length := (List.getElem?_eq_some_iff.mp b1).1
      have hxi : x.toInt = lw + kk := by rw [a2]; exact b2
      refine ⟨g.1, fun H locs ls cells slots hH hS hl hz hw => lv_tableIn hx hb hdg (by omega) (by omega) (off := oo) ?_ b3 (g.2 H locs ls cells slots hH hS hl hz hw)⟩
      rw [show (x.toInt - lw).toNat = kk by omega, ← Array.getElem?_toList]
      exact b1
    · have g := hk _ _ _ _ a2
      refine ⟨g.1, fun H locs ls cells slots hH hS hl hz hw => lv_tableOut hx hb hdg (rng q3 (fun kk hkk hxk => ?_)) q1 (g.2 H locs ls cells slots hH hS hl hz hw)⟩
      rw [hlen] at hkk
      obtain ⟨oo, b1, b2, b3⟩ := hget kk _ (List.getElem?_eq_getElem hkk)
      exact a1 kk _ (List.getElem?_eq_getElem hkk) (Int32.toInt_inj.mp (by rw [hxk, b2]))
  case lookupswitch d ps =>
    obtain ⟨len, hdg⟩ := hd0
    simp only [enB, Bool.and_eq_true, decide_eq_true_eq] at hq
    obtain ⟨⟨q1, q2⟩, q3⟩ := hq
    obtain ⟨x, r, eo, h1⟩ := pI_some h; clear h; subst eo; have h := h1; clear h1
    obtain ⟨tt, b1, b2⟩ := swL_off q1 _ _ q2 h
    have g := hk _ _ _ _ b1
    exact ⟨g.1, fun H locs ls cells slots hH hS hl hz hw => lv_lookup hx hb hdg q3 rfl b2 (g.2 H locs ls cells slots hH hS hl hz hw)⟩
  case getfield i =>
    obtain ⟨hdg, hnx⟩ := hd1 rfl
    have hnx : nx = pc + 3 := hnx
    subst hnx
    dsimp only [stI] at h
    obtain ⟨gf, hg, h⟩ := bnd_some h
    obtain ⟨f1, f2, f3, f4, -⟩ := fld_ok C0 hg
    obtain ⟨b, r, eo, h1⟩ := pR_some h; clear h; subst eo; have h := h1; clear h1
    obtain ⟨a, eo, h1⟩ := bnd_some h; clear h; subst eo; have h := h1; clear h1
    obtain ⟨gc, gk, gt⟩ := gf
    have key : ∀ v : MV, mval base v = mfv base u a gk (ftc (tyc gc gk)) → kd u a = gc → k (pc + 3) lo (v :: r) u = some (rr, u') → Gd p l e R s m args below meth c D cy base z0 w0 nL u' rr pc lo (Sum.inr (Sum.inr (some a)) :: r) u := by
      intro v hv hkd h
      have g := hk _ _ _ _ h
      refine ⟨g.1, fun H locs ls cells slots hH hS hl hz hw => hr_get fw_all hx hb hts hown hK hH hkd f1 f2 f4 hdg ?_⟩
      rw [← hv]
      exact (g.2 H locs ls cells slots hH hS hl hz hw)
    have f3 : ftc (tyc gc gk) = gt := f3
    unfold fgt at h
    split at h
    · rename_i ht
      have ht : gt = 0 := ht
      obtain ⟨v, hv, h⟩ := bnd_some h
      unfold fI at hv
      split at hv
      · rename_i hkd
        cases hv
        exact key _ (by rw [f3, ht]; rfl) hkd h
      · cases hv
    · rename_i ht
      have ht : gt = 1 := ht
      obtain ⟨v, hv, h⟩ := bnd_some h
      unfold fZ at hv
      split at hv
      · rename_i hkd
        cases hv
        exact key _ (by rw [f3, ht]; rfl) hkd h
      · cases hv
    · rename_i ht
      have ht : gt = 2 := ht
      obtain ⟨v, hv, h⟩ := bnd_some h
      unfold fL at hv
      split at hv
      · rename_i hkd
        cases hv
        exact key _ (by rw [f3, ht]; rfl) hkd h
      · cases hv
    · rename_i h0 h1 h2
      have ht : gt = 3 := by
        have h0 : gt ≠ 0 := h0
        have h1 : gt ≠ 1 := h1
        have h2 : gt ≠ 2 := h2
        rw [← f3] at h0 h1 h2 ⊢
        revert h0 h1 h2
        cases tyc gc gk <;> simp [ftc]
      obtain ⟨v, hv, h⟩ := bnd_some h
      unfold fR at hv
      split at hv
      · rename_i hkd
        cases hv
        exact key _ (by rw [f3, ht]; rfl) hkd h
      · cases hv
  case putfield i =>
    obtain ⟨hdg, hnx⟩ := hd1 rfl
    have hnx : nx = pc + 3 := hnx
    subst hnx
    dsimp only [stI] at h
    obtain ⟨gf, hg, h⟩ := bnd_some h
    obtain ⟨f1, f2, f3, f4, ff, f5, f6⟩ := fld_ok C0 hg
    obtain ⟨gc, gk, gt⟩ := gf
    have f3 : ftc (tyc gc gk) = gt := f3
    have hfin : (TXc gc gk).2.2.2 = false ∨ (meth.name = "<init>" ∧ RXc gc = own ∧ (Cond.fieldLink own i (RXc gc) (TXc gc gk).2.1 (TXc gc gk).2.2.1).before args s = true) := by
      simp only [enB, hg, f5] at hq
      simp only [Bool.or_eq_true, Bool.not_eq_true', Bool.and_eq_true, decide_eq_true_eq] at hq
      rcases hq with hq | hq
      · exact Or.inl hq
      · exact Or.inr ⟨hini hq.1.1, hq.1.2, f6 hq.2⟩
    have hokt := okT_all gc f1 gk f2
    unfold fpt at h
    split at h
    · rename_i ht
      have ht : gt = 0 := ht
      obtain ⟨v, r, eo, h1⟩ := pI_some h; clear h; subst eo; have h := h1; clear h1
      obtain ⟨b, r, eo, h1⟩ := pR_some h; clear h; subst eo; have h := h1; clear h1
      obtain ⟨a, eo, h1⟩ := bnd_some h; clear h; subst eo; have h := h1; clear h1
      obtain ⟨t, hv, h⟩ := bnd_some h
      unfold wI at hv
      split at hv
      · rename_i hkd
        cases hv
        have hty : tyc gc gk = .int := by rw [ht] at f3; revert f3 hokt; cases tyc gc gk <;> simp [ftc, okT]
        have g := hk _ _ _ _ h
        refine ⟨g.1, fun H locs ls cells slots hH hS hl hz hw => hr_put fw_all hx hb hts hown hK hH hS hkd f1 f2 f4 hfin (v := .int v) (by rw [hty]; rfl) (by rw [hty]; rfl) (u' := sI u a gk v) rfl rfl ?_ ?_ (fun x hxa => mcell_same rfl (up2_ne _ _ _ _ hxa) rfl rfl) hdg (fun H1 locs1 hH1 hS1 => g.2 H1 locs1 ls cells slots hH1 hS1 hl hz hw)⟩
        · rw [hty]; simp [mfv, ftc, up2]
        · intro j hj t; unfold mfv; simp [up2, hj]
      · cases hv
    · rename_i ht
      have ht : gt = 1 := ht
      obtain ⟨v, r, eo, h1⟩ := pI_some h; clear h; subst eo; have h := h1; clear h1
      obtain ⟨b, r, eo, h1⟩ := pR_some h; clear h; subst eo; have h := h1; clear h1
      obtain ⟨a, eo, h1⟩ := bnd_some h; clear h; subst eo; have h := h1; clear h1
      obtain ⟨t, hv, h⟩ := bnd_some h
      unfold wZ at hv
      split at hv
      · rename_i hkd
        cases hv
        have hty : tyc gc gk = .boolean := by rw [ht] at f3; revert f3 hokt; cases tyc gc gk <;> simp [ftc, okT]
        have g := hk _ _ _ _ h
        refine ⟨g.1, fun H locs ls cells slots hH hS hl hz hw => hr_put fw_all hx hb hts hown hK hH hS hkd.1 f1 f2 f4 hfin (v := .int v) (by rw [hty]; rcases hkd.2 with hv | hv <;> rw [hv] <;> rfl) (by rw [hty]; rcases hkd.2 with hv | hv <;> rw [hv] <;> rfl) (u' := sI u a gk v) rfl rfl ?_ ?_ (fun x hxa => mcell_same rfl (up2_ne _ _ _ _ hxa) rfl rfl) hdg (fun H1 locs1 hH1 hS1 => g.2 H1 locs1 ls cells slots hH1 hS1 hl hz hw)⟩
        · rw [hty]; rcases hkd.2 with hv | hv <;> rw [hv] <;> simp [mfv, ftc, up2, bz]
        · intro j hj t; unfold mfv; simp [up2, hj]
      · cases hv
    · rename_i ht
      have ht : gt = 2 := ht
      obtain ⟨v, r, eo, h1⟩ := pL_some h; clear h; subst eo; have h := h1; clear h1
      obtain ⟨b, r, eo, h1⟩ := pR_some h; clear h; subst eo; have h := h1; clear h1
      obtain ⟨a, eo, h1⟩ := bnd_some h; clear h; subst eo; have h := h1; clear h1
      obtain ⟨t, hv, h⟩ := bnd_some h
      unfold wL at hv
      split at hv
      · rename_i hkd
        cases hv
        have hty : tyc gc gk = .long := by rw [ht] at f3; revert f3 hokt; cases tyc gc gk <;> simp [ftc, okT]
        have g := hk _ _ _ _ h
        refine ⟨g.1, fun H locs ls cells slots hH hS hl hz hw => hr_put fw_all hx hb hts hown hK hH hS hkd f1 f2 f4 hfin (v := .long v) (by rw [hty]; rfl) (by rw [hty]; rfl) (u' := sL u a gk v) rfl rfl ?_ ?_ (fun x hxa => mcell_same rfl rfl (up2_ne _ _ _ _ hxa) rfl) hdg (fun H1 locs1 hH1 hS1 => g.2 H1 locs1 ls cells slots hH1 hS1 hl hz hw)⟩
        · rw [hty]; simp [mfv, ftc, up2]
        · intro j hj t; unfold mfv; simp [up2, hj]
      · cases hv
    · rename_i h0 h1 h2
      have hty : (∃ n, tyc gc gk = .object n) ∨ ∃ n, tyc gc gk = .array n := by
        have h0 : gt ≠ 0 := h0
        have h1 : gt ≠ 1 := h1
        have h2 : gt ≠ 2 := h2
        rw [← f3] at h0 h1 h2
        revert h0 h1 h2 hokt
        cases tyc gc gk <;> simp [ftc, okT]
      have hft : ftc (tyc gc gk) = 3 := by rcases hty with ⟨n, hn⟩ | ⟨n, hn⟩ <;> rw [hn] <;> rfl
      obtain ⟨v, r, eo, h1⟩ := pR_some h; clear h; subst eo; have h := h1; clear h1
      obtain ⟨b, r, eo, h1⟩ := pR_some h; clear h; subst eo; have h := h1; clear h1
      obtain ⟨a, eo, h1⟩ := bnd_some h; clear h; subst eo; have h := h1; clear h1
      obtain ⟨t, hv, h⟩ := bnd_some h
      unfold wR at hv
      split at hv
      · rename_i hkd
        cases hv
        have g := hk _ _ _ _ h
        refine ⟨g.1, fun H locs ls cells slots hH hS hl hz hw => hr_put fw_all hx hb hts hown hK hH hS hkd f1 f2 f4 hfin (v := va_rf (v.map (fun a => base + a))) ?_ ?_ (u' := sR u a gk v) rfl rfl ?_ ?_ (fun x hxa => mcell_same rfl rfl rfl (up2_ne _ _ _ _ hxa)) hdg (fun H1 locs1 hH1 hS1 => g.2 H1 locs1 ls cells slots hH1 hS1 hl hz hw)⟩
        · rcases hty with ⟨n, hn⟩ | ⟨n, hn⟩ <;> rw [hn] <;> cases v <;> rfl
        · rcases hty with ⟨n, hn⟩ | ⟨n, hn⟩ <;> rw [hn] <;> cases v <;> rfl
        · rw [hft]; simp [mfv, up2]
        · intro j hj t; unfold mfv; simp [up2, hj]
      · cases hv
  case arraylength =>
    obtain ⟨hdg, hnx⟩ := hd1 rfl
    have hnx : nx = pc + 1 := hnx
    subst hnx
    dsimp only [stI] at h
    obtain ⟨b, r, eo, h1⟩ := pR_some h; clear h; subst eo; have h := h1; clear h1
    obtain ⟨a, eo, h1⟩ := bnd_some h; clear h; subst eo; have h := h1; clear h1
    obtain ⟨n, hn, h⟩ := bnd_some h
    unfold aln at hn
    split at hn
    · rename_i hkd
      cases hn
      have g := hk _ _ _ _ h
      exact ⟨g.1, fun H locs ls cells slots hH hS hl hz hw => hr_len hx hb hK hH hkd.1 hkd.2 hdg (g.2 H locs ls cells slots hH hS hl hz hw)⟩
    · cases hn
  case iaload =>
    obtain ⟨hdg, hnx⟩ := hd1 rfl
    have hnx : nx = pc + 1 := hnx
    subst hnx
    dsimp only [stI] at h
    obtain ⟨j, r, eo, h1⟩ := pI_some h; clear h; subst eo; have h := h1; clear h1
    obtain ⟨b, r, eo, h1⟩ := pR_some h; clear h; subst eo; have h := h1; clear h1
    obtain ⟨a, eo, h1⟩ := bnd_some h; clear h; subst eo; have h := h1; clear h1
    obtain ⟨n, hn, h⟩ := bnd_some h
    unfold ld at hn
    split at hn
    · rename_i hkd
      cases hn
      have g := hk _ _ _ _ h
      exact ⟨g.1, fun H locs ls cells slots hH hS hl hz hw => hr_iald hx hb hK hH hkd.1 hkd.2 hdg (g.2 H locs ls cells slots hH hS hl hz hw)⟩
    · cases hn
  case baload =>
    obtain ⟨hdg, hnx⟩ := hd1 rfl
    have hnx : nx = pc + 1 := hnx
    subst hnx
    dsimp only [stI] at h
    obtain ⟨j, r, eo, h1⟩ := pI_some h; clear h; subst eo; have h := h1; clear h1
    obtain ⟨b, r, eo, h1⟩ := pR_some h; clear h; subst eo; have h := h1; clear h1
    obtain ⟨a, eo, h1⟩ := bnd_some h; clear h; subst eo; have h := h1; clear h1
    obtain ⟨n, hn, h⟩ := bnd_some h
    unfold ld at hn
    split at hn
    · rename_i hkd
      cases hn
      have g := hk _ _ _ _ h
      exact ⟨g.1, fun H locs ls cells slots hH hS hl hz hw => hr_zald hx hb hK hH hkd.1 hkd.2 hdg (g.2 H locs ls cells slots hH hS hl hz hw)⟩
    · cases hn
  case aaload =>
    obtain ⟨hdg, hnx⟩ := hd1 rfl
    have hnx : nx = pc + 1 := hnx
    subst hnx
    dsimp only [stI] at h
    obtain ⟨j, r, eo, h1⟩ := pI_some h; clear h; subst eo; have h := h1; clear h1
    obtain ⟨b, r, eo, h1⟩ := pR_some h; clear h; subst eo; have h := h1; clear h1
    obtain ⟨a, eo, h1⟩ := bnd_some h; clear h; subst eo; have h := h1; clear h1
    obtain ⟨n, hn, h⟩ := bnd_some h
    unfold ldR at hn
    split at hn
    · rename_i hkd
      cases hn
      have g := hk _ _ _ _ h
      exact ⟨g.1, fun H locs ls cells slots hH hS hl hz hw => hr_aald hx hb hK hH hkd.1.1 hkd.1.2 hkd.2 hdg (g.2 H locs ls cells slots hH hS hl hz hw)⟩
    · cases hn
  case iastore =>
    obtain ⟨hdg, hnx⟩ := hd1 rfl
    have hnx : nx = pc + 1 := hnx
    subst hnx
    dsimp only [stI] at h
    obtain ⟨v, r, eo, h1⟩ := pI_some h; clear h; subst eo; have h := h1; clear h1
    obtain ⟨j, r, eo, h1⟩ := pI_some h; clear h; subst eo; have h := h1; clear h1
    obtain ⟨b, r, eo, h1⟩ := pR_some h; clear h; subst eo; have h := h1; clear h1
    obtain ⟨a, eo, h1⟩ := bnd_some h; clear h; subst eo; have h := h1; clear h1
    obtain ⟨t, hn, h⟩ := bnd_some h
    unfold st at hn
    split at hn
    · rename_i hkd
      cases hn
      have g := hk _ _ _ _ h
      exact ⟨g.1, fun H locs ls cells slots hH hS hl hz hw => hr_iast hx hb hK hH hS hkd.1 hkd.2 hdg (fun H1 locs1 hH1 hS1 => g.2 H1 locs1 ls cells slots hH1 hS1 hl hz hw)⟩
    · cases hn
  case bastore =>
    obtain ⟨hdg, hnx⟩ := hd1 rfl
    have hnx : nx = pc + 1 := hnx
    subst hnx
    dsimp only [stI] at h
    obtain ⟨v, r, eo, h1⟩ := pI_some h; clear h; subst eo; have h := h1; clear h1
    obtain ⟨j, r, eo, h1⟩ := pI_some h; clear h; subst eo; have h := h1; clear h1
    obtain ⟨b, r, eo, h1⟩ := pR_some h; clear h; subst eo; have h := h1; clear h1
    obtain ⟨a, eo, h1⟩ := bnd_some h; clear h; subst eo; have h := h1; clear h1
    obtain ⟨t, hn, h⟩ := bnd_some h
    unfold st at hn
    split at hn
    · rename_i hkd
      cases hn
      have g := hk _ _ _ _ h
      exact ⟨g.1, fun H locs ls cells slots hH hS hl hz hw => hr_zast hx hb hK hH hS hkd.1 hkd.2 hdg (fun H1 locs1 hH1 hS1 => g.2 H1 locs1 ls cells slots hH1 hS1 hl hz hw)⟩
    · cases hn
  case aastore =>
    obtain ⟨hdg, hnx⟩ := hd1 rfl
    have hnx : nx = pc + 1 := hnx
    subst hnx
    dsimp only [stI] at h
    obtain ⟨v, r, eo, h1⟩ := pR_some h; clear h; subst eo; have h := h1; clear h1
    obtain ⟨j, r, eo, h1⟩ := pI_some h; clear h; subst eo; have h := h1; clear h1
    obtain ⟨b, r, eo, h1⟩ := pR_some h; clear h; subst eo; have h := h1; clear h1
    obtain ⟨a, eo, h1⟩ := bnd_some h; clear h; subst eo; have h := h1; clear h1
    obtain ⟨t, hn, h⟩ := bnd_some h
    unfold stR at hn
    split at hn
    · rename_i hkd
      cases hn
      have g := hk _ _ _ _ h
      exact ⟨g.1, fun H locs ls cells slots hH hS hl hz hw => hr_aast hx hb hK hH hS hkd.1.1 hkd.1.2 hkd.2.1 hkd.2.2 hdg (fun H1 locs1 hH1 hS1 => g.2 H1 locs1 ls cells slots hH1 hS1 hl hz hw)⟩
    · cases hn
  case new i =>
    obtain ⟨hdg, hnx⟩ := hd1 rfl
    have hnx : nx = pc + 3 := hnx
    subst hnx
    dsimp only [stI] at h
    simp only [enB, Bool.and_eq_true] at hq
    obtain ⟨⟨⟨q1, q2⟩, q3⟩, q4⟩ := hq
    have g := hk _ _ _ _ h
    have g1 : sz u + 1 ≤ sz u' ∧ sl u + nfl tg ≤ sl u' := g.1
    refine ⟨⟨by omega, by omega⟩, fun H locs ls cells slots hH hS hl hz hw => hr_new fw_all hx hb hts hown hK hH hS (Nat.le_of_ble_eq_true q1) (hts _ (wIn_in q2)) (hts _ (wIn_in q3)) (hts _ (wIn_in q4)) (by rw [hR3]; omega) (by rw [hR4]; omega) hdg (fun H1 hH1 hS1 => g.2 H1 locs ls (cells + 1) (slots + nfl tg) hH1 hS1 hl ?_ ?_)⟩
    · show z0 + (cells + 1) = sz u + 1; omega
    · show w0 + (slots + nfl tg) = sl u + nfl tg; omega
  case newarray t =>
    obtain ⟨hdg, hnx⟩ := hd1 rfl
    have hnx : nx = pc + 2 := hnx
    subst hnx
    dsimp only [stI] at h
    obtain ⟨n, r, eo, h1⟩ := pI_some h; clear h; subst eo; have h := h1; clear h1
    obtain ⟨v, hv, h⟩ := bnd_some h
    unfold nw at hv
    split at hv
    · rename_i hn
      cases hv
      have g := hk _ _ _ _ h
      have g1 : sz u + 1 ≤ sz u' ∧ sl u + n.toNatClampNeg ≤ sl u' := g.1
      have go : ∀ (H : Heap) (locs : List Loc) (ls : Array Slot) (cells slots : Nat), LR base ls nL lo → z0 + cells = sz u → w0 + slots = sl u → ∀ H1 : Heap, HR D cy base (al u tg n.toNatClampNeg) H1 → va_S (fun q => base ≤ q) s.heap H1 locs → W p l e R s m args below meth c H1 locs (cells + 1) (slots + n.toNatClampNeg) (MQ below (mQ D cy base u' rr) args s (sz u' - z0) (sl u' - w0) (fun q => base ≤ q)) (F0 m (pc + 2) ls (.ref (base + sz u) :: r.map (mval base))) := by
        intro H locs ls cells slots hl hz hw H1 hH1 hS1
        refine g.2 H1 locs ls (cells + 1) (slots + n.toNatClampNeg) hH1 hS1 hl ?_ ?_
        · show z0 + (cells + 1) = sz u + 1; omega
        · show w0 + (slots + n.toNatClampNeg) = sl u + n.toNatClampNeg; omega
      refine ⟨⟨by omega, by omega⟩, fun H locs ls cells slots hH hS hl hz hw => ?_⟩
      cases t <;> first | (cases hq; done) | skip
      · simp only [enB, Bool.and_eq_true] at hq
        have e := Nat.eq_of_beq_eq_true hq.1
        subst e
        exact hr_newa hx hb hK hH hS (atype := .boolean) (hts _ (wIn_in hq.2)) (d := 12) (t0 := 1) rfl (by omega) (by omega) rfl rfl (fun C h => by cases h) hn.1 (by show n.toNatClampNeg * 1 ≤ _; omega) (by rw [hR3]; omega) (by rw [hR4]; omega) hdg (go H locs ls cells slots hl hz hw)
      · simp only [enB, Bool.and_eq_true] at hq
        have e := Nat.eq_of_beq_eq_true hq.1
        subst e
        exact hr_newa hx hb hK hH hS (atype := .int) (hts _ (wIn_in hq.2)) (d := 11) (t0 := 0) rfl (by omega) (by omega) rfl rfl (fun C h => by cases h) hn.1 (by show n.toNatClampNeg * 4 ≤ _; omega) (by rw [hR3]; omega) (by rw [hR4]; omega) hdg (go H locs ls cells slots hl hz hw)
    · cases hv
  case anewarray i =>
    obtain ⟨hdg, hnx⟩ := hd1 rfl
    have hnx : nx = pc + 3 := hnx
    subst hnx
    dsimp only [stI] at h
    obtain ⟨n, r, eo, h1⟩ := pI_some h; clear h; subst eo; have h := h1; clear h1
    obtain ⟨v, hv, h⟩ := bnd_some h
    unfold nw at hv
    split at hv
    · rename_i hn
      cases hv
      have g := hk _ _ _ _ h
      have g1 : sz u + 1 ≤ sz u' ∧ sl u + n.toNatClampNeg ≤ sl u' := g.1
      refine ⟨⟨by omega, by omega⟩, fun H locs ls cells slots hH hS hl hz hw => ?_⟩
      have go : ∀ H1 : Heap, HR D cy base (al u tg n.toNatClampNeg) H1 → va_S (fun q => base ≤ q) s.heap H1 locs → W p l e R s m args below meth c H1 locs (cells + 1) (slots + n.toNatClampNeg) (MQ below (mQ D cy base u' rr) args s (sz u' - z0) (sl u' - w0) (fun q => base ≤ q)) (F0 m (pc + 3) ls (.ref (base + sz u) :: r.map (mval base))) := by
        intro H1 hH1 hS1
        refine g.2 H1 locs ls (cells + 1) (slots + n.toNatClampNeg) hH1 hS1 hl ?_ ?_
        · show z0 + (cells + 1) = sz u + 1; omega
        · show w0 + (slots + n.toNatClampNeg) = sl u + n.toNatClampNeg; omega
      simp only [enB, Bool.or_eq_true, Bool.and_eq_true] at hq
      rcases hq with (hq | hq) | hq
      · have e := Nat.eq_of_beq_eq_true hq.1
        subst e
        exact hr_anew hx hb hown hK hH hS (d := 13) (t0 := 2) (hts _ (wIn_in hq.2)) hN.2.1 (by omega) (by omega) rfl hn.1 (by omega) (by rw [hR3]; omega) (by rw [hR4]; omega) hdg go
      · have e := Nat.eq_of_beq_eq_true hq.1
        subst e
        exact hr_anew hx hb hown hK hH hS (d := 14) (t0 := 3) (hts _ (wIn_in hq.2)) hN.2.2.1 (by omega) (by omega) rfl hn.1 (by omega) (by rw [hR3]; omega) (by rw [hR4]; omega) hdg go
      · have e := Nat.eq_of_beq_eq_true hq.1
        subst e
        exact hr_anew hx hb hown hK hH hS (d := 15) (t0 := 4) (hts _ (wIn_in hq.2)) hN.2.2.2.1 (by omega) (by omega) rfl hn.1 (by omega) (by rw [hR3]; omega) (by rw [hR4]; omega) hdg go
    · cases hv
  case multianewarray i d =>
    obtain ⟨hdg, hnx⟩ := hd1 rfl
    have hnx : nx = pc + 4 := hnx
    subst hnx
    dsimp only [stI] at h
    simp only [enB, Bool.and_eq_true] at hq
    have e := Nat.eq_of_beq_eq_true hq.1.1
    subst e
    obtain ⟨k2, r, eo, h1⟩ := pI_some h; clear h; subst eo; have h := h1; clear h1
    obtain ⟨n, r, eo, h1⟩ := pI_some h; clear h; subst eo; have h := h1; clear h1
    by_cases hc : (¬ k2 < 0 ∧ k2.toNatClampNeg ≤ 1000) ∧ ¬ n < 0 ∧ n.toNatClampNeg ≤ 1000
    · rw [if_pos hc] at h
      have g := hk _ _ _ _ h
      have g1 : sz u + 1 + n.toNatClampNeg ≤ sz u' ∧ sl u + n.toNatClampNeg + n.toNatClampNeg * k2.toNatClampNeg ≤ sl u' := g.1
      refine ⟨⟨by omega, by omega⟩, fun H locs ls cells slots hH hS hl hz hw => hr_mna hx hb hown (hts _ (wIn_in hq.1.2)) hN.2.2.2.2 (hts _ (wIn_in hq.2)) hK hH hS hc.2.1 hc.1.1 hc.2.2 hc.1.2 (by rw [hR3]; omega) (by rw [hR4]; omega) hdg (fun H1 hH1 hS1 => g.2 H1 locs ls _ _ hH1 hS1 hl ?_ ?_)⟩
      · show z0 + (cells + 1 + n.toNatClampNeg) = sz u + 1 + n.toNatClampNeg; omega
      · show w0 + (slots + n.toNatClampNeg + n.toNatClampNeg * k2.toNatClampNeg) = sl u + n.toNatClampNeg + n.toNatClampNeg * k2.toNatClampNeg; omega
    · rw [if_neg hc] at h; cases h
  case invokevirtual i =>
    obtain ⟨hdg, hnx⟩ := hd1 rfl
    have hnx : nx = pc + 3 := hnx
    subst hnx
    dsimp only [stI] at h
    obtain ⟨g, hg, h⟩ := bnd_some h
    obtain ⟨f, hf, hcs⟩ := cal_ok C0 hg
    simp only [enB, hf] at hq
    have hq := Nat.eq_of_beq_eq_true hq
    rcases hcs with ⟨h5, -⟩ | ⟨h6, -⟩ | ⟨h6, -⟩ | ⟨h6, -⟩ | ⟨⟨hne5, hne6, hne7, hne8⟩, sd, hlink, hcode, hinit, hcls, hpar, hfr, hlc, hkind⟩
    · rw [h5] at hq; cases hq
    · rw [h6] at hq; cases hq
    · rw [h6] at hq; cases hq
    · rw [h6] at hq; cases hq
    rcases hkind with ⟨h0, -⟩ | ⟨-, hrc, hinst, hsel⟩ | ⟨-, h1, -⟩
    · rw [h0] at hq; cases hq
    rotate_left
    · exact absurd hq h1
    obtain ⟨t, r, eo, hlen, h1⟩ := pN_some _ _ _ h; clear h; subst eo; have h := h1; clear h1
    rw [List.append_nil] at h
    obtain ⟨b, r, eo, h1⟩ := pR_some h; clear h; subst eo; have h := h1; clear h1
    obtain ⟨a, eo, h1⟩ := bnd_some h; clear h; subst eo; have h := h1; clear h1
    obtain ⟨hfew, h⟩ := few_some h
    by_cases hkd : kd u a = g.2.1
    rotate_left
    · rw [if_neg hkd] at h; cases h
    rw [if_pos hkd] at h
    obtain ⟨v, hv, h⟩ := bnd_some h
    have hkd0 : kd u a = g.2.1 := hkd
    obtain ⟨rv, u1⟩ := v
    have h := psh_some h
    have g2 := hk _ _ _ _ h
    obtain ⟨mono, hmet⟩ := sd _ _ _ _ hv
    have g21 : sz u1 ≤ sz u' ∧ sl u1 ≤ sl u' := g2.1
    refine ⟨⟨Nat.le_trans mono.1 g21.1, Nat.le_trans mono.2 g21.2⟩, fun H locs ls cells slots hH hS hl hz hw => ?_⟩
    obtain ⟨r', hr', cellB, c1, c2', c3, -⟩ := hH.obj hkd0 hrc
    have hcat := cats base r
    have hfit : cells + (sz u1 - sz u) ≤ R.cells ∧ slots + (sl u1 - sl u) ≤ R.slots := by rw [hR3, hR4]; omega
    have hpay := pay_in hts (ws := Cond.code f.1 f.2.1 f.2.2.1 f.2.2.2.1 :: lw_good) (fun w hw => by
      rcases List.mem_cons.mp hw with h | h
      · rw [h]; exact lw_goodIn _ hcode
      · exact lw_goodIn _ h)
    have hst : (t ++ Sum.inr (Sum.inr (some a)) :: r).map (mval base) = (t.reverse.map (mval base)).reverse ++ .ref (base + a) :: r.map (mval base) := by
      rw [List.map_append, List.map_reverse, List.reverse_reverse]; rfl
    have hn : (t.reverse.map (mval base)).length = g.1 := by rw [List.length_map, List.length_reverse, hlen]
    have hp : PreV s H (RXc g.2.1) (base + a) (mP D cy base u (mR (some a) :: t.reverse)) (t.reverse.map (mval base)) :=
      ⟨mP_blind _ _ _ _ _, ⟨cellB, c1, by rw [c3]; rfl, by rw [c2']; exact (hK.1 g.2.1 _ (mcl_at g.2.1 hrc)).2.1⟩, fun U hU hW => ⟨rfl, by rw [hU]; exact hH, va_K.moved hW.alike hK, hN.warm hW⟩⟩
    rcases hlink with hl1 | hl1
    · exact mm_call (va_runV (C := RXc g.2.1) (b := base + a) (As := t.reverse.map (mval base)) (rest := r.map (mval base)) ⟨hx, hb, hml, hown, hts⟩ (hmet l D cy base) ⟨⟨rfl, rfl, by rw [hR1]; exact hfr, by rw [hR2]; exact hlc, hpay, List.mem_cons_self, hts _ hcode, hinit, hcls, hpar, hl1⟩, hinst, hsel⟩ hp rfl hn hl.1 hst (by show 2 * 0 + _ ≤ 8; omega) hdg hfit) hS (fun H1 locs1 hH1 hS1 => by
      have := g2.2 H1 locs1 ls (cells + (sz u1 - sz u)) (slots + (sl u1 - sl u)) hH1 hS1 hl (by show _ = sz u1; omega) (by show _ = sl u1; omega)
      rw [List.map_append] at this
      cases rv <;> exact this)
    · exact mm_call (va_runVN (C := RXc g.2.1) (b := base + a) (As := t.reverse.map (mval base)) (rest := r.map (mval base)) ⟨hx, hb, hml, hown, hts⟩ (hmet l D cy base) ⟨⟨⟨rfl, rfl, by rw [hR1]; exact hfr, by rw [hR2]; exact hlc, hpay, List.mem_cons_self⟩, hts _ hcode, hinit, hcls, hpar, va_Nw.use rfl hl1⟩, hinst, hsel⟩ hp rfl hn hl.1 hst (by show 2 * 0 + _ ≤ 8; omega) hdg hfit) hS (fun H1 locs1 hH1 hS1 => by
      have := g2.2 H1 locs1 ls (cells + (sz u1 - sz u)) (slots + (sl u1 - sl u)) hH1 hS1 hl (by show _ = sz u1; omega) (by show _ = sl u1; omega)
      rw [List.map_append] at this
      cases rv <;> exact this)
  case invokespecial i =>
    obtain ⟨hdg, hnx⟩ := hd1 rfl
    have hnx : nx = pc + 3 := hnx
    subst hnx
    dsimp only [stI] at h
    obtain ⟨g, hg, h⟩ := bnd_some h
    obtain ⟨f, hf, hcs⟩ := cal_ok C0 hg
    simp only [enB, hf] at hq
    rcases hcs with ⟨h5, h98, o1, o2, o3, o4, o5⟩ | ⟨h6, -⟩ | ⟨h6, -⟩ | ⟨h6, -⟩ | ⟨⟨hne5, hne6, hne7, hne8⟩, sd, hlink, hcode, hinit, hcls, hpar, hfr, hlc, hkind⟩
    · rw [h98] at h
      obtain ⟨b, r, eo, h1⟩ := pR_some h; clear h; subst eo; have h := h1; clear h1
      obtain ⟨a, eo, h1⟩ := bnd_some h; clear h; subst eo; have h := h1; clear h1
      obtain ⟨hfew, h⟩ := few_some h
      have g2 := hk _ _ _ _ h
      have hcat := cats base r
      exact ⟨g2.1, fun H locs ls cells slots hH hS hl hz hw => W.objInit hx hb hown o1 o2 o3 rfl (by rw [hml]; exact hl.1) rfl hdg (by rw [hR1]; exact o4) (by rw [hR2]; show 2 * 0 + _ + 12 ≤ _; omega) (g2.2 H locs ls cells slots hH hS hl hz hw)⟩
    · rw [h6] at hq; cases hq
    · rw [h6] at hq; cases hq
    · rw [h6] at hq; cases hq
    rcases hkind with ⟨h0, -⟩ | ⟨h1, -⟩ | ⟨-, -, hrc, hinst, hnm, hrn⟩
    · rw [Bool.or_eq_true] at hq
      rcases hq with hq | hq
      · have := Nat.eq_of_beq_eq_true hq; omega
      · have := Nat.eq_of_beq_eq_true hq; omega
    · rw [Bool.or_eq_true] at hq
      rcases hq with hq | hq
      · have := Nat.eq_of_beq_eq_true hq; omega
      · have := Nat.eq_of_beq_eq_true hq; omega
    have h98 : Nat.beq g.2.1 98 = false := by
      cases hb9 : Nat.beq g.2.1 98 with
      | false => rfl
      | true => have := Nat.eq_of_beq_eq_true hb9; omega
    rw [h98] at h
    obtain ⟨t, r, eo, hlen, h1⟩ := pN_some _ _ _ h; clear h; subst eo; have h := h1; clear h1
    rw [List.append_nil] at h
    obtain ⟨b, r, eo, h1⟩ := pR_some h; clear h; subst eo; have h := h1; clear h1
    obtain ⟨a, eo, h1⟩ := bnd_some h; clear h; subst eo; have h := h1; clear h1
    obtain ⟨hfew, h⟩ := few_some h
    by_cases hkd : kd u a = g.2.1
    rotate_left
    · rw [if_neg hkd] at h; cases h
    rw [if_pos hkd] at h
    obtain ⟨v, hv, h⟩ := bnd_some h
    have hkd0 : kd u a = g.2.1 := hkd
    obtain ⟨rv, u1⟩ := v
    have h := psh_some h
    have g2 := hk _ _ _ _ h
    obtain ⟨mono, hmet⟩ := sd _ _ _ _ hv
    have g21 : sz u1 ≤ sz u' ∧ sl u1 ≤ sl u' := g2.1
    refine ⟨⟨Nat.le_trans mono.1 g21.1, Nat.le_trans mono.2 g21.2⟩, fun H locs ls cells slots hH hS hl hz hw => ?_⟩
    obtain ⟨r', hr', cellB, c1, c2', c3, -⟩ := hH.obj hkd0 hrc
    have hcat := cats base r
    have hfit : cells + (sz u1 - sz u) ≤ R.cells ∧ slots + (sl u1 - sl u) ≤ R.slots := by rw [hR3, hR4]; omega
    have hpay := pay_in hts (ws := Cond.code f.1 f.2.1 f.2.2.1 f.2.2.2.1 :: lw_good) (fun w hw => by
      rcases List.mem_cons.mp hw with h | h
      · rw [h]; exact lw_goodIn _ hcode
      · exact lw_goodIn _ h)
    have hst : (t ++ Sum.inr (Sum.inr (some a)) :: r).map (mval base) = (t.reverse.map (mval base)).reverse ++ .ref (base + a) :: r.map (mval base) := by
      rw [List.map_append, List.map_reverse, List.reverse_reverse]; rfl
    have hn : (t.reverse.map (mval base)).length = g.1 := by rw [List.length_map, List.length_reverse, hlen]
    have hp : PreS s H (mP D cy base u (mR (some a) :: t.reverse)) (.ref (base + a) :: t.reverse.map (mval base)) :=
      ⟨mP_blind _ _ _ _ _, fun U hU hW => ⟨rfl, by rw [hU]; exact hH, va_K.moved hW.alike hK, hN.warm hW⟩⟩
    rw [hrn] at hmet hcode hpay
    rcases hlink with hl1 | hl1
    · exact mm_call (va_runI (b := base + a) (As := t.reverse.map (mval base)) (rest := r.map (mval base)) ⟨hx, hb, hml, hown, hts⟩ (hmet l D cy base) ⟨⟨rfl, rfl, by rw [hR1]; exact hfr, by rw [hR2]; exact hlc, hpay, List.mem_cons_self, hts _ hcode, hinit, hcls, hpar, hl1⟩, hnm, hinst⟩ hp rfl hn hl.1 hst (by show 2 * 0 + _ ≤ 8; omega) hdg hfit) hS (fun H1 locs1 hH1 hS1 => by
      have := g2.2 H1 locs1 ls (cells + (sz u1 - sz u)) (slots + (sl u1 - sl u)) hH1 hS1 hl (by show _ = sz u1; omega) (by show _ = sl u1; omega)
      rw [List.map_append] at this
      cases rv <;> exact this)
    · exact mm_call (va_runIN (b := base + a) (As := t.reverse.map (mval base)) (rest := r.map (mval base)) ⟨hx, hb, hml, hown, hts⟩ (hmet l D cy base) ⟨⟨⟨rfl, rfl, by rw [hR1]; exact hfr, by rw [hR2]; exact hlc, hpay, List.mem_cons_self⟩, hts _ hcode, hinit, hcls, hpar, va_Nw.use rfl hl1⟩, hnm, hinst⟩ hp rfl hn hl.1 hst (by show 2 * 0 + _ ≤ 8; omega) hdg hfit) hS (fun H1 locs1 hH1 hS1 => by
      have := g2.2 H1 locs1 ls (cells + (sz u1 - sz u)) (slots + (sl u1 - sl u)) hH1 hS1 hl (by show _ = sz u1; omega) (by show _ = sl u1; omega)
      rw [List.map_append] at this
      cases rv <;> exact this)
  case invokestatic i =>
    obtain ⟨hdg, hnx⟩ := hd1 rfl
    have hnx : nx = pc + 3 := hnx
    subst hnx
    dsimp only [stI] at h
    obtain ⟨g, hg, h⟩ := bnd_some h
    obtain ⟨f, hf, hcs⟩ := cal_ok C0 hg
    simp only [enB, hf] at hq
    rcases hcs with ⟨h5, -⟩ | ⟨h6, h97, o1, o2, o3, o4, o5, o6⟩ | ⟨h7, h96, o1, o2, o3, o4, o5, o6⟩ | ⟨h8, h95, o1, o2, o3, o4, o5, o6⟩ | ⟨⟨hne5, hne6, hne7, hne8⟩, sd, hlink, hcode, hinit, hcls, hpar, hfr, hlc, hkind⟩
    · rw [h5] at hq; cases hq
    · rw [h97] at h
      obtain ⟨n, r, eo, h1⟩ := pI_some h; clear h; subst eo; have h := h1; clear h1
      obtain ⟨dp, r, eo, h1⟩ := pI_some h; clear h; subst eo; have h := h1; clear h1
      obtain ⟨b, r, eo, h1⟩ := pR_some h; clear h; subst eo; have h := h1; clear h1
      obtain ⟨sp, r, eo, h1⟩ := pI_some h; clear h; subst eo; have h := h1; clear h1
      obtain ⟨a, r, eo, h1⟩ := pR_some h; clear h; subst eo; have h := h1; clear h1
      obtain ⟨a, eo, h1⟩ := bnd_some h; clear h; subst eo; have h := h1; clear h1
      obtain ⟨b, eo, h1⟩ := bnd_some h; clear h; subst eo; have h := h1; clear h1
      obtain ⟨hfew, h⟩ := few_some h
      obtain ⟨t, hv, h⟩ := bnd_some h
      unfold cpy at hv
      split at hv
      · rename_i hcp
        cases hv
        have g2 := hk _ _ _ _ h
        have hcat := cats base r
        exact ⟨g2.1, fun H locs ls cells slots hH hS hl hz hw => hr_copy hx hb (by rw [hml]; exact hl.1.symm) hown o1 o2 o3 o4 hK hH hS hcp.1 hcp.2.1 hcp.2.2.1 hcp.2.2.2.1 hcp.2.2.2.2.1 hcp.2.2.2.2.2.1 hcp.2.2.2.2.2.2.1 (by rw [hR1]; exact o5) (by rw [hR2]; omega) hdg (fun H1 locs1 hH1 hS1 => g2.2 H1 locs1 ls cells slots hH1 hS1 hl hz hw)⟩
      · cases hv
    · rw [h96] at h
      obtain ⟨y, r, eo, h1⟩ := pI_some h; clear h; subst eo; have h := h1; clear h1
      obtain ⟨x, r, eo, h1⟩ := pI_some h; clear h; subst eo; have h := h1; clear h1
      obtain ⟨hfew, h⟩ := few_some h
      have g2 := hk _ _ _ _ h
      have g21 : sz u ≤ sz u' ∧ sl u ≤ sl u' := g2.1
      have hcat := cats base r
      exact ⟨g2.1, fun H locs ls cells slots hH hS hl hz hw => va_mmax hx hb (by rw [hml]; exact hl.1.symm) hown o1 o2 o3 o4 (by rw [hR1]; exact o5) (by rw [hR2]; omega) (by rw [hR3]; omega) (by rw [hR4]; omega) hdg (g2.2 H locs ls cells slots hH hS hl hz hw)⟩
    · rw [h95] at h
      obtain ⟨y, r, eo, h1⟩ := pI_some h; clear h; subst eo; have h := h1; clear h1
      obtain ⟨x, r, eo, h1⟩ := pI_some h; clear h; subst eo; have h := h1; clear h1
      obtain ⟨hfew, h⟩ := few_some h
      have g2 := hk _ _ _ _ h
      have g21 : sz u ≤ sz u' ∧ sl u ≤ sl u' := g2.1
      have hcat := cats base r
      exact ⟨g2.1, fun H locs ls cells slots hH hS hl hz hw => va_mmin hx hb (by rw [hml]; exact hl.1.symm) hown o1 o2 o3 o4 (by rw [hR1]; exact o5) (by rw [hR2]; omega) (by rw [hR3]; omega) (by rw [hR4]; omega) hdg (g2.2 H locs ls cells slots hH hS hl hz hw)⟩
    rcases hkind with ⟨-, hrc, hstat⟩ | ⟨h1, -⟩ | ⟨h0, h1, -⟩
    rotate_left
    · simp only [Bool.or_eq_true] at hq
      rcases hq with ((hq | hq) | hq) | hq
      · have := Nat.eq_of_beq_eq_true hq; omega
      · have := Nat.eq_of_beq_eq_true hq; omega
      · have := Nat.eq_of_beq_eq_true hq; omega
      · have := Nat.eq_of_beq_eq_true hq; omega
    · simp only [Bool.or_eq_true] at hq
      rcases hq with ((hq | hq) | hq) | hq
      · have := Nat.eq_of_beq_eq_true hq; omega
      · have := Nat.eq_of_beq_eq_true hq; omega
      · have := Nat.eq_of_beq_eq_true hq; omega
      · have := Nat.eq_of_beq_eq_true hq; omega
    have h97 : Nat.beq g.2.1 97 = false := by rw [hrc]; rfl
    have h96 : Nat.beq g.2.1 96 = false := by rw [hrc]; rfl
    have h95 : Nat.beq g.2.1 95 = false := by rw [hrc]; rfl
    rw [h97, h96, h95] at h
    obtain ⟨t, r, eo, hlen, h1⟩ := pN_some _ _ _ h; clear h; subst eo; have h := h1; clear h1
    rw [List.append_nil] at h
    obtain ⟨hfew, h⟩ := few_some h
    obtain ⟨v, hv, h⟩ := bnd_some h
    obtain ⟨rv, u1⟩ := v
    have h := psh_some h
    have g2 := hk _ _ _ _ h
    obtain ⟨mono, hmet⟩ := sd _ _ _ _ hv
    have g21 : sz u1 ≤ sz u' ∧ sl u1 ≤ sl u' := g2.1
    refine ⟨⟨Nat.le_trans mono.1 g21.1, Nat.le_trans mono.2 g21.2⟩, fun H locs ls cells slots hH hS hl hz hw => ?_⟩
    have hcat := cats base r
    have hfit : cells + (sz u1 - sz u) ≤ R.cells ∧ slots + (sl u1 - sl u) ≤ R.slots := by rw [hR3, hR4]; omega
    have hpay := pay_in hts (ws := Cond.code f.1 f.2.1 f.2.2.1 f.2.2.2.1 :: lw_good) (fun w hw => by
      rcases List.mem_cons.mp hw with h | h
      · rw [h]; exact lw_goodIn _ hcode
      · exact lw_goodIn _ h)
    have hst : (t ++ r).map (mval base) = (t.reverse.map (mval base)).reverse ++ r.map (mval base) := by
      rw [List.map_append, List.map_reverse, List.reverse_reverse]
    have hn : (t.reverse.map (mval base)).length = g.1 := by rw [List.length_map, List.length_reverse, hlen]
    have hp : PreS s H (mP D cy base u t.reverse) (t.reverse.map (mval base)) :=
      ⟨mP_blind _ _ _ _ _, fun U hU hW => ⟨rfl, by rw [hU]; exact hH, va_K.moved hW.alike hK, hN.warm hW⟩⟩
    rcases hlink with hl1 | hl1
    · exact mm_call (va_runS (As := t.reverse.map (mval base)) (rest := r.map (mval base)) ⟨hx, hb, hml, hown, hts⟩ (hmet l D cy base) ⟨⟨rfl, rfl, by rw [hR1]; exact hfr, by rw [hR2]; exact hlc, hpay, List.mem_cons_self, hts _ hcode, hinit, hcls, hpar, hl1⟩, hstat⟩ hp rfl hn hl.1 hst (by show 2 * 0 + _ ≤ 8; omega) hdg hfit) hS (fun H1 locs1 hH1 hS1 => by
      have := g2.2 H1 locs1 ls (cells + (sz u1 - sz u)) (slots + (sl u1 - sl u)) hH1 hS1 hl (by show _ = sz u1; omega) (by show _ = sl u1; omega)
      rw [List.map_append] at this
      cases rv <;> exact this)
    · exact mm_call (va_runSN (As := t.reverse.map (mval base)) (rest := r.map (mval base)) ⟨hx, hb, hml, hown, hts⟩ (hmet l D cy base) ⟨⟨⟨rfl, rfl, by rw [hR1]; exact hfr, by rw [hR2]; exact hlc, hpay, List.mem_cons_self⟩, hts _ hcode, hinit, hcls, hpar, va_Nw.use rfl hl1⟩, hstat, trivial⟩ hp rfl hn hl.1 hst (by show 2 * 0 + _ ≤ 8; omega) hdg hfit) hS (fun H1 locs1 hH1 hS1 => by
      have := g2.2 H1 locs1 ls (cells + (sz u1 - sz u)) (slots + (sl u1 - sl u)) hH1 hS1 hl (by show _ = sz u1; omega) (by show _ = sl u1; omega)
      rw [List.map_append] at this
      cases rv <;> exact this)
  case ireturn =>
    obtain ⟨hdg, hnx⟩ := hd1 rfl
    have hnx : nx = pc + 1 := hnx
    subst hnx
    dsimp only [stI] at h
    obtain ⟨x, r, eo, h1⟩ := pI_some h; clear h; subst eo; have h := h1; clear h1
    unfold rtI at h
    split at h
    · split at h
      · rename_i hr1
        cases h
        rcases hrk with hk0 | hk1 | hk2 | hk3
        · have := hk0.1; omega
        · refine ⟨⟨Nat.le_refl _, Nat.le_refl _⟩, fun H locs ls cells slots hH hS hl hz hw => ?_⟩
          rw [show sz u' - z0 = cells by omega, show sl u' - w0 = slots by omega]
          exact W.iret hx hb (hrt.trans hk1.2) (fun t ht hW => ⟨⟨rfl, by rw [ht]; exact hH⟩, by rw [ht]; exact hS.1, fun q h1 h2 => by rw [ht]; exact hS.2.1 q h1 h2⟩) hS.2.2 hdg hlocks
        · have := hk2.1; omega
        · have := hk3.1; omega
      · rename_i hr2
        split at h
        · rename_i h01
          cases h
          rcases hrk with hk0 | hk1 | hk2 | hk3
          · have := hk0.1; omega
          · have := hk1.1; omega
          · refine ⟨⟨Nat.le_refl _, Nat.le_refl _⟩, fun H locs ls cells slots hH hS hl hz hw => ?_⟩
            rw [show sz u' - z0 = cells by omega, show sl u' - w0 = slots by omega]
            exact W.zret hx hb (hrt.trans hk2.2) (by rcases h01 with h | h <;> rw [h] <;> rfl) (fun t ht hW => ⟨⟨rfl, by rw [ht]; exact hH⟩, by rw [ht]; exact hS.1, fun q h1 h2 => by rw [ht]; exact hS.2.1 q h1 h2⟩) hS.2.2 hdg hlocks
          · have := hk3.1; omega
        · cases h
      · cases h
    · cases h
  case areturn =>
    obtain ⟨hdg, hnx⟩ := hd1 rfl
    have hnx : nx = pc + 1 := hnx
    subst hnx
    dsimp only [stI] at h
    obtain ⟨x, r, eo, h1⟩ := pR_some h; clear h; subst eo; have h := h1; clear h1
    unfold rtR at h
    split at h
    · split at h
      · rename_i hr1
        cases h
        rcases hrk with hk0 | hk1 | hk2 | hk3
        · have := hk0.1; omega
        · have := hk1.1; omega
        · have := hk2.1; omega
        · obtain ⟨-, n, hn⟩ := hk3
          refine ⟨⟨Nat.le_refl _, Nat.le_refl _⟩, fun H locs ls cells slots hH hS hl hz hw => ?_⟩
          rw [show sz u' - z0 = cells by omega, show sl u' - w0 = slots by omega]
          exact W.aret hx hb (hrt.trans hn) (Or.inl ⟨n, rfl⟩) (va_rf_or _) (fun t ht hW => ⟨⟨rfl, by rw [ht]; exact hH⟩, by rw [ht]; exact hS.1, fun q h1 h2 => by rw [ht]; exact hS.2.1 q h1 h2⟩) hS.2.2 hdg hlocks
      · cases h
    · cases h
  case return_ =>
    obtain ⟨hdg, hnx⟩ := hd1 rfl
    have hnx : nx = pc + 1 := hnx
    subst hnx
    dsimp only [stI] at h
    unfold rtV at h
    split at h
    · split at h
      · rename_i hr1
        cases h
        rcases hrk with hk0 | hk1 | hk2 | hk3
        · refine ⟨⟨Nat.le_refl _, Nat.le_refl _⟩, fun H locs ls cells slots hH hS hl hz hw => ?_⟩
          rw [show sz u' - z0 = cells by omega, show sl u' - w0 = slots by omega]
          exact W.vret hx hb (hrt.trans hk0.2) (fun t ht hW => ⟨⟨rfl, by rw [ht]; exact hH⟩, by rw [ht]; exact hS.1, fun q h1 h2 => by rw [ht]; exact hS.2.1 q h1 h2⟩) hS.2.2 hdg hlocks
        · have := hk1.1; omega
        · have := hk2.1; omega
        · have := hk3.1; omega
      · cases h
    · cases h
  all_goals (cases h; done)
end SND
end
section
/-! A walk makes no cell go; a method by its table keeps its contract. -/
theorem le2_rf (u : MH) : le2 u u := ⟨Nat.le_refl _, Nat.le_refl _⟩
def Mn (u : MH) (F : MK → Option MO) : Prop := ∀ (k : MK) (r : Option MV) (u' : MH), (∀ pc lo o t r u', k pc lo o t = some (r, u') → le2 t u') → F k = some (r, u') → le2 u u'
theorem mn_no {u : MH} : Mn u (fun _ => none) := fun k r u' _ h => by cases h
theorem mn_k {u t : MH} {pc : Nat} {lo : MLs} {o : List MV} (h : le2 u t) : Mn u (fun k => k pc lo o t) := fun k r u' hk h2 => ⟨Nat.le_trans h.1 (hk _ _ _ _ _ _ h2).1, Nat.le_trans h.2 (hk _ _ _ _ _ _ h2).2⟩
theorem mn_rt {u : MH} {v : Option MV} : Mn u (fun _ => some (v, u)) := fun k r u' _ h => by cases h; exact le2_rf _
theorem mn_ite {u : MH} {c : Prop} [h : Decidable c] {F G : MK → Option MO} (hF : c → Mn u F) (hG : ¬ c → Mn u G) : Mn u (fun k => if c then F k else G k) := by
  by_cases hc : c
  · simp only [hc, if_true]; exact hF hc
  · simp only [hc, if_false]; exact hG hc
theorem mn_cond {u : MH} {b : Bool} {F G : MK → Option MO} (hF : b = true → Mn u F) (hG : b = false → Mn u G) : Mn u (fun k => cond b (F k) (G k)) := by
  cases b
  · exact hG rfl
  · exact hF rfl
theorem mn_bind {u : MH} {α : Type} {x : Option α} {F : α → MK → Option MO} (h : ∀ a, x = some a → Mn u (F a)) : Mn u (fun k => x.bind fun a => F a k) := by
  cases x with
  | none => exact mn_no
  | some a => exact h a rfl
theorem mn_pI {u : MH} {o : List MV} {F : Int32 → List MV → MK → Option MO} (h : ∀ x r, Mn u (F x r)) : Mn u (fun k => pI o fun x r => F x r k) := by
  unfold pI
  split
  · exact h _ _
  · exact mn_no
theorem mn_pL {u : MH} {o : List MV} {F : Int64 → List MV → MK → Option MO} (h : ∀ x r, Mn u (F x r)) : Mn u (fun k => pL o fun x r => F x r k) := by
  unfold pL
  split
  · exact h _ _
  · exact mn_no
theorem mn_pR {u : MH} {o : List MV} {F : Option Nat → List MV → MK → Option MO} (h : ∀ x r, Mn u (F x r)) : Mn u (fun k => pR o fun x r => F x r k) := by
  unfold pR
  split
  · exact h _ _
  · exact mn_no
theorem mn_pC {u : MH} {o : List MV} {F : MV → List MV → MK → Option MO} (h : ∀ x r, Mn u (F x r)) : Mn u (fun k => pC o fun x r => F x r k) := by
  unfold pC
  split
  · exact h _ _
  · exact h _ _
  · exact mn_no
theorem mn_pN {u : MH} {n : Nat} : ∀ {acc o : List MV} {F : List MV → List MV → MK → Option MO} (_ : ∀ x r, Mn u (F x r)), Mn u (fun k => pN n acc o fun x r => F x r k) := by
  induction n with
  | zero => intro acc o F h; exact h _ _
  | succ n ih =>
    intro acc o F h
    cases o with
    | nil => exact mn_no
    | cons v r => exact ih h
theorem mn_lI {u : MH} {lo : MLs} {j : Nat} {F : Int32 → MK → Option MO} (h : ∀ x, Mn u (F x)) : Mn u (fun k => lI lo j fun x => F x k) := by
  unfold lI
  split
  · exact h _
  · exact mn_no
theorem mn_lL {u : MH} {lo : MLs} {j : Nat} {F : Int64 → MK → Option MO} (h : ∀ x, Mn u (F x)) : Mn u (fun k => lL lo j fun x => F x k) := by
  unfold lL
  split
  · exact h _
  · exact mn_no
theorem mn_lR {u : MH} {lo : MLs} {j : Nat} {F : Option Nat → MK → Option MO} (h : ∀ x, Mn u (F x)) : Mn u (fun k => lR lo j fun x => F x k) := by
  unfold lR
  split
  · exact h _
  · exact mn_no
theorem mn_swt {u : MH} {x : Int32} {d : Nat} {l : List (Int32 × Nat)} {F : Nat → MK → Option MO} (h : ∀ x, Mn u (F x)) : Mn u (fun k => swt x d l fun x => F x k) := by
  induction l with
  | nil => exact h _
  | cons q l ih => exact mn_ite (c := x = q.1) (fun _ => h q.2) (fun _ => ih)
theorem mn_psh {u : MH} {rk : Nat} {v : MO} {r : List MV} {F : List MV → MH → MK → Option MO} (h : ∀ x, Mn u (F x v.2)) : Mn u (fun k => psh rk v r fun x r => F x r k) := by
  unfold psh
  split
  · exact mn_bind fun _ _ => h _
  · exact mn_bind fun _ _ => h _
  · exact mn_bind fun _ _ => h _
theorem mn_few {u : MH} {r : List MV} {F : MK → Option MO} (h : Mn u F) : Mn u (fun k => few r (F k)) := mn_cond (fun _ => h) (fun _ => mn_no)
theorem mn_c2 {u : MH} {c : Jvm.ClassFile.Cond} {x y : Int32} {F G : MK → Option MO} (hF : Mn u F) (hG : Mn u G) : Mn u (fun k => c2 c x y (F k) (G k)) := by
  cases c
  · exact mn_ite (fun _ => hF) (fun _ => hG)
  · exact mn_ite (fun _ => hG) (fun _ => hF)
  · exact mn_ite (fun _ => hF) (fun _ => hG)
  · exact mn_ite (fun _ => hF) (fun _ => hG)
  · exact mn_ite (fun _ => hF) (fun _ => hG)
  · exact mn_ite (fun _ => hF) (fun _ => hG)
theorem mn_cR {u : MH} {r : Option Nat} {F G : MK → Option MO} (hF : Mn u F) (hG : Mn u G) : Mn u (fun k => cR r (F k) (G k)) := by
  cases r
  · exact hF
  · exact hG
theorem mn_fgt {u : MH} {q : Nat × Nat × Nat} {a : Nat} {F : MV → MK → Option MO} (h : ∀ x, Mn u (F x)) : Mn u (fun k => fgt u q a fun x => F x k) := by
  unfold fgt
  split
  · exact mn_bind fun _ _ => h _
  · exact mn_bind fun _ _ => h _
  · exact mn_bind fun _ _ => h _
  · exact mn_bind fun _ _ => h _
theorem wI_le {u t : MH} {c a k : Nat} {v : Int32} (h : wI u c a k v = some t) : le2 u t := by
  unfold wI at h; split at h <;> cases h; exact le2_rf u
theorem wZ_le {u t : MH} {c a k : Nat} {v : Int32} (h : wZ u c a k v = some t) : le2 u t := by
  unfold wZ at h; split at h <;> cases h; exact le2_rf u
theorem wL_le {u t : MH} {c a k : Nat} {v : Int64} (h : wL u c a k v = some t) : le2 u t := by
  unfold wL at h; split at h <;> cases h; exact le2_rf u
theorem wR_le {u t : MH} {c a k : Nat} {v : Option Nat} (h : wR u c a k v = some t) : le2 u t := by
  unfold wR at h; split at h <;> cases h; exact le2_rf u
theorem st_le {u t : MH} {d a : Nat} {j v : Int32} (h : st u d a j v = some t) : le2 u t := by
  unfold st at h; split at h <;> cases h; exact le2_rf u
theorem stR_le {u t : MH} {a : Nat} {j : Int32} {v : Option Nat} (h : stR u a j v = some t) : le2 u t := by
  unfold stR at h; split at h <;> cases h; exact le2_rf u
theorem cpy_le {u t : MH} {a b : Nat} {sp dp n : Int32} (h : cpy u a sp b dp n = some t) : le2 u t := by
  unfold cpy at h; split at h <;> cases h; exact le2_rf u
theorem al_le (u : MH) (d n : Nat) : le2 u (al u d n) := ⟨Nat.le_add_right _ 1, Nat.le_add_right _ n⟩
theorem alM_le (u : MH) (n w : Nat) : le2 u (alM u n w) := ⟨by show sz u ≤ sz u + 1 + n; omega, by show sl u ≤ sl u + n + n * w; omega⟩
theorem nw_le {u t : MH} {d : Nat} {n : Int32} (h : nw u d n = some t) : le2 u t := by
  unfold nw at h; split at h <;> cases h; exact al_le _ _ _
theorem mn_fpt {u : MH} {q : Nat × Nat × Nat} {o : List MV} {F : List MV → MH → MK → Option MO} (h : ∀ x t, le2 u t → Mn u (F x t)) : Mn u (fun k => fpt u q o fun x r => F x r k) := by
  unfold fpt
  split
  · exact mn_pI fun _ _ => mn_pR fun _ _ => mn_bind fun _ _ => mn_bind fun _ ht => h _ _ (wI_le ht)
  · exact mn_pI fun _ _ => mn_pR fun _ _ => mn_bind fun _ _ => mn_bind fun _ ht => h _ _ (wZ_le ht)
  · exact mn_pL fun _ _ => mn_pR fun _ _ => mn_bind fun _ _ => mn_bind fun _ ht => h _ _ (wL_le ht)
  · exact mn_pR fun _ _ => mn_pR fun _ _ => mn_bind fun _ _ => mn_bind fun _ ht => h _ _ (wR_le ht)
theorem mn_rtI {u : MH} {rk : Nat} {x : Int32} {r : List MV} : Mn u (fun _ => rtI rk x r u) := by
  unfold rtI
  split
  · split
    · exact mn_rt
    · exact mn_ite (fun _ => mn_rt) (fun _ => mn_no)
    · exact mn_no
  · exact mn_no
theorem mn_rtR {u : MH} {rk : Nat} {x : Option Nat} {r : List MV} : Mn u (fun _ => rtR rk x r u) := by
  unfold rtR
  split
  · split
    · exact mn_rt
    · exact mn_no
  · exact mn_no
theorem mn_rtV {u : MH} {rk : Nat} {r : List MV} : Mn u (fun _ => rtV rk r u) := by
  unfold rtV
  split
  · split
    · exact mn_rt
    · exact mn_no
  · exact mn_no
/-- every method that is called lets no cell go -/
def CMn (T : MT) : Prop := ∀ (i : Nat) (g : CE), lk i T.2.2.2.1 = some g → ∀ as u v, g.2.2.2 as u = some v → le2 u v.2
set_option maxHeartbeats 4000000 in
theorem mn_stI {T : MT} (hT : CMn T) (q : EN) (lo : MLs) (o : List MV) (u : MH) : Mn u (fun k => stI T k q lo o u) := by
  obtain ⟨i, nx, tg, cv, cl, sw⟩ := q
  cases i
  case invokevirtual i =>
    dsimp only [stI]
    exact mn_bind fun g hg => mn_pN fun _ _ => mn_pR fun _ _ => mn_bind fun a _ => mn_few (mn_ite (fun hk => mn_bind fun v hv => mn_psh fun _ => mn_k (hT i g hg _ _ _ hv)) fun _ => mn_no)
  case invokespecial i =>
    dsimp only [stI]
    exact mn_bind fun g hg => mn_cond (fun _ => mn_pR fun _ _ => mn_bind fun _ _ => mn_few (mn_k (le2_rf u))) (fun _ => mn_pN fun _ _ => mn_pR fun _ _ => mn_bind fun a _ => mn_few (mn_ite (fun hk => mn_bind fun v hv => mn_psh fun _ => mn_k (hT i g hg _ _ _ hv)) fun _ => mn_no))
  case invokestatic i =>
    dsimp only [stI]
    exact mn_bind fun g hg => mn_cond (fun _ => mn_pI fun _ _ => mn_pI fun _ _ => mn_pR fun _ _ => mn_pI fun _ _ => mn_pR fun _ _ => mn_bind fun _ _ => mn_bind fun _ _ => mn_few (mn_bind fun t ht => mn_k (cpy_le ht))) (fun _ => mn_cond (fun _ => mn_pI fun _ _ => mn_pI fun _ _ => mn_few (mn_k (le2_rf u))) (fun _ => mn_cond (fun _ => mn_pI fun _ _ => mn_pI fun _ _ => mn_few (mn_k (le2_rf u))) (fun _ => mn_pN fun _ _ => mn_few (mn_bind fun v hv => mn_psh fun _ => mn_k (hT i g hg _ _ _ hv)))))
  case putfield i =>
    dsimp only [stI]
    exact mn_bind fun g hg => mn_fpt fun _ _ ht => mn_k ht
  case iastore =>
    dsimp only [stI]
    exact mn_pI fun _ _ => mn_pI fun _ _ => mn_pR fun _ _ => mn_bind fun _ _ => mn_bind fun t ht => mn_k (st_le ht)
  case bastore =>
    dsimp only [stI]
    exact mn_pI fun _ _ => mn_pI fun _ _ => mn_pR fun _ _ => mn_bind fun _ _ => mn_bind fun t ht => mn_k (st_le ht)
  case aastore =>
    dsimp only [stI]
    exact mn_pR fun _ _ => mn_pI fun _ _ => mn_pR fun _ _ => mn_bind fun _ _ => mn_bind fun t ht => mn_k (stR_le ht)
  case new i => exact mn_k (al_le u _ _)
  case newarray i =>
    dsimp only [stI]
    exact mn_pI fun _ _ => mn_bind fun t ht => mn_k (nw_le ht)
  case anewarray i =>
    dsimp only [stI]
    exact mn_pI fun _ _ => mn_bind fun t ht => mn_k (nw_le ht)
  case multianewarray i d =>
    dsimp only [stI]
    exact mn_pI fun _ _ => mn_pI fun _ _ => mn_ite (fun _ => mn_k (alM_le u _ _)) fun _ => mn_no
  case ireturn => dsimp only [stI]; exact mn_pI fun _ _ => mn_rtI
  case areturn => dsimp only [stI]; exact mn_pR fun _ _ => mn_rtR
  case return_ => dsimp only [stI]; exact mn_rtV
  all_goals
    dsimp only [stI]
    repeat' (first
      | exact mn_no
      | exact mn_k (le2_rf u)
      | (refine mn_pI fun _ _ => ?_)
      | (refine mn_pL fun _ _ => ?_)
      | (refine mn_pR fun _ _ => ?_)
      | (refine mn_pC fun _ _ => ?_)
      | (refine mn_lI fun _ => ?_)
      | (refine mn_lL fun _ => ?_)
      | (refine mn_lR fun _ => ?_)
      | (refine mn_swt fun _ => ?_)
      | (refine mn_fgt fun _ => ?_)
      | (refine mn_c2 ?_ ?_)
      | (refine mn_cR ?_ ?_)
      | (refine mn_bind fun _ _ => ?_)
      | (refine mn_ite (fun _ => ?_) (fun _ => ?_)))
theorem exec_le {T : MT} (hT : CMn T) : ∀ (n pc : Nat) (lo : MLs) (o : List MV) (u : MH) (r : Option MV) (u' : MH), exec T n pc lo o u = some (r, u') → le2 u u' := by
  intro n
  induction n with
  | zero => intro pc lo o u r u' h; cases h
  | succ n ih =>
    intro pc lo o u r u' h
    have h : (lk pc T.1).bind (fun q => stI T (fun pc lo o s => exec T n pc (cutAt T pc lo) o s) q lo o u) = some (r, u') := h
    obtain ⟨q, hq, h⟩ := bnd_some h
    exact mn_stI hT q lo o u _ r u' (fun pc lo o t r u' h => ih _ _ _ _ _ _ h) h
theorem Ev_le {T : MT} (hT : CMn T) {pc : Nat} {lo : MLs} {o : List MV} {u : MH} {r : Option MV} {u' : MH} (h : Ev T pc lo o u = some (r, u')) : le2 u u' := by
  obtain ⟨n, hn⟩ := Ev_ex h
  exact exec_le hT n _ _ _ _ _ _ hn
section METH
variable {p : Program} {l : Launch} {e : Env} {R : Room} {s : State} {m : MethodId} {args : Array Value} {below : List Frame} {meth : Method} {c : Code}
variable {cc : ByteArray} {D : va_G} {cy : Nat → ClassId} {base : Nat} {z0 w0 nL FR LC : Nat} {u' : MH} {rr : Option MV} {T : MT} {own : String} {ini : Bool} {fi : List (Nat × Nat × Bool)} {ci : List (Nat × INF)} {ret : Option FieldType}
theorem exec_snd (C : Cx p R s m args meth c cc D cy z0 w0 nL FR LC u' T own ini fi ci ret) (hcode : T.1.all (fun q => dcB cc q.1 q.2 && enB own nL ini T fi ci q.1 q.2) = true) : ∀ (n pc : Nat) (lo : MLs) (o : List MV) (u : MH), exec T n pc lo o u = some (rr, u') → Gd p l e R s m args below meth c D cy base z0 w0 nL u' rr pc lo o u := by
  intro n
  induction n with
  | zero => intro pc lo o u h; cases h
  | succ n ih =>
    intro pc lo o u h
    have h : (lk pc T.1).bind (fun q => stI T (fun pc lo o s => exec T n pc (cutAt T pc lo) o s) q lo o u) = some (rr, u') := h
    obtain ⟨q, hq, h⟩ := bnd_some h
    have hm := List.all_eq_true.mp hcode _ (lk_mem _ hq)
    simp only [Bool.and_eq_true] at hm
    refine stI_snd C (k := fun pc lo o s => exec T n pc (cutAt T pc lo) o s) (fun pc lo o u h => ?_) hm.1 hm.2 h
    have g := ih _ _ _ _ h
    exact ⟨g.1, fun H locs ls cells slots hH hS hl hz hw => g.2 H locs ls cells slots hH hS (hl.cut T pc) hz hw⟩
end METH
/-- A METHOD BY ITS TABLE: what the kernel has looked through, and the contracts of those that it calls, give its own. -/
theorem sd_of {y : MethodName} {cc : ByteArray} {nL : Nat} {ret : Option FieldType} {fr lc : Nat} {T : MT} {own : String} {ini : Bool} {fi : List (Nat × Nat × Bool)} {ci : List (Nat × INF)} (hy : plainName y.cls = true) (hyo : y.cls = own) (hini : ini = true → y.name = "<init>") (hrk : rkOk T.2.2.2.2 ret) (htab : tabB own cc nL ini fr lc T fi ci = true) (hA : SdAll T.2.2.2.1 ci) : Sd y cc nL ret fr lc (runT T nL) := by
  intro as u u' r h
  unfold runT at h
  cases hfit : Nat.ble (lay as).length nL with
  | false => rw [hfit] at h; cases h
  | true =>
  rw [hfit] at h
  have hfit := Nat.le_of_ble_eq_true hfit
  obtain ⟨n, hn⟩ := Ev_ex h
  have hM : CMn T := fun i g hg => SdAll_mn _ _ hA hg
  have hle := exec_le hM n _ _ _ _ _ _ hn
  refine ⟨hle, fun l D cy base => ?_⟩
  refine Met.ofW (cc := cc) (maxL := nL) (ret := ret) hy rfl ?_
  intro p e s m args below meth c s₁ B hml hv
  obtain ⟨rfl, hH, hK, hNW⟩ := hv
  have hts := atoms_spec (ws := .code y cc nL ret :: lw_good) B.pre
  simp only [tabB, Bool.and_eq_true] at htab
  have C : Cx p (headSpec (.code y cc nL ret :: lw_good) { frames := fr, cells := sz u' - sz u, slots := sl u' - sl u, locals := lc }).room s m (as.map (mval base)).toArray meth c cc D cy (sz u) (sl u) nL fr lc u' T own ini fi ci ret :=
    ⟨B.exec, B.bytes, hml, by rw [← hyo]; exact findClass_of_methodNamed B.named, fun w hw => hts w (List.mem_cons_of_mem _ hw), hK, hNW, B.notSynchronized, B.returns, hrk, fun hi => ((name_of_methodNamed B.named B.method).1).trans (hini hi), ⟨rfl, rfl, rfl, rfl⟩, htab.1.2, htab.2, hA⟩
  have g := exec_snd (l := l) (e := e) (below := below) (base := base) C htab.1.1 n 0 _ [] u hn
  have hfit2 : (lg_sl (as.map (mval base))).length ≤ nL := by rw [lay_len]; exact hfit
  have hl := lv_entry (as.map (mval base)) (n := nL) hfit2
  rw [lg_entry_eq]
  generalize (lg_sl (as.map (mval base)) ++ List.replicate (nL - (lg_sl (as.map (mval base))).length) Slot.unset).toArray = ls at hl ⊢
  exact g.2 s.heap [] ls 0 0 hH va_S.rf ⟨hl.1, hl.2.1, fun q hq => hl.2.2 q (lay_args base as 0 _ q hq)⟩ (Nat.add_zero _) (Nat.add_zero _)
end
section
/-! Short words for a table's rows. -/
abbrev e0 (i : Jvm.ClassFile.Instr) (n : Nat) : EN := (i, n, 0, 0, 0, [])
abbrev eJ (i : Jvm.ClassFile.Instr) (n t : Nat) : EN := (i, n, t, 0, 0, [])
abbrev eC (i : Jvm.ClassFile.Instr) (n : Nat) (v : Int32) : EN := (i, n, 0, v, 0, [])
abbrev eL (i : Jvm.ClassFile.Instr) (n : Nat) (v : Int64) : EN := (i, n, 0, 0, v, [])
abbrev eS (i : Jvm.ClassFile.Instr) (t : Nat) (l : List (Int32 × Nat)) : EN := (i, 0, t, 0, 0, l)
end
