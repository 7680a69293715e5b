section
/-! Words by their places, chunk by chunk. Written by wip/gen/fast.py. -/
theorem ap_r {l1 l2 : List Cond} {n i : Nat} {w : Cond} (hn : l1.length = n) (h : l2[i]? = some w) : (l1 ++ l2)[n + i]? = some w := by
  subst hn
  rw [List.getElem?_append_right (Nat.le_add_right _ _), Nat.add_sub_cancel_left]
  exact h
theorem ap_l {l1 l2 : List Cond} {i : Nat} {w : Cond} (h : l1[i]? = some w) : (l1 ++ l2)[i]? = some w := by
  have := (List.getElem?_eq_some_iff.mp h).1
  rw [List.getElem?_append_left this]
  exact h
theorem ln_1 : tables_1_1.length = 240 := by decide +kernel
theorem ln_2 : tables_1_2.length = 240 := by decide +kernel
theorem ln_3 : tables_1_3.length = 240 := by decide +kernel
theorem ln_4 : tables_1_4.length = 240 := by decide +kernel
theorem ln_5 : tables_1_5.length = 240 := by decide +kernel
theorem ln_6 : tables_1_6.length = 240 := by decide +kernel
theorem ln_7 : tables_1_7.length = 240 := by decide +kernel
theorem ln_8 : tables_1_8.length = 147 := by decide +kernel
theorem cn_1 {q : Nat} {w : Cond} (h : tables_1_1[q]? = some w) : tables_1[q]? = some w := ap_l h
theorem cn_2 {q : Nat} {w : Cond} (h : tables_1_2[q]? = some w) : tables_1[(240 + q)]? = some w := ap_r ln_1 (ap_l h)
theorem cn_3 {q : Nat} {w : Cond} (h : tables_1_3[q]? = some w) : tables_1[(240 + (240 + q))]? = some w := ap_r ln_1 (ap_r ln_2 (ap_l h))
theorem cn_4 {q : Nat} {w : Cond} (h : tables_1_4[q]? = some w) : tables_1[(240 + (240 + (240 + q)))]? = some w := ap_r ln_1 (ap_r ln_2 (ap_r ln_3 (ap_l h)))
theorem cn_5 {q : Nat} {w : Cond} (h : tables_1_5[q]? = some w) : tables_1[(240 + (240 + (240 + (240 + q))))]? = some w := ap_r ln_1 (ap_r ln_2 (ap_r ln_3 (ap_r ln_4 (ap_l h))))
theorem cn_6 {q : Nat} {w : Cond} (h : tables_1_6[q]? = some w) : tables_1[(240 + (240 + (240 + (240 + (240 + q)))))]? = some w := ap_r ln_1 (ap_r ln_2 (ap_r ln_3 (ap_r ln_4 (ap_r ln_5 (ap_l h)))))
theorem cn_7 {q : Nat} {w : Cond} (h : tables_1_7[q]? = some w) : tables_1[(240 + (240 + (240 + (240 + (240 + (240 + q))))))]? = some w := ap_r ln_1 (ap_r ln_2 (ap_r ln_3 (ap_r ln_4 (ap_r ln_5 (ap_r ln_6 (ap_l h))))))
theorem cn_8 {q : Nat} {w : Cond} (h : tables_1_8[q]? = some w) : tables_1[(240 + (240 + (240 + (240 + (240 + (240 + (240 + q)))))))]? = some w := ap_r ln_1 (ap_r ln_2 (ap_r ln_3 (ap_r ln_4 (ap_r ln_5 (ap_r ln_6 (ap_r ln_7 (h)))))))
-- ===== PART A: goes FIRST, ahead of the names: the tables' words, and 'selects' of the private methods out of them =====
/-- a private method of a class that the tables say can be made, by its rows of tables_1 -/
def lw_okq (q : MethodName × Nat) : Prop := (q.1.cls ≠ "java/lang/invoke/MethodHandle" ∧ q.1.cls ≠ "java/lang/invoke/VarHandle") ∧ Cond.instantiable q.1.cls q.2 ∈ tables_1 ∧ Cond.privateMethod q.1 ∈ tables_1 ∧ Cond.instanceMethod q.1 ∈ tables_1
theorem lw_p0 : lw_okq (⟨"NameKeeper", "refuse", "(I)I"⟩, 16) := ⟨⟨by decide +kernel, by decide +kernel⟩, List.mem_of_getElem? (i := 16) (cn_1 (q := 16) rfl), List.mem_of_getElem? (i := 369) (cn_2 (q := 129) rfl), List.mem_of_getElem? (i := 370) (cn_2 (q := 130) rfl)⟩
theorem lw_p1 : lw_okq (⟨"NameKeeper", "refuseFlatly", "(I)Z"⟩, 16) := ⟨⟨by decide +kernel, by decide +kernel⟩, List.mem_of_getElem? (i := 16) (cn_1 (q := 16) rfl), List.mem_of_getElem? (i := 385) (cn_2 (q := 145) rfl), List.mem_of_getElem? (i := 386) (cn_2 (q := 146) rfl)⟩
theorem lw_p2 : lw_okq (⟨"NameKeeper$Reader", "skipBlanks", "(LNameKeeper$Tape;)V"⟩, 7) := ⟨⟨by decide +kernel, by decide +kernel⟩, List.mem_of_getElem? (i := 71) (cn_1 (q := 71) rfl), List.mem_of_getElem? (i := 401) (cn_2 (q := 161) rfl), List.mem_of_getElem? (i := 402) (cn_2 (q := 162) rfl)⟩
theorem lw_p3 : lw_okq (⟨"NameKeeper$Reader", "readInside", "(LNameKeeper$Tape;I)Z"⟩, 7) := ⟨⟨by decide +kernel, by decide +kernel⟩, List.mem_of_getElem? (i := 71) (cn_1 (q := 71) rfl), List.mem_of_getElem? (i := 409) (cn_2 (q := 169) rfl), List.mem_of_getElem? (i := 410) (cn_2 (q := 170) rfl)⟩
theorem lw_p4 : lw_okq (⟨"NameKeeper$Reader", "readItem", "(LNameKeeper$Tape;)Z"⟩, 7) := ⟨⟨by decide +kernel, by decide +kernel⟩, List.mem_of_getElem? (i := 71) (cn_1 (q := 71) rfl), List.mem_of_getElem? (i := 424) (cn_2 (q := 184) rfl), List.mem_of_getElem? (i := 425) (cn_2 (q := 185) rfl)⟩
theorem lw_p5 : lw_okq (⟨"NameKeeper$Reader", "fail", "(II)Z"⟩, 7) := ⟨⟨by decide +kernel, by decide +kernel⟩, List.mem_of_getElem? (i := 71) (cn_1 (q := 71) rfl), List.mem_of_getElem? (i := 428) (cn_2 (q := 188) rfl), List.mem_of_getElem? (i := 429) (cn_2 (q := 189) rfl)⟩
theorem lw_p6 : lw_okq (⟨"NameKeeper$Nodes", "put", "(IIII)I"⟩, 7) := ⟨⟨by decide +kernel, by decide +kernel⟩, List.mem_of_getElem? (i := 24) (cn_1 (q := 24) rfl), List.mem_of_getElem? (i := 449) (cn_2 (q := 209) rfl), List.mem_of_getElem? (i := 450) (cn_2 (q := 210) rfl)⟩
theorem lw_p7 : lw_okq (⟨"NameKeeper$Reader", "openFolder", "(I)Z"⟩, 7) := ⟨⟨by decide +kernel, by decide +kernel⟩, List.mem_of_getElem? (i := 71) (cn_1 (q := 71) rfl), List.mem_of_getElem? (i := 453) (cn_2 (q := 213) rfl), List.mem_of_getElem? (i := 454) (cn_2 (q := 214) rfl)⟩
theorem lw_p8 : lw_okq (⟨"NameKeeper$Reader", "readOutside", "(I)Z"⟩, 7) := ⟨⟨by decide +kernel, by decide +kernel⟩, List.mem_of_getElem? (i := 71) (cn_1 (q := 71) rfl), List.mem_of_getElem? (i := 461) (cn_2 (q := 221) rfl), List.mem_of_getElem? (i := 462) (cn_2 (q := 222) rfl)⟩
theorem lw_p9 : lw_okq (⟨"NameKeeper$Memory", "add", "(III)I"⟩, 17) := ⟨⟨by decide +kernel, by decide +kernel⟩, List.mem_of_getElem? (i := 106) (cn_1 (q := 106) rfl), List.mem_of_getElem? (i := 497) (cn_3 (q := 17) rfl), List.mem_of_getElem? (i := 498) (cn_3 (q := 18) rfl)⟩
theorem lw_p10 : lw_okq (⟨"NameKeeper$Memory", "leastUnused", "()I"⟩, 17) := ⟨⟨by decide +kernel, by decide +kernel⟩, List.mem_of_getElem? (i := 106) (cn_1 (q := 106) rfl), List.mem_of_getElem? (i := 501) (cn_3 (q := 21) rfl), List.mem_of_getElem? (i := 502) (cn_3 (q := 22) rfl)⟩
theorem lw_p11 : lw_okq (⟨"NameKeeper$Memory", "comeTo", "(I)V"⟩, 17) := ⟨⟨by decide +kernel, by decide +kernel⟩, List.mem_of_getElem? (i := 106) (cn_1 (q := 106) rfl), List.mem_of_getElem? (i := 509) (cn_3 (q := 29) rfl), List.mem_of_getElem? (i := 510) (cn_3 (q := 30) rfl)⟩
theorem lw_p12 : lw_okq (⟨"NameKeeper$Walker", "lastOfWay", "()I"⟩, 9) := ⟨⟨by decide +kernel, by decide +kernel⟩, List.mem_of_getElem? (i := 184) (cn_1 (q := 184) rfl), List.mem_of_getElem? (i := 636) (cn_3 (q := 156) rfl), List.mem_of_getElem? (i := 637) (cn_3 (q := 157) rfl)⟩
theorem lw_p13 : lw_okq (⟨"NameKeeper", "takePaths", "(I)Z"⟩, 16) := ⟨⟨by decide +kernel, by decide +kernel⟩, List.mem_of_getElem? (i := 16) (cn_1 (q := 16) rfl), List.mem_of_getElem? (i := 652) (cn_3 (q := 172) rfl), List.mem_of_getElem? (i := 653) (cn_3 (q := 173) rfl)⟩
theorem lw_p14 : lw_okq (⟨"NameKeeper", "takeRow", "()I"⟩, 16) := ⟨⟨by decide +kernel, by decide +kernel⟩, List.mem_of_getElem? (i := 16) (cn_1 (q := 16) rfl), List.mem_of_getElem? (i := 656) (cn_3 (q := 176) rfl), List.mem_of_getElem? (i := 657) (cn_3 (q := 177) rfl)⟩
theorem lw_p15 : lw_okq (⟨"NameKeeper", "hasTrees", "()Z"⟩, 16) := ⟨⟨by decide +kernel, by decide +kernel⟩, List.mem_of_getElem? (i := 16) (cn_1 (q := 16) rfl), List.mem_of_getElem? (i := 660) (cn_3 (q := 180) rfl), List.mem_of_getElem? (i := 661) (cn_3 (q := 181) rfl)⟩
def lw_privs_1 : List (MethodName × Nat) := [(⟨"NameKeeper", "refuse", "(I)I"⟩, 16), (⟨"NameKeeper", "refuseFlatly", "(I)Z"⟩, 16), (⟨"NameKeeper$Reader", "skipBlanks", "(LNameKeeper$Tape;)V"⟩, 7), (⟨"NameKeeper$Reader", "readInside", "(LNameKeeper$Tape;I)Z"⟩, 7), (⟨"NameKeeper$Reader", "readItem", "(LNameKeeper$Tape;)Z"⟩, 7), (⟨"NameKeeper$Reader", "fail", "(II)Z"⟩, 7), (⟨"NameKeeper$Nodes", "put", "(IIII)I"⟩, 7), (⟨"NameKeeper$Reader", "openFolder", "(I)Z"⟩, 7), (⟨"NameKeeper$Reader", "readOutside", "(I)Z"⟩, 7), (⟨"NameKeeper$Memory", "add", "(III)I"⟩, 17), (⟨"NameKeeper$Memory", "leastUnused", "()I"⟩, 17), (⟨"NameKeeper$Memory", "comeTo", "(I)V"⟩, 17), (⟨"NameKeeper$Walker", "lastOfWay", "()I"⟩, 9), (⟨"NameKeeper", "takePaths", "(I)Z"⟩, 16), (⟨"NameKeeper", "takeRow", "()I"⟩, 16), (⟨"NameKeeper", "hasTrees", "()Z"⟩, 16)]
theorem lw_r1 : ∀ q ∈ lw_privs_1, lw_okq q := List.forall_mem_cons.mpr ⟨lw_p0, List.forall_mem_cons.mpr ⟨lw_p1, List.forall_mem_cons.mpr ⟨lw_p2, List.forall_mem_cons.mpr ⟨lw_p3, List.forall_mem_cons.mpr ⟨lw_p4, List.forall_mem_cons.mpr ⟨lw_p5, List.forall_mem_cons.mpr ⟨lw_p6, List.forall_mem_cons.mpr ⟨lw_p7, List.forall_mem_cons.mpr ⟨lw_p8, List.forall_mem_cons.mpr ⟨lw_p9, List.forall_mem_cons.mpr ⟨lw_p10, List.forall_mem_cons.mpr ⟨lw_p11, List.forall_mem_cons.mpr ⟨lw_p12, List.forall_mem_cons.mpr ⟨lw_p13, List.forall_mem_cons.mpr ⟨lw_p14, List.forall_mem_cons.mpr ⟨lw_p15, fun _ h => absurd h List.not_mem_nil⟩⟩⟩⟩⟩⟩⟩⟩⟩⟩⟩⟩⟩⟩⟩⟩
theorem lw_p16 : lw_okq (⟨"NameKeeper", "tryOut", "(LNameKeeper$Route;)I"⟩, 16) := ⟨⟨by decide +kernel, by decide +kernel⟩, List.mem_of_getElem? (i := 16) (cn_1 (q := 16) rfl), List.mem_of_getElem? (i := 682) (cn_3 (q := 202) rfl), List.mem_of_getElem? (i := 683) (cn_3 (q := 203) rfl)⟩
theorem lw_p17 : lw_okq (⟨"NameKeeper$Memory", "stepUp", "(I)I"⟩, 17) := ⟨⟨by decide +kernel, by decide +kernel⟩, List.mem_of_getElem? (i := 106) (cn_1 (q := 106) rfl), List.mem_of_getElem? (i := 707) (cn_3 (q := 227) rfl), List.mem_of_getElem? (i := 708) (cn_3 (q := 228) rfl)⟩
theorem lw_p18 : lw_okq (⟨"NameKeeper$Memory", "shrink", "(I)V"⟩, 17) := ⟨⟨by decide +kernel, by decide +kernel⟩, List.mem_of_getElem? (i := 106) (cn_1 (q := 106) rfl), List.mem_of_getElem? (i := 734) (cn_4 (q := 14) rfl), List.mem_of_getElem? (i := 735) (cn_4 (q := 15) rfl)⟩
theorem lw_p19 : lw_okq (⟨"NameKeeper$Memory", "howManyButRoots", "()I"⟩, 17) := ⟨⟨by decide +kernel, by decide +kernel⟩, List.mem_of_getElem? (i := 106) (cn_1 (q := 106) rfl), List.mem_of_getElem? (i := 738) (cn_4 (q := 18) rfl), List.mem_of_getElem? (i := 739) (cn_4 (q := 19) rfl)⟩
theorem lw_p20 : lw_okq (⟨"NameKeeper", "writeRoute", "(LNameKeeper$Route;)V"⟩, 16) := ⟨⟨by decide +kernel, by decide +kernel⟩, List.mem_of_getElem? (i := 16) (cn_1 (q := 16) rfl), List.mem_of_getElem? (i := 788) (cn_4 (q := 68) rfl), List.mem_of_getElem? (i := 789) (cn_4 (q := 69) rfl)⟩
theorem lw_p21 : lw_okq (⟨"NameKeeper", "writeByte", "(I)V"⟩, 16) := ⟨⟨by decide +kernel, by decide +kernel⟩, List.mem_of_getElem? (i := 16) (cn_1 (q := 16) rfl), List.mem_of_getElem? (i := 792) (cn_4 (q := 72) rfl), List.mem_of_getElem? (i := 793) (cn_4 (q := 73) rfl)⟩
theorem lw_p22 : lw_okq (⟨"NameKeeper", "writeName", "(I)V"⟩, 16) := ⟨⟨by decide +kernel, by decide +kernel⟩, List.mem_of_getElem? (i := 16) (cn_1 (q := 16) rfl), List.mem_of_getElem? (i := 797) (cn_4 (q := 77) rfl), List.mem_of_getElem? (i := 798) (cn_4 (q := 78) rfl)⟩
theorem lw_p23 : lw_okq (⟨"NameKeeper$World", "gapIn", "(ILNameKeeper$Route;)I"⟩, 4) := ⟨⟨by decide +kernel, by decide +kernel⟩, List.mem_of_getElem? (i := 104) (cn_1 (q := 104) rfl), List.mem_of_getElem? (i := 851) (cn_4 (q := 131) rfl), List.mem_of_getElem? (i := 852) (cn_4 (q := 132) rfl)⟩
theorem lw_p24 : lw_okq (⟨"NameKeeper", "orRefuse", "(II)I"⟩, 16) := ⟨⟨by decide +kernel, by decide +kernel⟩, List.mem_of_getElem? (i := 16) (cn_1 (q := 16) rfl), List.mem_of_getElem? (i := 866) (cn_4 (q := 146) rfl), List.mem_of_getElem? (i := 867) (cn_4 (q := 147) rfl)⟩
theorem lw_p25 : lw_okq (⟨"NameKeeper$World", "canTake", "(II)Z"⟩, 4) := ⟨⟨by decide +kernel, by decide +kernel⟩, List.mem_of_getElem? (i := 104) (cn_1 (q := 104) rfl), List.mem_of_getElem? (i := 904) (cn_4 (q := 184) rfl), List.mem_of_getElem? (i := 905) (cn_4 (q := 185) rfl)⟩
theorem lw_p26 : lw_okq (⟨"NameKeeper$Memory", "isOf", "(II)Z"⟩, 17) := ⟨⟨by decide +kernel, by decide +kernel⟩, List.mem_of_getElem? (i := 106) (cn_1 (q := 106) rfl), List.mem_of_getElem? (i := 968) (cn_5 (q := 8) rfl), List.mem_of_getElem? (i := 969) (cn_5 (q := 9) rfl)⟩
theorem lw_p27 : lw_okq (⟨"NameKeeper$Memory", "heldBelow", "(I)I"⟩, 17) := ⟨⟨by decide +kernel, by decide +kernel⟩, List.mem_of_getElem? (i := 106) (cn_1 (q := 106) rfl), List.mem_of_getElem? (i := 973) (cn_5 (q := 13) rfl), List.mem_of_getElem? (i := 974) (cn_5 (q := 14) rfl)⟩
theorem lw_p28 : lw_okq (⟨"NameKeeper$World", "isReachable", "(I)Z"⟩, 4) := ⟨⟨by decide +kernel, by decide +kernel⟩, List.mem_of_getElem? (i := 104) (cn_1 (q := 104) rfl), List.mem_of_getElem? (i := 1005) (cn_5 (q := 45) rfl), List.mem_of_getElem? (i := 1006) (cn_5 (q := 46) rfl)⟩
theorem lw_p29 : lw_okq (⟨"NameKeeper", "drawOf", "(I)I"⟩, 16) := ⟨⟨by decide +kernel, by decide +kernel⟩, List.mem_of_getElem? (i := 16) (cn_1 (q := 16) rfl), List.mem_of_getElem? (i := 1010) (cn_5 (q := 50) rfl), List.mem_of_getElem? (i := 1011) (cn_5 (q := 51) rfl)⟩
theorem lw_p30 : lw_okq (⟨"NameKeeper$Walker", "goToRoot", "(LNameKeeper$Memory;)V"⟩, 9) := ⟨⟨by decide +kernel, by decide +kernel⟩, List.mem_of_getElem? (i := 184) (cn_1 (q := 184) rfl), List.mem_of_getElem? (i := 1039) (cn_5 (q := 79) rfl), List.mem_of_getElem? (i := 1040) (cn_5 (q := 80) rfl)⟩
theorem lw_p31 : lw_okq (⟨"NameKeeper$Walker", "takeTrail", "(LNameKeeper$Memory;)V"⟩, 9) := ⟨⟨by decide +kernel, by decide +kernel⟩, List.mem_of_getElem? (i := 184) (cn_1 (q := 184) rfl), List.mem_of_getElem? (i := 1044) (cn_5 (q := 84) rfl), List.mem_of_getElem? (i := 1045) (cn_5 (q := 85) rfl)⟩
def lw_privs_2 : List (MethodName × Nat) := [(⟨"NameKeeper", "tryOut", "(LNameKeeper$Route;)I"⟩, 16), (⟨"NameKeeper$Memory", "stepUp", "(I)I"⟩, 17), (⟨"NameKeeper$Memory", "shrink", "(I)V"⟩, 17), (⟨"NameKeeper$Memory", "howManyButRoots", "()I"⟩, 17), (⟨"NameKeeper", "writeRoute", "(LNameKeeper$Route;)V"⟩, 16), (⟨"NameKeeper", "writeByte", "(I)V"⟩, 16), (⟨"NameKeeper", "writeName", "(I)V"⟩, 16), (⟨"NameKeeper$World", "gapIn", "(ILNameKeeper$Route;)I"⟩, 4), (⟨"NameKeeper", "orRefuse", "(II)I"⟩, 16), (⟨"NameKeeper$World", "canTake", "(II)Z"⟩, 4), (⟨"NameKeeper$Memory", "isOf", "(II)Z"⟩, 17), (⟨"NameKeeper$Memory", "heldBelow", "(I)I"⟩, 17), (⟨"NameKeeper$World", "isReachable", "(I)Z"⟩, 4), (⟨"NameKeeper", "drawOf", "(I)I"⟩, 16), (⟨"NameKeeper$Walker", "goToRoot", "(LNameKeeper$Memory;)V"⟩, 9), (⟨"NameKeeper$Walker", "takeTrail", "(LNameKeeper$Memory;)V"⟩, 9)]
theorem lw_r2 : ∀ q ∈ lw_privs_2, lw_okq q := List.forall_mem_cons.mpr ⟨lw_p16, List.forall_mem_cons.mpr ⟨lw_p17, List.forall_mem_cons.mpr ⟨lw_p18, List.forall_mem_cons.mpr ⟨lw_p19, List.forall_mem_cons.mpr ⟨lw_p20, List.forall_mem_cons.mpr ⟨lw_p21, List.forall_mem_cons.mpr ⟨lw_p22, List.forall_mem_cons.mpr ⟨lw_p23, List.forall_mem_cons.mpr ⟨lw_p24, List.forall_mem_cons.mpr ⟨lw_p25, List.forall_mem_cons.mpr ⟨lw_p26, List.forall_mem_cons.mpr ⟨lw_p27, List.forall_mem_cons.mpr ⟨lw_p28, List.forall_mem_cons.mpr ⟨lw_p29, List.forall_mem_cons.mpr ⟨lw_p30, List.forall_mem_cons.mpr ⟨lw_p31, fun _ h => absurd h List.not_mem_nil⟩⟩⟩⟩⟩⟩⟩⟩⟩⟩⟩⟩⟩⟩⟩⟩
theorem lw_p32 : lw_okq (⟨"NameKeeper$Walker", "isChanged", "(LNameKeeper$Memory;)Z"⟩, 9) := ⟨⟨by decide +kernel, by decide +kernel⟩, List.mem_of_getElem? (i := 184) (cn_1 (q := 184) rfl), List.mem_of_getElem? (i := 1059) (cn_5 (q := 99) rfl), List.mem_of_getElem? (i := 1060) (cn_5 (q := 100) rfl)⟩
theorem lw_p33 : lw_okq (⟨"NameKeeper$Walker", "letGo", "(LNameKeeper$Memory;)V"⟩, 9) := ⟨⟨by decide +kernel, by decide +kernel⟩, List.mem_of_getElem? (i := 184) (cn_1 (q := 184) rfl), List.mem_of_getElem? (i := 1063) (cn_5 (q := 103) rfl), List.mem_of_getElem? (i := 1064) (cn_5 (q := 104) rfl)⟩
theorem lw_p34 : lw_okq (⟨"NameKeeper$Walker", "lacksNext", "(LNameKeeper$Memory;)Z"⟩, 9) := ⟨⟨by decide +kernel, by decide +kernel⟩, List.mem_of_getElem? (i := 184) (cn_1 (q := 184) rfl), List.mem_of_getElem? (i := 1068) (cn_5 (q := 108) rfl), List.mem_of_getElem? (i := 1069) (cn_5 (q := 109) rfl)⟩
theorem lw_p35 : lw_okq (⟨"NameKeeper$Walker", "holdAll", "(LNameKeeper$Memory;)V"⟩, 9) := ⟨⟨by decide +kernel, by decide +kernel⟩, List.mem_of_getElem? (i := 184) (cn_1 (q := 184) rfl), List.mem_of_getElem? (i := 1074) (cn_5 (q := 114) rfl), List.mem_of_getElem? (i := 1075) (cn_5 (q := 115) rfl)⟩
theorem lw_p36 : lw_okq (⟨"NameKeeper", "tellOutcome", "(LNameKeeper$Walker;I)V"⟩, 16) := ⟨⟨by decide +kernel, by decide +kernel⟩, List.mem_of_getElem? (i := 16) (cn_1 (q := 16) rfl), List.mem_of_getElem? (i := 1084) (cn_5 (q := 124) rfl), List.mem_of_getElem? (i := 1085) (cn_5 (q := 125) rfl)⟩
theorem lw_p37 : lw_okq (⟨"NameKeeper$Trace", "prepare", "(LNameKeeper$Memory;)V"⟩, 7) := ⟨⟨by decide +kernel, by decide +kernel⟩, List.mem_of_getElem? (i := 275) (cn_2 (q := 35) rfl), List.mem_of_getElem? (i := 1118) (cn_5 (q := 158) rfl), List.mem_of_getElem? (i := 1119) (cn_5 (q := 159) rfl)⟩
theorem lw_p38 : lw_okq (⟨"NameKeeper$Memory", "markUpFrom", "(I)V"⟩, 17) := ⟨⟨by decide +kernel, by decide +kernel⟩, List.mem_of_getElem? (i := 106) (cn_1 (q := 106) rfl), List.mem_of_getElem? (i := 1127) (cn_5 (q := 167) rfl), List.mem_of_getElem? (i := 1128) (cn_5 (q := 168) rfl)⟩
theorem lw_p39 : lw_okq (⟨"NameKeeper$Trace", "runBy", "(I)Z"⟩, 7) := ⟨⟨by decide +kernel, by decide +kernel⟩, List.mem_of_getElem? (i := 275) (cn_2 (q := 35) rfl), List.mem_of_getElem? (i := 1131) (cn_5 (q := 171) rfl), List.mem_of_getElem? (i := 1132) (cn_5 (q := 172) rfl)⟩
theorem lw_p40 : lw_okq (⟨"NameKeeper$Trace", "isFit", "(I)Z"⟩, 7) := ⟨⟨by decide +kernel, by decide +kernel⟩, List.mem_of_getElem? (i := 275) (cn_2 (q := 35) rfl), List.mem_of_getElem? (i := 1161) (cn_5 (q := 201) rfl), List.mem_of_getElem? (i := 1162) (cn_5 (q := 202) rfl)⟩
theorem lw_p41 : lw_okq (⟨"NameKeeper$Trace", "mostLeft", "(I)I"⟩, 7) := ⟨⟨by decide +kernel, by decide +kernel⟩, List.mem_of_getElem? (i := 275) (cn_2 (q := 35) rfl), List.mem_of_getElem? (i := 1173) (cn_5 (q := 213) rfl), List.mem_of_getElem? (i := 1174) (cn_5 (q := 214) rfl)⟩
theorem lw_p42 : lw_okq (⟨"NameKeeper$Trace", "alikeFits", "(II)I"⟩, 7) := ⟨⟨by decide +kernel, by decide +kernel⟩, List.mem_of_getElem? (i := 275) (cn_2 (q := 35) rfl), List.mem_of_getElem? (i := 1177) (cn_5 (q := 217) rfl), List.mem_of_getElem? (i := 1178) (cn_5 (q := 218) rfl)⟩
theorem lw_p43 : lw_okq (⟨"NameKeeperModel", "refuses", "(I)I"⟩, 43) := ⟨⟨by decide +kernel, by decide +kernel⟩, List.mem_of_getElem? (i := 1198) (cn_5 (q := 238) rfl), List.mem_of_getElem? (i := 1340) (cn_6 (q := 140) rfl), List.mem_of_getElem? (i := 1341) (cn_6 (q := 141) rfl)⟩
theorem lw_p44 : lw_okq (⟨"NameKeeperModel", "isRefused", "(I)Z"⟩, 43) := ⟨⟨by decide +kernel, by decide +kernel⟩, List.mem_of_getElem? (i := 1198) (cn_5 (q := 238) rfl), List.mem_of_getElem? (i := 1348) (cn_6 (q := 148) rfl), List.mem_of_getElem? (i := 1349) (cn_6 (q := 149) rfl)⟩
theorem lw_p45 : lw_okq (⟨"NameKeeperModel", "look0", "()I"⟩, 43) := ⟨⟨by decide +kernel, by decide +kernel⟩, List.mem_of_getElem? (i := 1198) (cn_5 (q := 238) rfl), List.mem_of_getElem? (i := 1368) (cn_6 (q := 168) rfl), List.mem_of_getElem? (i := 1369) (cn_6 (q := 169) rfl)⟩
theorem lw_p46 : lw_okq (⟨"NameKeeperModel", "fail", "(II)V"⟩, 43) := ⟨⟨by decide +kernel, by decide +kernel⟩, List.mem_of_getElem? (i := 1198) (cn_5 (q := 238) rfl), List.mem_of_getElem? (i := 1372) (cn_6 (q := 172) rfl), List.mem_of_getElem? (i := 1373) (cn_6 (q := 173) rfl)⟩
theorem lw_p47 : lw_okq (⟨"NameKeeperModel", "volumeTold", "(I)V"⟩, 43) := ⟨⟨by decide +kernel, by decide +kernel⟩, List.mem_of_getElem? (i := 1198) (cn_5 (q := 238) rfl), List.mem_of_getElem? (i := 1376) (cn_6 (q := 176) rfl), List.mem_of_getElem? (i := 1377) (cn_6 (q := 177) rfl)⟩
def lw_privs_3 : List (MethodName × Nat) := [(⟨"NameKeeper$Walker", "isChanged", "(LNameKeeper$Memory;)Z"⟩, 9), (⟨"NameKeeper$Walker", "letGo", "(LNameKeeper$Memory;)V"⟩, 9), (⟨"NameKeeper$Walker", "lacksNext", "(LNameKeeper$Memory;)Z"⟩, 9), (⟨"NameKeeper$Walker", "holdAll", "(LNameKeeper$Memory;)V"⟩, 9), (⟨"NameKeeper", "tellOutcome", "(LNameKeeper$Walker;I)V"⟩, 16), (⟨"NameKeeper$Trace", "prepare", "(LNameKeeper$Memory;)V"⟩, 7), (⟨"NameKeeper$Memory", "markUpFrom", "(I)V"⟩, 17), (⟨"NameKeeper$Trace", "runBy", "(I)Z"⟩, 7), (⟨"NameKeeper$Trace", "isFit", "(I)Z"⟩, 7), (⟨"NameKeeper$Trace", "mostLeft", "(I)I"⟩, 7), (⟨"NameKeeper$Trace", "alikeFits", "(II)I"⟩, 7), (⟨"NameKeeperModel", "refuses", "(I)I"⟩, 43), (⟨"NameKeeperModel", "isRefused", "(I)Z"⟩, 43), (⟨"NameKeeperModel", "look0", "()I"⟩, 43), (⟨"NameKeeperModel", "fail", "(II)V"⟩, 43), (⟨"NameKeeperModel", "volumeTold", "(I)V"⟩, 43)]
theorem lw_r3 : ∀ q ∈ lw_privs_3, lw_okq q := List.forall_mem_cons.mpr ⟨lw_p32, List.forall_mem_cons.mpr ⟨lw_p33, List.forall_mem_cons.mpr ⟨lw_p34, List.forall_mem_cons.mpr ⟨lw_p35, List.forall_mem_cons.mpr ⟨lw_p36, List.forall_mem_cons.mpr ⟨lw_p37, List.forall_mem_cons.mpr ⟨lw_p38, List.forall_mem_cons.mpr ⟨lw_p39, List.forall_mem_cons.mpr ⟨lw_p40, List.forall_mem_cons.mpr ⟨lw_p41, List.forall_mem_cons.mpr ⟨lw_p42, List.forall_mem_cons.mpr ⟨lw_p43, List.forall_mem_cons.mpr ⟨lw_p44, List.forall_mem_cons.mpr ⟨lw_p45, List.forall_mem_cons.mpr ⟨lw_p46, List.forall_mem_cons.mpr ⟨lw_p47, fun _ h => absurd h List.not_mem_nil⟩⟩⟩⟩⟩⟩⟩⟩⟩⟩⟩⟩⟩⟩⟩⟩
theorem lw_p48 : lw_okq (⟨"NameKeeperModel", "drafts", "(III)I"⟩, 43) := ⟨⟨by decide +kernel, by decide +kernel⟩, List.mem_of_getElem? (i := 1198) (cn_5 (q := 238) rfl), List.mem_of_getElem? (i := 1380) (cn_6 (q := 180) rfl), List.mem_of_getElem? (i := 1381) (cn_6 (q := 181) rfl)⟩
theorem lw_p49 : lw_okq (⟨"NameKeeperModel", "drafted", "(II)I"⟩, 43) := ⟨⟨by decide +kernel, by decide +kernel⟩, List.mem_of_getElem? (i := 1198) (cn_5 (q := 238) rfl), List.mem_of_getElem? (i := 1384) (cn_6 (q := 184) rfl), List.mem_of_getElem? (i := 1385) (cn_6 (q := 185) rfl)⟩
theorem lw_p50 : lw_okq (⟨"NameKeeperModel", "nameHere", "()I"⟩, 43) := ⟨⟨by decide +kernel, by decide +kernel⟩, List.mem_of_getElem? (i := 1198) (cn_5 (q := 238) rfl), List.mem_of_getElem? (i := 1394) (cn_6 (q := 194) rfl), List.mem_of_getElem? (i := 1395) (cn_6 (q := 195) rfl)⟩
theorem lw_p51 : lw_okq (⟨"NameKeeperModel", "stands", "()V"⟩, 43) := ⟨⟨by decide +kernel, by decide +kernel⟩, List.mem_of_getElem? (i := 1198) (cn_5 (q := 238) rfl), List.mem_of_getElem? (i := 1398) (cn_6 (q := 198) rfl), List.mem_of_getElem? (i := 1399) (cn_6 (q := 199) rfl)⟩
theorem lw_p52 : lw_okq (⟨"NameKeeperModel", "makes", "(III)I"⟩, 43) := ⟨⟨by decide +kernel, by decide +kernel⟩, List.mem_of_getElem? (i := 1198) (cn_5 (q := 238) rfl), List.mem_of_getElem? (i := 1405) (cn_6 (q := 205) rfl), List.mem_of_getElem? (i := 1406) (cn_6 (q := 206) rfl)⟩
theorem lw_p53 : lw_okq (⟨"NameKeeperModel", "its", "(II)I"⟩, 43) := ⟨⟨by decide +kernel, by decide +kernel⟩, List.mem_of_getElem? (i := 1198) (cn_5 (q := 238) rfl), List.mem_of_getElem? (i := 1409) (cn_6 (q := 209) rfl), List.mem_of_getElem? (i := 1410) (cn_6 (q := 210) rfl)⟩
theorem lw_p54 : lw_okq (⟨"NameKeeperModel", "comesTo", "(I)V"⟩, 43) := ⟨⟨by decide +kernel, by decide +kernel⟩, List.mem_of_getElem? (i := 1198) (cn_5 (q := 238) rfl), List.mem_of_getElem? (i := 1416) (cn_6 (q := 216) rfl), List.mem_of_getElem? (i := 1417) (cn_6 (q := 217) rfl)⟩
theorem lw_p55 : lw_okq (⟨"NameKeeperModel", "notes", "(I)V"⟩, 43) := ⟨⟨by decide +kernel, by decide +kernel⟩, List.mem_of_getElem? (i := 1198) (cn_5 (q := 238) rfl), List.mem_of_getElem? (i := 1420) (cn_6 (q := 220) rfl), List.mem_of_getElem? (i := 1421) (cn_6 (q := 221) rfl)⟩
theorem lw_p56 : lw_okq (⟨"NameKeeperModel", "walkerHas", "(II)I"⟩, 43) := ⟨⟨by decide +kernel, by decide +kernel⟩, List.mem_of_getElem? (i := 1198) (cn_5 (q := 238) rfl), List.mem_of_getElem? (i := 1424) (cn_6 (q := 224) rfl), List.mem_of_getElem? (i := 1425) (cn_6 (q := 225) rfl)⟩
theorem lw_p57 : lw_okq (⟨"NameKeeperModel", "nodeMany", "(I)I"⟩, 43) := ⟨⟨by decide +kernel, by decide +kernel⟩, List.mem_of_getElem? (i := 1198) (cn_5 (q := 238) rfl), List.mem_of_getElem? (i := 1436) (cn_6 (q := 236) rfl), List.mem_of_getElem? (i := 1437) (cn_6 (q := 237) rfl)⟩
theorem lw_p58 : lw_okq (⟨"NameKeeperModel", "nodeHas", "(II)I"⟩, 43) := ⟨⟨by decide +kernel, by decide +kernel⟩, List.mem_of_getElem? (i := 1198) (cn_5 (q := 238) rfl), List.mem_of_getElem? (i := 1440) (cn_7 (q := 0) rfl), List.mem_of_getElem? (i := 1441) (cn_7 (q := 1) rfl)⟩
theorem lw_p59 : lw_okq (⟨"NameKeeperModel", "entryMany", "(Z)I"⟩, 43) := ⟨⟨by decide +kernel, by decide +kernel⟩, List.mem_of_getElem? (i := 1198) (cn_5 (q := 238) rfl), List.mem_of_getElem? (i := 1444) (cn_7 (q := 4) rfl), List.mem_of_getElem? (i := 1445) (cn_7 (q := 5) rfl)⟩
theorem lw_p60 : lw_okq (⟨"NameKeeperModel", "isRoot", "(I)Z"⟩, 43) := ⟨⟨by decide +kernel, by decide +kernel⟩, List.mem_of_getElem? (i := 1198) (cn_5 (q := 238) rfl), List.mem_of_getElem? (i := 1448) (cn_7 (q := 8) rfl), List.mem_of_getElem? (i := 1449) (cn_7 (q := 9) rfl)⟩
theorem lw_p61 : lw_okq (⟨"NameKeeperModel", "entriesWith", "(I)I"⟩, 43) := ⟨⟨by decide +kernel, by decide +kernel⟩, List.mem_of_getElem? (i := 1198) (cn_5 (q := 238) rfl), List.mem_of_getElem? (i := 1452) (cn_7 (q := 12) rfl), List.mem_of_getElem? (i := 1453) (cn_7 (q := 13) rfl)⟩
theorem lw_p62 : lw_okq (⟨"NameKeeperModel", "counts", "()V"⟩, 43) := ⟨⟨by decide +kernel, by decide +kernel⟩, List.mem_of_getElem? (i := 1198) (cn_5 (q := 238) rfl), List.mem_of_getElem? (i := 1456) (cn_7 (q := 16) rfl), List.mem_of_getElem? (i := 1457) (cn_7 (q := 17) rfl)⟩
theorem lw_p63 : lw_okq (⟨"NameKeeperModel", "countsHands", "()V"⟩, 43) := ⟨⟨by decide +kernel, by decide +kernel⟩, List.mem_of_getElem? (i := 1198) (cn_5 (q := 238) rfl), List.mem_of_getElem? (i := 1460) (cn_7 (q := 20) rfl), List.mem_of_getElem? (i := 1461) (cn_7 (q := 21) rfl)⟩
def lw_privs_4 : List (MethodName × Nat) := [(⟨"NameKeeperModel", "drafts", "(III)I"⟩, 43), (⟨"NameKeeperModel", "drafted", "(II)I"⟩, 43), (⟨"NameKeeperModel", "nameHere", "()I"⟩, 43), (⟨"NameKeeperModel", "stands", "()V"⟩, 43), (⟨"NameKeeperModel", "makes", "(III)I"⟩, 43), (⟨"NameKeeperModel", "its", "(II)I"⟩, 43), (⟨"NameKeeperModel", "comesTo", "(I)V"⟩, 43), (⟨"NameKeeperModel", "notes", "(I)V"⟩, 43), (⟨"NameKeeperModel", "walkerHas", "(II)I"⟩, 43), (⟨"NameKeeperModel", "nodeMany", "(I)I"⟩, 43), (⟨"NameKeeperModel", "nodeHas", "(II)I"⟩, 43), (⟨"NameKeeperModel", "entryMany", "(Z)I"⟩, 43), (⟨"NameKeeperModel", "isRoot", "(I)Z"⟩, 43), (⟨"NameKeeperModel", "entriesWith", "(I)I"⟩, 43), (⟨"NameKeeperModel", "counts", "()V"⟩, 43), (⟨"NameKeeperModel", "countsHands", "()V"⟩, 43)]
theorem lw_r4 : ∀ q ∈ lw_privs_4, lw_okq q := List.forall_mem_cons.mpr ⟨lw_p48, List.forall_mem_cons.mpr ⟨lw_p49, List.forall_mem_cons.mpr ⟨lw_p50, List.forall_mem_cons.mpr ⟨lw_p51, List.forall_mem_cons.mpr ⟨lw_p52, List.forall_mem_cons.mpr ⟨lw_p53, List.forall_mem_cons.mpr ⟨lw_p54, List.forall_mem_cons.mpr ⟨lw_p55, List.forall_mem_cons.mpr ⟨lw_p56, List.forall_mem_cons.mpr ⟨lw_p57, List.forall_mem_cons.mpr ⟨lw_p58, List.forall_mem_cons.mpr ⟨lw_p59, List.forall_mem_cons.mpr ⟨lw_p60, List.forall_mem_cons.mpr ⟨lw_p61, List.forall_mem_cons.mpr ⟨lw_p62, List.forall_mem_cons.mpr ⟨lw_p63, fun _ h => absurd h List.not_mem_nil⟩⟩⟩⟩⟩⟩⟩⟩⟩⟩⟩⟩⟩⟩⟩⟩
theorem lw_p64 : lw_okq (⟨"NameKeeperModel", "handleMany", "()I"⟩, 43) := ⟨⟨by decide +kernel, by decide +kernel⟩, List.mem_of_getElem? (i := 1198) (cn_5 (q := 238) rfl), List.mem_of_getElem? (i := 1464) (cn_7 (q := 24) rfl), List.mem_of_getElem? (i := 1465) (cn_7 (q := 25) rfl)⟩
theorem lw_p65 : lw_okq (⟨"NameKeeperModel", "walkerMany", "()I"⟩, 43) := ⟨⟨by decide +kernel, by decide +kernel⟩, List.mem_of_getElem? (i := 1198) (cn_5 (q := 238) rfl), List.mem_of_getElem? (i := 1468) (cn_7 (q := 28) rfl), List.mem_of_getElem? (i := 1469) (cn_7 (q := 29) rfl)⟩
theorem lw_p66 : lw_okq (⟨"NameKeeperModel", "mounted", "()I"⟩, 43) := ⟨⟨by decide +kernel, by decide +kernel⟩, List.mem_of_getElem? (i := 1198) (cn_5 (q := 238) rfl), List.mem_of_getElem? (i := 1472) (cn_7 (q := 32) rfl), List.mem_of_getElem? (i := 1473) (cn_7 (q := 33) rfl)⟩
theorem lw_p67 : lw_okq (⟨"NameKeeperModel", "isNode", "(I)Z"⟩, 43) := ⟨⟨by decide +kernel, by decide +kernel⟩, List.mem_of_getElem? (i := 1198) (cn_5 (q := 238) rfl), List.mem_of_getElem? (i := 1480) (cn_7 (q := 40) rfl), List.mem_of_getElem? (i := 1481) (cn_7 (q := 41) rfl)⟩
theorem lw_p68 : lw_okq (⟨"NameKeeperModel", "isEntry", "(I)Z"⟩, 43) := ⟨⟨by decide +kernel, by decide +kernel⟩, List.mem_of_getElem? (i := 1198) (cn_5 (q := 238) rfl), List.mem_of_getElem? (i := 1489) (cn_7 (q := 49) rfl), List.mem_of_getElem? (i := 1490) (cn_7 (q := 50) rfl)⟩
theorem lw_p69 : lw_okq (⟨"NameKeeperModel", "beginsPaths", "()V"⟩, 43) := ⟨⟨by decide +kernel, by decide +kernel⟩, List.mem_of_getElem? (i := 1198) (cn_5 (q := 238) rfl), List.mem_of_getElem? (i := 1508) (cn_7 (q := 68) rfl), List.mem_of_getElem? (i := 1509) (cn_7 (q := 69) rfl)⟩
theorem lw_p70 : lw_okq (⟨"NameKeeperModel", "childHere", "(II)I"⟩, 43) := ⟨⟨by decide +kernel, by decide +kernel⟩, List.mem_of_getElem? (i := 1198) (cn_5 (q := 238) rfl), List.mem_of_getElem? (i := 1513) (cn_7 (q := 73) rfl), List.mem_of_getElem? (i := 1514) (cn_7 (q := 74) rfl)⟩
theorem lw_p71 : lw_okq (⟨"NameKeeperModel", "isWalker", "(I)Z"⟩, 43) := ⟨⟨by decide +kernel, by decide +kernel⟩, List.mem_of_getElem? (i := 1198) (cn_5 (q := 238) rfl), List.mem_of_getElem? (i := 1521) (cn_7 (q := 81) rfl), List.mem_of_getElem? (i := 1522) (cn_7 (q := 82) rfl)⟩
theorem lw_p72 : lw_okq (⟨"NameKeeperModel", "isPath", "()Z"⟩, 43) := ⟨⟨by decide +kernel, by decide +kernel⟩, List.mem_of_getElem? (i := 1198) (cn_5 (q := 238) rfl), List.mem_of_getElem? (i := 1533) (cn_7 (q := 93) rfl), List.mem_of_getElem? (i := 1534) (cn_7 (q := 94) rfl)⟩
theorem lw_p73 : lw_okq (⟨"NameKeeperModel", "isPathHere", "()Z"⟩, 43) := ⟨⟨by decide +kernel, by decide +kernel⟩, List.mem_of_getElem? (i := 1198) (cn_5 (q := 238) rfl), List.mem_of_getElem? (i := 1537) (cn_7 (q := 97) rfl), List.mem_of_getElem? (i := 1538) (cn_7 (q := 98) rfl)⟩
theorem lw_p74 : lw_okq (⟨"NameKeeperModel", "stepHere", "()I"⟩, 43) := ⟨⟨by decide +kernel, by decide +kernel⟩, List.mem_of_getElem? (i := 1198) (cn_5 (q := 238) rfl), List.mem_of_getElem? (i := 1541) (cn_7 (q := 101) rfl), List.mem_of_getElem? (i := 1542) (cn_7 (q := 102) rfl)⟩
theorem lw_p75 : lw_okq (⟨"NameKeeperModel", "nodeBy", "(II)I"⟩, 43) := ⟨⟨by decide +kernel, by decide +kernel⟩, List.mem_of_getElem? (i := 1198) (cn_5 (q := 238) rfl), List.mem_of_getElem? (i := 1545) (cn_7 (q := 105) rfl), List.mem_of_getElem? (i := 1546) (cn_7 (q := 106) rfl)⟩
theorem lw_p76 : lw_okq (⟨"NameKeeperModel", "nodeUp", "(I)I"⟩, 43) := ⟨⟨by decide +kernel, by decide +kernel⟩, List.mem_of_getElem? (i := 1198) (cn_5 (q := 238) rfl), List.mem_of_getElem? (i := 1549) (cn_7 (q := 109) rfl), List.mem_of_getElem? (i := 1550) (cn_7 (q := 110) rfl)⟩
theorem lw_p77 : lw_okq (⟨"NameKeeperModel", "nodeIn", "(II)I"⟩, 43) := ⟨⟨by decide +kernel, by decide +kernel⟩, List.mem_of_getElem? (i := 1198) (cn_5 (q := 238) rfl), List.mem_of_getElem? (i := 1553) (cn_7 (q := 113) rfl), List.mem_of_getElem? (i := 1554) (cn_7 (q := 114) rfl)⟩
theorem lw_p78 : lw_okq (⟨"NameKeeperModel", "volumeOver", "(I)I"⟩, 43) := ⟨⟨by decide +kernel, by decide +kernel⟩, List.mem_of_getElem? (i := 1198) (cn_5 (q := 238) rfl), List.mem_of_getElem? (i := 1557) (cn_7 (q := 117) rfl), List.mem_of_getElem? (i := 1558) (cn_7 (q := 118) rfl)⟩
theorem lw_p79 : lw_okq (⟨"NameKeeperModel", "putsAside", "()V"⟩, 43) := ⟨⟨by decide +kernel, by decide +kernel⟩, List.mem_of_getElem? (i := 1198) (cn_5 (q := 238) rfl), List.mem_of_getElem? (i := 1565) (cn_7 (q := 125) rfl), List.mem_of_getElem? (i := 1566) (cn_7 (q := 126) rfl)⟩
def lw_privs_5 : List (MethodName × Nat) := [(⟨"NameKeeperModel", "handleMany", "()I"⟩, 43), (⟨"NameKeeperModel", "walkerMany", "()I"⟩, 43), (⟨"NameKeeperModel", "mounted", "()I"⟩, 43), (⟨"NameKeeperModel", "isNode", "(I)Z"⟩, 43), (⟨"NameKeeperModel", "isEntry", "(I)Z"⟩, 43), (⟨"NameKeeperModel", "beginsPaths", "()V"⟩, 43), (⟨"NameKeeperModel", "childHere", "(II)I"⟩, 43), (⟨"NameKeeperModel", "isWalker", "(I)Z"⟩, 43), (⟨"NameKeeperModel", "isPath", "()Z"⟩, 43), (⟨"NameKeeperModel", "isPathHere", "()Z"⟩, 43), (⟨"NameKeeperModel", "stepHere", "()I"⟩, 43), (⟨"NameKeeperModel", "nodeBy", "(II)I"⟩, 43), (⟨"NameKeeperModel", "nodeUp", "(I)I"⟩, 43), (⟨"NameKeeperModel", "nodeIn", "(II)I"⟩, 43), (⟨"NameKeeperModel", "volumeOver", "(I)I"⟩, 43), (⟨"NameKeeperModel", "putsAside", "()V"⟩, 43)]
theorem lw_r5 : ∀ q ∈ lw_privs_5, lw_okq q := List.forall_mem_cons.mpr ⟨lw_p64, List.forall_mem_cons.mpr ⟨lw_p65, List.forall_mem_cons.mpr ⟨lw_p66, List.forall_mem_cons.mpr ⟨lw_p67, List.forall_mem_cons.mpr ⟨lw_p68, List.forall_mem_cons.mpr ⟨lw_p69, List.forall_mem_cons.mpr ⟨lw_p70, List.forall_mem_cons.mpr ⟨lw_p71, List.forall_mem_cons.mpr ⟨lw_p72, List.forall_mem_cons.mpr ⟨lw_p73, List.forall_mem_cons.mpr ⟨lw_p74, List.forall_mem_cons.mpr ⟨lw_p75, List.forall_mem_cons.mpr ⟨lw_p76, List.forall_mem_cons.mpr ⟨lw_p77, List.forall_mem_cons.mpr ⟨lw_p78, List.forall_mem_cons.mpr ⟨lw_p79, fun _ h => absurd h List.not_mem_nil⟩⟩⟩⟩⟩⟩⟩⟩⟩⟩⟩⟩⟩⟩⟩⟩
theorem lw_p80 : lw_okq (⟨"NameKeeperModel", "walks", "([II)I"⟩, 43) := ⟨⟨by decide +kernel, by decide +kernel⟩, List.mem_of_getElem? (i := 1198) (cn_5 (q := 238) rfl), List.mem_of_getElem? (i := 1569) (cn_7 (q := 129) rfl), List.mem_of_getElem? (i := 1570) (cn_7 (q := 130) rfl)⟩
theorem lw_p81 : lw_okq (⟨"NameKeeperModel", "steps0", "(I)I"⟩, 43) := ⟨⟨by decide +kernel, by decide +kernel⟩, List.mem_of_getElem? (i := 1198) (cn_5 (q := 238) rfl), List.mem_of_getElem? (i := 1573) (cn_7 (q := 133) rfl), List.mem_of_getElem? (i := 1574) (cn_7 (q := 134) rfl)⟩
theorem lw_p82 : lw_okq (⟨"NameKeeperModel", "goesUp", "()V"⟩, 43) := ⟨⟨by decide +kernel, by decide +kernel⟩, List.mem_of_getElem? (i := 1198) (cn_5 (q := 238) rfl), List.mem_of_getElem? (i := 1577) (cn_7 (q := 137) rfl), List.mem_of_getElem? (i := 1578) (cn_7 (q := 138) rfl)⟩
theorem lw_p83 : lw_okq (⟨"NameKeeperModel", "rootOf", "(I)I"⟩, 43) := ⟨⟨by decide +kernel, by decide +kernel⟩, List.mem_of_getElem? (i := 1198) (cn_5 (q := 238) rfl), List.mem_of_getElem? (i := 1581) (cn_7 (q := 141) rfl), List.mem_of_getElem? (i := 1582) (cn_7 (q := 142) rfl)⟩
theorem lw_p84 : lw_okq (⟨"NameKeeperModel", "isFolder", "(I)Z"⟩, 43) := ⟨⟨by decide +kernel, by decide +kernel⟩, List.mem_of_getElem? (i := 1198) (cn_5 (q := 238) rfl), List.mem_of_getElem? (i := 1585) (cn_7 (q := 145) rfl), List.mem_of_getElem? (i := 1586) (cn_7 (q := 146) rfl)⟩
theorem lw_p85 : lw_okq (⟨"NameKeeperModel", "childOf", "(II)I"⟩, 43) := ⟨⟨by decide +kernel, by decide +kernel⟩, List.mem_of_getElem? (i := 1198) (cn_5 (q := 238) rfl), List.mem_of_getElem? (i := 1589) (cn_7 (q := 149) rfl), List.mem_of_getElem? (i := 1590) (cn_7 (q := 150) rfl)⟩
theorem lw_p86 : lw_okq (⟨"NameKeeperModel", "trims", "(II)I"⟩, 43) := ⟨⟨by decide +kernel, by decide +kernel⟩, List.mem_of_getElem? (i := 1198) (cn_5 (q := 238) rfl), List.mem_of_getElem? (i := 1593) (cn_7 (q := 153) rfl), List.mem_of_getElem? (i := 1594) (cn_7 (q := 154) rfl)⟩
theorem lw_p87 : lw_okq (⟨"NameKeeperModel", "leastFree", "(I)I"⟩, 43) := ⟨⟨by decide +kernel, by decide +kernel⟩, List.mem_of_getElem? (i := 1198) (cn_5 (q := 238) rfl), List.mem_of_getElem? (i := 1597) (cn_7 (q := 157) rfl), List.mem_of_getElem? (i := 1598) (cn_7 (q := 158) rfl)⟩
theorem lw_p88 : lw_okq (⟨"NameKeeperModel", "takesBack", "()V"⟩, 43) := ⟨⟨by decide +kernel, by decide +kernel⟩, List.mem_of_getElem? (i := 1198) (cn_5 (q := 238) rfl), List.mem_of_getElem? (i := 1601) (cn_7 (q := 161) rfl), List.mem_of_getElem? (i := 1602) (cn_7 (q := 162) rfl)⟩
theorem lw_p89 : lw_okq (⟨"NameKeeperModel", "writes", "(I)V"⟩, 43) := ⟨⟨by decide +kernel, by decide +kernel⟩, List.mem_of_getElem? (i := 1198) (cn_5 (q := 238) rfl), List.mem_of_getElem? (i := 1613) (cn_7 (q := 173) rfl), List.mem_of_getElem? (i := 1614) (cn_7 (q := 174) rfl)⟩
theorem lw_p90 : lw_okq (⟨"NameKeeperModel", "keeps", "()V"⟩, 43) := ⟨⟨by decide +kernel, by decide +kernel⟩, List.mem_of_getElem? (i := 1198) (cn_5 (q := 238) rfl), List.mem_of_getElem? (i := 1629) (cn_7 (q := 189) rfl), List.mem_of_getElem? (i := 1630) (cn_7 (q := 190) rfl)⟩
theorem lw_p91 : lw_okq (⟨"NameKeeperModel", "isPlace", "([II)Z"⟩, 43) := ⟨⟨by decide +kernel, by decide +kernel⟩, List.mem_of_getElem? (i := 1198) (cn_5 (q := 238) rfl), List.mem_of_getElem? (i := 1637) (cn_7 (q := 197) rfl), List.mem_of_getElem? (i := 1638) (cn_7 (q := 198) rfl)⟩
theorem lw_p92 : lw_okq (⟨"NameKeeperModel", "isPlain", "([II)Z"⟩, 43) := ⟨⟨by decide +kernel, by decide +kernel⟩, List.mem_of_getElem? (i := 1198) (cn_5 (q := 238) rfl), List.mem_of_getElem? (i := 1645) (cn_7 (q := 205) rfl), List.mem_of_getElem? (i := 1646) (cn_7 (q := 206) rfl)⟩
theorem lw_p93 : lw_okq (⟨"NameKeeperModel", "areTwoPaths", "()Z"⟩, 43) := ⟨⟨by decide +kernel, by decide +kernel⟩, List.mem_of_getElem? (i := 1198) (cn_5 (q := 238) rfl), List.mem_of_getElem? (i := 1653) (cn_7 (q := 213) rfl), List.mem_of_getElem? (i := 1654) (cn_7 (q := 214) rfl)⟩
theorem lw_p94 : lw_okq (⟨"NameKeeperModel", "isRenamed", "(I)Z"⟩, 43) := ⟨⟨by decide +kernel, by decide +kernel⟩, List.mem_of_getElem? (i := 1198) (cn_5 (q := 238) rfl), List.mem_of_getElem? (i := 1657) (cn_7 (q := 217) rfl), List.mem_of_getElem? (i := 1658) (cn_7 (q := 218) rfl)⟩
theorem lw_p95 : lw_okq (⟨"NameKeeperModel", "isBelow", "(II)Z"⟩, 43) := ⟨⟨by decide +kernel, by decide +kernel⟩, List.mem_of_getElem? (i := 1198) (cn_5 (q := 238) rfl), List.mem_of_getElem? (i := 1661) (cn_7 (q := 221) rfl), List.mem_of_getElem? (i := 1662) (cn_7 (q := 222) rfl)⟩
def lw_privs_6 : List (MethodName × Nat) := [(⟨"NameKeeperModel", "walks", "([II)I"⟩, 43), (⟨"NameKeeperModel", "steps0", "(I)I"⟩, 43), (⟨"NameKeeperModel", "goesUp", "()V"⟩, 43), (⟨"NameKeeperModel", "rootOf", "(I)I"⟩, 43), (⟨"NameKeeperModel", "isFolder", "(I)Z"⟩, 43), (⟨"NameKeeperModel", "childOf", "(II)I"⟩, 43), (⟨"NameKeeperModel", "trims", "(II)I"⟩, 43), (⟨"NameKeeperModel", "leastFree", "(I)I"⟩, 43), (⟨"NameKeeperModel", "takesBack", "()V"⟩, 43), (⟨"NameKeeperModel", "writes", "(I)V"⟩, 43), (⟨"NameKeeperModel", "keeps", "()V"⟩, 43), (⟨"NameKeeperModel", "isPlace", "([II)Z"⟩, 43), (⟨"NameKeeperModel", "isPlain", "([II)Z"⟩, 43), (⟨"NameKeeperModel", "areTwoPaths", "()Z"⟩, 43), (⟨"NameKeeperModel", "isRenamed", "(I)Z"⟩, 43), (⟨"NameKeeperModel", "isBelow", "(II)Z"⟩, 43)]
theorem lw_r6 : ∀ q ∈ lw_privs_6, lw_okq q := List.forall_mem_cons.mpr ⟨lw_p80, List.forall_mem_cons.mpr ⟨lw_p81, List.forall_mem_cons.mpr ⟨lw_p82, List.forall_mem_cons.mpr ⟨lw_p83, List.forall_mem_cons.mpr ⟨lw_p84, List.forall_mem_cons.mpr ⟨lw_p85, List.forall_mem_cons.mpr ⟨lw_p86, List.forall_mem_cons.mpr ⟨lw_p87, List.forall_mem_cons.mpr ⟨lw_p88, List.forall_mem_cons.mpr ⟨lw_p89, List.forall_mem_cons.mpr ⟨lw_p90, List.forall_mem_cons.mpr ⟨lw_p91, List.forall_mem_cons.mpr ⟨lw_p92, List.forall_mem_cons.mpr ⟨lw_p93, List.forall_mem_cons.mpr ⟨lw_p94, List.forall_mem_cons.mpr ⟨lw_p95, fun _ h => absurd h List.not_mem_nil⟩⟩⟩⟩⟩⟩⟩⟩⟩⟩⟩⟩⟩⟩⟩⟩
theorem lw_p96 : lw_okq (⟨"NameKeeperModel", "sweeps", "()V"⟩, 43) := ⟨⟨by decide +kernel, by decide +kernel⟩, List.mem_of_getElem? (i := 1198) (cn_5 (q := 238) rfl), List.mem_of_getElem? (i := 1674) (cn_7 (q := 234) rfl), List.mem_of_getElem? (i := 1675) (cn_7 (q := 235) rfl)⟩
theorem lw_p97 : lw_okq (⟨"NameKeeperModel", "isVolume", "(I)Z"⟩, 43) := ⟨⟨by decide +kernel, by decide +kernel⟩, List.mem_of_getElem? (i := 1198) (cn_5 (q := 238) rfl), List.mem_of_getElem? (i := 1682) (cn_8 (q := 2) rfl), List.mem_of_getElem? (i := 1683) (cn_8 (q := 3) rfl)⟩
theorem lw_p98 : lw_okq (⟨"NameKeeperModel", "isInUse", "(I)Z"⟩, 43) := ⟨⟨by decide +kernel, by decide +kernel⟩, List.mem_of_getElem? (i := 1198) (cn_5 (q := 238) rfl), List.mem_of_getElem? (i := 1690) (cn_8 (q := 10) rfl), List.mem_of_getElem? (i := 1691) (cn_8 (q := 11) rfl)⟩
theorem lw_p99 : lw_okq (⟨"NameKeeperModel", "volumeOf", "(I)I"⟩, 43) := ⟨⟨by decide +kernel, by decide +kernel⟩, List.mem_of_getElem? (i := 1198) (cn_5 (q := 238) rfl), List.mem_of_getElem? (i := 1694) (cn_8 (q := 14) rfl), List.mem_of_getElem? (i := 1695) (cn_8 (q := 15) rfl)⟩
theorem lw_p100 : lw_okq (⟨"NameKeeperModel", "looksByDraw", "()V"⟩, 43) := ⟨⟨by decide +kernel, by decide +kernel⟩, List.mem_of_getElem? (i := 1198) (cn_5 (q := 238) rfl), List.mem_of_getElem? (i := 1716) (cn_8 (q := 36) rfl), List.mem_of_getElem? (i := 1717) (cn_8 (q := 37) rfl)⟩
theorem lw_p101 : lw_okq (⟨"NameKeeperModel", "isMountedNode", "(I)Z"⟩, 43) := ⟨⟨by decide +kernel, by decide +kernel⟩, List.mem_of_getElem? (i := 1198) (cn_5 (q := 238) rfl), List.mem_of_getElem? (i := 1720) (cn_8 (q := 40) rfl), List.mem_of_getElem? (i := 1721) (cn_8 (q := 41) rfl)⟩
theorem lw_p102 : lw_okq (⟨"NameKeeperModel", "drawOf", "(I)I"⟩, 43) := ⟨⟨by decide +kernel, by decide +kernel⟩, List.mem_of_getElem? (i := 1198) (cn_5 (q := 238) rfl), List.mem_of_getElem? (i := 1724) (cn_8 (q := 44) rfl), List.mem_of_getElem? (i := 1725) (cn_8 (q := 45) rfl)⟩
theorem lw_p103 : lw_okq (⟨"NameKeeperModel", "laysPath", "(I)V"⟩, 43) := ⟨⟨by decide +kernel, by decide +kernel⟩, List.mem_of_getElem? (i := 1198) (cn_5 (q := 238) rfl), List.mem_of_getElem? (i := 1732) (cn_8 (q := 52) rfl), List.mem_of_getElem? (i := 1733) (cn_8 (q := 53) rfl)⟩
theorem lw_p104 : lw_okq (⟨"NameKeeperModel", "beginsWay", "(I)V"⟩, 43) := ⟨⟨by decide +kernel, by decide +kernel⟩, List.mem_of_getElem? (i := 1198) (cn_5 (q := 238) rfl), List.mem_of_getElem? (i := 1740) (cn_8 (q := 60) rfl), List.mem_of_getElem? (i := 1741) (cn_8 (q := 61) rfl)⟩
theorem lw_p105 : lw_okq (⟨"NameKeeperModel", "isWayOther", "(I)Z"⟩, 43) := ⟨⟨by decide +kernel, by decide +kernel⟩, List.mem_of_getElem? (i := 1198) (cn_5 (q := 238) rfl), List.mem_of_getElem? (i := 1748) (cn_8 (q := 68) rfl), List.mem_of_getElem? (i := 1749) (cn_8 (q := 69) rfl)⟩
theorem lw_p106 : lw_okq (⟨"NameKeeperModel", "restarts", "(I)V"⟩, 43) := ⟨⟨by decide +kernel, by decide +kernel⟩, List.mem_of_getElem? (i := 1198) (cn_5 (q := 238) rfl), List.mem_of_getElem? (i := 1752) (cn_8 (q := 72) rfl), List.mem_of_getElem? (i := 1753) (cn_8 (q := 73) rfl)⟩
theorem lw_p107 : lw_okq (⟨"NameKeeperModel", "turnsHeavy", "(I)V"⟩, 43) := ⟨⟨by decide +kernel, by decide +kernel⟩, List.mem_of_getElem? (i := 1198) (cn_5 (q := 238) rfl), List.mem_of_getElem? (i := 1756) (cn_8 (q := 76) rfl), List.mem_of_getElem? (i := 1757) (cn_8 (q := 77) rfl)⟩
theorem lw_p108 : lw_okq (⟨"NameKeeperModel", "isThrough", "(I)Z"⟩, 43) := ⟨⟨by decide +kernel, by decide +kernel⟩, List.mem_of_getElem? (i := 1198) (cn_5 (q := 238) rfl), List.mem_of_getElem? (i := 1760) (cn_8 (q := 80) rfl), List.mem_of_getElem? (i := 1761) (cn_8 (q := 81) rfl)⟩
theorem lw_p109 : lw_okq (⟨"NameKeeperModel", "nextStep", "(I)I"⟩, 43) := ⟨⟨by decide +kernel, by decide +kernel⟩, List.mem_of_getElem? (i := 1198) (cn_5 (q := 238) rfl), List.mem_of_getElem? (i := 1764) (cn_8 (q := 84) rfl), List.mem_of_getElem? (i := 1765) (cn_8 (q := 85) rfl)⟩
theorem lw_p110 : lw_okq (⟨"NameKeeperModel", "doesStep", "(I)I"⟩, 43) := ⟨⟨by decide +kernel, by decide +kernel⟩, List.mem_of_getElem? (i := 1198) (cn_5 (q := 238) rfl), List.mem_of_getElem? (i := 1768) (cn_8 (q := 88) rfl), List.mem_of_getElem? (i := 1769) (cn_8 (q := 89) rfl)⟩
theorem lw_p111 : lw_okq (⟨"NameKeeperModel", "isOver", "(II)I"⟩, 43) := ⟨⟨by decide +kernel, by decide +kernel⟩, List.mem_of_getElem? (i := 1198) (cn_5 (q := 238) rfl), List.mem_of_getElem? (i := 1772) (cn_8 (q := 92) rfl), List.mem_of_getElem? (i := 1773) (cn_8 (q := 93) rfl)⟩
def lw_privs_7 : List (MethodName × Nat) := [(⟨"NameKeeperModel", "sweeps", "()V"⟩, 43), (⟨"NameKeeperModel", "isVolume", "(I)Z"⟩, 43), (⟨"NameKeeperModel", "isInUse", "(I)Z"⟩, 43), (⟨"NameKeeperModel", "volumeOf", "(I)I"⟩, 43), (⟨"NameKeeperModel", "looksByDraw", "()V"⟩, 43), (⟨"NameKeeperModel", "isMountedNode", "(I)Z"⟩, 43), (⟨"NameKeeperModel", "drawOf", "(I)I"⟩, 43), (⟨"NameKeeperModel", "laysPath", "(I)V"⟩, 43), (⟨"NameKeeperModel", "beginsWay", "(I)V"⟩, 43), (⟨"NameKeeperModel", "isWayOther", "(I)Z"⟩, 43), (⟨"NameKeeperModel", "restarts", "(I)V"⟩, 43), (⟨"NameKeeperModel", "turnsHeavy", "(I)V"⟩, 43), (⟨"NameKeeperModel", "isThrough", "(I)Z"⟩, 43), (⟨"NameKeeperModel", "nextStep", "(I)I"⟩, 43), (⟨"NameKeeperModel", "doesStep", "(I)I"⟩, 43), (⟨"NameKeeperModel", "isOver", "(II)I"⟩, 43)]
theorem lw_r7 : ∀ q ∈ lw_privs_7, lw_okq q := List.forall_mem_cons.mpr ⟨lw_p96, List.forall_mem_cons.mpr ⟨lw_p97, List.forall_mem_cons.mpr ⟨lw_p98, List.forall_mem_cons.mpr ⟨lw_p99, List.forall_mem_cons.mpr ⟨lw_p100, List.forall_mem_cons.mpr ⟨lw_p101, List.forall_mem_cons.mpr ⟨lw_p102, List.forall_mem_cons.mpr ⟨lw_p103, List.forall_mem_cons.mpr ⟨lw_p104, List.forall_mem_cons.mpr ⟨lw_p105, List.forall_mem_cons.mpr ⟨lw_p106, List.forall_mem_cons.mpr ⟨lw_p107, List.forall_mem_cons.mpr ⟨lw_p108, List.forall_mem_cons.mpr ⟨lw_p109, List.forall_mem_cons.mpr ⟨lw_p110, List.forall_mem_cons.mpr ⟨lw_p111, fun _ h => absurd h List.not_mem_nil⟩⟩⟩⟩⟩⟩⟩⟩⟩⟩⟩⟩⟩⟩⟩⟩
theorem lw_p112 : lw_okq (⟨"NameKeeperModel", "isTrace", "()Z"⟩, 43) := ⟨⟨by decide +kernel, by decide +kernel⟩, List.mem_of_getElem? (i := 1198) (cn_5 (q := 238) rfl), List.mem_of_getElem? (i := 1788) (cn_8 (q := 108) rfl), List.mem_of_getElem? (i := 1789) (cn_8 (q := 109) rfl)⟩
theorem lw_p113 : lw_okq (⟨"NameKeeperModel", "laysLoads", "(I)I"⟩, 43) := ⟨⟨by decide +kernel, by decide +kernel⟩, List.mem_of_getElem? (i := 1198) (cn_5 (q := 238) rfl), List.mem_of_getElem? (i := 1796) (cn_8 (q := 116) rfl), List.mem_of_getElem? (i := 1797) (cn_8 (q := 117) rfl)⟩
theorem lw_p114 : lw_okq (⟨"NameKeeperModel", "clears", "(I)V"⟩, 43) := ⟨⟨by decide +kernel, by decide +kernel⟩, List.mem_of_getElem? (i := 1198) (cn_5 (q := 238) rfl), List.mem_of_getElem? (i := 1800) (cn_8 (q := 120) rfl), List.mem_of_getElem? (i := 1801) (cn_8 (q := 121) rfl)⟩
theorem lw_p115 : lw_okq (⟨"NameKeeperModel", "laysFits", "()I"⟩, 43) := ⟨⟨by decide +kernel, by decide +kernel⟩, List.mem_of_getElem? (i := 1198) (cn_5 (q := 238) rfl), List.mem_of_getElem? (i := 1816) (cn_8 (q := 136) rfl), List.mem_of_getElem? (i := 1817) (cn_8 (q := 137) rfl)⟩
theorem lw_p116 : lw_okq (⟨"NameKeeperModel", "mostBy", "(I)I"⟩, 43) := ⟨⟨by decide +kernel, by decide +kernel⟩, List.mem_of_getElem? (i := 1198) (cn_5 (q := 238) rfl), List.mem_of_getElem? (i := 1824) (cn_8 (q := 144) rfl), List.mem_of_getElem? (i := 1825) (cn_8 (q := 145) rfl)⟩
def lw_privs_8 : List (MethodName × Nat) := [(⟨"NameKeeperModel", "isTrace", "()Z"⟩, 43), (⟨"NameKeeperModel", "laysLoads", "(I)I"⟩, 43), (⟨"NameKeeperModel", "clears", "(I)V"⟩, 43), (⟨"NameKeeperModel", "laysFits", "()I"⟩, 43), (⟨"NameKeeperModel", "mostBy", "(I)I"⟩, 43)]
theorem lw_r8 : ∀ q ∈ lw_privs_8, lw_okq q := List.forall_mem_cons.mpr ⟨lw_p112, List.forall_mem_cons.mpr ⟨lw_p113, List.forall_mem_cons.mpr ⟨lw_p114, List.forall_mem_cons.mpr ⟨lw_p115, List.forall_mem_cons.mpr ⟨lw_p116, fun _ h => absurd h List.not_mem_nil⟩⟩⟩⟩⟩
def lw_privs : List (MethodName × Nat) := lw_privs_1 ++ (lw_privs_2 ++ (lw_privs_3 ++ (lw_privs_4 ++ (lw_privs_5 ++ (lw_privs_6 ++ (lw_privs_7 ++ (lw_privs_8)))))))
def lw_tbl : List Cond := k2_sels lw_privs ++ tables_1
theorem lw_privs_ok : ∀ q ∈ lw_privs, lw_okq q := by
  show ∀ q ∈ lw_privs_1 ++ (lw_privs_2 ++ (lw_privs_3 ++ (lw_privs_4 ++ (lw_privs_5 ++ (lw_privs_6 ++ (lw_privs_7 ++ (lw_privs_8))))))), lw_okq q
  exact List.forall_mem_append.mpr ⟨lw_r1, List.forall_mem_append.mpr ⟨lw_r2, List.forall_mem_append.mpr ⟨lw_r3, List.forall_mem_append.mpr ⟨lw_r4, List.forall_mem_append.mpr ⟨lw_r5, List.forall_mem_append.mpr ⟨lw_r6, List.forall_mem_append.mpr ⟨lw_r7, lw_r8⟩⟩⟩⟩⟩⟩⟩
end
section
def RX0 : String := "NameKeeper$History"
def TX0 : u_T := fun k => match k with
  | 0 => ("NameKeeper$History", "kept", "[LNameKeeper$World;", true)
  | 1 => ("NameKeeper$History", "next", "I", false)
  | _ => ("NameKeeper$History", "length", "I", false)
def tyX0 : Nat → FieldType := fun k => match k with
  | 0 => .array (.object "NameKeeper$World")
  | 1 => .int
  | _ => .int
theorem nmX0 : ∀ a, a < 3 → ∀ b, b < 3 → a ≠ b → (TX0 a).2.1 ≠ (TX0 b).2.1 := by decide +kernel
theorem tyX0_ok : ∀ k, k < 3 → parseFieldDescriptor (TX0 k).2.2.1 = some (tyX0 k) := by decide +kernel
abbrev cX0_init : ByteArray := prog_2_method_1_code
def yX0_init : MethodName := ⟨RX0, "<init>", "()V"⟩
abbrev cX0_forget : ByteArray := prog_2_method_2_code
def yX0_forget : MethodName := ⟨RX0, "forget", "()V"⟩
abbrev cX0_keep : ByteArray := prog_2_method_3_code
def yX0_keep : MethodName := ⟨RX0, "keep", "(LNameKeeper$World;)V"⟩
abbrev cX0_bringBack : ByteArray := prog_2_method_4_code
def yX0_bringBack : MethodName := ⟨RX0, "bringBack", "(LNameKeeper$World;)Z"⟩
def RX1 : String := "NameKeeper$Memory"
def TX1 : u_T := fun k => match k with
  | 0 => ("NameKeeper$Memory", "nodes", "LNameKeeper$Nodes;", true)
  | 1 => ("NameKeeper$Memory", "state", "[I", true)
  | 2 => ("NameKeeper$Memory", "parent", "[I", true)
  | 3 => ("NameKeeper$Memory", "name", "[I", true)
  | 4 => ("NameKeeper$Memory", "node", "[I", true)
  | 5 => ("NameKeeper$Memory", "held", "[I", true)
  | 6 => ("NameKeeper$Memory", "count", "[I", true)
  | 7 => ("NameKeeper$Memory", "lastUse", "[I", true)
  | 8 => ("NameKeeper$Memory", "birth", "[I", true)
  | 9 => ("NameKeeper$Memory", "rootEntry", "[I", true)
  | 10 => ("NameKeeper$Memory", "covered", "[I", true)
  | 11 => ("NameKeeper$Memory", "limit", "I", false)
  | 12 => ("NameKeeper$Memory", "tick", "I", false)
  | 13 => ("NameKeeper$Memory", "loaded", "I", false)
  | 14 => ("NameKeeper$Memory", "trimmed", "I", false)
  | 15 => ("NameKeeper$Memory", "trail", "[I", true)
  | _ => ("NameKeeper$Memory", "trailLength", "I", false)
def tyX1 : Nat → FieldType := fun k => match k with
  | 0 => .object "NameKeeper$Nodes"
  | 1 => .array .int
  | 2 => .array .int
  | 3 => .array .int
  | 4 => .array .int
  | 5 => .array .int
  | 6 => .array .int
  | 7 => .array .int
  | 8 => .array .int
  | 9 => .array .int
  | 10 => .array .int
  | 11 => .int
  | 12 => .int
  | 13 => .int
  | 14 => .int
  | 15 => .array .int
  | _ => .int
theorem nmX1 : ∀ a, a < 17 → ∀ b, b < 17 → a ≠ b → (TX1 a).2.1 ≠ (TX1 b).2.1 := by decide +kernel
theorem tyX1_ok : ∀ k, k < 17 → parseFieldDescriptor (TX1 k).2.2.1 = some (tyX1 k) := by decide +kernel
abbrev cX1_init : ByteArray := prog_3_method_1_code
def yX1_init : MethodName := ⟨RX1, "<init>", "(LNameKeeper$Nodes;)V"⟩
abbrev cX1_startAnew : ByteArray := prog_3_method_2_code
def yX1_startAnew : MethodName := ⟨RX1, "startAnew", "()V"⟩
abbrev cX1_copyFrom : ByteArray := prog_3_method_3_code
def yX1_copyFrom : MethodName := ⟨RX1, "copyFrom", "(LNameKeeper$Memory;)V"⟩
abbrev cX1_isEntry : ByteArray := prog_3_method_4_code
def yX1_isEntry : MethodName := ⟨RX1, "isEntry", "(I)Z"⟩
abbrev cX1_isGone : ByteArray := prog_3_method_5_code
def yX1_isGone : MethodName := ⟨RX1, "isGone", "(I)Z"⟩
abbrev cX1_isAbsence : ByteArray := prog_3_method_6_code
def yX1_isAbsence : MethodName := ⟨RX1, "isAbsence", "(I)Z"⟩
abbrev cX1_isFolder : ByteArray := prog_3_method_7_code
def yX1_isFolder : MethodName := ⟨RX1, "isFolder", "(I)Z"⟩
abbrev cX1_nodeOf : ByteArray := prog_3_method_8_code
def yX1_nodeOf : MethodName := ⟨RX1, "nodeOf", "(I)I"⟩
abbrev cX1_nameOf : ByteArray := prog_3_method_9_code
def yX1_nameOf : MethodName := ⟨RX1, "nameOf", "(I)I"⟩
abbrev cX1_isMounted : ByteArray := prog_3_method_10_code
def yX1_isMounted : MethodName := ⟨RX1, "isMounted", "(I)Z"⟩
abbrev cX1_rootVolume : ByteArray := prog_3_method_11_code
def yX1_rootVolume : MethodName := ⟨RX1, "rootVolume", "(I)I"⟩
abbrev cX1_coveringVolume : ByteArray := prog_3_method_12_code
def yX1_coveringVolume : MethodName := ⟨RX1, "coveringVolume", "(I)I"⟩
abbrev cX1_coveredBy : ByteArray := prog_3_method_13_code
def yX1_coveredBy : MethodName := ⟨RX1, "coveredBy", "(I)I"⟩
abbrev cX1_canChange : ByteArray := prog_3_method_14_code
def yX1_canChange : MethodName := ⟨RX1, "canChange", "(I)Z"⟩
abbrev cX1_find : ByteArray := prog_3_method_15_code
def yX1_find : MethodName := ⟨RX1, "find", "(II)I"⟩
abbrev cX1_leastUnused : ByteArray := prog_3_method_16_code
def yX1_leastUnused : MethodName := ⟨RX1, "leastUnused", "()I"⟩
abbrev cX1_add : ByteArray := prog_3_method_17_code
def yX1_add : MethodName := ⟨RX1, "add", "(III)I"⟩
abbrev cX1_comeTo : ByteArray := prog_3_method_18_code
def yX1_comeTo : MethodName := ⟨RX1, "comeTo", "(I)V"⟩
abbrev cX1_drop : ByteArray := prog_3_method_19_code
def yX1_drop : MethodName := ⟨RX1, "drop", "(I)V"⟩
abbrev cX1_hold : ByteArray := prog_3_method_20_code
def yX1_hold : MethodName := ⟨RX1, "hold", "(I)V"⟩
abbrev cX1_release : ByteArray := prog_3_method_21_code
def yX1_release : MethodName := ⟨RX1, "release", "(I)V"⟩
abbrev cX1_reach : ByteArray := prog_3_method_22_code
def yX1_reach : MethodName := ⟨RX1, "reach", "(II)I"⟩
abbrev cX1_shrink : ByteArray := prog_3_method_23_code
def yX1_shrink : MethodName := ⟨RX1, "shrink", "(I)V"⟩
abbrev cX1_longestUnused : ByteArray := prog_3_method_24_code
def yX1_longestUnused : MethodName := ⟨RX1, "longestUnused", "(I)I"⟩
abbrev cX1_trimSome : ByteArray := prog_3_method_25_code
def yX1_trimSome : MethodName := ⟨RX1, "trimSome", "(I)I"⟩
abbrev cX1_comeToRoot : ByteArray := prog_3_method_26_code
def yX1_comeToRoot : MethodName := ⟨RX1, "comeToRoot", "()I"⟩
abbrev cX1_walk : ByteArray := prog_3_method_27_code
def yX1_walk : MethodName := ⟨RX1, "walk", "(LNameKeeper$Route;I)I"⟩
abbrev cX1_stepFrom : ByteArray := prog_3_method_28_code
def yX1_stepFrom : MethodName := ⟨RX1, "stepFrom", "(II)I"⟩
abbrev cX1_stepUp : ByteArray := prog_3_method_29_code
def yX1_stepUp : MethodName := ⟨RX1, "stepUp", "(I)I"⟩
abbrev cX1_fill : ByteArray := prog_3_method_30_code
def yX1_fill : MethodName := ⟨RX1, "fill", "(II)I"⟩
abbrev cX1_empty : ByteArray := prog_3_method_31_code
def yX1_empty : MethodName := ⟨RX1, "empty", "(I)V"⟩
abbrev cX1_move : ByteArray := prog_3_method_32_code
def yX1_move : MethodName := ⟨RX1, "move", "(III)V"⟩
abbrev cX1_isWithin : ByteArray := prog_3_method_33_code
def yX1_isWithin : MethodName := ⟨RX1, "isWithin", "(II)Z"⟩
abbrev cX1_cover : ByteArray := prog_3_method_34_code
def yX1_cover : MethodName := ⟨RX1, "cover", "(II)I"⟩
abbrev cX1_isOf : ByteArray := prog_3_method_35_code
def yX1_isOf : MethodName := ⟨RX1, "isOf", "(II)Z"⟩
abbrev cX1_heldBelow : ByteArray := prog_3_method_36_code
def yX1_heldBelow : MethodName := ⟨RX1, "heldBelow", "(I)I"⟩
abbrev cX1_isBusy : ByteArray := prog_3_method_37_code
def yX1_isBusy : MethodName := ⟨RX1, "isBusy", "(I)Z"⟩
abbrev cX1_dropVolume : ByteArray := prog_3_method_38_code
def yX1_dropVolume : MethodName := ⟨RX1, "dropVolume", "(I)I"⟩
abbrev cX1_keepMountsAlone : ByteArray := prog_3_method_39_code
def yX1_keepMountsAlone : MethodName := ⟨RX1, "keepMountsAlone", "()V"⟩
abbrev cX1_markUpFrom : ByteArray := prog_3_method_40_code
def yX1_markUpFrom : MethodName := ⟨RX1, "markUpFrom", "(I)V"⟩
abbrev cX1_howMany : ByteArray := prog_3_method_41_code
def yX1_howMany : MethodName := ⟨RX1, "howMany", "()I"⟩
abbrev cX1_howManyButRoots : ByteArray := prog_3_method_42_code
def yX1_howManyButRoots : MethodName := ⟨RX1, "howManyButRoots", "()I"⟩
abbrev cX1_absences : ByteArray := prog_3_method_43_code
def yX1_absences : MethodName := ⟨RX1, "absences", "()I"⟩
abbrev cX1_freeOnes : ByteArray := prog_3_method_44_code
def yX1_freeOnes : MethodName := ⟨RX1, "freeOnes", "()I"⟩
abbrev cX1_goneOnes : ByteArray := prog_3_method_45_code
def yX1_goneOnes : MethodName := ⟨RX1, "goneOnes", "()I"⟩
abbrev cX1_mountedBits : ByteArray := prog_3_method_46_code
def yX1_mountedBits : MethodName := ⟨RX1, "mountedBits", "()I"⟩
abbrev cX1_tell : ByteArray := prog_3_method_47_code
def yX1_tell : MethodName := ⟨RX1, "tell", "(II)I"⟩
def RX2 : String := "NameKeeper$Nodes"
def TX2 : u_T := fun k => match k with
  | 0 => ("NameKeeper$Nodes", "volume", "[I", true)
  | 1 => ("NameKeeper$Nodes", "parent", "[I", true)
  | 2 => ("NameKeeper$Nodes", "name", "[I", true)
  | 3 => ("NameKeeper$Nodes", "kind", "[I", true)
  | 4 => ("NameKeeper$Nodes", "roots", "[I", true)
  | 5 => ("NameKeeper$Nodes", "ever", "I", false)
  | _ => ("NameKeeper$Nodes", "volumes", "I", false)
def tyX2 : Nat → FieldType := fun k => match k with
  | 0 => .array .int
  | 1 => .array .int
  | 2 => .array .int
  | 3 => .array .int
  | 4 => .array .int
  | 5 => .int
  | _ => .int
theorem nmX2 : ∀ a, a < 7 → ∀ b, b < 7 → a ≠ b → (TX2 a).2.1 ≠ (TX2 b).2.1 := by decide +kernel
theorem tyX2_ok : ∀ k, k < 7 → parseFieldDescriptor (TX2 k).2.2.1 = some (tyX2 k) := by decide +kernel
abbrev cX2_init : ByteArray := prog_4_method_1_code
def yX2_init : MethodName := ⟨RX2, "<init>", "()V"⟩
abbrev cX2_clear : ByteArray := prog_4_method_2_code
def yX2_clear : MethodName := ⟨RX2, "clear", "()V"⟩
abbrev cX2_copyFrom : ByteArray := prog_4_method_3_code
def yX2_copyFrom : MethodName := ⟨RX2, "copyFrom", "(LNameKeeper$Nodes;)V"⟩
abbrev cX2_isFull : ByteArray := prog_4_method_4_code
def yX2_isFull : MethodName := ⟨RX2, "isFull", "()Z"⟩
abbrev cX2_exists : ByteArray := prog_4_method_5_code
def yX2_exists : MethodName := ⟨RX2, "exists", "(I)Z"⟩
abbrev cX2_isFolder : ByteArray := prog_4_method_6_code
def yX2_isFolder : MethodName := ⟨RX2, "isFolder", "(I)Z"⟩
abbrev cX2_hasVolume : ByteArray := prog_4_method_7_code
def yX2_hasVolume : MethodName := ⟨RX2, "hasVolume", "(I)Z"⟩
abbrev cX2_rootOf : ByteArray := prog_4_method_8_code
def yX2_rootOf : MethodName := ⟨RX2, "rootOf", "(I)I"⟩
abbrev cX2_volumeOf : ByteArray := prog_4_method_9_code
def yX2_volumeOf : MethodName := ⟨RX2, "volumeOf", "(I)I"⟩
abbrev cX2_parentOf : ByteArray := prog_4_method_10_code
def yX2_parentOf : MethodName := ⟨RX2, "parentOf", "(I)I"⟩
abbrev cX2_nameOf : ByteArray := prog_4_method_11_code
def yX2_nameOf : MethodName := ⟨RX2, "nameOf", "(I)I"⟩
abbrev cX2_addVolume : ByteArray := prog_4_method_12_code
def yX2_addVolume : MethodName := ⟨RX2, "addVolume", "()Z"⟩
abbrev cX2_addIn : ByteArray := prog_4_method_13_code
def yX2_addIn : MethodName := ⟨RX2, "addIn", "(III)I"⟩
abbrev cX2_put : ByteArray := prog_4_method_14_code
def yX2_put : MethodName := ⟨RX2, "put", "(IIII)I"⟩
abbrev cX2_becomeFolder : ByteArray := prog_4_method_15_code
def yX2_becomeFolder : MethodName := ⟨RX2, "becomeFolder", "(I)V"⟩
abbrev cX2_take : ByteArray := prog_4_method_16_code
def yX2_take : MethodName := ⟨RX2, "take", "(I)V"⟩
abbrev cX2_move : ByteArray := prog_4_method_17_code
def yX2_move : MethodName := ⟨RX2, "move", "(III)V"⟩
abbrev cX2_find : ByteArray := prog_4_method_18_code
def yX2_find : MethodName := ⟨RX2, "find", "(II)I"⟩
abbrev cX2_howManyIn : ByteArray := prog_4_method_19_code
def yX2_howManyIn : MethodName := ⟨RX2, "howManyIn", "(I)I"⟩
abbrev cX2_howMany : ByteArray := prog_4_method_20_code
def yX2_howMany : MethodName := ⟨RX2, "howMany", "()I"⟩
abbrev cX2_tell : ByteArray := prog_4_method_21_code
def yX2_tell : MethodName := ⟨RX2, "tell", "(II)I"⟩
def RX3 : String := "NameKeeper$Reader"
def TX3 : u_T := fun k => match k with
  | 0 => ("NameKeeper$Reader", "draft", "LNameKeeper$Nodes;", true)
  | 1 => ("NameKeeper$Reader", "fault", "I", false)
  | 2 => ("NameKeeper$Reader", "place", "I", false)
  | 3 => ("NameKeeper$Reader", "pos", "I", false)
  | 4 => ("NameKeeper$Reader", "depth", "I", false)
  | 5 => ("NameKeeper$Reader", "folder", "I", false)
  | _ => ("NameKeeper$Reader", "inVolume", "Z", false)
def tyX3 : Nat → FieldType := fun k => match k with
  | 0 => .object "NameKeeper$Nodes"
  | 1 => .int
  | 2 => .int
  | 3 => .int
  | 4 => .int
  | 5 => .int
  | _ => .boolean
theorem nmX3 : ∀ a, a < 7 → ∀ b, b < 7 → a ≠ b → (TX3 a).2.1 ≠ (TX3 b).2.1 := by decide +kernel
theorem tyX3_ok : ∀ k, k < 7 → parseFieldDescriptor (TX3 k).2.2.1 = some (tyX3 k) := by decide +kernel
abbrev cX3_init : ByteArray := prog_5_method_1_code
def yX3_init : MethodName := ⟨RX3, "<init>", "()V"⟩
abbrev cX3_readTrees : ByteArray := prog_5_method_2_code
def yX3_readTrees : MethodName := ⟨RX3, "readTrees", "(LNameKeeper$Tape;)Z"⟩
abbrev cX3_fail : ByteArray := prog_5_method_3_code
def yX3_fail : MethodName := ⟨RX3, "fail", "(II)Z"⟩
abbrev cX3_skipBlanks : ByteArray := prog_5_method_4_code
def yX3_skipBlanks : MethodName := ⟨RX3, "skipBlanks", "(LNameKeeper$Tape;)V"⟩
abbrev cX3_readOutside : ByteArray := prog_5_method_5_code
def yX3_readOutside : MethodName := ⟨RX3, "readOutside", "(I)Z"⟩
abbrev cX3_readInside : ByteArray := prog_5_method_6_code
def yX3_readInside : MethodName := ⟨RX3, "readInside", "(LNameKeeper$Tape;I)Z"⟩
abbrev cX3_readItem : ByteArray := prog_5_method_7_code
def yX3_readItem : MethodName := ⟨RX3, "readItem", "(LNameKeeper$Tape;)Z"⟩
abbrev cX3_openFolder : ByteArray := prog_5_method_8_code
def yX3_openFolder : MethodName := ⟨RX3, "openFolder", "(I)Z"⟩
def RX4 : String := "NameKeeper$Route"
def TX4 : u_T := fun k => match k with
  | 0 => ("NameKeeper$Route", "steps", "[I", true)
  | _ => ("NameKeeper$Route", "length", "I", false)
def tyX4 : Nat → FieldType := fun k => match k with
  | 0 => .array .int
  | _ => .int
theorem nmX4 : ∀ a, a < 2 → ∀ b, b < 2 → a ≠ b → (TX4 a).2.1 ≠ (TX4 b).2.1 := by decide +kernel
theorem tyX4_ok : ∀ k, k < 2 → parseFieldDescriptor (TX4 k).2.2.1 = some (tyX4 k) := by decide +kernel
abbrev cX4_init : ByteArray := prog_6_method_1_code
def yX4_init : MethodName := ⟨RX4, "<init>", "(I)V"⟩
abbrev cX4_clear : ByteArray := prog_6_method_2_code
def yX4_clear : MethodName := ⟨RX4, "clear", "()V"⟩
abbrev cX4_push : ByteArray := prog_6_method_3_code
def yX4_push : MethodName := ⟨RX4, "push", "(I)Z"⟩
abbrev cX4_stepAt : ByteArray := prog_6_method_4_code
def yX4_stepAt : MethodName := ⟨RX4, "stepAt", "(I)I"⟩
abbrev cX4_last : ByteArray := prog_6_method_5_code
def yX4_last : MethodName := ⟨RX4, "last", "()I"⟩
abbrev cX4_turnAround : ByteArray := prog_6_method_6_code
def yX4_turnAround : MethodName := ⟨RX4, "turnAround", "()V"⟩
abbrev cX4_copyFrom : ByteArray := prog_6_method_7_code
def yX4_copyFrom : MethodName := ⟨RX4, "copyFrom", "(LNameKeeper$Route;)V"⟩
abbrev cX4_readFrom : ByteArray := prog_6_method_8_code
def yX4_readFrom : MethodName := ⟨RX4, "readFrom", "(LNameKeeper$Tape;II)Z"⟩
abbrev cX4_endOfStep : ByteArray := prog_6_method_9_code
def yX4_endOfStep : MethodName := ⟨RX4, "endOfStep", "(LNameKeeper$Tape;II)I"⟩
def RX5 : String := "NameKeeper$Tape"
def TX5 : u_T := fun k => match k with
  | 0 => ("NameKeeper$Tape", "bytes", "[I", true)
  | _ => ("NameKeeper$Tape", "length", "I", false)
def tyX5 : Nat → FieldType := fun k => match k with
  | 0 => .array .int
  | _ => .int
theorem nmX5 : ∀ a, a < 2 → ∀ b, b < 2 → a ≠ b → (TX5 a).2.1 ≠ (TX5 b).2.1 := by decide +kernel
theorem tyX5_ok : ∀ k, k < 2 → parseFieldDescriptor (TX5 k).2.2.1 = some (tyX5 k) := by decide +kernel
abbrev cX5_init : ByteArray := prog_7_method_1_code
def yX5_init : MethodName := ⟨RX5, "<init>", "()V"⟩
abbrev cX5_hasSpace : ByteArray := prog_7_method_2_code
def yX5_hasSpace : MethodName := ⟨RX5, "hasSpace", "(I)Z"⟩
abbrev cX5_addWord : ByteArray := prog_7_method_3_code
def yX5_addWord : MethodName := ⟨RX5, "addWord", "(I)V"⟩
abbrev cX5_cut : ByteArray := prog_7_method_4_code
def yX5_cut : MethodName := ⟨RX5, "cut", "(I)Z"⟩
abbrev cX5_clear : ByteArray := prog_7_method_5_code
def yX5_clear : MethodName := ⟨RX5, "clear", "()V"⟩
abbrev cX5_at : ByteArray := prog_7_method_6_code
def yX5_at : MethodName := ⟨RX5, "at", "(I)I"⟩
def RX6 : String := "NameKeeper$Trace"
def TX6 : u_T := fun k => match k with
  | 0 => ("NameKeeper$Trace", "routes", "[LNameKeeper$Route;", true)
  | 1 => ("NameKeeper$Trace", "length", "I", false)
  | 2 => ("NameKeeper$Trace", "seen", "I", false)
  | 3 => ("NameKeeper$Trace", "bare", "LNameKeeper$Memory;", true)
  | 4 => ("NameKeeper$Trace", "trial", "LNameKeeper$Memory;", true)
  | 5 => ("NameKeeper$Trace", "loads", "[[I", true)
  | _ => ("NameKeeper$Trace", "totals", "[I", true)
def tyX6 : Nat → FieldType := fun k => match k with
  | 0 => .array (.object "NameKeeper$Route")
  | 1 => .int
  | 2 => .int
  | 3 => .object "NameKeeper$Memory"
  | 4 => .object "NameKeeper$Memory"
  | 5 => .array (.array .int)
  | _ => .array .int
theorem nmX6 : ∀ a, a < 7 → ∀ b, b < 7 → a ≠ b → (TX6 a).2.1 ≠ (TX6 b).2.1 := by decide +kernel
theorem tyX6_ok : ∀ k, k < 7 → parseFieldDescriptor (TX6 k).2.2.1 = some (tyX6 k) := by decide +kernel
abbrev cX6_init : ByteArray := prog_8_method_1_code
def yX6_init : MethodName := ⟨RX6, "<init>", "(LNameKeeper$Memory;LNameKeeper$Memory;)V"⟩
abbrev cX6_forget : ByteArray := prog_8_method_2_code
def yX6_forget : MethodName := ⟨RX6, "forget", "()V"⟩
abbrev cX6_become : ByteArray := prog_8_method_3_code
def yX6_become : MethodName := ⟨RX6, "become", "([LNameKeeper$Route;I)V"⟩
abbrev cX6_prepare : ByteArray := prog_8_method_4_code
def yX6_prepare : MethodName := ⟨RX6, "prepare", "(LNameKeeper$Memory;)V"⟩
abbrev cX6_runBy : ByteArray := prog_8_method_5_code
def yX6_runBy : MethodName := ⟨RX6, "runBy", "(I)Z"⟩
abbrev cX6_runAll : ByteArray := prog_8_method_6_code
def yX6_runAll : MethodName := ⟨RX6, "runAll", "(LNameKeeper$Memory;)Z"⟩
abbrev cX6_isFit : ByteArray := prog_8_method_7_code
def yX6_isFit : MethodName := ⟨RX6, "isFit", "(I)Z"⟩
abbrev cX6_loadsBy : ByteArray := prog_8_method_8_code
def yX6_loadsBy : MethodName := ⟨RX6, "loadsBy", "(ILNameKeeper$Memory;)I"⟩
abbrev cX6_leastRoom : ByteArray := prog_8_method_9_code
def yX6_leastRoom : MethodName := ⟨RX6, "leastRoom", "(I)I"⟩
abbrev cX6_fitting : ByteArray := prog_8_method_10_code
def yX6_fitting : MethodName := ⟨RX6, "fitting", "(I)I"⟩
abbrev cX6_telling : ByteArray := prog_8_method_11_code
def yX6_telling : MethodName := ⟨RX6, "telling", "(Z)I"⟩
abbrev cX6_mostLeft : ByteArray := prog_8_method_12_code
def yX6_mostLeft : MethodName := ⟨RX6, "mostLeft", "(I)I"⟩
abbrev cX6_alikeFits : ByteArray := prog_8_method_13_code
def yX6_alikeFits : MethodName := ⟨RX6, "alikeFits", "(II)I"⟩
def RX7 : String := "NameKeeper$Walker"
def TX7 : u_T := fun k => match k with
  | 0 => ("NameKeeper$Walker", "route", "LNameKeeper$Route;", true)
  | 1 => ("NameKeeper$Walker", "way", "[I", true)
  | 2 => ("NameKeeper$Walker", "births", "[I", true)
  | 3 => ("NameKeeper$Walker", "counts", "[I", true)
  | 4 => ("NameKeeper$Walker", "wayLength", "I", false)
  | 5 => ("NameKeeper$Walker", "underWay", "Z", false)
  | 6 => ("NameKeeper$Walker", "heavy", "Z", false)
  | 7 => ("NameKeeper$Walker", "restarts", "I", false)
  | _ => ("NameKeeper$Walker", "done", "I", false)
def tyX7 : Nat → FieldType := fun k => match k with
  | 0 => .object "NameKeeper$Route"
  | 1 => .array .int
  | 2 => .array .int
  | 3 => .array .int
  | 4 => .int
  | 5 => .boolean
  | 6 => .boolean
  | 7 => .int
  | _ => .int
theorem nmX7 : ∀ a, a < 9 → ∀ b, b < 9 → a ≠ b → (TX7 a).2.1 ≠ (TX7 b).2.1 := by decide +kernel
theorem tyX7_ok : ∀ k, k < 9 → parseFieldDescriptor (TX7 k).2.2.1 = some (tyX7 k) := by decide +kernel
abbrev cX7_init : ByteArray := prog_9_method_1_code
def yX7_init : MethodName := ⟨RX7, "<init>", "()V"⟩
abbrev cX7_copyFrom : ByteArray := prog_9_method_2_code
def yX7_copyFrom : MethodName := ⟨RX7, "copyFrom", "(LNameKeeper$Walker;)V"⟩
abbrev cX7_start : ByteArray := prog_9_method_3_code
def yX7_start : MethodName := ⟨RX7, "start", "(LNameKeeper$Route;LNameKeeper$Memory;)V"⟩
abbrev cX7_stop : ByteArray := prog_9_method_4_code
def yX7_stop : MethodName := ⟨RX7, "stop", "(LNameKeeper$Memory;)V"⟩
abbrev cX7_isThrough : ByteArray := prog_9_method_5_code
def yX7_isThrough : MethodName := ⟨RX7, "isThrough", "()Z"⟩
abbrev cX7_goOn : ByteArray := prog_9_method_6_code
def yX7_goOn : MethodName := ⟨RX7, "goOn", "(LNameKeeper$Memory;)I"⟩
abbrev cX7_goToRoot : ByteArray := prog_9_method_7_code
def yX7_goToRoot : MethodName := ⟨RX7, "goToRoot", "(LNameKeeper$Memory;)V"⟩
abbrev cX7_takeTrail : ByteArray := prog_9_method_8_code
def yX7_takeTrail : MethodName := ⟨RX7, "takeTrail", "(LNameKeeper$Memory;)V"⟩
abbrev cX7_isChanged : ByteArray := prog_9_method_9_code
def yX7_isChanged : MethodName := ⟨RX7, "isChanged", "(LNameKeeper$Memory;)Z"⟩
abbrev cX7_lacksNext : ByteArray := prog_9_method_10_code
def yX7_lacksNext : MethodName := ⟨RX7, "lacksNext", "(LNameKeeper$Memory;)Z"⟩
abbrev cX7_holdAll : ByteArray := prog_9_method_11_code
def yX7_holdAll : MethodName := ⟨RX7, "holdAll", "(LNameKeeper$Memory;)V"⟩
abbrev cX7_letGo : ByteArray := prog_9_method_12_code
def yX7_letGo : MethodName := ⟨RX7, "letGo", "(LNameKeeper$Memory;)V"⟩
abbrev cX7_lastOfWay : ByteArray := prog_9_method_13_code
def yX7_lastOfWay : MethodName := ⟨RX7, "lastOfWay", "()I"⟩
abbrev cX7_tell : ByteArray := prog_9_method_14_code
def yX7_tell : MethodName := ⟨RX7, "tell", "(I)I"⟩
def RX8 : String := "NameKeeper$World"
def TX8 : u_T := fun k => match k with
  | 0 => ("NameKeeper$World", "nodes", "LNameKeeper$Nodes;", true)
  | 1 => ("NameKeeper$World", "memory", "LNameKeeper$Memory;", true)
  | 2 => ("NameKeeper$World", "handles", "[I", true)
  | _ => ("NameKeeper$World", "walkers", "[LNameKeeper$Walker;", true)
def tyX8 : Nat → FieldType := fun k => match k with
  | 0 => .object "NameKeeper$Nodes"
  | 1 => .object "NameKeeper$Memory"
  | 2 => .array .int
  | _ => .array (.object "NameKeeper$Walker")
theorem nmX8 : ∀ a, a < 4 → ∀ b, b < 4 → a ≠ b → (TX8 a).2.1 ≠ (TX8 b).2.1 := by decide +kernel
theorem tyX8_ok : ∀ k, k < 4 → parseFieldDescriptor (TX8 k).2.2.1 = some (tyX8 k) := by decide +kernel
abbrev cX8_init : ByteArray := prog_10_method_1_code
def yX8_init : MethodName := ⟨RX8, "<init>", "(LNameKeeper$Nodes;LNameKeeper$Memory;)V"⟩
abbrev cX8_copyFrom : ByteArray := prog_10_method_2_code
def yX8_copyFrom : MethodName := ⟨RX8, "copyFrom", "(LNameKeeper$World;)V"⟩
abbrev cX8_startWith : ByteArray := prog_10_method_3_code
def yX8_startWith : MethodName := ⟨RX8, "startWith", "(LNameKeeper$Nodes;)V"⟩
abbrev cX8_handleAt : ByteArray := prog_10_method_4_code
def yX8_handleAt : MethodName := ⟨RX8, "handleAt", "(I)I"⟩
abbrev cX8_freeHandle : ByteArray := prog_10_method_5_code
def yX8_freeHandle : MethodName := ⟨RX8, "freeHandle", "()I"⟩
abbrev cX8_handlesOpen : ByteArray := prog_10_method_6_code
def yX8_handlesOpen : MethodName := ⟨RX8, "handlesOpen", "()I"⟩
abbrev cX8_openAt : ByteArray := prog_10_method_7_code
def yX8_openAt : MethodName := ⟨RX8, "openAt", "(LNameKeeper$Route;)I"⟩
abbrev cX8_closeHandle : ByteArray := prog_10_method_8_code
def yX8_closeHandle : MethodName := ⟨RX8, "closeHandle", "(I)V"⟩
abbrev cX8_walkerAt : ByteArray := prog_10_method_9_code
def yX8_walkerAt : MethodName := ⟨RX8, "walkerAt", "(I)LNameKeeper$Walker;"⟩
abbrev cX8_freeWalker : ByteArray := prog_10_method_10_code
def yX8_freeWalker : MethodName := ⟨RX8, "freeWalker", "()I"⟩
abbrev cX8_walkersUnderWay : ByteArray := prog_10_method_11_code
def yX8_walkersUnderWay : MethodName := ⟨RX8, "walkersUnderWay", "()I"⟩
abbrev cX8_beginWalk : ByteArray := prog_10_method_12_code
def yX8_beginWalk : MethodName := ⟨RX8, "beginWalk", "(LNameKeeper$Route;)I"⟩
abbrev cX8_gapIn : ByteArray := prog_10_method_13_code
def yX8_gapIn : MethodName := ⟨RX8, "gapIn", "(ILNameKeeper$Route;)I"⟩
abbrev cX8_makeAt : ByteArray := prog_10_method_14_code
def yX8_makeAt : MethodName := ⟨RX8, "makeAt", "(LNameKeeper$Route;Z)I"⟩
abbrev cX8_removeAt : ByteArray := prog_10_method_15_code
def yX8_removeAt : MethodName := ⟨RX8, "removeAt", "(LNameKeeper$Route;)I"⟩
abbrev cX8_renameTo : ByteArray := prog_10_method_16_code
def yX8_renameTo : MethodName := ⟨RX8, "renameTo", "(LNameKeeper$Route;LNameKeeper$Route;)I"⟩
abbrev cX8_canTake : ByteArray := prog_10_method_17_code
def yX8_canTake : MethodName := ⟨RX8, "canTake", "(II)Z"⟩
abbrev cX8_mountAt : ByteArray := prog_10_method_18_code
def yX8_mountAt : MethodName := ⟨RX8, "mountAt", "(LNameKeeper$Route;I)I"⟩
abbrev cX8_isReachable : ByteArray := prog_10_method_19_code
def yX8_isReachable : MethodName := ⟨RX8, "isReachable", "(I)Z"⟩
abbrev cX8_mountedNodes : ByteArray := prog_10_method_20_code
def yX8_mountedNodes : MethodName := ⟨RX8, "mountedNodes", "()I"⟩
abbrev cX8_mountedNode : ByteArray := prog_10_method_21_code
def yX8_mountedNode : MethodName := ⟨RX8, "mountedNode", "(I)I"⟩
abbrev cX8_routeTo : ByteArray := prog_10_method_22_code
def yX8_routeTo : MethodName := ⟨RX8, "routeTo", "(ILNameKeeper$Route;)V"⟩
def RX9 : String := "NameKeeper"
def TX9 : u_T := fun k => match k with
  | 0 => ("NameKeeper", "tape", "LNameKeeper$Tape;", true)
  | 1 => ("NameKeeper", "reader", "LNameKeeper$Reader;", true)
  | 2 => ("NameKeeper", "world", "LNameKeeper$World;", true)
  | 3 => ("NameKeeper", "trial", "LNameKeeper$Memory;", true)
  | 4 => ("NameKeeper", "history", "LNameKeeper$History;", true)
  | 5 => ("NameKeeper", "traced", "LNameKeeper$Trace;", true)
  | 6 => ("NameKeeper", "first", "LNameKeeper$Route;", true)
  | 7 => ("NameKeeper", "second", "LNameKeeper$Route;", true)
  | 8 => ("NameKeeper", "told", "[LNameKeeper$Route;", true)
  | 9 => ("NameKeeper", "longWay", "LNameKeeper$Route;", true)
  | 10 => ("NameKeeper", "written", "[I", true)
  | 11 => ("NameKeeper", "writtenLength", "I", false)
  | 12 => ("NameKeeper", "refused", "[I", true)
  | 13 => ("NameKeeper", "outcome", "[I", true)
  | 14 => ("NameKeeper", "anyOutcome", "Z", false)
  | _ => ("NameKeeper", "draws", "J", false)
def tyX9 : Nat → FieldType := fun k => match k with
  | 0 => .object "NameKeeper$Tape"
  | 1 => .object "NameKeeper$Reader"
  | 2 => .object "NameKeeper$World"
  | 3 => .object "NameKeeper$Memory"
  | 4 => .object "NameKeeper$History"
  | 5 => .object "NameKeeper$Trace"
  | 6 => .object "NameKeeper$Route"
  | 7 => .object "NameKeeper$Route"
  | 8 => .array (.object "NameKeeper$Route")
  | 9 => .object "NameKeeper$Route"
  | 10 => .array .int
  | 11 => .int
  | 12 => .array .int
  | 13 => .array .int
  | 14 => .boolean
  | _ => .long
theorem nmX9 : ∀ a, a < 16 → ∀ b, b < 16 → a ≠ b → (TX9 a).2.1 ≠ (TX9 b).2.1 := by decide +kernel
theorem tyX9_ok : ∀ k, k < 16 → parseFieldDescriptor (TX9 k).2.2.1 = some (tyX9 k) := by decide +kernel
abbrev cX9_init : ByteArray := prog_1_method_1_code
def yX9_init : MethodName := ⟨RX9, "<init>", "()V"⟩
abbrev cX9_feed : ByteArray := prog_1_method_2_code
def yX9_feed : MethodName := ⟨RX9, "feed", "(IIIII)I"⟩
abbrev cX9_end : ByteArray := prog_1_method_3_code
def yX9_end : MethodName := ⟨RX9, "end", "(I)Z"⟩
abbrev cX9_trees : ByteArray := prog_1_method_4_code
def yX9_trees : MethodName := ⟨RX9, "trees", "()I"⟩
abbrev cX9_fault : ByteArray := prog_1_method_5_code
def yX9_fault : MethodName := ⟨RX9, "fault", "(I)I"⟩
abbrev cX9_has : ByteArray := prog_1_method_6_code
def yX9_has : MethodName := ⟨RX9, "has", "(I)I"⟩
abbrev cX9_node : ByteArray := prog_1_method_7_code
def yX9_node : MethodName := ⟨RX9, "node", "(II)I"⟩
abbrev cX9_letter : ByteArray := prog_1_method_8_code
def yX9_letter : MethodName := ⟨RX9, "letter", "(ZII)I"⟩
abbrev cX9_entry : ByteArray := prog_1_method_9_code
def yX9_entry : MethodName := ⟨RX9, "entry", "(II)I"⟩
abbrev cX9_child : ByteArray := prog_1_method_10_code
def yX9_child : MethodName := ⟨RX9, "child", "(I)I"⟩
abbrev cX9_walker : ByteArray := prog_1_method_11_code
def yX9_walker : MethodName := ⟨RX9, "walker", "(II)I"⟩
abbrev cX9_handle : ByteArray := prog_1_method_12_code
def yX9_handle : MethodName := ⟨RX9, "handle", "(I)I"⟩
abbrev cX9_where : ByteArray := prog_1_method_13_code
def yX9_where : MethodName := ⟨RX9, "where", "()I"⟩
abbrev cX9_needs : ByteArray := prog_1_method_14_code
def yX9_needs : MethodName := ⟨RX9, "needs", "()I"⟩
abbrev cX9_victim : ByteArray := prog_1_method_15_code
def yX9_victim : MethodName := ⟨RX9, "victim", "(I)I"⟩
abbrev cX9_path : ByteArray := prog_1_method_16_code
def yX9_path : MethodName := ⟨RX9, "path", "(I)I"⟩
abbrev cX9_octet : ByteArray := prog_1_method_17_code
def yX9_octet : MethodName := ⟨RX9, "octet", "(I)I"⟩
abbrev cX9_look : ByteArray := prog_1_method_18_code
def yX9_look : MethodName := ⟨RX9, "look", "()I"⟩
abbrev cX9_make : ByteArray := prog_1_method_19_code
def yX9_make : MethodName := ⟨RX9, "make", "(Z)I"⟩
abbrev cX9_remove : ByteArray := prog_1_method_20_code
def yX9_remove : MethodName := ⟨RX9, "remove", "()I"⟩
abbrev cX9_rename : ByteArray := prog_1_method_21_code
def yX9_rename : MethodName := ⟨RX9, "rename", "()I"⟩
abbrev cX9_open : ByteArray := prog_1_method_22_code
def yX9_open : MethodName := ⟨RX9, "open", "()I"⟩
abbrev cX9_close : ByteArray := prog_1_method_23_code
def yX9_close : MethodName := ⟨RX9, "close", "(I)Z"⟩
abbrev cX9_mount : ByteArray := prog_1_method_24_code
def yX9_mount : MethodName := ⟨RX9, "mount", "(I)I"⟩
abbrev cX9_unmount : ByteArray := prog_1_method_25_code
def yX9_unmount : MethodName := ⟨RX9, "unmount", "(I)I"⟩
abbrev cX9_trim : ByteArray := prog_1_method_26_code
def yX9_trim : MethodName := ⟨RX9, "trim", "(I)I"⟩
abbrev cX9_room : ByteArray := prog_1_method_27_code
def yX9_room : MethodName := ⟨RX9, "room", "(I)Z"⟩
abbrev cX9_chance : ByteArray := prog_1_method_28_code
def yX9_chance : MethodName := ⟨RX9, "chance", "(I)I"⟩
abbrev cX9_begin : ByteArray := prog_1_method_29_code
def yX9_begin : MethodName := ⟨RX9, "begin", "()I"⟩
abbrev cX9_step : ByteArray := prog_1_method_30_code
def yX9_step : MethodName := ⟨RX9, "step", "(I)I"⟩
abbrev cX9_result : ByteArray := prog_1_method_31_code
def yX9_result : MethodName := ⟨RX9, "result", "(I)I"⟩
abbrev cX9_quit : ByteArray := prog_1_method_32_code
def yX9_quit : MethodName := ⟨RX9, "quit", "(I)Z"⟩
abbrev cX9_trace : ByteArray := prog_1_method_33_code
def yX9_trace : MethodName := ⟨RX9, "trace", "()I"⟩
abbrev cX9_loads : ByteArray := prog_1_method_34_code
def yX9_loads : MethodName := ⟨RX9, "loads", "(I)I"⟩
abbrev cX9_least : ByteArray := prog_1_method_35_code
def yX9_least : MethodName := ⟨RX9, "least", "(I)I"⟩
abbrev cX9_see : ByteArray := prog_1_method_36_code
def yX9_see : MethodName := ⟨RX9, "see", "(I)Z"⟩
abbrev cX9_fits : ByteArray := prog_1_method_37_code
def yX9_fits : MethodName := ⟨RX9, "fits", "(I)I"⟩
abbrev cX9_tells : ByteArray := prog_1_method_38_code
def yX9_tells : MethodName := ⟨RX9, "tells", "(I)I"⟩
abbrev cX9_undo : ByteArray := prog_1_method_39_code
def yX9_undo : MethodName := ⟨RX9, "undo", "()Z"⟩
abbrev cX9_seed : ByteArray := prog_1_method_40_code
def yX9_seed : MethodName := ⟨RX9, "seed", "(I)Z"⟩
abbrev cX9_status : ByteArray := prog_1_method_41_code
def yX9_status : MethodName := ⟨RX9, "status", "(I)I"⟩
abbrev cX9_refuse : ByteArray := prog_1_method_42_code
def yX9_refuse : MethodName := ⟨RX9, "refuse", "(I)I"⟩
abbrev cX9_refuseFlatly : ByteArray := prog_1_method_43_code
def yX9_refuseFlatly : MethodName := ⟨RX9, "refuseFlatly", "(I)Z"⟩
abbrev cX9_orRefuse : ByteArray := prog_1_method_44_code
def yX9_orRefuse : MethodName := ⟨RX9, "orRefuse", "(II)I"⟩
abbrev cX9_hasTrees : ByteArray := prog_1_method_45_code
def yX9_hasTrees : MethodName := ⟨RX9, "hasTrees", "()Z"⟩
abbrev cX9_isRoom : ByteArray := prog_1_method_46_code
def yX9_isRoom : MethodName := ⟨RX9, "isRoom", "(I)Z"⟩
abbrev cX9_takeRow : ByteArray := prog_1_method_47_code
def yX9_takeRow : MethodName := ⟨RX9, "takeRow", "()I"⟩
abbrev cX9_takePaths : ByteArray := prog_1_method_48_code
def yX9_takePaths : MethodName := ⟨RX9, "takePaths", "(I)Z"⟩
abbrev cX9_tryOut : ByteArray := prog_1_method_49_code
def yX9_tryOut : MethodName := ⟨RX9, "tryOut", "(LNameKeeper$Route;)I"⟩
abbrev cX9_tellOutcome : ByteArray := prog_1_method_50_code
def yX9_tellOutcome : MethodName := ⟨RX9, "tellOutcome", "(LNameKeeper$Walker;I)V"⟩
abbrev cX9_drawOf : ByteArray := prog_1_method_51_code
def yX9_drawOf : MethodName := ⟨RX9, "drawOf", "(I)I"⟩
abbrev cX9_writeRoute : ByteArray := prog_1_method_52_code
def yX9_writeRoute : MethodName := ⟨RX9, "writeRoute", "(LNameKeeper$Route;)V"⟩
abbrev cX9_writeName : ByteArray := prog_1_method_53_code
def yX9_writeName : MethodName := ⟨RX9, "writeName", "(I)V"⟩
abbrev cX9_writeByte : ByteArray := prog_1_method_54_code
def yX9_writeByte : MethodName := ⟨RX9, "writeByte", "(I)V"⟩
abbrev cX9_isLetter : ByteArray := prog_1_method_55_code
def yX9_isLetter : MethodName := ⟨RX9, "isLetter", "(I)Z"⟩
abbrev cX9_letterOf : ByteArray := prog_1_method_56_code
def yX9_letterOf : MethodName := ⟨RX9, "letterOf", "(II)I"⟩
abbrev cX9_nameBetween : ByteArray := prog_1_method_57_code
def yX9_nameBetween : MethodName := ⟨RX9, "nameBetween", "(LNameKeeper$Tape;II)I"⟩
abbrev cX9_stepBetween : ByteArray := prog_1_method_58_code
def yX9_stepBetween : MethodName := ⟨RX9, "stepBetween", "(LNameKeeper$Tape;II)I"⟩
abbrev cX9_readRow : ByteArray := prog_1_method_59_code
def yX9_readRow : MethodName := ⟨RX9, "readRow", "(LNameKeeper$Tape;[LNameKeeper$Route;)I"⟩
def RX10 : String := "NameKeeperModel"
def TX10 : u_T := fun k => match k with
  | 0 => ("NameKeeperModel", "tape", "[I", true)
  | 1 => ("NameKeeperModel", "taped", "I", false)
  | 2 => ("NameKeeperModel", "at", "I", false)
  | 3 => ("NameKeeperModel", "end", "I", false)
  | 4 => ("NameKeeperModel", "bad", "I", false)
  | 5 => ("NameKeeperModel", "badPlace", "I", false)
  | 6 => ("NameKeeperModel", "fault", "I", false)
  | 7 => ("NameKeeperModel", "faultPlace", "I", false)
  | 8 => ("NameKeeperModel", "refused", "[I", true)
  | 9 => ("NameKeeperModel", "draft", "[I", true)
  | 10 => ("NameKeeperModel", "draftMany", "I", false)
  | 11 => ("NameKeeperModel", "volumes", "I", false)
  | 12 => ("NameKeeperModel", "draftVolumes", "I", false)
  | 13 => ("NameKeeperModel", "isTold", "Z", false)
  | 14 => ("NameKeeperModel", "steps", "[I", true)
  | 15 => ("NameKeeperModel", "stepMany", "I", false)
  | 16 => ("NameKeeperModel", "steps2", "[I", true)
  | 17 => ("NameKeeperModel", "stepMany2", "I", false)
  | 18 => ("NameKeeperModel", "now", "[I", true)
  | 19 => ("NameKeeperModel", "holders", "[I", true)
  | 20 => ("NameKeeperModel", "heldBesides", "I", false)
  | 21 => ("NameKeeperModel", "walking", "I", false)
  | 22 => ("NameKeeperModel", "cur", "I", false)
  | 23 => ("NameKeeperModel", "aside", "[I", true)
  | 24 => ("NameKeeperModel", "octet", "[I", true)
  | 25 => ("NameKeeperModel", "octets", "I", false)
  | 26 => ("NameKeeperModel", "names", "[I", true)
  | 27 => ("NameKeeperModel", "acts", "[I", true)
  | 28 => ("NameKeeperModel", "undoable", "I", false)
  | 29 => ("NameKeeperModel", "newest", "I", false)
  | 30 => ("NameKeeperModel", "isGoing", "[Z", true)
  | 31 => ("NameKeeperModel", "seeded", "J", false)
  | 32 => ("NameKeeperModel", "hasResult", "Z", false)
  | 33 => ("NameKeeperModel", "results", "[I", true)
  | 34 => ("NameKeeperModel", "traceSteps", "[I", true)
  | 35 => ("NameKeeperModel", "traceLong", "[I", true)
  | 36 => ("NameKeeperModel", "traceMany", "I", false)
  | 37 => ("NameKeeperModel", "seen", "I", false)
  | 38 => ("NameKeeperModel", "draftTrace", "I", false)
  | 39 => ("NameKeeperModel", "draftSteps", "[I", true)
  | 40 => ("NameKeeperModel", "draftLong", "[I", true)
  | 41 => ("NameKeeperModel", "loadsBy", "[I", true)
  | _ => ("NameKeeperModel", "isFit", "[Z", true)
def tyX10 : Nat → FieldType := fun k => match k with
  | 0 => .array .int
  | 1 => .int
  | 2 => .int
  | 3 => .int
  | 4 => .int
  | 5 => .int
  | 6 => .int
  | 7 => .int
  | 8 => .array .int
  | 9 => .array .int
  | 10 => .int
  | 11 => .int
  | 12 => .int
  | 13 => .boolean
  | 14 => .array .int
  | 15 => .int
  | 16 => .array .int
  | 17 => .int
  | 18 => .array .int
  | 19 => .array .int
  | 20 => .int
  | 21 => .int
  | 22 => .int
  | 23 => .array .int
  | 24 => .array .int
  | 25 => .int
  | 26 => .array .int
  | 27 => .array .int
  | 28 => .int
  | 29 => .int
  | 30 => .array .boolean
  | 31 => .long
  | 32 => .boolean
  | 33 => .array .int
  | 34 => .array .int
  | 35 => .array .int
  | 36 => .int
  | 37 => .int
  | 38 => .int
  | 39 => .array .int
  | 40 => .array .int
  | 41 => .array .int
  | _ => .array .boolean
theorem nmX10 : ∀ a, a < 43 → ∀ b, b < 43 → a ≠ b → (TX10 a).2.1 ≠ (TX10 b).2.1 := by decide +kernel
theorem tyX10_ok : ∀ k, k < 43 → parseFieldDescriptor (TX10 k).2.2.1 = some (tyX10 k) := by decide +kernel
abbrev cX10_init : ByteArray := prog_12_method_1_code
def yX10_init : MethodName := ⟨RX10, "<init>", "()V"⟩
abbrev cX10_isIn : ByteArray := prog_12_method_2_code
def yX10_isIn : MethodName := ⟨RX10, "isIn", "(JJJ)Z"⟩
abbrev cX10_flag : ByteArray := prog_12_method_3_code
def yX10_flag : MethodName := ⟨RX10, "flag", "(Z)I"⟩
abbrev cX10_refuses : ByteArray := prog_12_method_4_code
def yX10_refuses : MethodName := ⟨RX10, "refuses", "(I)I"⟩
abbrev cX10_isRefused : ByteArray := prog_12_method_5_code
def yX10_isRefused : MethodName := ⟨RX10, "isRefused", "(I)Z"⟩
abbrev cX10_feed : ByteArray := prog_12_method_6_code
def yX10_feed : MethodName := ⟨RX10, "feed", "(IIIII)I"⟩
abbrev cX10_end : ByteArray := prog_12_method_7_code
def yX10_end : MethodName := ⟨RX10, "end", "(I)Z"⟩
abbrev cX10_status : ByteArray := prog_12_method_8_code
def yX10_status : MethodName := ⟨RX10, "status", "(I)I"⟩
abbrev cX10_fault : ByteArray := prog_12_method_9_code
def yX10_fault : MethodName := ⟨RX10, "fault", "(I)I"⟩
abbrev cX10_fail : ByteArray := prog_12_method_10_code
def yX10_fail : MethodName := ⟨RX10, "fail", "(II)V"⟩
abbrev cX10_isLetter : ByteArray := prog_12_method_11_code
def yX10_isLetter : MethodName := ⟨RX10, "isLetter", "(I)Z"⟩
abbrev cX10_look0 : ByteArray := prog_12_method_12_code
def yX10_look0 : MethodName := ⟨RX10, "look0", "()I"⟩
abbrev cX10_drafted : ByteArray := prog_12_method_13_code
def yX10_drafted : MethodName := ⟨RX10, "drafted", "(II)I"⟩
abbrev cX10_drafts : ByteArray := prog_12_method_14_code
def yX10_drafts : MethodName := ⟨RX10, "drafts", "(III)I"⟩
abbrev cX10_nameHere : ByteArray := prog_12_method_15_code
def yX10_nameHere : MethodName := ⟨RX10, "nameHere", "()I"⟩
abbrev cX10_volumeTold : ByteArray := prog_12_method_16_code
def yX10_volumeTold : MethodName := ⟨RX10, "volumeTold", "(I)V"⟩
abbrev cX10_trees : ByteArray := prog_12_method_17_code
def yX10_trees : MethodName := ⟨RX10, "trees", "()I"⟩
abbrev cX10_stands : ByteArray := prog_12_method_18_code
def yX10_stands : MethodName := ⟨RX10, "stands", "()V"⟩
abbrev cX10_stepHere : ByteArray := prog_12_method_19_code
def yX10_stepHere : MethodName := ⟨RX10, "stepHere", "()I"⟩
abbrev cX10_isPathHere : ByteArray := prog_12_method_20_code
def yX10_isPathHere : MethodName := ⟨RX10, "isPathHere", "()Z"⟩
abbrev cX10_beginsPaths : ByteArray := prog_12_method_21_code
def yX10_beginsPaths : MethodName := ⟨RX10, "beginsPaths", "()V"⟩
abbrev cX10_isPath : ByteArray := prog_12_method_22_code
def yX10_isPath : MethodName := ⟨RX10, "isPath", "()Z"⟩
abbrev cX10_nodeAt : ByteArray := prog_12_method_23_code
def yX10_nodeAt : MethodName := ⟨RX10, "nodeAt", "(II)I"⟩
abbrev cX10_nodeHas : ByteArray := prog_12_method_24_code
def yX10_nodeHas : MethodName := ⟨RX10, "nodeHas", "(II)I"⟩
abbrev cX10_entryAt : ByteArray := prog_12_method_25_code
def yX10_entryAt : MethodName := ⟨RX10, "entryAt", "(II)I"⟩
abbrev cX10_its : ByteArray := prog_12_method_26_code
def yX10_its : MethodName := ⟨RX10, "its", "(II)I"⟩
abbrev cX10_walkerAt : ByteArray := prog_12_method_27_code
def yX10_walkerAt : MethodName := ⟨RX10, "walkerAt", "(II)I"⟩
abbrev cX10_walkerHas : ByteArray := prog_12_method_28_code
def yX10_walkerHas : MethodName := ⟨RX10, "walkerHas", "(II)I"⟩
abbrev cX10_isNode : ByteArray := prog_12_method_29_code
def yX10_isNode : MethodName := ⟨RX10, "isNode", "(I)Z"⟩
abbrev cX10_isEntry : ByteArray := prog_12_method_30_code
def yX10_isEntry : MethodName := ⟨RX10, "isEntry", "(I)Z"⟩
abbrev cX10_isRoot : ByteArray := prog_12_method_31_code
def yX10_isRoot : MethodName := ⟨RX10, "isRoot", "(I)Z"⟩
abbrev cX10_rootOf : ByteArray := prog_12_method_32_code
def yX10_rootOf : MethodName := ⟨RX10, "rootOf", "(I)I"⟩
abbrev cX10_counts : ByteArray := prog_12_method_33_code
def yX10_counts : MethodName := ⟨RX10, "counts", "()V"⟩
abbrev cX10_countsHands : ByteArray := prog_12_method_34_code
def yX10_countsHands : MethodName := ⟨RX10, "countsHands", "()V"⟩
abbrev cX10_leastFree : ByteArray := prog_12_method_35_code
def yX10_leastFree : MethodName := ⟨RX10, "leastFree", "(I)I"⟩
abbrev cX10_sweeps : ByteArray := prog_12_method_36_code
def yX10_sweeps : MethodName := ⟨RX10, "sweeps", "()V"⟩
abbrev cX10_entryMany : ByteArray := prog_12_method_37_code
def yX10_entryMany : MethodName := ⟨RX10, "entryMany", "(Z)I"⟩
abbrev cX10_trims : ByteArray := prog_12_method_38_code
def yX10_trims : MethodName := ⟨RX10, "trims", "(II)I"⟩
abbrev cX10_notes : ByteArray := prog_12_method_39_code
def yX10_notes : MethodName := ⟨RX10, "notes", "(I)V"⟩
abbrev cX10_comesTo : ByteArray := prog_12_method_40_code
def yX10_comesTo : MethodName := ⟨RX10, "comesTo", "(I)V"⟩
abbrev cX10_makes : ByteArray := prog_12_method_41_code
def yX10_makes : MethodName := ⟨RX10, "makes", "(III)I"⟩
abbrev cX10_childHere : ByteArray := prog_12_method_42_code
def yX10_childHere : MethodName := ⟨RX10, "childHere", "(II)I"⟩
abbrev cX10_nodeIn : ByteArray := prog_12_method_43_code
def yX10_nodeIn : MethodName := ⟨RX10, "nodeIn", "(II)I"⟩
abbrev cX10_childOf : ByteArray := prog_12_method_44_code
def yX10_childOf : MethodName := ⟨RX10, "childOf", "(II)I"⟩
abbrev cX10_goesUp : ByteArray := prog_12_method_45_code
def yX10_goesUp : MethodName := ⟨RX10, "goesUp", "()V"⟩
abbrev cX10_isFolder : ByteArray := prog_12_method_46_code
def yX10_isFolder : MethodName := ⟨RX10, "isFolder", "(I)Z"⟩
abbrev cX10_steps0 : ByteArray := prog_12_method_47_code
def yX10_steps0 : MethodName := ⟨RX10, "steps0", "(I)I"⟩
abbrev cX10_walks : ByteArray := prog_12_method_48_code
def yX10_walks : MethodName := ⟨RX10, "walks", "([II)I"⟩
abbrev cX10_has : ByteArray := prog_12_method_49_code
def yX10_has : MethodName := ⟨RX10, "has", "(I)I"⟩
abbrev cX10_entriesWith : ByteArray := prog_12_method_50_code
def yX10_entriesWith : MethodName := ⟨RX10, "entriesWith", "(I)I"⟩
abbrev cX10_handleMany : ByteArray := prog_12_method_51_code
def yX10_handleMany : MethodName := ⟨RX10, "handleMany", "()I"⟩
abbrev cX10_walkerMany : ByteArray := prog_12_method_52_code
def yX10_walkerMany : MethodName := ⟨RX10, "walkerMany", "()I"⟩
abbrev cX10_mounted : ByteArray := prog_12_method_53_code
def yX10_mounted : MethodName := ⟨RX10, "mounted", "()I"⟩
abbrev cX10_nodeMany : ByteArray := prog_12_method_54_code
def yX10_nodeMany : MethodName := ⟨RX10, "nodeMany", "(I)I"⟩
abbrev cX10_node : ByteArray := prog_12_method_55_code
def yX10_node : MethodName := ⟨RX10, "node", "(II)I"⟩
abbrev cX10_lettersOf : ByteArray := prog_12_method_56_code
def yX10_lettersOf : MethodName := ⟨RX10, "lettersOf", "(I)I"⟩
abbrev cX10_letterOf : ByteArray := prog_12_method_57_code
def yX10_letterOf : MethodName := ⟨RX10, "letterOf", "(II)I"⟩
abbrev cX10_letter : ByteArray := prog_12_method_58_code
def yX10_letter : MethodName := ⟨RX10, "letter", "(ZII)I"⟩
abbrev cX10_entry : ByteArray := prog_12_method_59_code
def yX10_entry : MethodName := ⟨RX10, "entry", "(II)I"⟩
abbrev cX10_child : ByteArray := prog_12_method_60_code
def yX10_child : MethodName := ⟨RX10, "child", "(I)I"⟩
abbrev cX10_walker : ByteArray := prog_12_method_61_code
def yX10_walker : MethodName := ⟨RX10, "walker", "(II)I"⟩
abbrev cX10_isWalker : ByteArray := prog_12_method_62_code
def yX10_isWalker : MethodName := ⟨RX10, "isWalker", "(I)Z"⟩
abbrev cX10_handle : ByteArray := prog_12_method_63_code
def yX10_handle : MethodName := ⟨RX10, "handle", "(I)I"⟩
abbrev cX10_volumeOver : ByteArray := prog_12_method_64_code
def yX10_volumeOver : MethodName := ⟨RX10, "volumeOver", "(I)I"⟩
abbrev cX10_nodeUp : ByteArray := prog_12_method_65_code
def yX10_nodeUp : MethodName := ⟨RX10, "nodeUp", "(I)I"⟩
abbrev cX10_nodeBy : ByteArray := prog_12_method_66_code
def yX10_nodeBy : MethodName := ⟨RX10, "nodeBy", "(II)I"⟩
abbrev cX10_where : ByteArray := prog_12_method_67_code
def yX10_where : MethodName := ⟨RX10, "where", "()I"⟩
abbrev cX10_putsAside : ByteArray := prog_12_method_68_code
def yX10_putsAside : MethodName := ⟨RX10, "putsAside", "()V"⟩
abbrev cX10_takesBack : ByteArray := prog_12_method_69_code
def yX10_takesBack : MethodName := ⟨RX10, "takesBack", "()V"⟩
abbrev cX10_needs : ByteArray := prog_12_method_70_code
def yX10_needs : MethodName := ⟨RX10, "needs", "()I"⟩
abbrev cX10_victim : ByteArray := prog_12_method_71_code
def yX10_victim : MethodName := ⟨RX10, "victim", "(I)I"⟩
abbrev cX10_path : ByteArray := prog_12_method_72_code
def yX10_path : MethodName := ⟨RX10, "path", "(I)I"⟩
abbrev cX10_writes : ByteArray := prog_12_method_73_code
def yX10_writes : MethodName := ⟨RX10, "writes", "(I)V"⟩
abbrev cX10_octet : ByteArray := prog_12_method_74_code
def yX10_octet : MethodName := ⟨RX10, "octet", "(I)I"⟩
abbrev cX10_keeps : ByteArray := prog_12_method_75_code
def yX10_keeps : MethodName := ⟨RX10, "keeps", "()V"⟩
abbrev cX10_undo : ByteArray := prog_12_method_76_code
def yX10_undo : MethodName := ⟨RX10, "undo", "()Z"⟩
abbrev cX10_look : ByteArray := prog_12_method_77_code
def yX10_look : MethodName := ⟨RX10, "look", "()I"⟩
abbrev cX10_isPlace : ByteArray := prog_12_method_78_code
def yX10_isPlace : MethodName := ⟨RX10, "isPlace", "([II)Z"⟩
abbrev cX10_make : ByteArray := prog_12_method_79_code
def yX10_make : MethodName := ⟨RX10, "make", "(Z)I"⟩
abbrev cX10_isPlain : ByteArray := prog_12_method_80_code
def yX10_isPlain : MethodName := ⟨RX10, "isPlain", "([II)Z"⟩
abbrev cX10_remove : ByteArray := prog_12_method_81_code
def yX10_remove : MethodName := ⟨RX10, "remove", "()I"⟩
abbrev cX10_isBelow : ByteArray := prog_12_method_82_code
def yX10_isBelow : MethodName := ⟨RX10, "isBelow", "(II)Z"⟩
abbrev cX10_isRenamed : ByteArray := prog_12_method_83_code
def yX10_isRenamed : MethodName := ⟨RX10, "isRenamed", "(I)Z"⟩
abbrev cX10_areTwoPaths : ByteArray := prog_12_method_84_code
def yX10_areTwoPaths : MethodName := ⟨RX10, "areTwoPaths", "()Z"⟩
abbrev cX10_rename : ByteArray := prog_12_method_85_code
def yX10_rename : MethodName := ⟨RX10, "rename", "()I"⟩
abbrev cX10_open : ByteArray := prog_12_method_86_code
def yX10_open : MethodName := ⟨RX10, "open", "()I"⟩
abbrev cX10_close : ByteArray := prog_12_method_87_code
def yX10_close : MethodName := ⟨RX10, "close", "(I)Z"⟩
abbrev cX10_isVolume : ByteArray := prog_12_method_88_code
def yX10_isVolume : MethodName := ⟨RX10, "isVolume", "(I)Z"⟩
abbrev cX10_mount : ByteArray := prog_12_method_89_code
def yX10_mount : MethodName := ⟨RX10, "mount", "(I)I"⟩
abbrev cX10_volumeOf : ByteArray := prog_12_method_90_code
def yX10_volumeOf : MethodName := ⟨RX10, "volumeOf", "(I)I"⟩
abbrev cX10_unmount : ByteArray := prog_12_method_91_code
def yX10_unmount : MethodName := ⟨RX10, "unmount", "(I)I"⟩
abbrev cX10_isInUse : ByteArray := prog_12_method_92_code
def yX10_isInUse : MethodName := ⟨RX10, "isInUse", "(I)Z"⟩
abbrev cX10_trim : ByteArray := prog_12_method_93_code
def yX10_trim : MethodName := ⟨RX10, "trim", "(I)I"⟩
abbrev cX10_room : ByteArray := prog_12_method_94_code
def yX10_room : MethodName := ⟨RX10, "room", "(I)Z"⟩
abbrev cX10_seed : ByteArray := prog_12_method_95_code
def yX10_seed : MethodName := ⟨RX10, "seed", "(I)Z"⟩
abbrev cX10_drawOf : ByteArray := prog_12_method_96_code
def yX10_drawOf : MethodName := ⟨RX10, "drawOf", "(I)I"⟩
abbrev cX10_isMountedNode : ByteArray := prog_12_method_97_code
def yX10_isMountedNode : MethodName := ⟨RX10, "isMountedNode", "(I)Z"⟩
abbrev cX10_laysPath : ByteArray := prog_12_method_98_code
def yX10_laysPath : MethodName := ⟨RX10, "laysPath", "(I)V"⟩
abbrev cX10_looksByDraw : ByteArray := prog_12_method_99_code
def yX10_looksByDraw : MethodName := ⟨RX10, "looksByDraw", "()V"⟩
abbrev cX10_chance : ByteArray := prog_12_method_100_code
def yX10_chance : MethodName := ⟨RX10, "chance", "(I)I"⟩
abbrev cX10_begin : ByteArray := prog_12_method_101_code
def yX10_begin : MethodName := ⟨RX10, "begin", "()I"⟩
abbrev cX10_beginsWay : ByteArray := prog_12_method_102_code
def yX10_beginsWay : MethodName := ⟨RX10, "beginsWay", "(I)V"⟩
abbrev cX10_isWayOther : ByteArray := prog_12_method_103_code
def yX10_isWayOther : MethodName := ⟨RX10, "isWayOther", "(I)Z"⟩
abbrev cX10_restarts : ByteArray := prog_12_method_104_code
def yX10_restarts : MethodName := ⟨RX10, "restarts", "(I)V"⟩
abbrev cX10_nextStep : ByteArray := prog_12_method_105_code
def yX10_nextStep : MethodName := ⟨RX10, "nextStep", "(I)I"⟩
abbrev cX10_doesStep : ByteArray := prog_12_method_106_code
def yX10_doesStep : MethodName := ⟨RX10, "doesStep", "(I)I"⟩
abbrev cX10_isThrough : ByteArray := prog_12_method_107_code
def yX10_isThrough : MethodName := ⟨RX10, "isThrough", "(I)Z"⟩
abbrev cX10_isOver : ByteArray := prog_12_method_108_code
def yX10_isOver : MethodName := ⟨RX10, "isOver", "(II)I"⟩
abbrev cX10_step : ByteArray := prog_12_method_109_code
def yX10_step : MethodName := ⟨RX10, "step", "(I)I"⟩
abbrev cX10_turnsHeavy : ByteArray := prog_12_method_110_code
def yX10_turnsHeavy : MethodName := ⟨RX10, "turnsHeavy", "(I)V"⟩
abbrev cX10_result : ByteArray := prog_12_method_111_code
def yX10_result : MethodName := ⟨RX10, "result", "(I)I"⟩
abbrev cX10_quit : ByteArray := prog_12_method_112_code
def yX10_quit : MethodName := ⟨RX10, "quit", "(I)Z"⟩
abbrev cX10_isTrace : ByteArray := prog_12_method_113_code
def yX10_isTrace : MethodName := ⟨RX10, "isTrace", "()Z"⟩
abbrev cX10_trace : ByteArray := prog_12_method_114_code
def yX10_trace : MethodName := ⟨RX10, "trace", "()I"⟩
abbrev cX10_clears : ByteArray := prog_12_method_115_code
def yX10_clears : MethodName := ⟨RX10, "clears", "(I)V"⟩
abbrev cX10_laysLoads : ByteArray := prog_12_method_116_code
def yX10_laysLoads : MethodName := ⟨RX10, "laysLoads", "(I)I"⟩
abbrev cX10_loads : ByteArray := prog_12_method_117_code
def yX10_loads : MethodName := ⟨RX10, "loads", "(I)I"⟩
abbrev cX10_least : ByteArray := prog_12_method_118_code
def yX10_least : MethodName := ⟨RX10, "least", "(I)I"⟩
abbrev cX10_see : ByteArray := prog_12_method_119_code
def yX10_see : MethodName := ⟨RX10, "see", "(I)Z"⟩
abbrev cX10_laysFits : ByteArray := prog_12_method_120_code
def yX10_laysFits : MethodName := ⟨RX10, "laysFits", "()I"⟩
abbrev cX10_fits : ByteArray := prog_12_method_121_code
def yX10_fits : MethodName := ⟨RX10, "fits", "(I)I"⟩
abbrev cX10_mostBy : ByteArray := prog_12_method_122_code
def yX10_mostBy : MethodName := ⟨RX10, "mostBy", "(I)I"⟩
abbrev cX10_tells : ByteArray := prog_12_method_123_code
def yX10_tells : MethodName := ⟨RX10, "tells", "(I)I"⟩
def RJ9 : String := "java/lang/Math"
abbrev cJ9_max_7cf53 : ByteArray := prog_13_method_65_code
def yJ9_max_7cf53 : MethodName := ⟨RJ9, "max", "(II)I"⟩
abbrev cJ9_min_7cf53 : ByteArray := prog_13_method_69_code
def yJ9_min_7cf53 : MethodName := ⟨RJ9, "min", "(II)I"⟩
def RJ10 : String := "java/lang/System"
def RJ7 : String := "java/util/Arrays"
abbrev cJ7_fill_53178 : ByteArray := prog_15_method_103_code
def yJ7_fill_53178 : MethodName := ⟨RJ7, "fill", "([II)V"⟩
def RL : String := "NameKeeperLaw"
abbrev cL_law : ByteArray := code
def yL_law : MethodName := ⟨RL, "law", "([I)Z"⟩
end
