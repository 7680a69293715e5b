/-! Words by their places, chunk by chunk; checks put together out of them. Written by wip/gen/fast.py. -/
theorem ln_0 : (k2_sels lw_privs).length = 117 := by decide +kernel
theorem ch_1 {q : Nat} {w : Cond} (h : tables_1_1[q]? = some w) : lw_tbl[117 + q]? = some w := ap_r ln_0 (cn_1 h)
theorem ch_2 {q : Nat} {w : Cond} (h : tables_1_2[q]? = some w) : lw_tbl[117 + (240 + q)]? = some w := ap_r ln_0 (cn_2 h)
theorem ch_3 {q : Nat} {w : Cond} (h : tables_1_3[q]? = some w) : lw_tbl[117 + (240 + (240 + q))]? = some w := ap_r ln_0 (cn_3 h)
theorem ch_4 {q : Nat} {w : Cond} (h : tables_1_4[q]? = some w) : lw_tbl[117 + (240 + (240 + (240 + q)))]? = some w := ap_r ln_0 (cn_4 h)
theorem ch_5 {q : Nat} {w : Cond} (h : tables_1_5[q]? = some w) : lw_tbl[117 + (240 + (240 + (240 + (240 + q))))]? = some w := ap_r ln_0 (cn_5 h)
theorem ch_6 {q : Nat} {w : Cond} (h : tables_1_6[q]? = some w) : lw_tbl[117 + (240 + (240 + (240 + (240 + (240 + q)))))]? = some w := ap_r ln_0 (cn_6 h)
theorem ch_7 {q : Nat} {w : Cond} (h : tables_1_7[q]? = some w) : lw_tbl[117 + (240 + (240 + (240 + (240 + (240 + (240 + q))))))]? = some w := ap_r ln_0 (cn_7 h)
theorem ch_8 {q : Nat} {w : Cond} (h : tables_1_8[q]? = some w) : lw_tbl[117 + (240 + (240 + (240 + (240 + (240 + (240 + (240 + q)))))))]? = some w := ap_r ln_0 (cn_8 h)
theorem ch_0 {q : Nat} {w : Cond} (h : (k2_sels lw_privs)[q]? = some w) : lw_tbl[q]? = some w := ap_l h
theorem wAt_mk {p : Nat} {w : Cond} (h : lw_tbl[p]? = some w) (g : goodWord w = true) : wAt p w = true := by
  unfold wAt
  rw [h, g]
  simp
theorem nAt_mk {p : Nat} {w : Cond} (h : tables_1[p]? = some w) (g : isNestW w = true) : nAt p w = true := by
  unfold nAt
  rw [h, g]
  simp
theorem all2_n {α β : Type} {f : α → β → Bool} : all2 f [] [] = true := rfl
theorem all2_c {α β : Type} {f : α → β → Bool} {a : α} {b : β} {l : List α} {m : List β} (h : f a b = true) (t : all2 f l m = true) : all2 f (a :: l) (b :: m) = true := by
  show (f a b && all2 f l m) = true
  rw [h, t]
  rfl
theorem fchk_g {own : String} {i c k t p : Nat} (h1 : Nat.ble c 10 = true) (h2 : Nat.blt k (nfl c) = true) (h3 : Nat.beq (ftc (tyc c k)) t = true) (w : wAt p (.fieldLink own i (RXc c) (TXc c k).2.1 (TXc c k).2.2.1) = true) : fChk own (i, c, k, t) (i, p, false) = true := by
  show (Nat.beq i i && Nat.ble c 10 && Nat.blt k (nfl c) && Nat.beq (ftc (tyc c k)) t && wAt p _) = true
  rw [h1, h2, h3, w, Nat.beq_refl]
  rfl
theorem fchk_n {own : String} {i c k t p : Nat} (h1 : Nat.ble c 10 = true) (h2 : Nat.blt k (nfl c) = true) (h3 : Nat.beq (ftc (tyc c k)) t = true) (w : nAt p (.fieldLinkNest own i (RXc c) (TXc c k).2.1 (TXc c k).2.2.1 "NameKeeper") = true) : fChk own (i, c, k, t) (i, p, true) = true := by
  show (Nat.beq i i && Nat.ble c 10 && Nat.blt k (nfl c) && Nat.beq (ftc (tyc c k)) t && nAt p _) = true
  rw [h1, h2, h3, w, Nat.beq_refl]
  rfl
def nmB (y : MethodName) (n : Nat) : Bool := decide (y.cls ≠ "java/lang/invoke/MethodHandle" ∧ y.cls ≠ "java/lang/invoke/VarHandle" ∧ (parseMethodDescriptor y.desc).map (fun d => d.parameters.length) = some n)

theorem cchk_0 {own : String} {FR LC i n rc rk nL fr lc p0 p1 p2 p3 : Nat} {y : MethodName} {cc : ByteArray} {rt : Option FieldType} {M : MF} (w0 : wAt p0 (.methodLink own i y) = true) (w1 : wAt p1 (.code y cc nL rt) = true) (w2 : wAt p2 (.initialized y.cls) = true) (nm : nmB y n = true) (hf : Nat.ble (fr + 1) FR = true) (hl : Nat.ble (8 + (nL + 11) + lc) LC = true) (w3 : wAt p3 (.static y) = true) (hr : Nat.beq rc 99 = true) : cChk own FR LC (i, n, rc, rk, M) (i, y, cc, nL, rt, fr, lc, 0, [p0, p1, p2, p3]) = true := by
  show (Nat.beq i i && (wAt p0 (.methodLink own i y) && wAt p1 (.code y cc nL rt) && wAt p2 (.initialized y.cls) && nmB y n && Nat.ble (fr + 1) FR && Nat.ble (8 + (nL + 11) + lc) LC && (Nat.beq rc 99 && wAt p3 (.static y)))) = true
  rw [w0, w1, w2, nm, hf, hl, hr, w3, Nat.beq_refl]
  rfl
theorem cchk_1 {own : String} {FR LC i n rc rk nL fr lc p0 p1 p2 p3 p4 : Nat} {y : MethodName} {cc : ByteArray} {rt : Option FieldType} {M : MF} (w0 : wAt p0 (.methodLink own i y) = true) (w1 : wAt p1 (.code y cc nL rt) = true) (w2 : wAt p2 (.initialized y.cls) = true) (nm : nmB y n = true) (hf : Nat.ble (fr + 1) FR = true) (hl : Nat.ble (8 + (nL + 11) + lc) LC = true) (w3 : wAt p3 (.instanceMethod y) = true) (hr : Nat.ble rc 10 = true) (w4 : wAt p4 (.selects (RXc rc) y y) = true) : cChk own FR LC (i, n, rc, rk, M) (i, y, cc, nL, rt, fr, lc, 1, [p0, p1, p2, p3, p4]) = true := by
  show (Nat.beq i i && (wAt p0 (.methodLink own i y) && wAt p1 (.code y cc nL rt) && wAt p2 (.initialized y.cls) && nmB y n && Nat.ble (fr + 1) FR && Nat.ble (8 + (nL + 11) + lc) LC && (Nat.ble rc 10 && wAt p3 (.instanceMethod y) && wAt p4 (.selects (RXc rc) y y)))) = true
  rw [w0, w1, w2, nm, hf, hl, hr, w3, w4, Nat.beq_refl]
  rfl
theorem cchk_2 {own : String} {FR LC i n rc rk nL fr lc p0 p1 p2 p3 : Nat} {y : MethodName} {cc : ByteArray} {rt : Option FieldType} {M : MF} (w0 : wAt p0 (.methodLink own i y) = true) (w1 : wAt p1 (.code y cc nL rt) = true) (w2 : wAt p2 (.initialized y.cls) = true) (nm : nmB y n = true) (hf : Nat.ble (fr + 1) FR = true) (hl : Nat.ble (8 + (nL + 11) + lc) LC = true) (w3 : wAt p3 (.instanceMethod y) = true) (hr : Nat.ble rc 10 = true) (hn : decide (y.name = "<init>") = true) (ht : decide (rt = none) = true) : cChk own FR LC (i, n, rc, rk, M) (i, y, cc, nL, rt, fr, lc, 2, [p0, p1, p2, p3]) = true := by
  show (Nat.beq i i && (wAt p0 (.methodLink own i y) && wAt p1 (.code y cc nL rt) && wAt p2 (.initialized y.cls) && nmB y n && Nat.ble (fr + 1) FR && Nat.ble (8 + (nL + 11) + lc) LC && (Nat.ble rc 10 && wAt p3 (.instanceMethod y) && decide (y.name = "<init>") && decide (rt = none)))) = true
  rw [w0, w1, w2, nm, hf, hl, hr, w3, hn, ht, Nat.beq_refl]
  rfl
theorem tab_of {own : String} {cc : ByteArray} {nL : Nat} {ini : Bool} {FR LC : Nat} {T : MT} {fi : List (Nat × Nat × Bool)} {ci : List (Nat × INF)} (h : T.1.all (fun q => dcB cc q.1 q.2 && enB own nL ini T fi ci q.1 q.2) = true) (hF : all2 (fChk own) T.2.2.1 fi = true) (hC : all2 (cChk own FR LC) T.2.2.2.1 ci = true) : tabB own cc nL ini FR LC T fi ci = true := by
  unfold tabB
  rw [h, hF, hC]
  rfl
theorem wd_0 : wAt 0 (.selects (RXc 9) yX9_refuse yX9_refuse) = true := wAt_mk (ch_0 (q := 0) rfl) rfl
theorem wd_1 : wAt 1 (.selects (RXc 9) yX9_refuseFlatly yX9_refuseFlatly) = true := wAt_mk (ch_0 (q := 1) rfl) rfl
theorem wd_2 : wAt 2 (.selects (RXc 3) yX3_skipBlanks yX3_skipBlanks) = true := wAt_mk (ch_0 (q := 2) rfl) rfl
theorem wd_3 : wAt 3 (.selects (RXc 3) yX3_readInside yX3_readInside) = true := wAt_mk (ch_0 (q := 3) rfl) rfl
theorem wd_4 : wAt 4 (.selects (RXc 3) yX3_readItem yX3_readItem) = true := wAt_mk (ch_0 (q := 4) rfl) rfl
theorem wd_5 : wAt 5 (.selects (RXc 3) yX3_fail yX3_fail) = true := wAt_mk (ch_0 (q := 5) rfl) rfl
theorem wd_6 : wAt 6 (.selects (RXc 2) yX2_put yX2_put) = true := wAt_mk (ch_0 (q := 6) rfl) rfl
theorem wd_7 : wAt 7 (.selects (RXc 3) yX3_openFolder yX3_openFolder) = true := wAt_mk (ch_0 (q := 7) rfl) rfl
theorem wd_8 : wAt 8 (.selects (RXc 3) yX3_readOutside yX3_readOutside) = true := wAt_mk (ch_0 (q := 8) rfl) rfl
theorem wd_9 : wAt 9 (.selects (RXc 1) yX1_add yX1_add) = true := wAt_mk (ch_0 (q := 9) rfl) rfl
theorem wd_10 : wAt 10 (.selects (RXc 1) yX1_leastUnused yX1_leastUnused) = true := wAt_mk (ch_0 (q := 10) rfl) rfl
theorem wd_11 : wAt 11 (.selects (RXc 1) yX1_comeTo yX1_comeTo) = true := wAt_mk (ch_0 (q := 11) rfl) rfl
theorem wd_12 : wAt 12 (.selects (RXc 7) yX7_lastOfWay yX7_lastOfWay) = true := wAt_mk (ch_0 (q := 12) rfl) rfl
theorem wd_13 : wAt 13 (.selects (RXc 9) yX9_takePaths yX9_takePaths) = true := wAt_mk (ch_0 (q := 13) rfl) rfl
theorem wd_14 : wAt 14 (.selects (RXc 9) yX9_takeRow yX9_takeRow) = true := wAt_mk (ch_0 (q := 14) rfl) rfl
theorem wd_15 : wAt 15 (.selects (RXc 9) yX9_hasTrees yX9_hasTrees) = true := wAt_mk (ch_0 (q := 15) rfl) rfl
theorem wd_16 : wAt 16 (.selects (RXc 9) yX9_tryOut yX9_tryOut) = true := wAt_mk (ch_0 (q := 16) rfl) rfl
theorem wd_17 : wAt 17 (.selects (RXc 1) yX1_stepUp yX1_stepUp) = true := wAt_mk (ch_0 (q := 17) rfl) rfl
theorem wd_18 : wAt 18 (.selects (RXc 1) yX1_shrink yX1_shrink) = true := wAt_mk (ch_0 (q := 18) rfl) rfl
theorem wd_19 : wAt 19 (.selects (RXc 1) yX1_howManyButRoots yX1_howManyButRoots) = true := wAt_mk (ch_0 (q := 19) rfl) rfl
theorem wd_20 : wAt 20 (.selects (RXc 9) yX9_writeRoute yX9_writeRoute) = true := wAt_mk (ch_0 (q := 20) rfl) rfl
theorem wd_21 : wAt 21 (.selects (RXc 9) yX9_writeByte yX9_writeByte) = true := wAt_mk (ch_0 (q := 21) rfl) rfl
theorem wd_22 : wAt 22 (.selects (RXc 9) yX9_writeName yX9_writeName) = true := wAt_mk (ch_0 (q := 22) rfl) rfl
theorem wd_23 : wAt 23 (.selects (RXc 8) yX8_gapIn yX8_gapIn) = true := wAt_mk (ch_0 (q := 23) rfl) rfl
theorem wd_24 : wAt 24 (.selects (RXc 9) yX9_orRefuse yX9_orRefuse) = true := wAt_mk (ch_0 (q := 24) rfl) rfl
theorem wd_25 : wAt 25 (.selects (RXc 8) yX8_canTake yX8_canTake) = true := wAt_mk (ch_0 (q := 25) rfl) rfl
theorem wd_26 : wAt 26 (.selects (RXc 1) yX1_isOf yX1_isOf) = true := wAt_mk (ch_0 (q := 26) rfl) rfl
theorem wd_27 : wAt 27 (.selects (RXc 1) yX1_heldBelow yX1_heldBelow) = true := wAt_mk (ch_0 (q := 27) rfl) rfl
theorem wd_28 : wAt 28 (.selects (RXc 8) yX8_isReachable yX8_isReachable) = true := wAt_mk (ch_0 (q := 28) rfl) rfl
theorem wd_29 : wAt 29 (.selects (RXc 9) yX9_drawOf yX9_drawOf) = true := wAt_mk (ch_0 (q := 29) rfl) rfl
theorem wd_30 : wAt 30 (.selects (RXc 7) yX7_goToRoot yX7_goToRoot) = true := wAt_mk (ch_0 (q := 30) rfl) rfl
theorem wd_31 : wAt 31 (.selects (RXc 7) yX7_takeTrail yX7_takeTrail) = true := wAt_mk (ch_0 (q := 31) rfl) rfl
theorem wd_32 : wAt 32 (.selects (RXc 7) yX7_isChanged yX7_isChanged) = true := wAt_mk (ch_0 (q := 32) rfl) rfl
theorem wd_33 : wAt 33 (.selects (RXc 7) yX7_letGo yX7_letGo) = true := wAt_mk (ch_0 (q := 33) rfl) rfl
theorem wd_34 : wAt 34 (.selects (RXc 7) yX7_lacksNext yX7_lacksNext) = true := wAt_mk (ch_0 (q := 34) rfl) rfl
theorem wd_35 : wAt 35 (.selects (RXc 7) yX7_holdAll yX7_holdAll) = true := wAt_mk (ch_0 (q := 35) rfl) rfl
theorem wd_36 : wAt 36 (.selects (RXc 9) yX9_tellOutcome yX9_tellOutcome) = true := wAt_mk (ch_0 (q := 36) rfl) rfl
theorem wd_37 : wAt 37 (.selects (RXc 6) yX6_prepare yX6_prepare) = true := wAt_mk (ch_0 (q := 37) rfl) rfl
theorem wd_38 : wAt 38 (.selects (RXc 1) yX1_markUpFrom yX1_markUpFrom) = true := wAt_mk (ch_0 (q := 38) rfl) rfl
theorem wd_39 : wAt 39 (.selects (RXc 6) yX6_runBy yX6_runBy) = true := wAt_mk (ch_0 (q := 39) rfl) rfl
theorem wd_40 : wAt 40 (.selects (RXc 6) yX6_isFit yX6_isFit) = true := wAt_mk (ch_0 (q := 40) rfl) rfl
theorem wd_41 : wAt 41 (.selects (RXc 6) yX6_mostLeft yX6_mostLeft) = true := wAt_mk (ch_0 (q := 41) rfl) rfl
theorem wd_42 : wAt 42 (.selects (RXc 6) yX6_alikeFits yX6_alikeFits) = true := wAt_mk (ch_0 (q := 42) rfl) rfl
theorem wd_43 : wAt 43 (.selects (RXc 10) yX10_refuses yX10_refuses) = true := wAt_mk (ch_0 (q := 43) rfl) rfl
theorem wd_44 : wAt 44 (.selects (RXc 10) yX10_isRefused yX10_isRefused) = true := wAt_mk (ch_0 (q := 44) rfl) rfl
theorem wd_45 : wAt 45 (.selects (RXc 10) yX10_look0 yX10_look0) = true := wAt_mk (ch_0 (q := 45) rfl) rfl
theorem wd_46 : wAt 46 (.selects (RXc 10) yX10_fail yX10_fail) = true := wAt_mk (ch_0 (q := 46) rfl) rfl
theorem wd_47 : wAt 47 (.selects (RXc 10) yX10_volumeTold yX10_volumeTold) = true := wAt_mk (ch_0 (q := 47) rfl) rfl
theorem wd_48 : wAt 48 (.selects (RXc 10) yX10_drafts yX10_drafts) = true := wAt_mk (ch_0 (q := 48) rfl) rfl
theorem wd_49 : wAt 49 (.selects (RXc 10) yX10_drafted yX10_drafted) = true := wAt_mk (ch_0 (q := 49) rfl) rfl
theorem wd_50 : wAt 50 (.selects (RXc 10) yX10_nameHere yX10_nameHere) = true := wAt_mk (ch_0 (q := 50) rfl) rfl
theorem wd_51 : wAt 51 (.selects (RXc 10) yX10_stands yX10_stands) = true := wAt_mk (ch_0 (q := 51) rfl) rfl
theorem wd_52 : wAt 52 (.selects (RXc 10) yX10_makes yX10_makes) = true := wAt_mk (ch_0 (q := 52) rfl) rfl
theorem wd_53 : wAt 53 (.selects (RXc 10) yX10_its yX10_its) = true := wAt_mk (ch_0 (q := 53) rfl) rfl
theorem wd_54 : wAt 54 (.selects (RXc 10) yX10_comesTo yX10_comesTo) = true := wAt_mk (ch_0 (q := 54) rfl) rfl
theorem wd_55 : wAt 55 (.selects (RXc 10) yX10_notes yX10_notes) = true := wAt_mk (ch_0 (q := 55) rfl) rfl
theorem wd_56 : wAt 56 (.selects (RXc 10) yX10_walkerHas yX10_walkerHas) = true := wAt_mk (ch_0 (q := 56) rfl) rfl
theorem wd_57 : wAt 57 (.selects (RXc 10) yX10_nodeMany yX10_nodeMany) = true := wAt_mk (ch_0 (q := 57) rfl) rfl
theorem wd_58 : wAt 58 (.selects (RXc 10) yX10_nodeHas yX10_nodeHas) = true := wAt_mk (ch_0 (q := 58) rfl) rfl
theorem wd_59 : wAt 59 (.selects (RXc 10) yX10_entryMany yX10_entryMany) = true := wAt_mk (ch_0 (q := 59) rfl) rfl
theorem wd_60 : wAt 60 (.selects (RXc 10) yX10_isRoot yX10_isRoot) = true := wAt_mk (ch_0 (q := 60) rfl) rfl
theorem wd_61 : wAt 61 (.selects (RXc 10) yX10_entriesWith yX10_entriesWith) = true := wAt_mk (ch_0 (q := 61) rfl) rfl
theorem wd_62 : wAt 62 (.selects (RXc 10) yX10_counts yX10_counts) = true := wAt_mk (ch_0 (q := 62) rfl) rfl
theorem wd_63 : wAt 63 (.selects (RXc 10) yX10_countsHands yX10_countsHands) = true := wAt_mk (ch_0 (q := 63) rfl) rfl
theorem wd_64 : wAt 64 (.selects (RXc 10) yX10_handleMany yX10_handleMany) = true := wAt_mk (ch_0 (q := 64) rfl) rfl
theorem wd_65 : wAt 65 (.selects (RXc 10) yX10_walkerMany yX10_walkerMany) = true := wAt_mk (ch_0 (q := 65) rfl) rfl
theorem wd_66 : wAt 66 (.selects (RXc 10) yX10_mounted yX10_mounted) = true := wAt_mk (ch_0 (q := 66) rfl) rfl
theorem wd_67 : wAt 67 (.selects (RXc 10) yX10_isNode yX10_isNode) = true := wAt_mk (ch_0 (q := 67) rfl) rfl
theorem wd_68 : wAt 68 (.selects (RXc 10) yX10_isEntry yX10_isEntry) = true := wAt_mk (ch_0 (q := 68) rfl) rfl
theorem wd_69 : wAt 69 (.selects (RXc 10) yX10_beginsPaths yX10_beginsPaths) = true := wAt_mk (ch_0 (q := 69) rfl) rfl
theorem wd_70 : wAt 70 (.selects (RXc 10) yX10_childHere yX10_childHere) = true := wAt_mk (ch_0 (q := 70) rfl) rfl
theorem wd_71 : wAt 71 (.selects (RXc 10) yX10_isWalker yX10_isWalker) = true := wAt_mk (ch_0 (q := 71) rfl) rfl
theorem wd_72 : wAt 72 (.selects (RXc 10) yX10_isPath yX10_isPath) = true := wAt_mk (ch_0 (q := 72) rfl) rfl
theorem wd_73 : wAt 73 (.selects (RXc 10) yX10_isPathHere yX10_isPathHere) = true := wAt_mk (ch_0 (q := 73) rfl) rfl
theorem wd_74 : wAt 74 (.selects (RXc 10) yX10_stepHere yX10_stepHere) = true := wAt_mk (ch_0 (q := 74) rfl) rfl
theorem wd_75 : wAt 75 (.selects (RXc 10) yX10_nodeBy yX10_nodeBy) = true := wAt_mk (ch_0 (q := 75) rfl) rfl
theorem wd_76 : wAt 76 (.selects (RXc 10) yX10_nodeUp yX10_nodeUp) = true := wAt_mk (ch_0 (q := 76) rfl) rfl
theorem wd_77 : wAt 77 (.selects (RXc 10) yX10_nodeIn yX10_nodeIn) = true := wAt_mk (ch_0 (q := 77) rfl) rfl
theorem wd_78 : wAt 78 (.selects (RXc 10) yX10_volumeOver yX10_volumeOver) = true := wAt_mk (ch_0 (q := 78) rfl) rfl
theorem wd_79 : wAt 79 (.selects (RXc 10) yX10_putsAside yX10_putsAside) = true := wAt_mk (ch_0 (q := 79) rfl) rfl
theorem wd_80 : wAt 80 (.selects (RXc 10) yX10_walks yX10_walks) = true := wAt_mk (ch_0 (q := 80) rfl) rfl
theorem wd_81 : wAt 81 (.selects (RXc 10) yX10_steps0 yX10_steps0) = true := wAt_mk (ch_0 (q := 81) rfl) rfl
theorem wd_82 : wAt 82 (.selects (RXc 10) yX10_goesUp yX10_goesUp) = true := wAt_mk (ch_0 (q := 82) rfl) rfl
theorem wd_83 : wAt 83 (.selects (RXc 10) yX10_rootOf yX10_rootOf) = true := wAt_mk (ch_0 (q := 83) rfl) rfl
theorem wd_84 : wAt 84 (.selects (RXc 10) yX10_isFolder yX10_isFolder) = true := wAt_mk (ch_0 (q := 84) rfl) rfl
theorem wd_85 : wAt 85 (.selects (RXc 10) yX10_childOf yX10_childOf) = true := wAt_mk (ch_0 (q := 85) rfl) rfl
theorem wd_86 : wAt 86 (.selects (RXc 10) yX10_trims yX10_trims) = true := wAt_mk (ch_0 (q := 86) rfl) rfl
theorem wd_87 : wAt 87 (.selects (RXc 10) yX10_leastFree yX10_leastFree) = true := wAt_mk (ch_0 (q := 87) rfl) rfl
theorem wd_88 : wAt 88 (.selects (RXc 10) yX10_takesBack yX10_takesBack) = true := wAt_mk (ch_0 (q := 88) rfl) rfl
theorem wd_89 : wAt 89 (.selects (RXc 10) yX10_writes yX10_writes) = true := wAt_mk (ch_0 (q := 89) rfl) rfl
theorem wd_90 : wAt 90 (.selects (RXc 10) yX10_keeps yX10_keeps) = true := wAt_mk (ch_0 (q := 90) rfl) rfl
theorem wd_91 : wAt 91 (.selects (RXc 10) yX10_isPlace yX10_isPlace) = true := wAt_mk (ch_0 (q := 91) rfl) rfl
theorem wd_92 : wAt 92 (.selects (RXc 10) yX10_isPlain yX10_isPlain) = true := wAt_mk (ch_0 (q := 92) rfl) rfl
theorem wd_93 : wAt 93 (.selects (RXc 10) yX10_areTwoPaths yX10_areTwoPaths) = true := wAt_mk (ch_0 (q := 93) rfl) rfl
theorem wd_94 : wAt 94 (.selects (RXc 10) yX10_isRenamed yX10_isRenamed) = true := wAt_mk (ch_0 (q := 94) rfl) rfl
theorem wd_95 : wAt 95 (.selects (RXc 10) yX10_isBelow yX10_isBelow) = true := wAt_mk (ch_0 (q := 95) rfl) rfl
theorem wd_96 : wAt 96 (.selects (RXc 10) yX10_sweeps yX10_sweeps) = true := wAt_mk (ch_0 (q := 96) rfl) rfl
theorem wd_97 : wAt 97 (.selects (RXc 10) yX10_isVolume yX10_isVolume) = true := wAt_mk (ch_0 (q := 97) rfl) rfl
theorem wd_98 : wAt 98 (.selects (RXc 10) yX10_isInUse yX10_isInUse) = true := wAt_mk (ch_0 (q := 98) rfl) rfl
theorem wd_99 : wAt 99 (.selects (RXc 10) yX10_volumeOf yX10_volumeOf) = true := wAt_mk (ch_0 (q := 99) rfl) rfl
theorem wd_100 : wAt 100 (.selects (RXc 10) yX10_looksByDraw yX10_looksByDraw) = true := wAt_mk (ch_0 (q := 100) rfl) rfl
theorem wd_101 : wAt 101 (.selects (RXc 10) yX10_isMountedNode yX10_isMountedNode) = true := wAt_mk (ch_0 (q := 101) rfl) rfl
theorem wd_102 : wAt 102 (.selects (RXc 10) yX10_drawOf yX10_drawOf) = true := wAt_mk (ch_0 (q := 102) rfl) rfl
theorem wd_103 : wAt 103 (.selects (RXc 10) yX10_laysPath yX10_laysPath) = true := wAt_mk (ch_0 (q := 103) rfl) rfl
theorem wd_104 : wAt 104 (.selects (RXc 10) yX10_beginsWay yX10_beginsWay) = true := wAt_mk (ch_0 (q := 104) rfl) rfl
theorem wd_105 : wAt 105 (.selects (RXc 10) yX10_isWayOther yX10_isWayOther) = true := wAt_mk (ch_0 (q := 105) rfl) rfl
theorem wd_106 : wAt 106 (.selects (RXc 10) yX10_restarts yX10_restarts) = true := wAt_mk (ch_0 (q := 106) rfl) rfl
theorem wd_107 : wAt 107 (.selects (RXc 10) yX10_turnsHeavy yX10_turnsHeavy) = true := wAt_mk (ch_0 (q := 107) rfl) rfl
theorem wd_108 : wAt 108 (.selects (RXc 10) yX10_isThrough yX10_isThrough) = true := wAt_mk (ch_0 (q := 108) rfl) rfl
theorem wd_109 : wAt 109 (.selects (RXc 10) yX10_nextStep yX10_nextStep) = true := wAt_mk (ch_0 (q := 109) rfl) rfl
theorem wd_110 : wAt 110 (.selects (RXc 10) yX10_doesStep yX10_doesStep) = true := wAt_mk (ch_0 (q := 110) rfl) rfl
theorem wd_111 : wAt 111 (.selects (RXc 10) yX10_isOver yX10_isOver) = true := wAt_mk (ch_0 (q := 111) rfl) rfl
theorem wd_112 : wAt 112 (.selects (RXc 10) yX10_isTrace yX10_isTrace) = true := wAt_mk (ch_0 (q := 112) rfl) rfl
theorem wd_113 : wAt 113 (.selects (RXc 10) yX10_laysLoads yX10_laysLoads) = true := wAt_mk (ch_0 (q := 113) rfl) rfl
theorem wd_114 : wAt 114 (.selects (RXc 10) yX10_clears yX10_clears) = true := wAt_mk (ch_0 (q := 114) rfl) rfl
theorem wd_115 : wAt 115 (.selects (RXc 10) yX10_laysFits yX10_laysFits) = true := wAt_mk (ch_0 (q := 115) rfl) rfl
theorem wd_116 : wAt 116 (.selects (RXc 10) yX10_mostBy yX10_mostBy) = true := wAt_mk (ch_0 (q := 116) rfl) rfl
theorem wd_118 : wAt 118 (.initialized yX9_isLetter.cls) = true := wAt_mk (ch_1 (q := 1) rfl) rfl
theorem wd_119 : wAt 119 (.initialized yX2_copyFrom.cls) = true := wAt_mk (ch_1 (q := 2) rfl) rfl
theorem wd_120 : wAt 120 (.initialized yX5_at.cls) = true := wAt_mk (ch_1 (q := 3) rfl) rfl
theorem wd_121 : wAt 121 (.initialized yX3_fail.cls) = true := wAt_mk (ch_1 (q := 4) rfl) rfl
theorem wd_122 : wAt 122 (.initialized yX8_init.cls) = true := wAt_mk (ch_1 (q := 5) rfl) rfl
theorem wd_123 : wAt 123 (.initialized yX1_copyFrom.cls) = true := wAt_mk (ch_1 (q := 6) rfl) rfl
theorem wd_124 : wAt 124 (.initialized yJ7_fill_53178.cls) = true := wAt_mk (ch_1 (q := 7) rfl) rfl
theorem wd_125 : wAt 125 (.initialized yX7_copyFrom.cls) = true := wAt_mk (ch_1 (q := 8) rfl) rfl
theorem wd_126 : wAt 126 (.initialized yX4_init.cls) = true := wAt_mk (ch_1 (q := 9) rfl) rfl
theorem wd_128 : wAt 128 (.initialized yX0_forget.cls) = true := wAt_mk (ch_1 (q := 11) rfl) rfl
theorem wd_129 : wAt 129 (.initialized yX6_forget.cls) = true := wAt_mk (ch_1 (q := 12) rfl) rfl
theorem wd_130 : wAt 130 (.initialized yX10_refuses.cls) = true := wAt_mk (ch_1 (q := 13) rfl) rfl
theorem wd_146 : wAt 146 (.fieldLink RX2 9 (RXc 2) (TXc 2 0).2.1 (TXc 2 0).2.2.1) = true := wAt_mk (ch_1 (q := 29) rfl) rfl
theorem wd_147 : wAt 147 (.fieldLink RX2 15 (RXc 2) (TXc 2 1).2.1 (TXc 2 1).2.2.1) = true := wAt_mk (ch_1 (q := 30) rfl) rfl
theorem wd_148 : wAt 148 (.fieldLink RX2 18 (RXc 2) (TXc 2 2).2.1 (TXc 2 2).2.2.1) = true := wAt_mk (ch_1 (q := 31) rfl) rfl
theorem wd_149 : wAt 149 (.fieldLink RX2 21 (RXc 2) (TXc 2 3).2.1 (TXc 2 3).2.2.1) = true := wAt_mk (ch_1 (q := 32) rfl) rfl
theorem wd_150 : wAt 150 (.fieldLink RX2 24 (RXc 2) (TXc 2 4).2.1 (TXc 2 4).2.2.1) = true := wAt_mk (ch_1 (q := 33) rfl) rfl
theorem wd_151 : wAt 151 (.fieldLink RX2 27 (RXc 2) (TXc 2 5).2.1 (TXc 2 5).2.2.1) = true := wAt_mk (ch_1 (q := 34) rfl) rfl
theorem wd_153 : wAt 153 (.fieldLink RX2 31 (RXc 2) (TXc 2 6).2.1 (TXc 2 6).2.2.1) = true := wAt_mk (ch_1 (q := 36) rfl) rfl
theorem wd_178 : wAt 178 (.fieldLink RX5 9 (RXc 5) (TXc 5 0).2.1 (TXc 5 0).2.2.1) = true := wAt_mk (ch_1 (q := 61) rfl) rfl
theorem wd_179 : wAt 179 (.fieldLink RX5 15 (RXc 5) (TXc 5 1).2.1 (TXc 5 1).2.2.1) = true := wAt_mk (ch_1 (q := 62) rfl) rfl
theorem wd_195 : wAt 195 (.fieldLink RX3 12 (RXc 3) (TXc 3 0).2.1 (TXc 3 0).2.2.1) = true := wAt_mk (ch_1 (q := 78) rfl) rfl
theorem wd_197 : wAt 197 (.fieldLink RX3 25 (RXc 3) (TXc 3 1).2.1 (TXc 3 1).2.2.1) = true := wAt_mk (ch_1 (q := 80) rfl) rfl
theorem wd_199 : wAt 199 (.fieldLink RX3 18 (RXc 3) (TXc 3 2).2.1 (TXc 3 2).2.2.1) = true := wAt_mk (ch_1 (q := 82) rfl) rfl
theorem wd_201 : wAt 201 (.fieldLink RX3 28 (RXc 3) (TXc 3 3).2.1 (TXc 3 3).2.2.1) = true := wAt_mk (ch_1 (q := 84) rfl) rfl
theorem wd_202 : wAt 202 (.fieldLink RX3 31 (RXc 3) (TXc 3 4).2.1 (TXc 3 4).2.2.1) = true := wAt_mk (ch_1 (q := 85) rfl) rfl
theorem wd_203 : wAt 203 (.fieldLink RX3 34 (RXc 3) (TXc 3 5).2.1 (TXc 3 5).2.2.1) = true := wAt_mk (ch_1 (q := 86) rfl) rfl
theorem wd_204 : wAt 204 (.fieldLink RX3 37 (RXc 3) (TXc 3 6).2.1 (TXc 3 6).2.2.1) = true := wAt_mk (ch_1 (q := 87) rfl) rfl
theorem wd_224 : wAt 224 (.methodLink RX9 30 yX1_init) = true := wAt_mk (ch_1 (q := 107) rfl) rfl
theorem wd_225 : wAt 225 (.instanceMethod yX1_init) = true := wAt_mk (ch_1 (q := 108) rfl) rfl
theorem wd_226 : wAt 226 (.code yX1_init cX1_init 2 none) = true := wAt_mk (ch_1 (q := 109) rfl) rfl
theorem wd_228 : wAt 228 (.methodLink RX1 49 yJ7_fill_53178) = true := wAt_mk (ch_1 (q := 111) rfl) rfl
theorem wd_229 : wAt 229 (.static yJ7_fill_53178) = true := wAt_mk (ch_1 (q := 112) rfl) rfl
theorem wd_230 : wAt 230 (.code yJ7_fill_53178 cJ7_fill_53178 4 none) = true := wAt_mk (ch_1 (q := 113) rfl) rfl
theorem wd_231 : wAt 231 (.fieldLink RX1 45 (RXc 1) (TXc 1 0).2.1 (TXc 1 0).2.2.1) = true := wAt_mk (ch_1 (q := 114) rfl) rfl
theorem wd_232 : wAt 232 (.fieldLink RX1 9 (RXc 1) (TXc 1 1).2.1 (TXc 1 1).2.2.1) = true := wAt_mk (ch_1 (q := 115) rfl) rfl
theorem wd_233 : wAt 233 (.fieldLink RX1 15 (RXc 1) (TXc 1 2).2.1 (TXc 1 2).2.2.1) = true := wAt_mk (ch_1 (q := 116) rfl) rfl
theorem wd_234 : wAt 234 (.fieldLink RX1 18 (RXc 1) (TXc 1 3).2.1 (TXc 1 3).2.2.1) = true := wAt_mk (ch_1 (q := 117) rfl) rfl
theorem wd_235 : wAt 235 (.fieldLink RX1 21 (RXc 1) (TXc 1 4).2.1 (TXc 1 4).2.2.1) = true := wAt_mk (ch_1 (q := 118) rfl) rfl
theorem wd_236 : wAt 236 (.fieldLink RX1 24 (RXc 1) (TXc 1 5).2.1 (TXc 1 5).2.2.1) = true := wAt_mk (ch_1 (q := 119) rfl) rfl
theorem wd_237 : wAt 237 (.fieldLink RX1 27 (RXc 1) (TXc 1 6).2.1 (TXc 1 6).2.2.1) = true := wAt_mk (ch_1 (q := 120) rfl) rfl
theorem wd_239 : wAt 239 (.fieldLink RX1 30 (RXc 1) (TXc 1 7).2.1 (TXc 1 7).2.2.1) = true := wAt_mk (ch_1 (q := 122) rfl) rfl
theorem wd_240 : wAt 240 (.fieldLink RX1 33 (RXc 1) (TXc 1 8).2.1 (TXc 1 8).2.2.1) = true := wAt_mk (ch_1 (q := 123) rfl) rfl
theorem wd_242 : wAt 242 (.fieldLink RX1 36 (RXc 1) (TXc 1 9).2.1 (TXc 1 9).2.2.1) = true := wAt_mk (ch_1 (q := 125) rfl) rfl
theorem wd_243 : wAt 243 (.fieldLink RX1 39 (RXc 1) (TXc 1 10).2.1 (TXc 1 10).2.2.1) = true := wAt_mk (ch_1 (q := 126) rfl) rfl
theorem wd_244 : wAt 244 (.fieldLink RX1 55 (RXc 1) (TXc 1 11).2.1 (TXc 1 11).2.2.1) = true := wAt_mk (ch_1 (q := 127) rfl) rfl
theorem wd_247 : wAt 247 (.fieldLink RX1 59 (RXc 1) (TXc 1 12).2.1 (TXc 1 12).2.2.1) = true := wAt_mk (ch_1 (q := 130) rfl) rfl
theorem wd_249 : wAt 249 (.fieldLink RX1 62 (RXc 1) (TXc 1 13).2.1 (TXc 1 13).2.2.1) = true := wAt_mk (ch_1 (q := 132) rfl) rfl
theorem wd_252 : wAt 252 (.fieldLink RX1 65 (RXc 1) (TXc 1 14).2.1 (TXc 1 14).2.2.1) = true := wAt_mk (ch_1 (q := 135) rfl) rfl
theorem wd_255 : wAt 255 (.fieldLink RX1 42 (RXc 1) (TXc 1 15).2.1 (TXc 1 15).2.2.1) = true := wAt_mk (ch_1 (q := 138) rfl) rfl
theorem wd_257 : wAt 257 (.fieldLink RX1 68 (RXc 1) (TXc 1 16).2.1 (TXc 1 16).2.2.1) = true := wAt_mk (ch_1 (q := 140) rfl) rfl
theorem wd_294 : wAt 294 (.methodLink RX9 33 yX8_init) = true := wAt_mk (ch_1 (q := 177) rfl) rfl
theorem wd_295 : wAt 295 (.instanceMethod yX8_init) = true := wAt_mk (ch_1 (q := 178) rfl) rfl
theorem wd_296 : wAt 296 (.code yX8_init cX8_init 4 none) = true := wAt_mk (ch_1 (q := 179) rfl) rfl
theorem wd_300 : wAt 300 (.methodLink RX8 29 yJ7_fill_53178) = true := wAt_mk (ch_1 (q := 183) rfl) rfl
theorem wd_308 : wAt 308 (.methodLink RX7 11 yX4_init) = true := wAt_mk (ch_1 (q := 191) rfl) rfl
theorem wd_309 : wAt 309 (.instanceMethod yX4_init) = true := wAt_mk (ch_1 (q := 192) rfl) rfl
theorem wd_310 : wAt 310 (.code yX4_init cX4_init 2 none) = true := wAt_mk (ch_1 (q := 193) rfl) rfl
theorem wd_315 : wAt 315 (.fieldLink RX4 15 (RXc 4) (TXc 4 0).2.1 (TXc 4 0).2.2.1) = true := wAt_mk (ch_1 (q := 198) rfl) rfl
theorem wd_316 : wAt 316 (.fieldLink RX4 21 (RXc 4) (TXc 4 1).2.1 (TXc 4 1).2.2.1) = true := wAt_mk (ch_1 (q := 199) rfl) rfl
theorem wd_326 : wAt 326 (.fieldLink RX7 14 (RXc 7) (TXc 7 0).2.1 (TXc 7 0).2.2.1) = true := wAt_mk (ch_1 (q := 209) rfl) rfl
theorem wd_327 : wAt 327 (.fieldLink RX7 20 (RXc 7) (TXc 7 1).2.1 (TXc 7 1).2.2.1) = true := wAt_mk (ch_1 (q := 210) rfl) rfl
theorem wd_328 : wAt 328 (.fieldLink RX7 24 (RXc 7) (TXc 7 2).2.1 (TXc 7 2).2.2.1) = true := wAt_mk (ch_1 (q := 211) rfl) rfl
theorem wd_329 : wAt 329 (.fieldLink RX7 27 (RXc 7) (TXc 7 3).2.1 (TXc 7 3).2.2.1) = true := wAt_mk (ch_1 (q := 212) rfl) rfl
theorem wd_330 : wAt 330 (.fieldLink RX7 40 (RXc 7) (TXc 7 4).2.1 (TXc 7 4).2.2.1) = true := wAt_mk (ch_1 (q := 213) rfl) rfl
theorem wd_331 : wAt 331 (.fieldLink RX7 44 (RXc 7) (TXc 7 5).2.1 (TXc 7 5).2.2.1) = true := wAt_mk (ch_1 (q := 214) rfl) rfl
theorem wd_333 : wAt 333 (.fieldLink RX7 48 (RXc 7) (TXc 7 6).2.1 (TXc 7 6).2.2.1) = true := wAt_mk (ch_1 (q := 216) rfl) rfl
theorem wd_335 : wAt 335 (.fieldLink RX7 51 (RXc 7) (TXc 7 7).2.1 (TXc 7 7).2.2.1) = true := wAt_mk (ch_1 (q := 218) rfl) rfl
theorem wd_337 : wAt 337 (.fieldLink RX7 54 (RXc 7) (TXc 7 8).2.1 (TXc 7 8).2.2.1) = true := wAt_mk (ch_1 (q := 220) rfl) rfl
theorem wd_357 : wAt 357 (.fieldLink RX8 21 (RXc 8) (TXc 8 0).2.1 (TXc 8 0).2.2.1) = true := wAt_mk (ch_2 (q := 0) rfl) rfl
theorem wd_359 : wAt 359 (.fieldLink RX8 25 (RXc 8) (TXc 8 1).2.1 (TXc 8 1).2.2.1) = true := wAt_mk (ch_2 (q := 2) rfl) rfl
theorem wd_361 : wAt 361 (.fieldLink RX8 9 (RXc 8) (TXc 8 2).2.1 (TXc 8 2).2.2.1) = true := wAt_mk (ch_2 (q := 4) rfl) rfl
theorem wd_362 : wAt 362 (.fieldLink RX8 17 (RXc 8) (TXc 8 3).2.1 (TXc 8 3).2.2.1) = true := wAt_mk (ch_2 (q := 5) rfl) rfl
theorem wd_380 : wAt 380 (.fieldLink RX0 11 (RXc 0) (TXc 0 0).2.1 (TXc 0 0).2.2.1) = true := wAt_mk (ch_2 (q := 23) rfl) rfl
theorem wd_381 : wAt 381 (.fieldLink RX0 21 (RXc 0) (TXc 0 1).2.1 (TXc 0 1).2.2.1) = true := wAt_mk (ch_2 (q := 24) rfl) rfl
theorem wd_382 : wAt 382 (.fieldLink RX0 17 (RXc 0) (TXc 0 2).2.1 (TXc 0 2).2.2.1) = true := wAt_mk (ch_2 (q := 25) rfl) rfl
theorem wd_393 : wAt 393 (.methodLink RX9 53 yX6_init) = true := wAt_mk (ch_2 (q := 36) rfl) rfl
theorem wd_394 : wAt 394 (.instanceMethod yX6_init) = true := wAt_mk (ch_2 (q := 37) rfl) rfl
theorem wd_395 : wAt 395 (.code yX6_init cX6_init 4 none) = true := wAt_mk (ch_2 (q := 38) rfl) rfl
theorem wd_401 : wAt 401 (.methodLink RX6 37 yX4_init) = true := wAt_mk (ch_2 (q := 44) rfl) rfl
theorem wd_402 : wAt 402 (.fieldLink RX6 11 (RXc 6) (TXc 6 0).2.1 (TXc 6 0).2.2.1) = true := wAt_mk (ch_2 (q := 45) rfl) rfl
theorem wd_403 : wAt 403 (.fieldLink RX6 40 (RXc 6) (TXc 6 1).2.1 (TXc 6 1).2.2.1) = true := wAt_mk (ch_2 (q := 46) rfl) rfl
theorem wd_405 : wAt 405 (.fieldLink RX6 17 (RXc 6) (TXc 6 2).2.1 (TXc 6 2).2.2.1) = true := wAt_mk (ch_2 (q := 48) rfl) rfl
theorem wd_407 : wAt 407 (.fieldLink RX6 30 (RXc 6) (TXc 6 3).2.1 (TXc 6 3).2.2.1) = true := wAt_mk (ch_2 (q := 50) rfl) rfl
theorem wd_408 : wAt 408 (.fieldLink RX6 34 (RXc 6) (TXc 6 4).2.1 (TXc 6 4).2.2.1) = true := wAt_mk (ch_2 (q := 51) rfl) rfl
theorem wd_409 : wAt 409 (.fieldLink RX6 23 (RXc 6) (TXc 6 5).2.1 (TXc 6 5).2.2.1) = true := wAt_mk (ch_2 (q := 52) rfl) rfl
theorem wd_410 : wAt 410 (.fieldLink RX6 26 (RXc 6) (TXc 6 6).2.1 (TXc 6 6).2.2.1) = true := wAt_mk (ch_2 (q := 53) rfl) rfl
theorem wd_427 : wAt 427 (.methodLink RX9 62 yX4_init) = true := wAt_mk (ch_2 (q := 70) rfl) rfl
theorem wd_428 : wAt 428 (.fieldLink RX9 15 (RXc 9) (TXc 9 0).2.1 (TXc 9 0).2.2.1) = true := wAt_mk (ch_2 (q := 71) rfl) rfl
theorem wd_429 : wAt 429 (.fieldLink RX9 22 (RXc 9) (TXc 9 1).2.1 (TXc 9 1).2.2.1) = true := wAt_mk (ch_2 (q := 72) rfl) rfl
theorem wd_430 : wAt 430 (.fieldLink RX9 36 (RXc 9) (TXc 9 2).2.1 (TXc 9 2).2.2.1) = true := wAt_mk (ch_2 (q := 73) rfl) rfl
theorem wd_431 : wAt 431 (.fieldLink RX9 40 (RXc 9) (TXc 9 3).2.1 (TXc 9 3).2.2.1) = true := wAt_mk (ch_2 (q := 74) rfl) rfl
theorem wd_432 : wAt 432 (.fieldLink RX9 47 (RXc 9) (TXc 9 4).2.1 (TXc 9 4).2.2.1) = true := wAt_mk (ch_2 (q := 75) rfl) rfl
theorem wd_433 : wAt 433 (.fieldLink RX9 56 (RXc 9) (TXc 9 5).2.1 (TXc 9 5).2.2.1) = true := wAt_mk (ch_2 (q := 76) rfl) rfl
theorem wd_434 : wAt 434 (.fieldLink RX9 65 (RXc 9) (TXc 9 6).2.1 (TXc 9 6).2.2.1) = true := wAt_mk (ch_2 (q := 77) rfl) rfl
theorem wd_435 : wAt 435 (.fieldLink RX9 69 (RXc 9) (TXc 9 7).2.1 (TXc 9 7).2.2.1) = true := wAt_mk (ch_2 (q := 78) rfl) rfl
theorem wd_436 : wAt 436 (.fieldLink RX9 72 (RXc 9) (TXc 9 8).2.1 (TXc 9 8).2.2.1) = true := wAt_mk (ch_2 (q := 79) rfl) rfl
theorem wd_437 : wAt 437 (.fieldLink RX9 76 (RXc 9) (TXc 9 9).2.1 (TXc 9 9).2.2.1) = true := wAt_mk (ch_2 (q := 80) rfl) rfl
theorem wd_438 : wAt 438 (.fieldLink RX9 79 (RXc 9) (TXc 9 10).2.1 (TXc 9 10).2.2.1) = true := wAt_mk (ch_2 (q := 81) rfl) rfl
theorem wd_439 : wAt 439 (.fieldLink RX9 251 (RXc 9) (TXc 9 11).2.1 (TXc 9 11).2.2.1) = true := wAt_mk (ch_2 (q := 82) rfl) rfl
theorem wd_440 : wAt 440 (.fieldLink RX9 83 (RXc 9) (TXc 9 12).2.1 (TXc 9 12).2.2.1) = true := wAt_mk (ch_2 (q := 83) rfl) rfl
theorem wd_441 : wAt 441 (.fieldLink RX9 86 (RXc 9) (TXc 9 13).2.1 (TXc 9 13).2.2.1) = true := wAt_mk (ch_2 (q := 84) rfl) rfl
theorem wd_442 : wAt 442 (.fieldLink RX9 132 (RXc 9) (TXc 9 14).2.1 (TXc 9 14).2.2.1) = true := wAt_mk (ch_2 (q := 85) rfl) rfl
theorem wd_443 : wAt 443 (.fieldLink RX9 89 (RXc 9) (TXc 9 15).2.1 (TXc 9 15).2.2.1) = true := wAt_mk (ch_2 (q := 86) rfl) rfl
theorem wd_481 : wAt 481 (.methodLink RX9 93 yX5_hasSpace) = true := wAt_mk (ch_2 (q := 124) rfl) rfl
theorem wd_482 : wAt 482 (.instanceMethod yX5_hasSpace) = true := wAt_mk (ch_2 (q := 125) rfl) rfl
theorem wd_483 : wAt 483 (.selects (RXc 5) yX5_hasSpace yX5_hasSpace) = true := wAt_mk (ch_2 (q := 126) rfl) rfl
theorem wd_484 : wAt 484 (.code yX5_hasSpace cX5_hasSpace 2 (some .boolean)) = true := wAt_mk (ch_2 (q := 127) rfl) rfl
theorem wd_485 : wAt 485 (.methodLink RX9 97 yX9_refuse) = true := wAt_mk (ch_2 (q := 128) rfl) rfl
theorem wd_487 : wAt 487 (.instanceMethod yX9_refuse) = true := wAt_mk (ch_2 (q := 130) rfl) rfl
theorem wd_488 : wAt 488 (.code yX9_refuse cX9_refuse 2 (some .int)) = true := wAt_mk (ch_2 (q := 131) rfl) rfl
theorem wd_489 : wAt 489 (.methodLink RX9 101 yX5_addWord) = true := wAt_mk (ch_2 (q := 132) rfl) rfl
theorem wd_490 : wAt 490 (.instanceMethod yX5_addWord) = true := wAt_mk (ch_2 (q := 133) rfl) rfl
theorem wd_491 : wAt 491 (.selects (RXc 5) yX5_addWord yX5_addWord) = true := wAt_mk (ch_2 (q := 134) rfl) rfl
theorem wd_492 : wAt 492 (.code yX5_addWord cX5_addWord 3 none) = true := wAt_mk (ch_2 (q := 135) rfl) rfl
theorem wd_497 : wAt 497 (.methodLink RX9 108 yX5_cut) = true := wAt_mk (ch_2 (q := 140) rfl) rfl
theorem wd_498 : wAt 498 (.instanceMethod yX5_cut) = true := wAt_mk (ch_2 (q := 141) rfl) rfl
theorem wd_499 : wAt 499 (.selects (RXc 5) yX5_cut yX5_cut) = true := wAt_mk (ch_2 (q := 142) rfl) rfl
theorem wd_500 : wAt 500 (.code yX5_cut cX5_cut 2 (some .boolean)) = true := wAt_mk (ch_2 (q := 143) rfl) rfl
theorem wd_501 : wAt 501 (.methodLink RX9 111 yX9_refuseFlatly) = true := wAt_mk (ch_2 (q := 144) rfl) rfl
theorem wd_503 : wAt 503 (.instanceMethod yX9_refuseFlatly) = true := wAt_mk (ch_2 (q := 146) rfl) rfl
theorem wd_504 : wAt 504 (.code yX9_refuseFlatly cX9_refuseFlatly 2 (some .boolean)) = true := wAt_mk (ch_2 (q := 147) rfl) rfl
theorem wd_509 : wAt 509 (.methodLink RX9 114 yX3_readTrees) = true := wAt_mk (ch_2 (q := 152) rfl) rfl
theorem wd_510 : wAt 510 (.instanceMethod yX3_readTrees) = true := wAt_mk (ch_2 (q := 153) rfl) rfl
theorem wd_511 : wAt 511 (.selects (RXc 3) yX3_readTrees yX3_readTrees) = true := wAt_mk (ch_2 (q := 154) rfl) rfl
theorem wd_512 : wAt 512 (.code yX3_readTrees cX3_readTrees 5 (some .boolean)) = true := wAt_mk (ch_2 (q := 155) rfl) rfl
theorem wd_513 : wAt 513 (.methodLink RX3 22 yX2_clear) = true := wAt_mk (ch_2 (q := 156) rfl) rfl
theorem wd_514 : wAt 514 (.instanceMethod yX2_clear) = true := wAt_mk (ch_2 (q := 157) rfl) rfl
theorem wd_515 : wAt 515 (.selects (RXc 2) yX2_clear yX2_clear) = true := wAt_mk (ch_2 (q := 158) rfl) rfl
theorem wd_516 : wAt 516 (.code yX2_clear cX2_clear 1 none) = true := wAt_mk (ch_2 (q := 159) rfl) rfl
theorem wd_517 : wAt 517 (.methodLink RX3 41 yX3_skipBlanks) = true := wAt_mk (ch_2 (q := 160) rfl) rfl
theorem wd_519 : wAt 519 (.instanceMethod yX3_skipBlanks) = true := wAt_mk (ch_2 (q := 162) rfl) rfl
theorem wd_520 : wAt 520 (.code yX3_skipBlanks cX3_skipBlanks 2 none) = true := wAt_mk (ch_2 (q := 163) rfl) rfl
theorem wd_521 : wAt 521 (.methodLink RX3 45 yX5_at) = true := wAt_mk (ch_2 (q := 164) rfl) rfl
theorem wd_522 : wAt 522 (.instanceMethod yX5_at) = true := wAt_mk (ch_2 (q := 165) rfl) rfl
theorem wd_523 : wAt 523 (.selects (RXc 5) yX5_at yX5_at) = true := wAt_mk (ch_2 (q := 166) rfl) rfl
theorem wd_524 : wAt 524 (.code yX5_at cX5_at 2 (some .int)) = true := wAt_mk (ch_2 (q := 167) rfl) rfl
theorem wd_525 : wAt 525 (.methodLink RX3 51 yX3_readInside) = true := wAt_mk (ch_2 (q := 168) rfl) rfl
theorem wd_527 : wAt 527 (.instanceMethod yX3_readInside) = true := wAt_mk (ch_2 (q := 170) rfl) rfl
theorem wd_528 : wAt 528 (.code yX3_readInside cX3_readInside 3 (some .boolean)) = true := wAt_mk (ch_2 (q := 171) rfl) rfl
theorem wd_529 : wAt 529 (.methodLink RX3 82 yX2_parentOf) = true := wAt_mk (ch_2 (q := 172) rfl) rfl
theorem wd_530 : wAt 530 (.instanceMethod yX2_parentOf) = true := wAt_mk (ch_2 (q := 173) rfl) rfl
theorem wd_531 : wAt 531 (.selects (RXc 2) yX2_parentOf yX2_parentOf) = true := wAt_mk (ch_2 (q := 174) rfl) rfl
theorem wd_532 : wAt 532 (.code yX2_parentOf cX2_parentOf 2 (some .int)) = true := wAt_mk (ch_2 (q := 175) rfl) rfl
theorem wd_533 : wAt 533 (.methodLink RX2 40 yX2_exists) = true := wAt_mk (ch_2 (q := 176) rfl) rfl
theorem wd_534 : wAt 534 (.instanceMethod yX2_exists) = true := wAt_mk (ch_2 (q := 177) rfl) rfl
theorem wd_535 : wAt 535 (.selects (RXc 2) yX2_exists yX2_exists) = true := wAt_mk (ch_2 (q := 178) rfl) rfl
theorem wd_536 : wAt 536 (.code yX2_exists cX2_exists 2 (some .boolean)) = true := wAt_mk (ch_2 (q := 179) rfl) rfl
theorem wd_538 : wAt 538 (.static yX9_isLetter) = true := wAt_mk (ch_2 (q := 181) rfl) rfl
theorem wd_539 : wAt 539 (.code yX9_isLetter cX9_isLetter 1 (some .boolean)) = true := wAt_mk (ch_2 (q := 182) rfl) rfl
theorem wd_540 : wAt 540 (.methodLink RX3 85 yX3_readItem) = true := wAt_mk (ch_2 (q := 183) rfl) rfl
theorem wd_542 : wAt 542 (.instanceMethod yX3_readItem) = true := wAt_mk (ch_2 (q := 185) rfl) rfl
theorem wd_543 : wAt 543 (.code yX3_readItem cX3_readItem 5 (some .boolean)) = true := wAt_mk (ch_2 (q := 186) rfl) rfl
theorem wd_544 : wAt 544 (.methodLink RX3 65 yX3_fail) = true := wAt_mk (ch_2 (q := 187) rfl) rfl
theorem wd_546 : wAt 546 (.instanceMethod yX3_fail) = true := wAt_mk (ch_2 (q := 189) rfl) rfl
theorem wd_547 : wAt 547 (.code yX3_fail cX3_fail 3 (some .boolean)) = true := wAt_mk (ch_2 (q := 190) rfl) rfl
theorem wd_549 : wAt 549 (.static yX9_nameBetween) = true := wAt_mk (ch_2 (q := 192) rfl) rfl
theorem wd_550 : wAt 550 (.code yX9_nameBetween cX9_nameBetween 7 (some .int)) = true := wAt_mk (ch_2 (q := 193) rfl) rfl
theorem wd_551 : wAt 551 (.methodLink RX9 406 yX5_at) = true := wAt_mk (ch_2 (q := 194) rfl) rfl
theorem wd_552 : wAt 552 (.methodLink RX9 409 yX9_isLetter) = true := wAt_mk (ch_2 (q := 195) rfl) rfl
theorem wd_553 : wAt 553 (.methodLink RX3 93 yX2_find) = true := wAt_mk (ch_2 (q := 196) rfl) rfl
theorem wd_554 : wAt 554 (.instanceMethod yX2_find) = true := wAt_mk (ch_2 (q := 197) rfl) rfl
theorem wd_555 : wAt 555 (.selects (RXc 2) yX2_find yX2_find) = true := wAt_mk (ch_2 (q := 198) rfl) rfl
theorem wd_556 : wAt 556 (.code yX2_find cX2_find 4 (some .int)) = true := wAt_mk (ch_2 (q := 199) rfl) rfl
theorem wd_557 : wAt 557 (.methodLink RX3 97 yX2_addIn) = true := wAt_mk (ch_2 (q := 200) rfl) rfl
theorem wd_558 : wAt 558 (.instanceMethod yX2_addIn) = true := wAt_mk (ch_2 (q := 201) rfl) rfl
theorem wd_559 : wAt 559 (.selects (RXc 2) yX2_addIn yX2_addIn) = true := wAt_mk (ch_2 (q := 202) rfl) rfl
theorem wd_560 : wAt 560 (.code yX2_addIn cX2_addIn 4 (some .int)) = true := wAt_mk (ch_2 (q := 203) rfl) rfl
theorem wd_561 : wAt 561 (.methodLink RX2 51 yX2_isFolder) = true := wAt_mk (ch_2 (q := 204) rfl) rfl
theorem wd_562 : wAt 562 (.instanceMethod yX2_isFolder) = true := wAt_mk (ch_2 (q := 205) rfl) rfl
theorem wd_563 : wAt 563 (.selects (RXc 2) yX2_isFolder yX2_isFolder) = true := wAt_mk (ch_2 (q := 206) rfl) rfl
theorem wd_564 : wAt 564 (.code yX2_isFolder cX2_isFolder 2 (some .boolean)) = true := wAt_mk (ch_2 (q := 207) rfl) rfl
theorem wd_565 : wAt 565 (.methodLink RX2 47 yX2_put) = true := wAt_mk (ch_2 (q := 208) rfl) rfl
theorem wd_567 : wAt 567 (.instanceMethod yX2_put) = true := wAt_mk (ch_2 (q := 210) rfl) rfl
theorem wd_568 : wAt 568 (.code yX2_put cX2_put 6 (some .int)) = true := wAt_mk (ch_2 (q := 211) rfl) rfl
theorem wd_569 : wAt 569 (.methodLink RX3 101 yX3_openFolder) = true := wAt_mk (ch_2 (q := 212) rfl) rfl
theorem wd_571 : wAt 571 (.instanceMethod yX3_openFolder) = true := wAt_mk (ch_2 (q := 214) rfl) rfl
theorem wd_572 : wAt 572 (.code yX3_openFolder cX3_openFolder 2 (some .boolean)) = true := wAt_mk (ch_2 (q := 215) rfl) rfl
theorem wd_573 : wAt 573 (.methodLink RX3 104 yX2_becomeFolder) = true := wAt_mk (ch_2 (q := 216) rfl) rfl
theorem wd_574 : wAt 574 (.instanceMethod yX2_becomeFolder) = true := wAt_mk (ch_2 (q := 217) rfl) rfl
theorem wd_575 : wAt 575 (.selects (RXc 2) yX2_becomeFolder yX2_becomeFolder) = true := wAt_mk (ch_2 (q := 218) rfl) rfl
theorem wd_576 : wAt 576 (.code yX2_becomeFolder cX2_becomeFolder 2 none) = true := wAt_mk (ch_2 (q := 219) rfl) rfl
theorem wd_577 : wAt 577 (.methodLink RX3 55 yX3_readOutside) = true := wAt_mk (ch_2 (q := 220) rfl) rfl
theorem wd_579 : wAt 579 (.instanceMethod yX3_readOutside) = true := wAt_mk (ch_2 (q := 222) rfl) rfl
theorem wd_580 : wAt 580 (.code yX3_readOutside cX3_readOutside 2 (some .boolean)) = true := wAt_mk (ch_2 (q := 223) rfl) rfl
theorem wd_581 : wAt 581 (.methodLink RX3 75 yX2_addVolume) = true := wAt_mk (ch_2 (q := 224) rfl) rfl
theorem wd_582 : wAt 582 (.instanceMethod yX2_addVolume) = true := wAt_mk (ch_2 (q := 225) rfl) rfl
theorem wd_583 : wAt 583 (.selects (RXc 2) yX2_addVolume yX2_addVolume) = true := wAt_mk (ch_2 (q := 226) rfl) rfl
theorem wd_584 : wAt 584 (.code yX2_addVolume cX2_addVolume 1 (some .boolean)) = true := wAt_mk (ch_2 (q := 227) rfl) rfl
theorem wd_585 : wAt 585 (.methodLink RX3 79 yX2_rootOf) = true := wAt_mk (ch_2 (q := 228) rfl) rfl
theorem wd_586 : wAt 586 (.instanceMethod yX2_rootOf) = true := wAt_mk (ch_2 (q := 229) rfl) rfl
theorem wd_587 : wAt 587 (.selects (RXc 2) yX2_rootOf yX2_rootOf) = true := wAt_mk (ch_2 (q := 230) rfl) rfl
theorem wd_588 : wAt 588 (.code yX2_rootOf cX2_rootOf 2 (some .int)) = true := wAt_mk (ch_2 (q := 231) rfl) rfl
theorem wd_589 : wAt 589 (.methodLink RX2 44 yX2_hasVolume) = true := wAt_mk (ch_2 (q := 232) rfl) rfl
theorem wd_590 : wAt 590 (.instanceMethod yX2_hasVolume) = true := wAt_mk (ch_2 (q := 233) rfl) rfl
theorem wd_591 : wAt 591 (.selects (RXc 2) yX2_hasVolume yX2_hasVolume) = true := wAt_mk (ch_2 (q := 234) rfl) rfl
theorem wd_592 : wAt 592 (.code yX2_hasVolume cX2_hasVolume 2 (some .boolean)) = true := wAt_mk (ch_2 (q := 235) rfl) rfl
theorem wd_593 : wAt 593 (.methodLink RX9 118 yX5_clear) = true := wAt_mk (ch_2 (q := 236) rfl) rfl
theorem wd_594 : wAt 594 (.instanceMethod yX5_clear) = true := wAt_mk (ch_2 (q := 237) rfl) rfl
theorem wd_595 : wAt 595 (.selects (RXc 5) yX5_clear yX5_clear) = true := wAt_mk (ch_2 (q := 238) rfl) rfl
theorem wd_596 : wAt 596 (.code yX5_clear cX5_clear 1 none) = true := wAt_mk (ch_2 (q := 239) rfl) rfl
theorem wd_597 : wAt 597 (.methodLink RX9 125 yX8_startWith) = true := wAt_mk (ch_3 (q := 0) rfl) rfl
theorem wd_598 : wAt 598 (.instanceMethod yX8_startWith) = true := wAt_mk (ch_3 (q := 1) rfl) rfl
theorem wd_599 : wAt 599 (.selects (RXc 8) yX8_startWith yX8_startWith) = true := wAt_mk (ch_3 (q := 2) rfl) rfl
theorem wd_600 : wAt 600 (.code yX8_startWith cX8_startWith 3 none) = true := wAt_mk (ch_3 (q := 3) rfl) rfl
theorem wd_601 : wAt 601 (.methodLink RX8 36 yX2_copyFrom) = true := wAt_mk (ch_3 (q := 4) rfl) rfl
theorem wd_602 : wAt 602 (.instanceMethod yX2_copyFrom) = true := wAt_mk (ch_3 (q := 5) rfl) rfl
theorem wd_603 : wAt 603 (.selects (RXc 2) yX2_copyFrom yX2_copyFrom) = true := wAt_mk (ch_3 (q := 6) rfl) rfl
theorem wd_604 : wAt 604 (.code yX2_copyFrom cX2_copyFrom 2 none) = true := wAt_mk (ch_3 (q := 7) rfl) rfl
theorem wd_608 : wAt 608 (.methodLink RX8 56 yX1_startAnew) = true := wAt_mk (ch_3 (q := 11) rfl) rfl
theorem wd_609 : wAt 609 (.instanceMethod yX1_startAnew) = true := wAt_mk (ch_3 (q := 12) rfl) rfl
theorem wd_610 : wAt 610 (.selects (RXc 1) yX1_startAnew yX1_startAnew) = true := wAt_mk (ch_3 (q := 13) rfl) rfl
theorem wd_611 : wAt 611 (.code yX1_startAnew cX1_startAnew 1 none) = true := wAt_mk (ch_3 (q := 14) rfl) rfl
theorem wd_612 : wAt 612 (.methodLink RX1 71 yX2_rootOf) = true := wAt_mk (ch_3 (q := 15) rfl) rfl
theorem wd_613 : wAt 613 (.methodLink RX1 77 yX1_add) = true := wAt_mk (ch_3 (q := 16) rfl) rfl
theorem wd_615 : wAt 615 (.instanceMethod yX1_add) = true := wAt_mk (ch_3 (q := 18) rfl) rfl
theorem wd_616 : wAt 616 (.code yX1_add cX1_add 5 (some .int)) = true := wAt_mk (ch_3 (q := 19) rfl) rfl
theorem wd_617 : wAt 617 (.methodLink RX1 100 yX1_leastUnused) = true := wAt_mk (ch_3 (q := 20) rfl) rfl
theorem wd_619 : wAt 619 (.instanceMethod yX1_leastUnused) = true := wAt_mk (ch_3 (q := 22) rfl) rfl
theorem wd_620 : wAt 620 (.code yX1_leastUnused cX1_leastUnused 2 (some .int)) = true := wAt_mk (ch_3 (q := 23) rfl) rfl
theorem wd_621 : wAt 621 (.methodLink RX1 104 yX1_hold) = true := wAt_mk (ch_3 (q := 24) rfl) rfl
theorem wd_622 : wAt 622 (.instanceMethod yX1_hold) = true := wAt_mk (ch_3 (q := 25) rfl) rfl
theorem wd_623 : wAt 623 (.selects (RXc 1) yX1_hold yX1_hold) = true := wAt_mk (ch_3 (q := 26) rfl) rfl
theorem wd_624 : wAt 624 (.code yX1_hold cX1_hold 2 none) = true := wAt_mk (ch_3 (q := 27) rfl) rfl
theorem wd_625 : wAt 625 (.methodLink RX1 108 yX1_comeTo) = true := wAt_mk (ch_3 (q := 28) rfl) rfl
theorem wd_627 : wAt 627 (.instanceMethod yX1_comeTo) = true := wAt_mk (ch_3 (q := 30) rfl) rfl
theorem wd_628 : wAt 628 (.code yX1_comeTo cX1_comeTo 2 none) = true := wAt_mk (ch_3 (q := 31) rfl) rfl
theorem wd_629 : wAt 629 (.methodLink RX9 128 yX0_forget) = true := wAt_mk (ch_3 (q := 32) rfl) rfl
theorem wd_630 : wAt 630 (.instanceMethod yX0_forget) = true := wAt_mk (ch_3 (q := 33) rfl) rfl
theorem wd_631 : wAt 631 (.selects (RXc 0) yX0_forget yX0_forget) = true := wAt_mk (ch_3 (q := 34) rfl) rfl
theorem wd_632 : wAt 632 (.code yX0_forget cX0_forget 1 none) = true := wAt_mk (ch_3 (q := 35) rfl) rfl
theorem wd_633 : wAt 633 (.methodLink RX9 131 yX6_forget) = true := wAt_mk (ch_3 (q := 36) rfl) rfl
theorem wd_634 : wAt 634 (.instanceMethod yX6_forget) = true := wAt_mk (ch_3 (q := 37) rfl) rfl
theorem wd_635 : wAt 635 (.selects (RXc 6) yX6_forget yX6_forget) = true := wAt_mk (ch_3 (q := 38) rfl) rfl
theorem wd_636 : wAt 636 (.code yX6_forget cX6_forget 1 none) = true := wAt_mk (ch_3 (q := 39) rfl) rfl
theorem wd_645 : wAt 645 (.methodLink RX9 151 yX2_howMany) = true := wAt_mk (ch_3 (q := 48) rfl) rfl
theorem wd_646 : wAt 646 (.instanceMethod yX2_howMany) = true := wAt_mk (ch_3 (q := 49) rfl) rfl
theorem wd_647 : wAt 647 (.selects (RXc 2) yX2_howMany yX2_howMany) = true := wAt_mk (ch_3 (q := 50) rfl) rfl
theorem wd_648 : wAt 648 (.code yX2_howMany cX2_howMany 3 (some .int)) = true := wAt_mk (ch_3 (q := 51) rfl) rfl
theorem wd_649 : wAt 649 (.methodLink RX9 155 yX1_howMany) = true := wAt_mk (ch_3 (q := 52) rfl) rfl
theorem wd_650 : wAt 650 (.instanceMethod yX1_howMany) = true := wAt_mk (ch_3 (q := 53) rfl) rfl
theorem wd_651 : wAt 651 (.selects (RXc 1) yX1_howMany yX1_howMany) = true := wAt_mk (ch_3 (q := 54) rfl) rfl
theorem wd_652 : wAt 652 (.code yX1_howMany cX1_howMany 3 (some .int)) = true := wAt_mk (ch_3 (q := 55) rfl) rfl
theorem wd_653 : wAt 653 (.methodLink RX9 156 yX1_absences) = true := wAt_mk (ch_3 (q := 56) rfl) rfl
theorem wd_654 : wAt 654 (.instanceMethod yX1_absences) = true := wAt_mk (ch_3 (q := 57) rfl) rfl
theorem wd_655 : wAt 655 (.selects (RXc 1) yX1_absences yX1_absences) = true := wAt_mk (ch_3 (q := 58) rfl) rfl
theorem wd_656 : wAt 656 (.code yX1_absences cX1_absences 3 (some .int)) = true := wAt_mk (ch_3 (q := 59) rfl) rfl
theorem wd_657 : wAt 657 (.methodLink RX1 152 yX1_isAbsence) = true := wAt_mk (ch_3 (q := 60) rfl) rfl
theorem wd_658 : wAt 658 (.instanceMethod yX1_isAbsence) = true := wAt_mk (ch_3 (q := 61) rfl) rfl
theorem wd_659 : wAt 659 (.selects (RXc 1) yX1_isAbsence yX1_isAbsence) = true := wAt_mk (ch_3 (q := 62) rfl) rfl
theorem wd_660 : wAt 660 (.code yX1_isAbsence cX1_isAbsence 2 (some .boolean)) = true := wAt_mk (ch_3 (q := 63) rfl) rfl
theorem wd_661 : wAt 661 (.methodLink RX1 87 yX1_isEntry) = true := wAt_mk (ch_3 (q := 64) rfl) rfl
theorem wd_662 : wAt 662 (.instanceMethod yX1_isEntry) = true := wAt_mk (ch_3 (q := 65) rfl) rfl
theorem wd_663 : wAt 663 (.selects (RXc 1) yX1_isEntry yX1_isEntry) = true := wAt_mk (ch_3 (q := 66) rfl) rfl
theorem wd_664 : wAt 664 (.code yX1_isEntry cX1_isEntry 2 (some .boolean)) = true := wAt_mk (ch_3 (q := 67) rfl) rfl
theorem wd_665 : wAt 665 (.methodLink RX9 159 yX1_freeOnes) = true := wAt_mk (ch_3 (q := 68) rfl) rfl
theorem wd_666 : wAt 666 (.instanceMethod yX1_freeOnes) = true := wAt_mk (ch_3 (q := 69) rfl) rfl
theorem wd_667 : wAt 667 (.selects (RXc 1) yX1_freeOnes yX1_freeOnes) = true := wAt_mk (ch_3 (q := 70) rfl) rfl
theorem wd_668 : wAt 668 (.code yX1_freeOnes cX1_freeOnes 3 (some .int)) = true := wAt_mk (ch_3 (q := 71) rfl) rfl
theorem wd_669 : wAt 669 (.methodLink RX9 174 yX8_handlesOpen) = true := wAt_mk (ch_3 (q := 72) rfl) rfl
theorem wd_670 : wAt 670 (.instanceMethod yX8_handlesOpen) = true := wAt_mk (ch_3 (q := 73) rfl) rfl
theorem wd_671 : wAt 671 (.selects (RXc 8) yX8_handlesOpen yX8_handlesOpen) = true := wAt_mk (ch_3 (q := 74) rfl) rfl
theorem wd_672 : wAt 672 (.code yX8_handlesOpen cX8_handlesOpen 3 (some .int)) = true := wAt_mk (ch_3 (q := 75) rfl) rfl
theorem wd_673 : wAt 673 (.methodLink RX9 177 yX8_walkersUnderWay) = true := wAt_mk (ch_3 (q := 76) rfl) rfl
theorem wd_674 : wAt 674 (.instanceMethod yX8_walkersUnderWay) = true := wAt_mk (ch_3 (q := 77) rfl) rfl
theorem wd_675 : wAt 675 (.selects (RXc 8) yX8_walkersUnderWay yX8_walkersUnderWay) = true := wAt_mk (ch_3 (q := 78) rfl) rfl
theorem wd_676 : wAt 676 (.code yX8_walkersUnderWay cX8_walkersUnderWay 3 (some .int)) = true := wAt_mk (ch_3 (q := 79) rfl) rfl
theorem wd_677 : wAt 677 (.methodLink RX8 84 yX8_walkerAt) = true := wAt_mk (ch_3 (q := 80) rfl) rfl
theorem wd_678 : wAt 678 (.instanceMethod yX8_walkerAt) = true := wAt_mk (ch_3 (q := 81) rfl) rfl
theorem wd_679 : wAt 679 (.selects (RXc 8) yX8_walkerAt yX8_walkerAt) = true := wAt_mk (ch_3 (q := 82) rfl) rfl
theorem wd_680 : wAt 680 (.code yX8_walkerAt cX8_walkerAt 2 (some (.object "NameKeeper$Walker"))) = true := wAt_mk (ch_3 (q := 83) rfl) rfl
theorem wd_681 : wAt 681 (.methodLink RX9 180 yX1_mountedBits) = true := wAt_mk (ch_3 (q := 84) rfl) rfl
theorem wd_682 : wAt 682 (.instanceMethod yX1_mountedBits) = true := wAt_mk (ch_3 (q := 85) rfl) rfl
theorem wd_683 : wAt 683 (.selects (RXc 1) yX1_mountedBits yX1_mountedBits) = true := wAt_mk (ch_3 (q := 86) rfl) rfl
theorem wd_684 : wAt 684 (.code yX1_mountedBits cX1_mountedBits 3 (some .int)) = true := wAt_mk (ch_3 (q := 87) rfl) rfl
theorem wd_685 : wAt 685 (.methodLink RX9 188 yX1_goneOnes) = true := wAt_mk (ch_3 (q := 88) rfl) rfl
theorem wd_686 : wAt 686 (.instanceMethod yX1_goneOnes) = true := wAt_mk (ch_3 (q := 89) rfl) rfl
theorem wd_687 : wAt 687 (.selects (RXc 1) yX1_goneOnes yX1_goneOnes) = true := wAt_mk (ch_3 (q := 90) rfl) rfl
theorem wd_688 : wAt 688 (.code yX1_goneOnes cX1_goneOnes 3 (some .int)) = true := wAt_mk (ch_3 (q := 91) rfl) rfl
theorem wd_689 : wAt 689 (.methodLink RX1 177 yX1_isGone) = true := wAt_mk (ch_3 (q := 92) rfl) rfl
theorem wd_690 : wAt 690 (.instanceMethod yX1_isGone) = true := wAt_mk (ch_3 (q := 93) rfl) rfl
theorem wd_691 : wAt 691 (.selects (RXc 1) yX1_isGone yX1_isGone) = true := wAt_mk (ch_3 (q := 94) rfl) rfl
theorem wd_692 : wAt 692 (.code yX1_isGone cX1_isGone 2 (some .boolean)) = true := wAt_mk (ch_3 (q := 95) rfl) rfl
theorem wd_697 : wAt 697 (.methodLink RX9 191 yX2_tell) = true := wAt_mk (ch_3 (q := 100) rfl) rfl
theorem wd_698 : wAt 698 (.instanceMethod yX2_tell) = true := wAt_mk (ch_3 (q := 101) rfl) rfl
theorem wd_699 : wAt 699 (.selects (RXc 2) yX2_tell yX2_tell) = true := wAt_mk (ch_3 (q := 102) rfl) rfl
theorem wd_700 : wAt 700 (.code yX2_tell cX2_tell 3 (some .int)) = true := wAt_mk (ch_3 (q := 103) rfl) rfl
theorem wd_701 : wAt 701 (.methodLink RX2 54 yX2_howManyIn) = true := wAt_mk (ch_3 (q := 104) rfl) rfl
theorem wd_702 : wAt 702 (.instanceMethod yX2_howManyIn) = true := wAt_mk (ch_3 (q := 105) rfl) rfl
theorem wd_703 : wAt 703 (.selects (RXc 2) yX2_howManyIn yX2_howManyIn) = true := wAt_mk (ch_3 (q := 106) rfl) rfl
theorem wd_704 : wAt 704 (.code yX2_howManyIn cX2_howManyIn 4 (some .int)) = true := wAt_mk (ch_3 (q := 107) rfl) rfl
theorem wd_709 : wAt 709 (.methodLink RX9 195 yX1_isEntry) = true := wAt_mk (ch_3 (q := 112) rfl) rfl
theorem wd_710 : wAt 710 (.methodLink RX9 198 yX2_exists) = true := wAt_mk (ch_3 (q := 113) rfl) rfl
theorem wd_711 : wAt 711 (.methodLink RX9 201 yX1_nameOf) = true := wAt_mk (ch_3 (q := 114) rfl) rfl
theorem wd_712 : wAt 712 (.instanceMethod yX1_nameOf) = true := wAt_mk (ch_3 (q := 115) rfl) rfl
theorem wd_713 : wAt 713 (.selects (RXc 1) yX1_nameOf yX1_nameOf) = true := wAt_mk (ch_3 (q := 116) rfl) rfl
theorem wd_714 : wAt 714 (.code yX1_nameOf cX1_nameOf 2 (some .int)) = true := wAt_mk (ch_3 (q := 117) rfl) rfl
theorem wd_715 : wAt 715 (.methodLink RX9 204 yX2_nameOf) = true := wAt_mk (ch_3 (q := 118) rfl) rfl
theorem wd_716 : wAt 716 (.instanceMethod yX2_nameOf) = true := wAt_mk (ch_3 (q := 119) rfl) rfl
theorem wd_717 : wAt 717 (.selects (RXc 2) yX2_nameOf yX2_nameOf) = true := wAt_mk (ch_3 (q := 120) rfl) rfl
theorem wd_718 : wAt 718 (.code yX2_nameOf cX2_nameOf 2 (some .int)) = true := wAt_mk (ch_3 (q := 121) rfl) rfl
theorem wd_719 : wAt 719 (.methodLink RX9 205 yX9_letterOf) = true := wAt_mk (ch_3 (q := 122) rfl) rfl
theorem wd_720 : wAt 720 (.static yX9_letterOf) = true := wAt_mk (ch_3 (q := 123) rfl) rfl
theorem wd_721 : wAt 721 (.code yX9_letterOf cX9_letterOf 2 (some .int)) = true := wAt_mk (ch_3 (q := 124) rfl) rfl
theorem wd_726 : wAt 726 (.methodLink RX9 208 yX1_tell) = true := wAt_mk (ch_3 (q := 129) rfl) rfl
theorem wd_727 : wAt 727 (.instanceMethod yX1_tell) = true := wAt_mk (ch_3 (q := 130) rfl) rfl
theorem wd_728 : wAt 728 (.selects (RXc 1) yX1_tell yX1_tell) = true := wAt_mk (ch_3 (q := 131) rfl) rfl
theorem wd_729 : wAt 729 (.code yX1_tell cX1_tell 3 (some .int)) = true := wAt_mk (ch_3 (q := 132) rfl) rfl
theorem wd_730 : wAt 730 (.methodLink RX1 97 yX1_coveringVolume) = true := wAt_mk (ch_3 (q := 133) rfl) rfl
theorem wd_731 : wAt 731 (.instanceMethod yX1_coveringVolume) = true := wAt_mk (ch_3 (q := 134) rfl) rfl
theorem wd_732 : wAt 732 (.selects (RXc 1) yX1_coveringVolume yX1_coveringVolume) = true := wAt_mk (ch_3 (q := 135) rfl) rfl
theorem wd_733 : wAt 733 (.code yX1_coveringVolume cX1_coveringVolume 3 (some .int)) = true := wAt_mk (ch_3 (q := 136) rfl) rfl
theorem wd_738 : wAt 738 (.methodLink RX9 209 yX9_nameBetween) = true := wAt_mk (ch_3 (q := 141) rfl) rfl
theorem wd_739 : wAt 739 (.methodLink RX9 213 yX1_find) = true := wAt_mk (ch_3 (q := 142) rfl) rfl
theorem wd_740 : wAt 740 (.instanceMethod yX1_find) = true := wAt_mk (ch_3 (q := 143) rfl) rfl
theorem wd_741 : wAt 741 (.selects (RXc 1) yX1_find yX1_find) = true := wAt_mk (ch_3 (q := 144) rfl) rfl
theorem wd_742 : wAt 742 (.code yX1_find cX1_find 4 (some .int)) = true := wAt_mk (ch_3 (q := 145) rfl) rfl
theorem wd_747 : wAt 747 (.methodLink RX9 216 yX8_walkerAt) = true := wAt_mk (ch_3 (q := 150) rfl) rfl
theorem wd_748 : wAt 748 (.methodLink RX9 220 yX7_tell) = true := wAt_mk (ch_3 (q := 151) rfl) rfl
theorem wd_749 : wAt 749 (.instanceMethod yX7_tell) = true := wAt_mk (ch_3 (q := 152) rfl) rfl
theorem wd_750 : wAt 750 (.selects (RXc 7) yX7_tell yX7_tell) = true := wAt_mk (ch_3 (q := 153) rfl) rfl
theorem wd_751 : wAt 751 (.code yX7_tell cX7_tell 2 (some .int)) = true := wAt_mk (ch_3 (q := 154) rfl) rfl
theorem wd_752 : wAt 752 (.methodLink RX7 77 yX7_lastOfWay) = true := wAt_mk (ch_3 (q := 155) rfl) rfl
theorem wd_754 : wAt 754 (.instanceMethod yX7_lastOfWay) = true := wAt_mk (ch_3 (q := 157) rfl) rfl
theorem wd_755 : wAt 755 (.code yX7_lastOfWay cX7_lastOfWay 1 (some .int)) = true := wAt_mk (ch_3 (q := 158) rfl) rfl
theorem wd_760 : wAt 760 (.methodLink RX9 224 yX8_handleAt) = true := wAt_mk (ch_3 (q := 163) rfl) rfl
theorem wd_761 : wAt 761 (.instanceMethod yX8_handleAt) = true := wAt_mk (ch_3 (q := 164) rfl) rfl
theorem wd_762 : wAt 762 (.selects (RXc 8) yX8_handleAt yX8_handleAt) = true := wAt_mk (ch_3 (q := 165) rfl) rfl
theorem wd_763 : wAt 763 (.code yX8_handleAt cX8_handleAt 2 (some .int)) = true := wAt_mk (ch_3 (q := 166) rfl) rfl
theorem wd_768 : wAt 768 (.methodLink RX9 227 yX9_takePaths) = true := wAt_mk (ch_3 (q := 171) rfl) rfl
theorem wd_770 : wAt 770 (.instanceMethod yX9_takePaths) = true := wAt_mk (ch_3 (q := 173) rfl) rfl
theorem wd_771 : wAt 771 (.code yX9_takePaths cX9_takePaths 2 (some .boolean)) = true := wAt_mk (ch_3 (q := 174) rfl) rfl
theorem wd_772 : wAt 772 (.methodLink RX9 350 yX9_takeRow) = true := wAt_mk (ch_3 (q := 175) rfl) rfl
theorem wd_774 : wAt 774 (.instanceMethod yX9_takeRow) = true := wAt_mk (ch_3 (q := 177) rfl) rfl
theorem wd_775 : wAt 775 (.code yX9_takeRow cX9_takeRow 2 (some .int)) = true := wAt_mk (ch_3 (q := 178) rfl) rfl
theorem wd_776 : wAt 776 (.methodLink RX9 237 yX9_hasTrees) = true := wAt_mk (ch_3 (q := 179) rfl) rfl
theorem wd_778 : wAt 778 (.instanceMethod yX9_hasTrees) = true := wAt_mk (ch_3 (q := 181) rfl) rfl
theorem wd_779 : wAt 779 (.code yX9_hasTrees cX9_hasTrees 1 (some .boolean)) = true := wAt_mk (ch_3 (q := 182) rfl) rfl
theorem wd_780 : wAt 780 (.methodLink RX9 379 yX9_readRow) = true := wAt_mk (ch_3 (q := 183) rfl) rfl
theorem wd_781 : wAt 781 (.static yX9_readRow) = true := wAt_mk (ch_3 (q := 184) rfl) rfl
theorem wd_782 : wAt 782 (.code yX9_readRow cX9_readRow 6 (some .int)) = true := wAt_mk (ch_3 (q := 185) rfl) rfl
theorem wd_783 : wAt 783 (.methodLink RX9 412 yX4_readFrom) = true := wAt_mk (ch_3 (q := 186) rfl) rfl
theorem wd_784 : wAt 784 (.instanceMethod yX4_readFrom) = true := wAt_mk (ch_3 (q := 187) rfl) rfl
theorem wd_785 : wAt 785 (.selects (RXc 4) yX4_readFrom yX4_readFrom) = true := wAt_mk (ch_3 (q := 188) rfl) rfl
theorem wd_786 : wAt 786 (.code yX4_readFrom cX4_readFrom 8 (some .boolean)) = true := wAt_mk (ch_3 (q := 189) rfl) rfl
theorem wd_787 : wAt 787 (.methodLink RX4 33 yX5_at) = true := wAt_mk (ch_3 (q := 190) rfl) rfl
theorem wd_788 : wAt 788 (.methodLink RX4 38 yX4_endOfStep) = true := wAt_mk (ch_3 (q := 191) rfl) rfl
theorem wd_789 : wAt 789 (.static yX4_endOfStep) = true := wAt_mk (ch_3 (q := 192) rfl) rfl
theorem wd_790 : wAt 790 (.code yX4_endOfStep cX4_endOfStep 4 (some .int)) = true := wAt_mk (ch_3 (q := 193) rfl) rfl
theorem wd_794 : wAt 794 (.methodLink RX4 29 yX4_push) = true := wAt_mk (ch_3 (q := 197) rfl) rfl
theorem wd_795 : wAt 795 (.instanceMethod yX4_push) = true := wAt_mk (ch_3 (q := 198) rfl) rfl
theorem wd_796 : wAt 796 (.selects (RXc 4) yX4_push yX4_push) = true := wAt_mk (ch_3 (q := 199) rfl) rfl
theorem wd_797 : wAt 797 (.code yX4_push cX4_push 2 (some .boolean)) = true := wAt_mk (ch_3 (q := 200) rfl) rfl
theorem wd_798 : wAt 798 (.methodLink RX9 230 yX9_tryOut) = true := wAt_mk (ch_3 (q := 201) rfl) rfl
theorem wd_800 : wAt 800 (.instanceMethod yX9_tryOut) = true := wAt_mk (ch_3 (q := 203) rfl) rfl
theorem wd_801 : wAt 801 (.code yX9_tryOut cX9_tryOut 2 (some .int)) = true := wAt_mk (ch_3 (q := 204) rfl) rfl
theorem wd_802 : wAt 802 (.methodLink RX9 241 yX1_copyFrom) = true := wAt_mk (ch_3 (q := 205) rfl) rfl
theorem wd_803 : wAt 803 (.instanceMethod yX1_copyFrom) = true := wAt_mk (ch_3 (q := 206) rfl) rfl
theorem wd_804 : wAt 804 (.selects (RXc 1) yX1_copyFrom yX1_copyFrom) = true := wAt_mk (ch_3 (q := 207) rfl) rfl
theorem wd_805 : wAt 805 (.code yX1_copyFrom cX1_copyFrom 2 none) = true := wAt_mk (ch_3 (q := 208) rfl) rfl
theorem wd_807 : wAt 807 (.methodLink RX9 270 yX1_walk) = true := wAt_mk (ch_3 (q := 210) rfl) rfl
theorem wd_808 : wAt 808 (.instanceMethod yX1_walk) = true := wAt_mk (ch_3 (q := 211) rfl) rfl
theorem wd_809 : wAt 809 (.selects (RXc 1) yX1_walk yX1_walk) = true := wAt_mk (ch_3 (q := 212) rfl) rfl
theorem wd_810 : wAt 810 (.code yX1_walk cX1_walk 5 (some .int)) = true := wAt_mk (ch_3 (q := 213) rfl) rfl
theorem wd_811 : wAt 811 (.methodLink RX1 131 yX1_comeToRoot) = true := wAt_mk (ch_3 (q := 214) rfl) rfl
theorem wd_812 : wAt 812 (.instanceMethod yX1_comeToRoot) = true := wAt_mk (ch_3 (q := 215) rfl) rfl
theorem wd_813 : wAt 813 (.selects (RXc 1) yX1_comeToRoot yX1_comeToRoot) = true := wAt_mk (ch_3 (q := 216) rfl) rfl
theorem wd_814 : wAt 814 (.code yX1_comeToRoot cX1_comeToRoot 1 (some .int)) = true := wAt_mk (ch_3 (q := 217) rfl) rfl
theorem wd_815 : wAt 815 (.methodLink RX1 134 yX4_stepAt) = true := wAt_mk (ch_3 (q := 218) rfl) rfl
theorem wd_816 : wAt 816 (.instanceMethod yX4_stepAt) = true := wAt_mk (ch_3 (q := 219) rfl) rfl
theorem wd_817 : wAt 817 (.selects (RXc 4) yX4_stepAt yX4_stepAt) = true := wAt_mk (ch_3 (q := 220) rfl) rfl
theorem wd_818 : wAt 818 (.code yX4_stepAt cX4_stepAt 2 (some .int)) = true := wAt_mk (ch_3 (q := 221) rfl) rfl
theorem wd_819 : wAt 819 (.methodLink RX1 139 yX1_stepFrom) = true := wAt_mk (ch_3 (q := 222) rfl) rfl
theorem wd_820 : wAt 820 (.instanceMethod yX1_stepFrom) = true := wAt_mk (ch_3 (q := 223) rfl) rfl
theorem wd_821 : wAt 821 (.selects (RXc 1) yX1_stepFrom yX1_stepFrom) = true := wAt_mk (ch_3 (q := 224) rfl) rfl
theorem wd_822 : wAt 822 (.code yX1_stepFrom cX1_stepFrom 5 (some .int)) = true := wAt_mk (ch_3 (q := 225) rfl) rfl
theorem wd_823 : wAt 823 (.methodLink RX1 142 yX1_stepUp) = true := wAt_mk (ch_3 (q := 226) rfl) rfl
theorem wd_825 : wAt 825 (.instanceMethod yX1_stepUp) = true := wAt_mk (ch_3 (q := 228) rfl) rfl
theorem wd_826 : wAt 826 (.code yX1_stepUp cX1_stepUp 4 (some .int)) = true := wAt_mk (ch_3 (q := 229) rfl) rfl
theorem wd_827 : wAt 827 (.methodLink RX1 94 yX1_rootVolume) = true := wAt_mk (ch_3 (q := 230) rfl) rfl
theorem wd_828 : wAt 828 (.instanceMethod yX1_rootVolume) = true := wAt_mk (ch_3 (q := 231) rfl) rfl
theorem wd_829 : wAt 829 (.selects (RXc 1) yX1_rootVolume yX1_rootVolume) = true := wAt_mk (ch_3 (q := 232) rfl) rfl
theorem wd_830 : wAt 830 (.code yX1_rootVolume cX1_rootVolume 3 (some .int)) = true := wAt_mk (ch_3 (q := 233) rfl) rfl
theorem wd_831 : wAt 831 (.methodLink RX1 149 yX1_coveredBy) = true := wAt_mk (ch_3 (q := 234) rfl) rfl
theorem wd_832 : wAt 832 (.instanceMethod yX1_coveredBy) = true := wAt_mk (ch_3 (q := 235) rfl) rfl
theorem wd_833 : wAt 833 (.selects (RXc 1) yX1_coveredBy yX1_coveredBy) = true := wAt_mk (ch_3 (q := 236) rfl) rfl
theorem wd_834 : wAt 834 (.code yX1_coveredBy cX1_coveredBy 2 (some .int)) = true := wAt_mk (ch_3 (q := 237) rfl) rfl
theorem wd_835 : wAt 835 (.methodLink RX1 145 yX1_isFolder) = true := wAt_mk (ch_3 (q := 238) rfl) rfl
theorem wd_836 : wAt 836 (.instanceMethod yX1_isFolder) = true := wAt_mk (ch_3 (q := 239) rfl) rfl
theorem wd_837 : wAt 837 (.selects (RXc 1) yX1_isFolder yX1_isFolder) = true := wAt_mk (ch_4 (q := 0) rfl) rfl
theorem wd_838 : wAt 838 (.code yX1_isFolder cX1_isFolder 2 (some .boolean)) = true := wAt_mk (ch_4 (q := 1) rfl) rfl
theorem wd_839 : wAt 839 (.methodLink RX1 91 yX2_isFolder) = true := wAt_mk (ch_4 (q := 2) rfl) rfl
theorem wd_840 : wAt 840 (.methodLink RX1 146 yX1_reach) = true := wAt_mk (ch_4 (q := 3) rfl) rfl
theorem wd_841 : wAt 841 (.instanceMethod yX1_reach) = true := wAt_mk (ch_4 (q := 4) rfl) rfl
theorem wd_842 : wAt 842 (.selects (RXc 1) yX1_reach yX1_reach) = true := wAt_mk (ch_4 (q := 5) rfl) rfl
theorem wd_843 : wAt 843 (.code yX1_reach cX1_reach 4 (some .int)) = true := wAt_mk (ch_4 (q := 6) rfl) rfl
theorem wd_844 : wAt 844 (.methodLink RX1 111 yX1_find) = true := wAt_mk (ch_4 (q := 7) rfl) rfl
theorem wd_845 : wAt 845 (.methodLink RX1 115 yX1_nodeOf) = true := wAt_mk (ch_4 (q := 8) rfl) rfl
theorem wd_846 : wAt 846 (.instanceMethod yX1_nodeOf) = true := wAt_mk (ch_4 (q := 9) rfl) rfl
theorem wd_847 : wAt 847 (.selects (RXc 1) yX1_nodeOf yX1_nodeOf) = true := wAt_mk (ch_4 (q := 10) rfl) rfl
theorem wd_848 : wAt 848 (.code yX1_nodeOf cX1_nodeOf 2 (some .int)) = true := wAt_mk (ch_4 (q := 11) rfl) rfl
theorem wd_849 : wAt 849 (.methodLink RX1 118 yX2_find) = true := wAt_mk (ch_4 (q := 12) rfl) rfl
theorem wd_850 : wAt 850 (.methodLink RX1 119 yX1_shrink) = true := wAt_mk (ch_4 (q := 13) rfl) rfl
theorem wd_852 : wAt 852 (.instanceMethod yX1_shrink) = true := wAt_mk (ch_4 (q := 15) rfl) rfl
theorem wd_853 : wAt 853 (.code yX1_shrink cX1_shrink 5 none) = true := wAt_mk (ch_4 (q := 16) rfl) rfl
theorem wd_854 : wAt 854 (.methodLink RX1 122 yX1_howManyButRoots) = true := wAt_mk (ch_4 (q := 17) rfl) rfl
theorem wd_856 : wAt 856 (.instanceMethod yX1_howManyButRoots) = true := wAt_mk (ch_4 (q := 19) rfl) rfl
theorem wd_857 : wAt 857 (.code yX1_howManyButRoots cX1_howManyButRoots 3 (some .int)) = true := wAt_mk (ch_4 (q := 20) rfl) rfl
theorem wd_858 : wAt 858 (.methodLink RX1 125 yX1_longestUnused) = true := wAt_mk (ch_4 (q := 21) rfl) rfl
theorem wd_859 : wAt 859 (.instanceMethod yX1_longestUnused) = true := wAt_mk (ch_4 (q := 22) rfl) rfl
theorem wd_860 : wAt 860 (.selects (RXc 1) yX1_longestUnused yX1_longestUnused) = true := wAt_mk (ch_4 (q := 23) rfl) rfl
theorem wd_861 : wAt 861 (.code yX1_longestUnused cX1_longestUnused 6 (some .int)) = true := wAt_mk (ch_4 (q := 24) rfl) rfl
theorem wd_862 : wAt 862 (.methodLink RX1 128 yX1_drop) = true := wAt_mk (ch_4 (q := 25) rfl) rfl
theorem wd_863 : wAt 863 (.instanceMethod yX1_drop) = true := wAt_mk (ch_4 (q := 26) rfl) rfl
theorem wd_864 : wAt 864 (.selects (RXc 1) yX1_drop yX1_drop) = true := wAt_mk (ch_4 (q := 27) rfl) rfl
theorem wd_865 : wAt 865 (.code yX1_drop cX1_drop 3 none) = true := wAt_mk (ch_4 (q := 28) rfl) rfl
theorem wd_866 : wAt 866 (.methodLink RX9 234 yX1_nodeOf) = true := wAt_mk (ch_4 (q := 29) rfl) rfl
theorem wd_875 : wAt 875 (.methodLink RX9 245 yX1_longestUnused) = true := wAt_mk (ch_4 (q := 38) rfl) rfl
theorem wd_876 : wAt 876 (.methodLink RX9 248 yX1_drop) = true := wAt_mk (ch_4 (q := 39) rfl) rfl
theorem wd_881 : wAt 881 (.methodLink RX9 254 yX1_isGone) = true := wAt_mk (ch_4 (q := 44) rfl) rfl
theorem wd_882 : wAt 882 (.methodLink RX9 257 yX8_routeTo) = true := wAt_mk (ch_4 (q := 45) rfl) rfl
theorem wd_883 : wAt 883 (.instanceMethod yX8_routeTo) = true := wAt_mk (ch_4 (q := 46) rfl) rfl
theorem wd_884 : wAt 884 (.selects (RXc 8) yX8_routeTo yX8_routeTo) = true := wAt_mk (ch_4 (q := 47) rfl) rfl
theorem wd_885 : wAt 885 (.code yX8_routeTo cX8_routeTo 6 none) = true := wAt_mk (ch_4 (q := 48) rfl) rfl
theorem wd_886 : wAt 886 (.methodLink RX8 161 yX4_clear) = true := wAt_mk (ch_4 (q := 49) rfl) rfl
theorem wd_887 : wAt 887 (.instanceMethod yX4_clear) = true := wAt_mk (ch_4 (q := 50) rfl) rfl
theorem wd_888 : wAt 888 (.selects (RXc 4) yX4_clear yX4_clear) = true := wAt_mk (ch_4 (q := 51) rfl) rfl
theorem wd_889 : wAt 889 (.code yX4_clear cX4_clear 1 none) = true := wAt_mk (ch_4 (q := 52) rfl) rfl
theorem wd_890 : wAt 890 (.methodLink RX8 152 yX2_exists) = true := wAt_mk (ch_4 (q := 53) rfl) rfl
theorem wd_891 : wAt 891 (.methodLink RX8 164 yX2_parentOf) = true := wAt_mk (ch_4 (q := 54) rfl) rfl
theorem wd_892 : wAt 892 (.methodLink RX8 143 yX2_volumeOf) = true := wAt_mk (ch_4 (q := 55) rfl) rfl
theorem wd_893 : wAt 893 (.instanceMethod yX2_volumeOf) = true := wAt_mk (ch_4 (q := 56) rfl) rfl
theorem wd_894 : wAt 894 (.selects (RXc 2) yX2_volumeOf yX2_volumeOf) = true := wAt_mk (ch_4 (q := 57) rfl) rfl
theorem wd_895 : wAt 895 (.code yX2_volumeOf cX2_volumeOf 2 (some .int)) = true := wAt_mk (ch_4 (q := 58) rfl) rfl
theorem wd_896 : wAt 896 (.methodLink RX8 167 yX1_coveredBy) = true := wAt_mk (ch_4 (q := 59) rfl) rfl
theorem wd_897 : wAt 897 (.methodLink RX8 115 yX1_nodeOf) = true := wAt_mk (ch_4 (q := 60) rfl) rfl
theorem wd_898 : wAt 898 (.methodLink RX8 170 yX2_nameOf) = true := wAt_mk (ch_4 (q := 61) rfl) rfl
theorem wd_899 : wAt 899 (.methodLink RX8 173 yX4_push) = true := wAt_mk (ch_4 (q := 62) rfl) rfl
theorem wd_900 : wAt 900 (.methodLink RX8 176 yX4_turnAround) = true := wAt_mk (ch_4 (q := 63) rfl) rfl
theorem wd_901 : wAt 901 (.instanceMethod yX4_turnAround) = true := wAt_mk (ch_4 (q := 64) rfl) rfl
theorem wd_902 : wAt 902 (.selects (RXc 4) yX4_turnAround yX4_turnAround) = true := wAt_mk (ch_4 (q := 65) rfl) rfl
theorem wd_903 : wAt 903 (.code yX4_turnAround cX4_turnAround 4 none) = true := wAt_mk (ch_4 (q := 66) rfl) rfl
theorem wd_904 : wAt 904 (.methodLink RX9 261 yX9_writeRoute) = true := wAt_mk (ch_4 (q := 67) rfl) rfl
theorem wd_906 : wAt 906 (.instanceMethod yX9_writeRoute) = true := wAt_mk (ch_4 (q := 69) rfl) rfl
theorem wd_907 : wAt 907 (.code yX9_writeRoute cX9_writeRoute 3 none) = true := wAt_mk (ch_4 (q := 70) rfl) rfl
theorem wd_908 : wAt 908 (.methodLink RX9 397 yX9_writeByte) = true := wAt_mk (ch_4 (q := 71) rfl) rfl
theorem wd_910 : wAt 910 (.instanceMethod yX9_writeByte) = true := wAt_mk (ch_4 (q := 73) rfl) rfl
theorem wd_911 : wAt 911 (.code yX9_writeByte cX9_writeByte 2 none) = true := wAt_mk (ch_4 (q := 74) rfl) rfl
theorem wd_912 : wAt 912 (.methodLink RX9 400 yX4_stepAt) = true := wAt_mk (ch_4 (q := 75) rfl) rfl
theorem wd_913 : wAt 913 (.methodLink RX9 403 yX9_writeName) = true := wAt_mk (ch_4 (q := 76) rfl) rfl
theorem wd_915 : wAt 915 (.instanceMethod yX9_writeName) = true := wAt_mk (ch_4 (q := 78) rfl) rfl
theorem wd_916 : wAt 916 (.code yX9_writeName cX9_writeName 4 none) = true := wAt_mk (ch_4 (q := 79) rfl) rfl
theorem wd_925 : wAt 925 (.methodLink RX9 265 yX0_keep) = true := wAt_mk (ch_4 (q := 88) rfl) rfl
theorem wd_926 : wAt 926 (.instanceMethod yX0_keep) = true := wAt_mk (ch_4 (q := 89) rfl) rfl
theorem wd_927 : wAt 927 (.selects (RXc 0) yX0_keep yX0_keep) = true := wAt_mk (ch_4 (q := 90) rfl) rfl
theorem wd_928 : wAt 928 (.code yX0_keep cX0_keep 4 none) = true := wAt_mk (ch_4 (q := 91) rfl) rfl
theorem wd_932 : wAt 932 (.methodLink RX0 29 yX1_init) = true := wAt_mk (ch_4 (q := 95) rfl) rfl
theorem wd_933 : wAt 933 (.methodLink RX0 32 yX8_init) = true := wAt_mk (ch_4 (q := 96) rfl) rfl
theorem wd_934 : wAt 934 (.methodLink RX0 35 yX8_copyFrom) = true := wAt_mk (ch_4 (q := 97) rfl) rfl
theorem wd_935 : wAt 935 (.instanceMethod yX8_copyFrom) = true := wAt_mk (ch_4 (q := 98) rfl) rfl
theorem wd_936 : wAt 936 (.selects (RXc 8) yX8_copyFrom yX8_copyFrom) = true := wAt_mk (ch_4 (q := 99) rfl) rfl
theorem wd_937 : wAt 937 (.code yX8_copyFrom cX8_copyFrom 3 none) = true := wAt_mk (ch_4 (q := 100) rfl) rfl
theorem wd_938 : wAt 938 (.methodLink RX8 42 yX1_copyFrom) = true := wAt_mk (ch_4 (q := 101) rfl) rfl
theorem wd_940 : wAt 940 (.methodLink RX8 53 yX7_copyFrom) = true := wAt_mk (ch_4 (q := 103) rfl) rfl
theorem wd_941 : wAt 941 (.instanceMethod yX7_copyFrom) = true := wAt_mk (ch_4 (q := 104) rfl) rfl
theorem wd_942 : wAt 942 (.selects (RXc 7) yX7_copyFrom yX7_copyFrom) = true := wAt_mk (ch_4 (q := 105) rfl) rfl
theorem wd_943 : wAt 943 (.code yX7_copyFrom cX7_copyFrom 2 none) = true := wAt_mk (ch_4 (q := 106) rfl) rfl
theorem wd_944 : wAt 944 (.methodLink RX7 30 yX4_copyFrom) = true := wAt_mk (ch_4 (q := 107) rfl) rfl
theorem wd_945 : wAt 945 (.instanceMethod yX4_copyFrom) = true := wAt_mk (ch_4 (q := 108) rfl) rfl
theorem wd_946 : wAt 946 (.selects (RXc 4) yX4_copyFrom yX4_copyFrom) = true := wAt_mk (ch_4 (q := 109) rfl) rfl
theorem wd_947 : wAt 947 (.code yX4_copyFrom cX4_copyFrom 3 none) = true := wAt_mk (ch_4 (q := 110) rfl) rfl
theorem wd_948 : wAt 948 (.methodLink RX4 25 yX4_stepAt) = true := wAt_mk (ch_4 (q := 111) rfl) rfl
theorem wd_957 : wAt 957 (.methodLink RX9 274 yX2_isFull) = true := wAt_mk (ch_4 (q := 120) rfl) rfl
theorem wd_958 : wAt 958 (.instanceMethod yX2_isFull) = true := wAt_mk (ch_4 (q := 121) rfl) rfl
theorem wd_959 : wAt 959 (.selects (RXc 2) yX2_isFull yX2_isFull) = true := wAt_mk (ch_4 (q := 122) rfl) rfl
theorem wd_960 : wAt 960 (.code yX2_isFull cX2_isFull 1 (some .boolean)) = true := wAt_mk (ch_4 (q := 123) rfl) rfl
theorem wd_961 : wAt 961 (.methodLink RX9 277 yX8_makeAt) = true := wAt_mk (ch_4 (q := 124) rfl) rfl
theorem wd_962 : wAt 962 (.instanceMethod yX8_makeAt) = true := wAt_mk (ch_4 (q := 125) rfl) rfl
theorem wd_963 : wAt 963 (.selects (RXc 8) yX8_makeAt yX8_makeAt) = true := wAt_mk (ch_4 (q := 126) rfl) rfl
theorem wd_964 : wAt 964 (.code yX8_makeAt cX8_makeAt 5 (some .int)) = true := wAt_mk (ch_4 (q := 127) rfl) rfl
theorem wd_965 : wAt 965 (.methodLink RX8 69 yX1_walk) = true := wAt_mk (ch_4 (q := 128) rfl) rfl
theorem wd_966 : wAt 966 (.methodLink RX8 106 yX1_isFolder) = true := wAt_mk (ch_4 (q := 129) rfl) rfl
theorem wd_967 : wAt 967 (.methodLink RX8 109 yX8_gapIn) = true := wAt_mk (ch_4 (q := 130) rfl) rfl
theorem wd_969 : wAt 969 (.instanceMethod yX8_gapIn) = true := wAt_mk (ch_4 (q := 132) rfl) rfl
theorem wd_970 : wAt 970 (.code yX8_gapIn cX8_gapIn 5 (some .int)) = true := wAt_mk (ch_4 (q := 133) rfl) rfl
theorem wd_971 : wAt 971 (.methodLink RX8 95 yX4_last) = true := wAt_mk (ch_4 (q := 134) rfl) rfl
theorem wd_972 : wAt 972 (.instanceMethod yX4_last) = true := wAt_mk (ch_4 (q := 135) rfl) rfl
theorem wd_973 : wAt 973 (.selects (RXc 4) yX4_last yX4_last) = true := wAt_mk (ch_4 (q := 136) rfl) rfl
theorem wd_974 : wAt 974 (.code yX4_last cX4_last 1 (some .int)) = true := wAt_mk (ch_4 (q := 137) rfl) rfl
theorem wd_975 : wAt 975 (.methodLink RX8 98 yX1_reach) = true := wAt_mk (ch_4 (q := 138) rfl) rfl
theorem wd_976 : wAt 976 (.methodLink RX8 102 yX1_isAbsence) = true := wAt_mk (ch_4 (q := 139) rfl) rfl
theorem wd_977 : wAt 977 (.methodLink RX8 113 yX1_fill) = true := wAt_mk (ch_4 (q := 140) rfl) rfl
theorem wd_978 : wAt 978 (.instanceMethod yX1_fill) = true := wAt_mk (ch_4 (q := 141) rfl) rfl
theorem wd_979 : wAt 979 (.selects (RXc 1) yX1_fill yX1_fill) = true := wAt_mk (ch_4 (q := 142) rfl) rfl
theorem wd_980 : wAt 980 (.code yX1_fill cX1_fill 3 (some .int)) = true := wAt_mk (ch_4 (q := 143) rfl) rfl
theorem wd_981 : wAt 981 (.methodLink RX1 155 yX2_addIn) = true := wAt_mk (ch_4 (q := 144) rfl) rfl
theorem wd_982 : wAt 982 (.methodLink RX9 281 yX9_orRefuse) = true := wAt_mk (ch_4 (q := 145) rfl) rfl
theorem wd_984 : wAt 984 (.instanceMethod yX9_orRefuse) = true := wAt_mk (ch_4 (q := 147) rfl) rfl
theorem wd_985 : wAt 985 (.code yX9_orRefuse cX9_orRefuse 3 (some .int)) = true := wAt_mk (ch_4 (q := 148) rfl) rfl
theorem wd_990 : wAt 990 (.methodLink RX9 284 yX8_removeAt) = true := wAt_mk (ch_4 (q := 153) rfl) rfl
theorem wd_991 : wAt 991 (.instanceMethod yX8_removeAt) = true := wAt_mk (ch_4 (q := 154) rfl) rfl
theorem wd_992 : wAt 992 (.selects (RXc 8) yX8_removeAt yX8_removeAt) = true := wAt_mk (ch_4 (q := 155) rfl) rfl
theorem wd_993 : wAt 993 (.code yX8_removeAt cX8_removeAt 4 (some .int)) = true := wAt_mk (ch_4 (q := 156) rfl) rfl
theorem wd_994 : wAt 994 (.methodLink RX8 119 yX1_canChange) = true := wAt_mk (ch_4 (q := 157) rfl) rfl
theorem wd_995 : wAt 995 (.instanceMethod yX1_canChange) = true := wAt_mk (ch_4 (q := 158) rfl) rfl
theorem wd_996 : wAt 996 (.selects (RXc 1) yX1_canChange yX1_canChange) = true := wAt_mk (ch_4 (q := 159) rfl) rfl
theorem wd_997 : wAt 997 (.code yX1_canChange cX1_canChange 2 (some .boolean)) = true := wAt_mk (ch_4 (q := 160) rfl) rfl
theorem wd_998 : wAt 998 (.methodLink RX8 122 yX2_howManyIn) = true := wAt_mk (ch_4 (q := 161) rfl) rfl
theorem wd_999 : wAt 999 (.methodLink RX8 125 yX2_take) = true := wAt_mk (ch_4 (q := 162) rfl) rfl
theorem wd_1000 : wAt 1000 (.instanceMethod yX2_take) = true := wAt_mk (ch_4 (q := 163) rfl) rfl
theorem wd_1001 : wAt 1001 (.selects (RXc 2) yX2_take yX2_take) = true := wAt_mk (ch_4 (q := 164) rfl) rfl
theorem wd_1002 : wAt 1002 (.code yX2_take cX2_take 2 none) = true := wAt_mk (ch_4 (q := 165) rfl) rfl
theorem wd_1003 : wAt 1003 (.methodLink RX8 128 yX1_empty) = true := wAt_mk (ch_4 (q := 166) rfl) rfl
theorem wd_1004 : wAt 1004 (.instanceMethod yX1_empty) = true := wAt_mk (ch_4 (q := 167) rfl) rfl
theorem wd_1005 : wAt 1005 (.selects (RXc 1) yX1_empty yX1_empty) = true := wAt_mk (ch_4 (q := 168) rfl) rfl
theorem wd_1006 : wAt 1006 (.code yX1_empty cX1_empty 3 none) = true := wAt_mk (ch_4 (q := 169) rfl) rfl
theorem wd_1007 : wAt 1007 (.methodLink RX1 158 yX1_release) = true := wAt_mk (ch_4 (q := 170) rfl) rfl
theorem wd_1008 : wAt 1008 (.instanceMethod yX1_release) = true := wAt_mk (ch_4 (q := 171) rfl) rfl
theorem wd_1009 : wAt 1009 (.selects (RXc 1) yX1_release yX1_release) = true := wAt_mk (ch_4 (q := 172) rfl) rfl
theorem wd_1010 : wAt 1010 (.code yX1_release cX1_release 2 none) = true := wAt_mk (ch_4 (q := 173) rfl) rfl
theorem wd_1015 : wAt 1015 (.methodLink RX9 287 yX8_renameTo) = true := wAt_mk (ch_4 (q := 178) rfl) rfl
theorem wd_1016 : wAt 1016 (.instanceMethod yX8_renameTo) = true := wAt_mk (ch_4 (q := 179) rfl) rfl
theorem wd_1017 : wAt 1017 (.selects (RXc 8) yX8_renameTo yX8_renameTo) = true := wAt_mk (ch_4 (q := 180) rfl) rfl
theorem wd_1018 : wAt 1018 (.code yX8_renameTo cX8_renameTo 6 (some .int)) = true := wAt_mk (ch_4 (q := 181) rfl) rfl
theorem wd_1019 : wAt 1019 (.methodLink RX8 77 yX1_hold) = true := wAt_mk (ch_4 (q := 182) rfl) rfl
theorem wd_1020 : wAt 1020 (.methodLink RX8 131 yX8_canTake) = true := wAt_mk (ch_4 (q := 183) rfl) rfl
theorem wd_1022 : wAt 1022 (.instanceMethod yX8_canTake) = true := wAt_mk (ch_4 (q := 185) rfl) rfl
theorem wd_1023 : wAt 1023 (.code yX8_canTake cX8_canTake 5 (some .boolean)) = true := wAt_mk (ch_4 (q := 186) rfl) rfl
theorem wd_1024 : wAt 1024 (.methodLink RX8 146 yX1_isWithin) = true := wAt_mk (ch_4 (q := 187) rfl) rfl
theorem wd_1025 : wAt 1025 (.instanceMethod yX1_isWithin) = true := wAt_mk (ch_4 (q := 188) rfl) rfl
theorem wd_1026 : wAt 1026 (.selects (RXc 1) yX1_isWithin yX1_isWithin) = true := wAt_mk (ch_4 (q := 189) rfl) rfl
theorem wd_1027 : wAt 1027 (.code yX1_isWithin cX1_isWithin 5 (some .boolean)) = true := wAt_mk (ch_4 (q := 190) rfl) rfl
theorem wd_1028 : wAt 1028 (.methodLink RX8 81 yX1_release) = true := wAt_mk (ch_4 (q := 191) rfl) rfl
theorem wd_1029 : wAt 1029 (.methodLink RX8 135 yX1_drop) = true := wAt_mk (ch_4 (q := 192) rfl) rfl
theorem wd_1030 : wAt 1030 (.methodLink RX8 138 yX2_move) = true := wAt_mk (ch_4 (q := 193) rfl) rfl
theorem wd_1031 : wAt 1031 (.instanceMethod yX2_move) = true := wAt_mk (ch_4 (q := 194) rfl) rfl
theorem wd_1032 : wAt 1032 (.selects (RXc 2) yX2_move yX2_move) = true := wAt_mk (ch_4 (q := 195) rfl) rfl
theorem wd_1033 : wAt 1033 (.code yX2_move cX2_move 4 none) = true := wAt_mk (ch_4 (q := 196) rfl) rfl
theorem wd_1034 : wAt 1034 (.methodLink RX8 142 yX1_move) = true := wAt_mk (ch_4 (q := 197) rfl) rfl
theorem wd_1035 : wAt 1035 (.instanceMethod yX1_move) = true := wAt_mk (ch_4 (q := 198) rfl) rfl
theorem wd_1036 : wAt 1036 (.selects (RXc 1) yX1_move yX1_move) = true := wAt_mk (ch_4 (q := 199) rfl) rfl
theorem wd_1037 : wAt 1037 (.code yX1_move cX1_move 5 none) = true := wAt_mk (ch_4 (q := 200) rfl) rfl
theorem wd_1042 : wAt 1042 (.methodLink RX9 291 yX8_freeHandle) = true := wAt_mk (ch_4 (q := 205) rfl) rfl
theorem wd_1043 : wAt 1043 (.instanceMethod yX8_freeHandle) = true := wAt_mk (ch_4 (q := 206) rfl) rfl
theorem wd_1044 : wAt 1044 (.selects (RXc 8) yX8_freeHandle yX8_freeHandle) = true := wAt_mk (ch_4 (q := 207) rfl) rfl
theorem wd_1045 : wAt 1045 (.code yX8_freeHandle cX8_freeHandle 2 (some .int)) = true := wAt_mk (ch_4 (q := 208) rfl) rfl
theorem wd_1046 : wAt 1046 (.methodLink RX9 294 yX8_openAt) = true := wAt_mk (ch_4 (q := 209) rfl) rfl
theorem wd_1047 : wAt 1047 (.instanceMethod yX8_openAt) = true := wAt_mk (ch_4 (q := 210) rfl) rfl
theorem wd_1048 : wAt 1048 (.selects (RXc 8) yX8_openAt yX8_openAt) = true := wAt_mk (ch_4 (q := 211) rfl) rfl
theorem wd_1049 : wAt 1049 (.code yX8_openAt cX8_openAt 4 (some .int)) = true := wAt_mk (ch_4 (q := 212) rfl) rfl
theorem wd_1050 : wAt 1050 (.methodLink RX8 73 yX8_freeHandle) = true := wAt_mk (ch_4 (q := 213) rfl) rfl
theorem wd_1055 : wAt 1055 (.methodLink RX9 297 yX8_closeHandle) = true := wAt_mk (ch_4 (q := 218) rfl) rfl
theorem wd_1056 : wAt 1056 (.instanceMethod yX8_closeHandle) = true := wAt_mk (ch_4 (q := 219) rfl) rfl
theorem wd_1057 : wAt 1057 (.selects (RXc 8) yX8_closeHandle yX8_closeHandle) = true := wAt_mk (ch_4 (q := 220) rfl) rfl
theorem wd_1058 : wAt 1058 (.code yX8_closeHandle cX8_closeHandle 2 none) = true := wAt_mk (ch_4 (q := 221) rfl) rfl
theorem wd_1063 : wAt 1063 (.methodLink RX9 300 yX2_hasVolume) = true := wAt_mk (ch_4 (q := 226) rfl) rfl
theorem wd_1064 : wAt 1064 (.methodLink RX9 303 yX1_isMounted) = true := wAt_mk (ch_4 (q := 227) rfl) rfl
theorem wd_1065 : wAt 1065 (.instanceMethod yX1_isMounted) = true := wAt_mk (ch_4 (q := 228) rfl) rfl
theorem wd_1066 : wAt 1066 (.selects (RXc 1) yX1_isMounted yX1_isMounted) = true := wAt_mk (ch_4 (q := 229) rfl) rfl
theorem wd_1067 : wAt 1067 (.code yX1_isMounted cX1_isMounted 2 (some .boolean)) = true := wAt_mk (ch_4 (q := 230) rfl) rfl
theorem wd_1068 : wAt 1068 (.methodLink RX9 306 yX8_mountAt) = true := wAt_mk (ch_4 (q := 231) rfl) rfl
theorem wd_1069 : wAt 1069 (.instanceMethod yX8_mountAt) = true := wAt_mk (ch_4 (q := 232) rfl) rfl
theorem wd_1070 : wAt 1070 (.selects (RXc 8) yX8_mountAt yX8_mountAt) = true := wAt_mk (ch_4 (q := 233) rfl) rfl
theorem wd_1071 : wAt 1071 (.code yX8_mountAt cX8_mountAt 5 (some .int)) = true := wAt_mk (ch_4 (q := 234) rfl) rfl
theorem wd_1072 : wAt 1072 (.methodLink RX8 149 yX1_cover) = true := wAt_mk (ch_4 (q := 235) rfl) rfl
theorem wd_1073 : wAt 1073 (.instanceMethod yX1_cover) = true := wAt_mk (ch_4 (q := 236) rfl) rfl
theorem wd_1074 : wAt 1074 (.selects (RXc 1) yX1_cover yX1_cover) = true := wAt_mk (ch_4 (q := 237) rfl) rfl
theorem wd_1075 : wAt 1075 (.code yX1_cover cX1_cover 3 (some .int)) = true := wAt_mk (ch_4 (q := 238) rfl) rfl
theorem wd_1080 : wAt 1080 (.methodLink RX9 309 yX1_isBusy) = true := wAt_mk (ch_5 (q := 3) rfl) rfl
theorem wd_1081 : wAt 1081 (.instanceMethod yX1_isBusy) = true := wAt_mk (ch_5 (q := 4) rfl) rfl
theorem wd_1082 : wAt 1082 (.selects (RXc 1) yX1_isBusy yX1_isBusy) = true := wAt_mk (ch_5 (q := 5) rfl) rfl
theorem wd_1083 : wAt 1083 (.code yX1_isBusy cX1_isBusy 3 (some .boolean)) = true := wAt_mk (ch_5 (q := 6) rfl) rfl
theorem wd_1084 : wAt 1084 (.methodLink RX1 164 yX1_isOf) = true := wAt_mk (ch_5 (q := 7) rfl) rfl
theorem wd_1086 : wAt 1086 (.instanceMethod yX1_isOf) = true := wAt_mk (ch_5 (q := 9) rfl) rfl
theorem wd_1087 : wAt 1087 (.code yX1_isOf cX1_isOf 4 (some .boolean)) = true := wAt_mk (ch_5 (q := 10) rfl) rfl
theorem wd_1088 : wAt 1088 (.methodLink RX1 161 yX2_volumeOf) = true := wAt_mk (ch_5 (q := 11) rfl) rfl
theorem wd_1089 : wAt 1089 (.methodLink RX1 168 yX1_heldBelow) = true := wAt_mk (ch_5 (q := 12) rfl) rfl
theorem wd_1091 : wAt 1091 (.instanceMethod yX1_heldBelow) = true := wAt_mk (ch_5 (q := 14) rfl) rfl
theorem wd_1092 : wAt 1092 (.code yX1_heldBelow cX1_heldBelow 4 (some .int)) = true := wAt_mk (ch_5 (q := 15) rfl) rfl
theorem wd_1093 : wAt 1093 (.methodLink RX9 312 yX1_dropVolume) = true := wAt_mk (ch_5 (q := 16) rfl) rfl
theorem wd_1094 : wAt 1094 (.instanceMethod yX1_dropVolume) = true := wAt_mk (ch_5 (q := 17) rfl) rfl
theorem wd_1095 : wAt 1095 (.selects (RXc 1) yX1_dropVolume yX1_dropVolume) = true := wAt_mk (ch_5 (q := 18) rfl) rfl
theorem wd_1096 : wAt 1096 (.code yX1_dropVolume cX1_dropVolume 4 (some .int)) = true := wAt_mk (ch_5 (q := 19) rfl) rfl
theorem wd_1097 : wAt 1097 (.methodLink RX1 171 yX1_howMany) = true := wAt_mk (ch_5 (q := 20) rfl) rfl
theorem wd_1102 : wAt 1102 (.methodLink RX9 315 yX1_trimSome) = true := wAt_mk (ch_5 (q := 25) rfl) rfl
theorem wd_1103 : wAt 1103 (.instanceMethod yX1_trimSome) = true := wAt_mk (ch_5 (q := 26) rfl) rfl
theorem wd_1104 : wAt 1104 (.selects (RXc 1) yX1_trimSome yX1_trimSome) = true := wAt_mk (ch_5 (q := 27) rfl) rfl
theorem wd_1105 : wAt 1105 (.code yX1_trimSome cX1_trimSome 5 (some .int)) = true := wAt_mk (ch_5 (q := 28) rfl) rfl
theorem wd_1110 : wAt 1110 (.methodLink RX9 318 yX9_isRoom) = true := wAt_mk (ch_5 (q := 33) rfl) rfl
theorem wd_1111 : wAt 1111 (.static yX9_isRoom) = true := wAt_mk (ch_5 (q := 34) rfl) rfl
theorem wd_1112 : wAt 1112 (.code yX9_isRoom cX9_isRoom 1 (some .boolean)) = true := wAt_mk (ch_5 (q := 35) rfl) rfl
theorem wd_1117 : wAt 1117 (.methodLink RX9 321 yX8_mountedNodes) = true := wAt_mk (ch_5 (q := 40) rfl) rfl
theorem wd_1118 : wAt 1118 (.instanceMethod yX8_mountedNodes) = true := wAt_mk (ch_5 (q := 41) rfl) rfl
theorem wd_1119 : wAt 1119 (.selects (RXc 8) yX8_mountedNodes yX8_mountedNodes) = true := wAt_mk (ch_5 (q := 42) rfl) rfl
theorem wd_1120 : wAt 1120 (.code yX8_mountedNodes cX8_mountedNodes 3 (some .int)) = true := wAt_mk (ch_5 (q := 43) rfl) rfl
theorem wd_1121 : wAt 1121 (.methodLink RX8 158 yX8_isReachable) = true := wAt_mk (ch_5 (q := 44) rfl) rfl
theorem wd_1123 : wAt 1123 (.instanceMethod yX8_isReachable) = true := wAt_mk (ch_5 (q := 46) rfl) rfl
theorem wd_1124 : wAt 1124 (.code yX8_isReachable cX8_isReachable 2 (some .boolean)) = true := wAt_mk (ch_5 (q := 47) rfl) rfl
theorem wd_1125 : wAt 1125 (.methodLink RX8 155 yX1_isMounted) = true := wAt_mk (ch_5 (q := 48) rfl) rfl
theorem wd_1126 : wAt 1126 (.methodLink RX9 324 yX9_drawOf) = true := wAt_mk (ch_5 (q := 49) rfl) rfl
theorem wd_1128 : wAt 1128 (.instanceMethod yX9_drawOf) = true := wAt_mk (ch_5 (q := 51) rfl) rfl
theorem wd_1129 : wAt 1129 (.code yX9_drawOf cX9_drawOf 2 (some .int)) = true := wAt_mk (ch_5 (q := 52) rfl) rfl
theorem wd_1134 : wAt 1134 (.methodLink RX9 327 yX8_mountedNode) = true := wAt_mk (ch_5 (q := 57) rfl) rfl
theorem wd_1135 : wAt 1135 (.instanceMethod yX8_mountedNode) = true := wAt_mk (ch_5 (q := 58) rfl) rfl
theorem wd_1136 : wAt 1136 (.selects (RXc 8) yX8_mountedNode yX8_mountedNode) = true := wAt_mk (ch_5 (q := 59) rfl) rfl
theorem wd_1137 : wAt 1137 (.code yX8_mountedNode cX8_mountedNode 4 (some .int)) = true := wAt_mk (ch_5 (q := 60) rfl) rfl
theorem wd_1142 : wAt 1142 (.methodLink RX9 330 yX8_freeWalker) = true := wAt_mk (ch_5 (q := 65) rfl) rfl
theorem wd_1143 : wAt 1143 (.instanceMethod yX8_freeWalker) = true := wAt_mk (ch_5 (q := 66) rfl) rfl
theorem wd_1144 : wAt 1144 (.selects (RXc 8) yX8_freeWalker yX8_freeWalker) = true := wAt_mk (ch_5 (q := 67) rfl) rfl
theorem wd_1145 : wAt 1145 (.code yX8_freeWalker cX8_freeWalker 2 (some .int)) = true := wAt_mk (ch_5 (q := 68) rfl) rfl
theorem wd_1146 : wAt 1146 (.methodLink RX9 333 yX8_beginWalk) = true := wAt_mk (ch_5 (q := 69) rfl) rfl
theorem wd_1147 : wAt 1147 (.instanceMethod yX8_beginWalk) = true := wAt_mk (ch_5 (q := 70) rfl) rfl
theorem wd_1148 : wAt 1148 (.selects (RXc 8) yX8_beginWalk yX8_beginWalk) = true := wAt_mk (ch_5 (q := 71) rfl) rfl
theorem wd_1149 : wAt 1149 (.code yX8_beginWalk cX8_beginWalk 3 (some .int)) = true := wAt_mk (ch_5 (q := 72) rfl) rfl
theorem wd_1150 : wAt 1150 (.methodLink RX8 88 yX8_freeWalker) = true := wAt_mk (ch_5 (q := 73) rfl) rfl
theorem wd_1151 : wAt 1151 (.methodLink RX8 91 yX7_start) = true := wAt_mk (ch_5 (q := 74) rfl) rfl
theorem wd_1152 : wAt 1152 (.instanceMethod yX7_start) = true := wAt_mk (ch_5 (q := 75) rfl) rfl
theorem wd_1153 : wAt 1153 (.selects (RXc 7) yX7_start yX7_start) = true := wAt_mk (ch_5 (q := 76) rfl) rfl
theorem wd_1154 : wAt 1154 (.code yX7_start cX7_start 3 none) = true := wAt_mk (ch_5 (q := 77) rfl) rfl
theorem wd_1155 : wAt 1155 (.methodLink RX7 57 yX7_goToRoot) = true := wAt_mk (ch_5 (q := 78) rfl) rfl
theorem wd_1157 : wAt 1157 (.instanceMethod yX7_goToRoot) = true := wAt_mk (ch_5 (q := 80) rfl) rfl
theorem wd_1158 : wAt 1158 (.code yX7_goToRoot cX7_goToRoot 2 none) = true := wAt_mk (ch_5 (q := 81) rfl) rfl
theorem wd_1159 : wAt 1159 (.methodLink RX7 98 yX1_comeToRoot) = true := wAt_mk (ch_5 (q := 82) rfl) rfl
theorem wd_1160 : wAt 1160 (.methodLink RX7 95 yX7_takeTrail) = true := wAt_mk (ch_5 (q := 83) rfl) rfl
theorem wd_1162 : wAt 1162 (.instanceMethod yX7_takeTrail) = true := wAt_mk (ch_5 (q := 85) rfl) rfl
theorem wd_1163 : wAt 1163 (.code yX7_takeTrail cX7_takeTrail 4 none) = true := wAt_mk (ch_5 (q := 86) rfl) rfl
theorem wd_1164 : wAt 1164 (.methodLink RX7 107 yX1_isEntry) = true := wAt_mk (ch_5 (q := 87) rfl) rfl
theorem wd_1165 : wAt 1165 (.methodLink RX7 111 yX1_isAbsence) = true := wAt_mk (ch_5 (q := 88) rfl) rfl
theorem wd_1166 : wAt 1166 (.methodLink RX7 120 yX1_hold) = true := wAt_mk (ch_5 (q := 89) rfl) rfl
theorem wd_1171 : wAt 1171 (.methodLink RX9 336 yX7_goOn) = true := wAt_mk (ch_5 (q := 94) rfl) rfl
theorem wd_1172 : wAt 1172 (.instanceMethod yX7_goOn) = true := wAt_mk (ch_5 (q := 95) rfl) rfl
theorem wd_1173 : wAt 1173 (.selects (RXc 7) yX7_goOn yX7_goOn) = true := wAt_mk (ch_5 (q := 96) rfl) rfl
theorem wd_1174 : wAt 1174 (.code yX7_goOn cX7_goOn 5 (some .int)) = true := wAt_mk (ch_5 (q := 97) rfl) rfl
theorem wd_1175 : wAt 1175 (.methodLink RX7 67 yX7_isChanged) = true := wAt_mk (ch_5 (q := 98) rfl) rfl
theorem wd_1177 : wAt 1177 (.instanceMethod yX7_isChanged) = true := wAt_mk (ch_5 (q := 100) rfl) rfl
theorem wd_1178 : wAt 1178 (.code yX7_isChanged cX7_isChanged 4 (some .boolean)) = true := wAt_mk (ch_5 (q := 101) rfl) rfl
theorem wd_1179 : wAt 1179 (.methodLink RX7 61 yX7_letGo) = true := wAt_mk (ch_5 (q := 102) rfl) rfl
theorem wd_1181 : wAt 1181 (.instanceMethod yX7_letGo) = true := wAt_mk (ch_5 (q := 104) rfl) rfl
theorem wd_1182 : wAt 1182 (.code yX7_letGo cX7_letGo 3 none) = true := wAt_mk (ch_5 (q := 105) rfl) rfl
theorem wd_1183 : wAt 1183 (.methodLink RX7 126 yX1_release) = true := wAt_mk (ch_5 (q := 106) rfl) rfl
theorem wd_1184 : wAt 1184 (.methodLink RX7 71 yX7_lacksNext) = true := wAt_mk (ch_5 (q := 107) rfl) rfl
theorem wd_1186 : wAt 1186 (.instanceMethod yX7_lacksNext) = true := wAt_mk (ch_5 (q := 109) rfl) rfl
theorem wd_1187 : wAt 1187 (.code yX7_lacksNext cX7_lacksNext 3 (some .boolean)) = true := wAt_mk (ch_5 (q := 110) rfl) rfl
theorem wd_1188 : wAt 1188 (.methodLink RX7 85 yX4_stepAt) = true := wAt_mk (ch_5 (q := 111) rfl) rfl
theorem wd_1189 : wAt 1189 (.methodLink RX7 123 yX1_find) = true := wAt_mk (ch_5 (q := 112) rfl) rfl
theorem wd_1190 : wAt 1190 (.methodLink RX7 74 yX7_holdAll) = true := wAt_mk (ch_5 (q := 113) rfl) rfl
theorem wd_1192 : wAt 1192 (.instanceMethod yX7_holdAll) = true := wAt_mk (ch_5 (q := 115) rfl) rfl
theorem wd_1193 : wAt 1193 (.code yX7_holdAll cX7_holdAll 3 none) = true := wAt_mk (ch_5 (q := 116) rfl) rfl
theorem wd_1194 : wAt 1194 (.methodLink RX7 81 yX7_isThrough) = true := wAt_mk (ch_5 (q := 117) rfl) rfl
theorem wd_1195 : wAt 1195 (.instanceMethod yX7_isThrough) = true := wAt_mk (ch_5 (q := 118) rfl) rfl
theorem wd_1196 : wAt 1196 (.selects (RXc 7) yX7_isThrough yX7_isThrough) = true := wAt_mk (ch_5 (q := 119) rfl) rfl
theorem wd_1197 : wAt 1197 (.code yX7_isThrough cX7_isThrough 1 (some .boolean)) = true := wAt_mk (ch_5 (q := 120) rfl) rfl
theorem wd_1198 : wAt 1198 (.methodLink RX7 89 yX1_stepFrom) = true := wAt_mk (ch_5 (q := 121) rfl) rfl
theorem wd_1199 : wAt 1199 (.methodLink RX9 340 yX7_isThrough) = true := wAt_mk (ch_5 (q := 122) rfl) rfl
theorem wd_1200 : wAt 1200 (.methodLink RX9 343 yX9_tellOutcome) = true := wAt_mk (ch_5 (q := 123) rfl) rfl
theorem wd_1202 : wAt 1202 (.instanceMethod yX9_tellOutcome) = true := wAt_mk (ch_5 (q := 125) rfl) rfl
theorem wd_1203 : wAt 1203 (.code yX9_tellOutcome cX9_tellOutcome 3 none) = true := wAt_mk (ch_5 (q := 126) rfl) rfl
theorem wd_1204 : wAt 1204 (.methodLink RX9 347 yX7_stop) = true := wAt_mk (ch_5 (q := 127) rfl) rfl
theorem wd_1205 : wAt 1205 (.instanceMethod yX7_stop) = true := wAt_mk (ch_5 (q := 128) rfl) rfl
theorem wd_1206 : wAt 1206 (.selects (RXc 7) yX7_stop yX7_stop) = true := wAt_mk (ch_5 (q := 129) rfl) rfl
theorem wd_1207 : wAt 1207 (.code yX7_stop cX7_stop 2 none) = true := wAt_mk (ch_5 (q := 130) rfl) rfl
theorem wd_1220 : wAt 1220 (.methodLink RX9 353 yX6_become) = true := wAt_mk (ch_5 (q := 143) rfl) rfl
theorem wd_1221 : wAt 1221 (.instanceMethod yX6_become) = true := wAt_mk (ch_5 (q := 144) rfl) rfl
theorem wd_1222 : wAt 1222 (.selects (RXc 6) yX6_become yX6_become) = true := wAt_mk (ch_5 (q := 145) rfl) rfl
theorem wd_1223 : wAt 1223 (.code yX6_become cX6_become 4 none) = true := wAt_mk (ch_5 (q := 146) rfl) rfl
theorem wd_1224 : wAt 1224 (.methodLink RX6 43 yX6_forget) = true := wAt_mk (ch_5 (q := 147) rfl) rfl
theorem wd_1225 : wAt 1225 (.methodLink RX6 46 yX4_copyFrom) = true := wAt_mk (ch_5 (q := 148) rfl) rfl
theorem wd_1230 : wAt 1230 (.methodLink RX9 357 yX6_loadsBy) = true := wAt_mk (ch_5 (q := 153) rfl) rfl
theorem wd_1231 : wAt 1231 (.instanceMethod yX6_loadsBy) = true := wAt_mk (ch_5 (q := 154) rfl) rfl
theorem wd_1232 : wAt 1232 (.selects (RXc 6) yX6_loadsBy yX6_loadsBy) = true := wAt_mk (ch_5 (q := 155) rfl) rfl
theorem wd_1233 : wAt 1233 (.code yX6_loadsBy cX6_loadsBy 4 (some .int)) = true := wAt_mk (ch_5 (q := 156) rfl) rfl
theorem wd_1234 : wAt 1234 (.methodLink RX6 72 yX6_prepare) = true := wAt_mk (ch_5 (q := 157) rfl) rfl
theorem wd_1236 : wAt 1236 (.instanceMethod yX6_prepare) = true := wAt_mk (ch_5 (q := 159) rfl) rfl
theorem wd_1237 : wAt 1237 (.code yX6_prepare cX6_prepare 2 none) = true := wAt_mk (ch_5 (q := 160) rfl) rfl
theorem wd_1238 : wAt 1238 (.methodLink RX6 50 yX1_copyFrom) = true := wAt_mk (ch_5 (q := 161) rfl) rfl
theorem wd_1239 : wAt 1239 (.methodLink RX6 55 yX1_keepMountsAlone) = true := wAt_mk (ch_5 (q := 162) rfl) rfl
theorem wd_1240 : wAt 1240 (.instanceMethod yX1_keepMountsAlone) = true := wAt_mk (ch_5 (q := 163) rfl) rfl
theorem wd_1241 : wAt 1241 (.selects (RXc 1) yX1_keepMountsAlone yX1_keepMountsAlone) = true := wAt_mk (ch_5 (q := 164) rfl) rfl
theorem wd_1242 : wAt 1242 (.code yX1_keepMountsAlone cX1_keepMountsAlone 2 none) = true := wAt_mk (ch_5 (q := 165) rfl) rfl
theorem wd_1243 : wAt 1243 (.methodLink RX1 174 yX1_markUpFrom) = true := wAt_mk (ch_5 (q := 166) rfl) rfl
theorem wd_1245 : wAt 1245 (.instanceMethod yX1_markUpFrom) = true := wAt_mk (ch_5 (q := 168) rfl) rfl
theorem wd_1246 : wAt 1246 (.code yX1_markUpFrom cX1_markUpFrom 4 none) = true := wAt_mk (ch_5 (q := 169) rfl) rfl
theorem wd_1247 : wAt 1247 (.methodLink RX6 75 yX6_runBy) = true := wAt_mk (ch_5 (q := 170) rfl) rfl
theorem wd_1249 : wAt 1249 (.instanceMethod yX6_runBy) = true := wAt_mk (ch_5 (q := 172) rfl) rfl
theorem wd_1250 : wAt 1250 (.code yX6_runBy cX6_runBy 6 (some .boolean)) = true := wAt_mk (ch_5 (q := 173) rfl) rfl
theorem wd_1251 : wAt 1251 (.methodLink RX6 65 yX1_walk) = true := wAt_mk (ch_5 (q := 174) rfl) rfl
theorem wd_1256 : wAt 1256 (.methodLink RX9 361 yX6_runAll) = true := wAt_mk (ch_5 (q := 179) rfl) rfl
theorem wd_1257 : wAt 1257 (.instanceMethod yX6_runAll) = true := wAt_mk (ch_5 (q := 180) rfl) rfl
theorem wd_1258 : wAt 1258 (.selects (RXc 6) yX6_runAll yX6_runAll) = true := wAt_mk (ch_5 (q := 181) rfl) rfl
theorem wd_1259 : wAt 1259 (.code yX6_runAll cX6_runAll 4 (some .boolean)) = true := wAt_mk (ch_5 (q := 182) rfl) rfl
theorem wd_1261 : wAt 1261 (.methodLink RX9 365 yX6_leastRoom) = true := wAt_mk (ch_5 (q := 184) rfl) rfl
theorem wd_1262 : wAt 1262 (.instanceMethod yX6_leastRoom) = true := wAt_mk (ch_5 (q := 185) rfl) rfl
theorem wd_1263 : wAt 1263 (.selects (RXc 6) yX6_leastRoom yX6_leastRoom) = true := wAt_mk (ch_5 (q := 186) rfl) rfl
theorem wd_1264 : wAt 1264 (.code yX6_leastRoom cX6_leastRoom 3 (some .int)) = true := wAt_mk (ch_5 (q := 187) rfl) rfl
theorem wd_1273 : wAt 1273 (.methodLink RX9 368 yX6_fitting) = true := wAt_mk (ch_5 (q := 196) rfl) rfl
theorem wd_1274 : wAt 1274 (.instanceMethod yX6_fitting) = true := wAt_mk (ch_5 (q := 197) rfl) rfl
theorem wd_1275 : wAt 1275 (.selects (RXc 6) yX6_fitting yX6_fitting) = true := wAt_mk (ch_5 (q := 198) rfl) rfl
theorem wd_1276 : wAt 1276 (.code yX6_fitting cX6_fitting 4 (some .int)) = true := wAt_mk (ch_5 (q := 199) rfl) rfl
theorem wd_1277 : wAt 1277 (.methodLink RX6 85 yX6_isFit) = true := wAt_mk (ch_5 (q := 200) rfl) rfl
theorem wd_1279 : wAt 1279 (.instanceMethod yX6_isFit) = true := wAt_mk (ch_5 (q := 202) rfl) rfl
theorem wd_1280 : wAt 1280 (.code yX6_isFit cX6_isFit 2 (some .boolean)) = true := wAt_mk (ch_5 (q := 203) rfl) rfl
theorem wd_1285 : wAt 1285 (.methodLink RX9 371 yX6_telling) = true := wAt_mk (ch_5 (q := 208) rfl) rfl
theorem wd_1286 : wAt 1286 (.instanceMethod yX6_telling) = true := wAt_mk (ch_5 (q := 209) rfl) rfl
theorem wd_1287 : wAt 1287 (.selects (RXc 6) yX6_telling yX6_telling) = true := wAt_mk (ch_5 (q := 210) rfl) rfl
theorem wd_1288 : wAt 1288 (.code yX6_telling cX6_telling 6 (some .int)) = true := wAt_mk (ch_5 (q := 211) rfl) rfl
theorem wd_1289 : wAt 1289 (.methodLink RX6 88 yX6_mostLeft) = true := wAt_mk (ch_5 (q := 212) rfl) rfl
theorem wd_1291 : wAt 1291 (.instanceMethod yX6_mostLeft) = true := wAt_mk (ch_5 (q := 214) rfl) rfl
theorem wd_1292 : wAt 1292 (.code yX6_mostLeft cX6_mostLeft 4 (some .int)) = true := wAt_mk (ch_5 (q := 215) rfl) rfl
theorem wd_1293 : wAt 1293 (.methodLink RX6 92 yX6_alikeFits) = true := wAt_mk (ch_5 (q := 216) rfl) rfl
theorem wd_1295 : wAt 1295 (.instanceMethod yX6_alikeFits) = true := wAt_mk (ch_5 (q := 218) rfl) rfl
theorem wd_1296 : wAt 1296 (.code yX6_alikeFits cX6_alikeFits 5 (some .int)) = true := wAt_mk (ch_5 (q := 219) rfl) rfl
theorem wd_1302 : wAt 1302 (.methodLink RX9 375 yX0_bringBack) = true := wAt_mk (ch_5 (q := 225) rfl) rfl
theorem wd_1303 : wAt 1303 (.instanceMethod yX0_bringBack) = true := wAt_mk (ch_5 (q := 226) rfl) rfl
theorem wd_1304 : wAt 1304 (.selects (RXc 0) yX0_bringBack yX0_bringBack) = true := wAt_mk (ch_5 (q := 227) rfl) rfl
theorem wd_1305 : wAt 1305 (.code yX0_bringBack cX0_bringBack 3 (some .boolean)) = true := wAt_mk (ch_5 (q := 228) rfl) rfl
theorem wd_1321 : wAt 1321 (.fieldLink RX10 7 (RXc 10) (TXc 10 0).2.1 (TXc 10 0).2.2.1) = true := wAt_mk (ch_6 (q := 4) rfl) rfl
theorem wd_1322 : wAt 1322 (.fieldLink RX10 86 (RXc 10) (TXc 10 1).2.1 (TXc 10 1).2.2.1) = true := wAt_mk (ch_6 (q := 5) rfl) rfl
theorem wd_1323 : wAt 1323 (.fieldLink RX10 112 (RXc 10) (TXc 10 2).2.1 (TXc 10 2).2.2.1) = true := wAt_mk (ch_6 (q := 6) rfl) rfl
theorem wd_1324 : wAt 1324 (.fieldLink RX10 115 (RXc 10) (TXc 10 3).2.1 (TXc 10 3).2.2.1) = true := wAt_mk (ch_6 (q := 7) rfl) rfl
theorem wd_1325 : wAt 1325 (.fieldLink RX10 106 (RXc 10) (TXc 10 4).2.1 (TXc 10 4).2.2.1) = true := wAt_mk (ch_6 (q := 8) rfl) rfl
theorem wd_1326 : wAt 1326 (.fieldLink RX10 109 (RXc 10) (TXc 10 5).2.1 (TXc 10 5).2.2.1) = true := wAt_mk (ch_6 (q := 9) rfl) rfl
theorem wd_1327 : wAt 1327 (.fieldLink RX10 103 (RXc 10) (TXc 10 6).2.1 (TXc 10 6).2.2.1) = true := wAt_mk (ch_6 (q := 10) rfl) rfl
theorem wd_1328 : wAt 1328 (.fieldLink RX10 13 (RXc 10) (TXc 10 7).2.1 (TXc 10 7).2.2.1) = true := wAt_mk (ch_6 (q := 11) rfl) rfl
theorem wd_1329 : wAt 1329 (.fieldLink RX10 17 (RXc 10) (TXc 10 8).2.1 (TXc 10 8).2.2.1) = true := wAt_mk (ch_6 (q := 12) rfl) rfl
theorem wd_1330 : wAt 1330 (.fieldLink RX10 20 (RXc 10) (TXc 10 9).2.1 (TXc 10 9).2.2.1) = true := wAt_mk (ch_6 (q := 13) rfl) rfl
theorem wd_1331 : wAt 1331 (.fieldLink RX10 118 (RXc 10) (TXc 10 10).2.1 (TXc 10 10).2.2.1) = true := wAt_mk (ch_6 (q := 14) rfl) rfl
theorem wd_1332 : wAt 1332 (.fieldLink RX10 157 (RXc 10) (TXc 10 11).2.1 (TXc 10 11).2.2.1) = true := wAt_mk (ch_6 (q := 15) rfl) rfl
theorem wd_1333 : wAt 1333 (.fieldLink RX10 129 (RXc 10) (TXc 10 12).2.1 (TXc 10 12).2.2.1) = true := wAt_mk (ch_6 (q := 16) rfl) rfl
theorem wd_1334 : wAt 1334 (.fieldLink RX10 160 (RXc 10) (TXc 10 13).2.1 (TXc 10 13).2.2.1) = true := wAt_mk (ch_6 (q := 17) rfl) rfl
theorem wd_1335 : wAt 1335 (.fieldLink RX10 23 (RXc 10) (TXc 10 14).2.1 (TXc 10 14).2.2.1) = true := wAt_mk (ch_6 (q := 18) rfl) rfl
theorem wd_1336 : wAt 1336 (.fieldLink RX10 179 (RXc 10) (TXc 10 15).2.1 (TXc 10 15).2.2.1) = true := wAt_mk (ch_6 (q := 19) rfl) rfl
theorem wd_1337 : wAt 1337 (.fieldLink RX10 26 (RXc 10) (TXc 10 16).2.1 (TXc 10 16).2.2.1) = true := wAt_mk (ch_6 (q := 20) rfl) rfl
theorem wd_1338 : wAt 1338 (.fieldLink RX10 334 (RXc 10) (TXc 10 17).2.1 (TXc 10 17).2.2.1) = true := wAt_mk (ch_6 (q := 21) rfl) rfl
theorem wd_1339 : wAt 1339 (.fieldLink RX10 29 (RXc 10) (TXc 10 18).2.1 (TXc 10 18).2.2.1) = true := wAt_mk (ch_6 (q := 22) rfl) rfl
theorem wd_1340 : wAt 1340 (.fieldLink RX10 32 (RXc 10) (TXc 10 19).2.1 (TXc 10 19).2.2.1) = true := wAt_mk (ch_6 (q := 23) rfl) rfl
theorem wd_1341 : wAt 1341 (.fieldLink RX10 35 (RXc 10) (TXc 10 20).2.1 (TXc 10 20).2.2.1) = true := wAt_mk (ch_6 (q := 24) rfl) rfl
theorem wd_1342 : wAt 1342 (.fieldLink RX10 38 (RXc 10) (TXc 10 21).2.1 (TXc 10 21).2.2.1) = true := wAt_mk (ch_6 (q := 25) rfl) rfl
theorem wd_1343 : wAt 1343 (.fieldLink RX10 239 (RXc 10) (TXc 10 22).2.1 (TXc 10 22).2.2.1) = true := wAt_mk (ch_6 (q := 26) rfl) rfl
theorem wd_1344 : wAt 1344 (.fieldLink RX10 41 (RXc 10) (TXc 10 23).2.1 (TXc 10 23).2.2.1) = true := wAt_mk (ch_6 (q := 27) rfl) rfl
theorem wd_1345 : wAt 1345 (.fieldLink RX10 44 (RXc 10) (TXc 10 24).2.1 (TXc 10 24).2.2.1) = true := wAt_mk (ch_6 (q := 28) rfl) rfl
theorem wd_1346 : wAt 1346 (.fieldLink RX10 315 (RXc 10) (TXc 10 25).2.1 (TXc 10 25).2.2.1) = true := wAt_mk (ch_6 (q := 29) rfl) rfl
theorem wd_1347 : wAt 1347 (.fieldLink RX10 47 (RXc 10) (TXc 10 26).2.1 (TXc 10 26).2.2.1) = true := wAt_mk (ch_6 (q := 30) rfl) rfl
theorem wd_1348 : wAt 1348 (.fieldLink RX10 51 (RXc 10) (TXc 10 27).2.1 (TXc 10 27).2.2.1) = true := wAt_mk (ch_6 (q := 31) rfl) rfl
theorem wd_1349 : wAt 1349 (.fieldLink RX10 170 (RXc 10) (TXc 10 28).2.1 (TXc 10 28).2.2.1) = true := wAt_mk (ch_6 (q := 32) rfl) rfl
theorem wd_1350 : wAt 1350 (.fieldLink RX10 321 (RXc 10) (TXc 10 29).2.1 (TXc 10 29).2.2.1) = true := wAt_mk (ch_6 (q := 33) rfl) rfl
theorem wd_1351 : wAt 1351 (.fieldLink RX10 54 (RXc 10) (TXc 10 30).2.1 (TXc 10 30).2.2.1) = true := wAt_mk (ch_6 (q := 34) rfl) rfl
theorem wd_1352 : wAt 1352 (.fieldLink RX10 58 (RXc 10) (TXc 10 31).2.1 (TXc 10 31).2.2.1) = true := wAt_mk (ch_6 (q := 35) rfl) rfl
theorem wd_1353 : wAt 1353 (.fieldLink RX10 176 (RXc 10) (TXc 10 32).2.1 (TXc 10 32).2.2.1) = true := wAt_mk (ch_6 (q := 36) rfl) rfl
theorem wd_1354 : wAt 1354 (.fieldLink RX10 62 (RXc 10) (TXc 10 33).2.1 (TXc 10 33).2.2.1) = true := wAt_mk (ch_6 (q := 37) rfl) rfl
theorem wd_1355 : wAt 1355 (.fieldLink RX10 65 (RXc 10) (TXc 10 34).2.1 (TXc 10 34).2.2.1) = true := wAt_mk (ch_6 (q := 38) rfl) rfl
theorem wd_1356 : wAt 1356 (.fieldLink RX10 68 (RXc 10) (TXc 10 35).2.1 (TXc 10 35).2.2.1) = true := wAt_mk (ch_6 (q := 39) rfl) rfl
theorem wd_1357 : wAt 1357 (.fieldLink RX10 173 (RXc 10) (TXc 10 36).2.1 (TXc 10 36).2.2.1) = true := wAt_mk (ch_6 (q := 40) rfl) rfl
theorem wd_1358 : wAt 1358 (.fieldLink RX10 71 (RXc 10) (TXc 10 37).2.1 (TXc 10 37).2.2.1) = true := wAt_mk (ch_6 (q := 41) rfl) rfl
theorem wd_1359 : wAt 1359 (.fieldLink RX10 410 (RXc 10) (TXc 10 38).2.1 (TXc 10 38).2.2.1) = true := wAt_mk (ch_6 (q := 42) rfl) rfl
theorem wd_1360 : wAt 1360 (.fieldLink RX10 74 (RXc 10) (TXc 10 39).2.1 (TXc 10 39).2.2.1) = true := wAt_mk (ch_6 (q := 43) rfl) rfl
theorem wd_1361 : wAt 1361 (.fieldLink RX10 77 (RXc 10) (TXc 10 40).2.1 (TXc 10 40).2.2.1) = true := wAt_mk (ch_6 (q := 44) rfl) rfl
theorem wd_1362 : wAt 1362 (.fieldLink RX10 80 (RXc 10) (TXc 10 41).2.1 (TXc 10 41).2.2.1) = true := wAt_mk (ch_6 (q := 45) rfl) rfl
theorem wd_1363 : wAt 1363 (.fieldLink RX10 83 (RXc 10) (TXc 10 42).2.1 (TXc 10 42).2.2.1) = true := wAt_mk (ch_6 (q := 46) rfl) rfl
theorem wd_1456 : wAt 1456 (.methodLink RX10 89 yX10_refuses) = true := wAt_mk (ch_6 (q := 139) rfl) rfl
theorem wd_1458 : wAt 1458 (.instanceMethod yX10_refuses) = true := wAt_mk (ch_6 (q := 141) rfl) rfl
theorem wd_1459 : wAt 1459 (.code yX10_refuses cX10_refuses 2 (some .int)) = true := wAt_mk (ch_6 (q := 142) rfl) rfl
theorem wd_1464 : wAt 1464 (.methodLink RX10 93 yX10_isRefused) = true := wAt_mk (ch_6 (q := 147) rfl) rfl
theorem wd_1466 : wAt 1466 (.instanceMethod yX10_isRefused) = true := wAt_mk (ch_6 (q := 149) rfl) rfl
theorem wd_1467 : wAt 1467 (.code yX10_isRefused cX10_isRefused 2 (some .boolean)) = true := wAt_mk (ch_6 (q := 150) rfl) rfl
theorem wd_1473 : wAt 1473 (.methodLink RX10 99 yX10_isIn) = true := wAt_mk (ch_6 (q := 156) rfl) rfl
theorem wd_1474 : wAt 1474 (.static yX10_isIn) = true := wAt_mk (ch_6 (q := 157) rfl) rfl
theorem wd_1475 : wAt 1475 (.code yX10_isIn cX10_isIn 6 (some .boolean)) = true := wAt_mk (ch_6 (q := 158) rfl) rfl
theorem wd_1484 : wAt 1484 (.methodLink RX10 143 yX10_look0) = true := wAt_mk (ch_6 (q := 167) rfl) rfl
theorem wd_1486 : wAt 1486 (.instanceMethod yX10_look0) = true := wAt_mk (ch_6 (q := 169) rfl) rfl
theorem wd_1487 : wAt 1487 (.code yX10_look0 cX10_look0 1 (some .int)) = true := wAt_mk (ch_6 (q := 170) rfl) rfl
theorem wd_1488 : wAt 1488 (.methodLink RX10 121 yX10_fail) = true := wAt_mk (ch_6 (q := 171) rfl) rfl
theorem wd_1490 : wAt 1490 (.instanceMethod yX10_fail) = true := wAt_mk (ch_6 (q := 173) rfl) rfl
theorem wd_1491 : wAt 1491 (.code yX10_fail cX10_fail 3 none) = true := wAt_mk (ch_6 (q := 174) rfl) rfl
theorem wd_1492 : wAt 1492 (.methodLink RX10 150 yX10_volumeTold) = true := wAt_mk (ch_6 (q := 175) rfl) rfl
theorem wd_1494 : wAt 1494 (.instanceMethod yX10_volumeTold) = true := wAt_mk (ch_6 (q := 177) rfl) rfl
theorem wd_1495 : wAt 1495 (.code yX10_volumeTold cX10_volumeTold 8 none) = true := wAt_mk (ch_6 (q := 178) rfl) rfl
theorem wd_1496 : wAt 1496 (.methodLink RX10 139 yX10_drafts) = true := wAt_mk (ch_6 (q := 179) rfl) rfl
theorem wd_1498 : wAt 1498 (.instanceMethod yX10_drafts) = true := wAt_mk (ch_6 (q := 181) rfl) rfl
theorem wd_1499 : wAt 1499 (.code yX10_drafts cX10_drafts 5 (some .int)) = true := wAt_mk (ch_6 (q := 182) rfl) rfl
theorem wd_1500 : wAt 1500 (.methodLink RX10 125 yX10_drafted) = true := wAt_mk (ch_6 (q := 183) rfl) rfl
theorem wd_1502 : wAt 1502 (.instanceMethod yX10_drafted) = true := wAt_mk (ch_6 (q := 185) rfl) rfl
theorem wd_1503 : wAt 1503 (.code yX10_drafted cX10_drafted 3 (some .int)) = true := wAt_mk (ch_6 (q := 186) rfl) rfl
theorem wd_1504 : wAt 1504 (.methodLink RX10 132 yX10_flag) = true := wAt_mk (ch_6 (q := 187) rfl) rfl
theorem wd_1505 : wAt 1505 (.static yX10_flag) = true := wAt_mk (ch_6 (q := 188) rfl) rfl
theorem wd_1506 : wAt 1506 (.code yX10_flag cX10_flag 1 (some .int)) = true := wAt_mk (ch_6 (q := 189) rfl) rfl
theorem wd_1507 : wAt 1507 (.methodLink RX10 136 yX10_isLetter) = true := wAt_mk (ch_6 (q := 190) rfl) rfl
theorem wd_1508 : wAt 1508 (.static yX10_isLetter) = true := wAt_mk (ch_6 (q := 191) rfl) rfl
theorem wd_1509 : wAt 1509 (.code yX10_isLetter cX10_isLetter 1 (some .boolean)) = true := wAt_mk (ch_6 (q := 192) rfl) rfl
theorem wd_1510 : wAt 1510 (.methodLink RX10 147 yX10_nameHere) = true := wAt_mk (ch_6 (q := 193) rfl) rfl
theorem wd_1512 : wAt 1512 (.instanceMethod yX10_nameHere) = true := wAt_mk (ch_6 (q := 195) rfl) rfl
theorem wd_1513 : wAt 1513 (.code yX10_nameHere cX10_nameHere 3 (some .int)) = true := wAt_mk (ch_6 (q := 196) rfl) rfl
theorem wd_1514 : wAt 1514 (.methodLink RX10 154 yX10_stands) = true := wAt_mk (ch_6 (q := 197) rfl) rfl
theorem wd_1516 : wAt 1516 (.instanceMethod yX10_stands) = true := wAt_mk (ch_6 (q := 199) rfl) rfl
theorem wd_1517 : wAt 1517 (.code yX10_stands cX10_stands 3 none) = true := wAt_mk (ch_6 (q := 200) rfl) rfl
theorem wd_1518 : wAt 1518 (.methodLink RX10 164 yX10_nodeAt) = true := wAt_mk (ch_6 (q := 201) rfl) rfl
theorem wd_1519 : wAt 1519 (.static yX10_nodeAt) = true := wAt_mk (ch_6 (q := 202) rfl) rfl
theorem wd_1520 : wAt 1520 (.code yX10_nodeAt cX10_nodeAt 2 (some .int)) = true := wAt_mk (ch_6 (q := 203) rfl) rfl
theorem wd_1521 : wAt 1521 (.methodLink RX10 167 yX10_makes) = true := wAt_mk (ch_6 (q := 204) rfl) rfl
theorem wd_1523 : wAt 1523 (.instanceMethod yX10_makes) = true := wAt_mk (ch_6 (q := 206) rfl) rfl
theorem wd_1524 : wAt 1524 (.code yX10_makes cX10_makes 5 (some .int)) = true := wAt_mk (ch_6 (q := 207) rfl) rfl
theorem wd_1525 : wAt 1525 (.methodLink RX10 203 yX10_its) = true := wAt_mk (ch_6 (q := 208) rfl) rfl
theorem wd_1527 : wAt 1527 (.instanceMethod yX10_its) = true := wAt_mk (ch_6 (q := 210) rfl) rfl
theorem wd_1528 : wAt 1528 (.code yX10_its cX10_its 3 (some .int)) = true := wAt_mk (ch_6 (q := 211) rfl) rfl
theorem wd_1529 : wAt 1529 (.methodLink RX10 192 yX10_entryAt) = true := wAt_mk (ch_6 (q := 212) rfl) rfl
theorem wd_1530 : wAt 1530 (.static yX10_entryAt) = true := wAt_mk (ch_6 (q := 213) rfl) rfl
theorem wd_1531 : wAt 1531 (.code yX10_entryAt cX10_entryAt 2 (some .int)) = true := wAt_mk (ch_6 (q := 214) rfl) rfl
theorem wd_1532 : wAt 1532 (.methodLink RX10 224 yX10_comesTo) = true := wAt_mk (ch_6 (q := 215) rfl) rfl
theorem wd_1534 : wAt 1534 (.instanceMethod yX10_comesTo) = true := wAt_mk (ch_6 (q := 217) rfl) rfl
theorem wd_1535 : wAt 1535 (.code yX10_comesTo cX10_comesTo 2 none) = true := wAt_mk (ch_6 (q := 218) rfl) rfl
theorem wd_1536 : wAt 1536 (.methodLink RX10 221 yX10_notes) = true := wAt_mk (ch_6 (q := 219) rfl) rfl
theorem wd_1538 : wAt 1538 (.instanceMethod yX10_notes) = true := wAt_mk (ch_6 (q := 221) rfl) rfl
theorem wd_1539 : wAt 1539 (.code yX10_notes cX10_notes 3 none) = true := wAt_mk (ch_6 (q := 222) rfl) rfl
theorem wd_1540 : wAt 1540 (.methodLink RX10 209 yX10_walkerHas) = true := wAt_mk (ch_6 (q := 223) rfl) rfl
theorem wd_1542 : wAt 1542 (.instanceMethod yX10_walkerHas) = true := wAt_mk (ch_6 (q := 225) rfl) rfl
theorem wd_1543 : wAt 1543 (.code yX10_walkerHas cX10_walkerHas 3 (some .int)) = true := wAt_mk (ch_6 (q := 226) rfl) rfl
theorem wd_1544 : wAt 1544 (.methodLink RX10 195 yX10_walkerAt) = true := wAt_mk (ch_6 (q := 227) rfl) rfl
theorem wd_1545 : wAt 1545 (.static yX10_walkerAt) = true := wAt_mk (ch_6 (q := 228) rfl) rfl
theorem wd_1546 : wAt 1546 (.code yX10_walkerAt cX10_walkerAt 2 (some .int)) = true := wAt_mk (ch_6 (q := 229) rfl) rfl
theorem wd_1552 : wAt 1552 (.methodLink RX10 259 yX10_nodeMany) = true := wAt_mk (ch_6 (q := 235) rfl) rfl
theorem wd_1554 : wAt 1554 (.instanceMethod yX10_nodeMany) = true := wAt_mk (ch_6 (q := 237) rfl) rfl
theorem wd_1555 : wAt 1555 (.code yX10_nodeMany cX10_nodeMany 4 (some .int)) = true := wAt_mk (ch_6 (q := 238) rfl) rfl
theorem wd_1556 : wAt 1556 (.methodLink RX10 198 yX10_nodeHas) = true := wAt_mk (ch_6 (q := 239) rfl) rfl
theorem wd_1558 : wAt 1558 (.instanceMethod yX10_nodeHas) = true := wAt_mk (ch_7 (q := 1) rfl) rfl
theorem wd_1559 : wAt 1559 (.code yX10_nodeHas cX10_nodeHas 3 (some .int)) = true := wAt_mk (ch_7 (q := 2) rfl) rfl
theorem wd_1560 : wAt 1560 (.methodLink RX10 233 yX10_entryMany) = true := wAt_mk (ch_7 (q := 3) rfl) rfl
theorem wd_1562 : wAt 1562 (.instanceMethod yX10_entryMany) = true := wAt_mk (ch_7 (q := 5) rfl) rfl
theorem wd_1563 : wAt 1563 (.code yX10_entryMany cX10_entryMany 4 (some .int)) = true := wAt_mk (ch_7 (q := 6) rfl) rfl
theorem wd_1564 : wAt 1564 (.methodLink RX10 215 yX10_isRoot) = true := wAt_mk (ch_7 (q := 7) rfl) rfl
theorem wd_1566 : wAt 1566 (.instanceMethod yX10_isRoot) = true := wAt_mk (ch_7 (q := 9) rfl) rfl
theorem wd_1567 : wAt 1567 (.code yX10_isRoot cX10_isRoot 3 (some .boolean)) = true := wAt_mk (ch_7 (q := 10) rfl) rfl
theorem wd_1568 : wAt 1568 (.methodLink RX10 262 yX10_entriesWith) = true := wAt_mk (ch_7 (q := 11) rfl) rfl
theorem wd_1570 : wAt 1570 (.instanceMethod yX10_entriesWith) = true := wAt_mk (ch_7 (q := 13) rfl) rfl
theorem wd_1571 : wAt 1571 (.code yX10_entriesWith cX10_entriesWith 4 (some .int)) = true := wAt_mk (ch_7 (q := 14) rfl) rfl
theorem wd_1572 : wAt 1572 (.methodLink RX10 212 yX10_counts) = true := wAt_mk (ch_7 (q := 15) rfl) rfl
theorem wd_1574 : wAt 1574 (.instanceMethod yX10_counts) = true := wAt_mk (ch_7 (q := 17) rfl) rfl
theorem wd_1575 : wAt 1575 (.code yX10_counts cX10_counts 2 none) = true := wAt_mk (ch_7 (q := 18) rfl) rfl
theorem wd_1576 : wAt 1576 (.methodLink RX10 206 yX10_countsHands) = true := wAt_mk (ch_7 (q := 19) rfl) rfl
theorem wd_1578 : wAt 1578 (.instanceMethod yX10_countsHands) = true := wAt_mk (ch_7 (q := 21) rfl) rfl
theorem wd_1579 : wAt 1579 (.code yX10_countsHands cX10_countsHands 3 none) = true := wAt_mk (ch_7 (q := 22) rfl) rfl
theorem wd_1580 : wAt 1580 (.methodLink RX10 265 yX10_handleMany) = true := wAt_mk (ch_7 (q := 23) rfl) rfl
theorem wd_1582 : wAt 1582 (.instanceMethod yX10_handleMany) = true := wAt_mk (ch_7 (q := 25) rfl) rfl
theorem wd_1583 : wAt 1583 (.code yX10_handleMany cX10_handleMany 3 (some .int)) = true := wAt_mk (ch_7 (q := 26) rfl) rfl
theorem wd_1584 : wAt 1584 (.methodLink RX10 268 yX10_walkerMany) = true := wAt_mk (ch_7 (q := 27) rfl) rfl
theorem wd_1586 : wAt 1586 (.instanceMethod yX10_walkerMany) = true := wAt_mk (ch_7 (q := 29) rfl) rfl
theorem wd_1587 : wAt 1587 (.code yX10_walkerMany cX10_walkerMany 3 (some .int)) = true := wAt_mk (ch_7 (q := 30) rfl) rfl
theorem wd_1588 : wAt 1588 (.methodLink RX10 271 yX10_mounted) = true := wAt_mk (ch_7 (q := 31) rfl) rfl
theorem wd_1590 : wAt 1590 (.instanceMethod yX10_mounted) = true := wAt_mk (ch_7 (q := 33) rfl) rfl
theorem wd_1591 : wAt 1591 (.code yX10_mounted cX10_mounted 3 (some .int)) = true := wAt_mk (ch_7 (q := 34) rfl) rfl
theorem wd_1596 : wAt 1596 (.methodLink RX10 274 yX10_isNode) = true := wAt_mk (ch_7 (q := 39) rfl) rfl
theorem wd_1598 : wAt 1598 (.instanceMethod yX10_isNode) = true := wAt_mk (ch_7 (q := 41) rfl) rfl
theorem wd_1599 : wAt 1599 (.code yX10_isNode cX10_isNode 2 (some .boolean)) = true := wAt_mk (ch_7 (q := 42) rfl) rfl
theorem wd_1605 : wAt 1605 (.methodLink RX10 282 yX10_isEntry) = true := wAt_mk (ch_7 (q := 48) rfl) rfl
theorem wd_1607 : wAt 1607 (.instanceMethod yX10_isEntry) = true := wAt_mk (ch_7 (q := 50) rfl) rfl
theorem wd_1608 : wAt 1608 (.code yX10_isEntry cX10_isEntry 2 (some .boolean)) = true := wAt_mk (ch_7 (q := 51) rfl) rfl
theorem wd_1610 : wAt 1610 (.methodLink RX10 285 yX10_letterOf) = true := wAt_mk (ch_7 (q := 53) rfl) rfl
theorem wd_1611 : wAt 1611 (.static yX10_letterOf) = true := wAt_mk (ch_7 (q := 54) rfl) rfl
theorem wd_1612 : wAt 1612 (.code yX10_letterOf cX10_letterOf 5 (some .int)) = true := wAt_mk (ch_7 (q := 55) rfl) rfl
theorem wd_1613 : wAt 1613 (.methodLink RX10 277 yX10_lettersOf) = true := wAt_mk (ch_7 (q := 56) rfl) rfl
theorem wd_1614 : wAt 1614 (.static yX10_lettersOf) = true := wAt_mk (ch_7 (q := 57) rfl) rfl
theorem wd_1615 : wAt 1615 (.code yX10_lettersOf cX10_lettersOf 3 (some .int)) = true := wAt_mk (ch_7 (q := 58) rfl) rfl
theorem wd_1624 : wAt 1624 (.methodLink RX10 185 yX10_beginsPaths) = true := wAt_mk (ch_7 (q := 67) rfl) rfl
theorem wd_1626 : wAt 1626 (.instanceMethod yX10_beginsPaths) = true := wAt_mk (ch_7 (q := 69) rfl) rfl
theorem wd_1627 : wAt 1627 (.code yX10_beginsPaths cX10_beginsPaths 1 none) = true := wAt_mk (ch_7 (q := 70) rfl) rfl
theorem wd_1629 : wAt 1629 (.methodLink RX10 227 yX10_childHere) = true := wAt_mk (ch_7 (q := 72) rfl) rfl
theorem wd_1631 : wAt 1631 (.instanceMethod yX10_childHere) = true := wAt_mk (ch_7 (q := 74) rfl) rfl
theorem wd_1632 : wAt 1632 (.code yX10_childHere cX10_childHere 4 (some .int)) = true := wAt_mk (ch_7 (q := 75) rfl) rfl
theorem wd_1637 : wAt 1637 (.methodLink RX10 290 yX10_isWalker) = true := wAt_mk (ch_7 (q := 80) rfl) rfl
theorem wd_1639 : wAt 1639 (.instanceMethod yX10_isWalker) = true := wAt_mk (ch_7 (q := 82) rfl) rfl
theorem wd_1640 : wAt 1640 (.code yX10_isWalker cX10_isWalker 2 (some .boolean)) = true := wAt_mk (ch_7 (q := 83) rfl) rfl
theorem wd_1642 : wAt 1642 (.instanceMethod yX10_handle) = true := wAt_mk (ch_7 (q := 85) rfl) rfl
theorem wd_1643 : wAt 1643 (.selects (RXc 10) yX10_handle yX10_handle) = true := wAt_mk (ch_7 (q := 86) rfl) rfl
theorem wd_1644 : wAt 1644 (.code yX10_handle cX10_handle 2 (some .int)) = true := wAt_mk (ch_7 (q := 87) rfl) rfl
theorem wd_1649 : wAt 1649 (.methodLink RX10 299 yX10_isPath) = true := wAt_mk (ch_7 (q := 92) rfl) rfl
theorem wd_1651 : wAt 1651 (.instanceMethod yX10_isPath) = true := wAt_mk (ch_7 (q := 94) rfl) rfl
theorem wd_1652 : wAt 1652 (.code yX10_isPath cX10_isPath 1 (some .boolean)) = true := wAt_mk (ch_7 (q := 95) rfl) rfl
theorem wd_1653 : wAt 1653 (.methodLink RX10 188 yX10_isPathHere) = true := wAt_mk (ch_7 (q := 96) rfl) rfl
theorem wd_1655 : wAt 1655 (.instanceMethod yX10_isPathHere) = true := wAt_mk (ch_7 (q := 98) rfl) rfl
theorem wd_1656 : wAt 1656 (.code yX10_isPathHere cX10_isPathHere 2 (some .boolean)) = true := wAt_mk (ch_7 (q := 99) rfl) rfl
theorem wd_1657 : wAt 1657 (.methodLink RX10 182 yX10_stepHere) = true := wAt_mk (ch_7 (q := 100) rfl) rfl
theorem wd_1659 : wAt 1659 (.instanceMethod yX10_stepHere) = true := wAt_mk (ch_7 (q := 102) rfl) rfl
theorem wd_1660 : wAt 1660 (.code yX10_stepHere cX10_stepHere 5 (some .int)) = true := wAt_mk (ch_7 (q := 103) rfl) rfl
theorem wd_1661 : wAt 1661 (.methodLink RX10 302 yX10_nodeBy) = true := wAt_mk (ch_7 (q := 104) rfl) rfl
theorem wd_1663 : wAt 1663 (.instanceMethod yX10_nodeBy) = true := wAt_mk (ch_7 (q := 106) rfl) rfl
theorem wd_1664 : wAt 1664 (.code yX10_nodeBy cX10_nodeBy 5 (some .int)) = true := wAt_mk (ch_7 (q := 107) rfl) rfl
theorem wd_1665 : wAt 1665 (.methodLink RX10 293 yX10_nodeUp) = true := wAt_mk (ch_7 (q := 108) rfl) rfl
theorem wd_1667 : wAt 1667 (.instanceMethod yX10_nodeUp) = true := wAt_mk (ch_7 (q := 110) rfl) rfl
theorem wd_1668 : wAt 1668 (.code yX10_nodeUp cX10_nodeUp 3 (some .int)) = true := wAt_mk (ch_7 (q := 111) rfl) rfl
theorem wd_1669 : wAt 1669 (.methodLink RX10 230 yX10_nodeIn) = true := wAt_mk (ch_7 (q := 112) rfl) rfl
theorem wd_1671 : wAt 1671 (.instanceMethod yX10_nodeIn) = true := wAt_mk (ch_7 (q := 114) rfl) rfl
theorem wd_1672 : wAt 1672 (.code yX10_nodeIn cX10_nodeIn 4 (some .int)) = true := wAt_mk (ch_7 (q := 115) rfl) rfl
theorem wd_1673 : wAt 1673 (.methodLink RX10 296 yX10_volumeOver) = true := wAt_mk (ch_7 (q := 116) rfl) rfl
theorem wd_1675 : wAt 1675 (.instanceMethod yX10_volumeOver) = true := wAt_mk (ch_7 (q := 118) rfl) rfl
theorem wd_1676 : wAt 1676 (.code yX10_volumeOver cX10_volumeOver 3 (some .int)) = true := wAt_mk (ch_7 (q := 119) rfl) rfl
theorem wd_1681 : wAt 1681 (.methodLink RX10 305 yX10_putsAside) = true := wAt_mk (ch_7 (q := 124) rfl) rfl
theorem wd_1683 : wAt 1683 (.instanceMethod yX10_putsAside) = true := wAt_mk (ch_7 (q := 126) rfl) rfl
theorem wd_1684 : wAt 1684 (.code yX10_putsAside cX10_putsAside 2 none) = true := wAt_mk (ch_7 (q := 127) rfl) rfl
theorem wd_1685 : wAt 1685 (.methodLink RX10 308 yX10_walks) = true := wAt_mk (ch_7 (q := 128) rfl) rfl
theorem wd_1687 : wAt 1687 (.instanceMethod yX10_walks) = true := wAt_mk (ch_7 (q := 130) rfl) rfl
theorem wd_1688 : wAt 1688 (.code yX10_walks cX10_walks 5 (some .int)) = true := wAt_mk (ch_7 (q := 131) rfl) rfl
theorem wd_1689 : wAt 1689 (.methodLink RX10 254 yX10_steps0) = true := wAt_mk (ch_7 (q := 132) rfl) rfl
theorem wd_1691 : wAt 1691 (.instanceMethod yX10_steps0) = true := wAt_mk (ch_7 (q := 134) rfl) rfl
theorem wd_1692 : wAt 1692 (.code yX10_steps0 cX10_steps0 3 (some .int)) = true := wAt_mk (ch_7 (q := 135) rfl) rfl
theorem wd_1693 : wAt 1693 (.methodLink RX10 245 yX10_goesUp) = true := wAt_mk (ch_7 (q := 136) rfl) rfl
theorem wd_1695 : wAt 1695 (.instanceMethod yX10_goesUp) = true := wAt_mk (ch_7 (q := 138) rfl) rfl
theorem wd_1696 : wAt 1696 (.code yX10_goesUp cX10_goesUp 2 none) = true := wAt_mk (ch_7 (q := 139) rfl) rfl
theorem wd_1697 : wAt 1697 (.methodLink RX10 242 yX10_rootOf) = true := wAt_mk (ch_7 (q := 140) rfl) rfl
theorem wd_1699 : wAt 1699 (.instanceMethod yX10_rootOf) = true := wAt_mk (ch_7 (q := 142) rfl) rfl
theorem wd_1700 : wAt 1700 (.code yX10_rootOf cX10_rootOf 3 (some .int)) = true := wAt_mk (ch_7 (q := 143) rfl) rfl
theorem wd_1701 : wAt 1701 (.methodLink RX10 248 yX10_isFolder) = true := wAt_mk (ch_7 (q := 144) rfl) rfl
theorem wd_1703 : wAt 1703 (.instanceMethod yX10_isFolder) = true := wAt_mk (ch_7 (q := 146) rfl) rfl
theorem wd_1704 : wAt 1704 (.code yX10_isFolder cX10_isFolder 2 (some .boolean)) = true := wAt_mk (ch_7 (q := 147) rfl) rfl
theorem wd_1705 : wAt 1705 (.methodLink RX10 251 yX10_childOf) = true := wAt_mk (ch_7 (q := 148) rfl) rfl
theorem wd_1707 : wAt 1707 (.instanceMethod yX10_childOf) = true := wAt_mk (ch_7 (q := 150) rfl) rfl
theorem wd_1708 : wAt 1708 (.code yX10_childOf cX10_childOf 5 (some .int)) = true := wAt_mk (ch_7 (q := 151) rfl) rfl
theorem wd_1709 : wAt 1709 (.methodLink RX10 236 yX10_trims) = true := wAt_mk (ch_7 (q := 152) rfl) rfl
theorem wd_1711 : wAt 1711 (.instanceMethod yX10_trims) = true := wAt_mk (ch_7 (q := 154) rfl) rfl
theorem wd_1712 : wAt 1712 (.code yX10_trims cX10_trims 5 (some .int)) = true := wAt_mk (ch_7 (q := 155) rfl) rfl
theorem wd_1713 : wAt 1713 (.methodLink RX10 218 yX10_leastFree) = true := wAt_mk (ch_7 (q := 156) rfl) rfl
theorem wd_1715 : wAt 1715 (.instanceMethod yX10_leastFree) = true := wAt_mk (ch_7 (q := 158) rfl) rfl
theorem wd_1716 : wAt 1716 (.code yX10_leastFree cX10_leastFree 4 (some .int)) = true := wAt_mk (ch_7 (q := 159) rfl) rfl
theorem wd_1717 : wAt 1717 (.methodLink RX10 312 yX10_takesBack) = true := wAt_mk (ch_7 (q := 160) rfl) rfl
theorem wd_1719 : wAt 1719 (.instanceMethod yX10_takesBack) = true := wAt_mk (ch_7 (q := 162) rfl) rfl
theorem wd_1720 : wAt 1720 (.code yX10_takesBack cX10_takesBack 2 none) = true := wAt_mk (ch_7 (q := 163) rfl) rfl
theorem wd_1729 : wAt 1729 (.methodLink RX10 318 yX10_writes) = true := wAt_mk (ch_7 (q := 172) rfl) rfl
theorem wd_1731 : wAt 1731 (.instanceMethod yX10_writes) = true := wAt_mk (ch_7 (q := 174) rfl) rfl
theorem wd_1732 : wAt 1732 (.code yX10_writes cX10_writes 2 none) = true := wAt_mk (ch_7 (q := 175) rfl) rfl
theorem wd_1745 : wAt 1745 (.methodLink RX10 324 yX10_keeps) = true := wAt_mk (ch_7 (q := 188) rfl) rfl
theorem wd_1747 : wAt 1747 (.instanceMethod yX10_keeps) = true := wAt_mk (ch_7 (q := 190) rfl) rfl
theorem wd_1748 : wAt 1748 (.code yX10_keeps cX10_keeps 2 none) = true := wAt_mk (ch_7 (q := 191) rfl) rfl
theorem wd_1753 : wAt 1753 (.methodLink RX10 327 yX10_isPlace) = true := wAt_mk (ch_7 (q := 196) rfl) rfl
theorem wd_1755 : wAt 1755 (.instanceMethod yX10_isPlace) = true := wAt_mk (ch_7 (q := 198) rfl) rfl
theorem wd_1756 : wAt 1756 (.code yX10_isPlace cX10_isPlace 4 (some .boolean)) = true := wAt_mk (ch_7 (q := 199) rfl) rfl
theorem wd_1761 : wAt 1761 (.methodLink RX10 331 yX10_isPlain) = true := wAt_mk (ch_7 (q := 204) rfl) rfl
theorem wd_1763 : wAt 1763 (.instanceMethod yX10_isPlain) = true := wAt_mk (ch_7 (q := 206) rfl) rfl
theorem wd_1764 : wAt 1764 (.code yX10_isPlain cX10_isPlain 4 (some .boolean)) = true := wAt_mk (ch_7 (q := 207) rfl) rfl
theorem wd_1769 : wAt 1769 (.methodLink RX10 341 yX10_areTwoPaths) = true := wAt_mk (ch_7 (q := 212) rfl) rfl
theorem wd_1771 : wAt 1771 (.instanceMethod yX10_areTwoPaths) = true := wAt_mk (ch_7 (q := 214) rfl) rfl
theorem wd_1772 : wAt 1772 (.code yX10_areTwoPaths cX10_areTwoPaths 3 (some .boolean)) = true := wAt_mk (ch_7 (q := 215) rfl) rfl
theorem wd_1773 : wAt 1773 (.methodLink RX10 344 yX10_isRenamed) = true := wAt_mk (ch_7 (q := 216) rfl) rfl
theorem wd_1775 : wAt 1775 (.instanceMethod yX10_isRenamed) = true := wAt_mk (ch_7 (q := 218) rfl) rfl
theorem wd_1776 : wAt 1776 (.code yX10_isRenamed cX10_isRenamed 4 (some .boolean)) = true := wAt_mk (ch_7 (q := 219) rfl) rfl
theorem wd_1777 : wAt 1777 (.methodLink RX10 337 yX10_isBelow) = true := wAt_mk (ch_7 (q := 220) rfl) rfl
theorem wd_1779 : wAt 1779 (.instanceMethod yX10_isBelow) = true := wAt_mk (ch_7 (q := 222) rfl) rfl
theorem wd_1780 : wAt 1780 (.code yX10_isBelow cX10_isBelow 4 (some .boolean)) = true := wAt_mk (ch_7 (q := 223) rfl) rfl
theorem wd_1789 : wAt 1789 (.methodLink RX10 347 yX10_handle) = true := wAt_mk (ch_7 (q := 232) rfl) rfl
theorem wd_1790 : wAt 1790 (.methodLink RX10 350 yX10_sweeps) = true := wAt_mk (ch_7 (q := 233) rfl) rfl
theorem wd_1792 : wAt 1792 (.instanceMethod yX10_sweeps) = true := wAt_mk (ch_7 (q := 235) rfl) rfl
theorem wd_1793 : wAt 1793 (.code yX10_sweeps cX10_sweeps 2 none) = true := wAt_mk (ch_7 (q := 236) rfl) rfl
theorem wd_1798 : wAt 1798 (.methodLink RX10 353 yX10_isVolume) = true := wAt_mk (ch_8 (q := 1) rfl) rfl
theorem wd_1800 : wAt 1800 (.instanceMethod yX10_isVolume) = true := wAt_mk (ch_8 (q := 3) rfl) rfl
theorem wd_1801 : wAt 1801 (.code yX10_isVolume cX10_isVolume 2 (some .boolean)) = true := wAt_mk (ch_8 (q := 4) rfl) rfl
theorem wd_1806 : wAt 1806 (.methodLink RX10 356 yX10_isInUse) = true := wAt_mk (ch_8 (q := 9) rfl) rfl
theorem wd_1808 : wAt 1808 (.instanceMethod yX10_isInUse) = true := wAt_mk (ch_8 (q := 11) rfl) rfl
theorem wd_1809 : wAt 1809 (.code yX10_isInUse cX10_isInUse 3 (some .boolean)) = true := wAt_mk (ch_8 (q := 12) rfl) rfl
theorem wd_1810 : wAt 1810 (.methodLink RX10 359 yX10_volumeOf) = true := wAt_mk (ch_8 (q := 13) rfl) rfl
theorem wd_1812 : wAt 1812 (.instanceMethod yX10_volumeOf) = true := wAt_mk (ch_8 (q := 15) rfl) rfl
theorem wd_1813 : wAt 1813 (.code yX10_volumeOf cX10_volumeOf 3 (some .int)) = true := wAt_mk (ch_8 (q := 16) rfl) rfl
theorem wd_1832 : wAt 1832 (.methodLink RX10 383 yX10_looksByDraw) = true := wAt_mk (ch_8 (q := 35) rfl) rfl
theorem wd_1834 : wAt 1834 (.instanceMethod yX10_looksByDraw) = true := wAt_mk (ch_8 (q := 37) rfl) rfl
theorem wd_1835 : wAt 1835 (.code yX10_looksByDraw cX10_looksByDraw 5 none) = true := wAt_mk (ch_8 (q := 38) rfl) rfl
theorem wd_1836 : wAt 1836 (.methodLink RX10 374 yX10_isMountedNode) = true := wAt_mk (ch_8 (q := 39) rfl) rfl
theorem wd_1838 : wAt 1838 (.instanceMethod yX10_isMountedNode) = true := wAt_mk (ch_8 (q := 41) rfl) rfl
theorem wd_1839 : wAt 1839 (.code yX10_isMountedNode cX10_isMountedNode 2 (some .boolean)) = true := wAt_mk (ch_8 (q := 42) rfl) rfl
theorem wd_1840 : wAt 1840 (.methodLink RX10 377 yX10_drawOf) = true := wAt_mk (ch_8 (q := 43) rfl) rfl
theorem wd_1842 : wAt 1842 (.instanceMethod yX10_drawOf) = true := wAt_mk (ch_8 (q := 45) rfl) rfl
theorem wd_1843 : wAt 1843 (.code yX10_drawOf cX10_drawOf 2 (some .int)) = true := wAt_mk (ch_8 (q := 46) rfl) rfl
theorem wd_1848 : wAt 1848 (.methodLink RX10 380 yX10_laysPath) = true := wAt_mk (ch_8 (q := 51) rfl) rfl
theorem wd_1850 : wAt 1850 (.instanceMethod yX10_laysPath) = true := wAt_mk (ch_8 (q := 53) rfl) rfl
theorem wd_1851 : wAt 1851 (.code yX10_laysPath cX10_laysPath 5 none) = true := wAt_mk (ch_8 (q := 54) rfl) rfl
theorem wd_1856 : wAt 1856 (.methodLink RX10 386 yX10_beginsWay) = true := wAt_mk (ch_8 (q := 59) rfl) rfl
theorem wd_1858 : wAt 1858 (.instanceMethod yX10_beginsWay) = true := wAt_mk (ch_8 (q := 61) rfl) rfl
theorem wd_1859 : wAt 1859 (.code yX10_beginsWay cX10_beginsWay 2 none) = true := wAt_mk (ch_8 (q := 62) rfl) rfl
theorem wd_1864 : wAt 1864 (.methodLink RX10 392 yX10_isWayOther) = true := wAt_mk (ch_8 (q := 67) rfl) rfl
theorem wd_1866 : wAt 1866 (.instanceMethod yX10_isWayOther) = true := wAt_mk (ch_8 (q := 69) rfl) rfl
theorem wd_1867 : wAt 1867 (.code yX10_isWayOther cX10_isWayOther 4 (some .boolean)) = true := wAt_mk (ch_8 (q := 70) rfl) rfl
theorem wd_1868 : wAt 1868 (.methodLink RX10 395 yX10_restarts) = true := wAt_mk (ch_8 (q := 71) rfl) rfl
theorem wd_1870 : wAt 1870 (.instanceMethod yX10_restarts) = true := wAt_mk (ch_8 (q := 73) rfl) rfl
theorem wd_1871 : wAt 1871 (.code yX10_restarts cX10_restarts 2 none) = true := wAt_mk (ch_8 (q := 74) rfl) rfl
theorem wd_1872 : wAt 1872 (.methodLink RX10 398 yX10_turnsHeavy) = true := wAt_mk (ch_8 (q := 75) rfl) rfl
theorem wd_1874 : wAt 1874 (.instanceMethod yX10_turnsHeavy) = true := wAt_mk (ch_8 (q := 77) rfl) rfl
theorem wd_1875 : wAt 1875 (.code yX10_turnsHeavy cX10_turnsHeavy 3 none) = true := wAt_mk (ch_8 (q := 78) rfl) rfl
theorem wd_1876 : wAt 1876 (.methodLink RX10 401 yX10_isThrough) = true := wAt_mk (ch_8 (q := 79) rfl) rfl
theorem wd_1878 : wAt 1878 (.instanceMethod yX10_isThrough) = true := wAt_mk (ch_8 (q := 81) rfl) rfl
theorem wd_1879 : wAt 1879 (.code yX10_isThrough cX10_isThrough 2 (some .boolean)) = true := wAt_mk (ch_8 (q := 82) rfl) rfl
theorem wd_1880 : wAt 1880 (.methodLink RX10 389 yX10_nextStep) = true := wAt_mk (ch_8 (q := 83) rfl) rfl
theorem wd_1882 : wAt 1882 (.instanceMethod yX10_nextStep) = true := wAt_mk (ch_8 (q := 85) rfl) rfl
theorem wd_1883 : wAt 1883 (.code yX10_nextStep cX10_nextStep 2 (some .int)) = true := wAt_mk (ch_8 (q := 86) rfl) rfl
theorem wd_1884 : wAt 1884 (.methodLink RX10 404 yX10_doesStep) = true := wAt_mk (ch_8 (q := 87) rfl) rfl
theorem wd_1886 : wAt 1886 (.instanceMethod yX10_doesStep) = true := wAt_mk (ch_8 (q := 89) rfl) rfl
theorem wd_1887 : wAt 1887 (.code yX10_doesStep cX10_doesStep 3 (some .int)) = true := wAt_mk (ch_8 (q := 90) rfl) rfl
theorem wd_1888 : wAt 1888 (.methodLink RX10 407 yX10_isOver) = true := wAt_mk (ch_8 (q := 91) rfl) rfl
theorem wd_1890 : wAt 1890 (.instanceMethod yX10_isOver) = true := wAt_mk (ch_8 (q := 93) rfl) rfl
theorem wd_1891 : wAt 1891 (.code yX10_isOver cX10_isOver 4 (some .int)) = true := wAt_mk (ch_8 (q := 94) rfl) rfl
theorem wd_1904 : wAt 1904 (.methodLink RX10 413 yX10_isTrace) = true := wAt_mk (ch_8 (q := 107) rfl) rfl
theorem wd_1906 : wAt 1906 (.instanceMethod yX10_isTrace) = true := wAt_mk (ch_8 (q := 109) rfl) rfl
theorem wd_1907 : wAt 1907 (.code yX10_isTrace cX10_isTrace 3 (some .boolean)) = true := wAt_mk (ch_8 (q := 110) rfl) rfl
theorem wd_1912 : wAt 1912 (.methodLink RX10 419 yX10_laysLoads) = true := wAt_mk (ch_8 (q := 115) rfl) rfl
theorem wd_1914 : wAt 1914 (.instanceMethod yX10_laysLoads) = true := wAt_mk (ch_8 (q := 117) rfl) rfl
theorem wd_1915 : wAt 1915 (.code yX10_laysLoads cX10_laysLoads 6 (some .int)) = true := wAt_mk (ch_8 (q := 118) rfl) rfl
theorem wd_1916 : wAt 1916 (.methodLink RX10 416 yX10_clears) = true := wAt_mk (ch_8 (q := 119) rfl) rfl
theorem wd_1918 : wAt 1918 (.instanceMethod yX10_clears) = true := wAt_mk (ch_8 (q := 121) rfl) rfl
theorem wd_1919 : wAt 1919 (.code yX10_clears cX10_clears 4 none) = true := wAt_mk (ch_8 (q := 122) rfl) rfl
theorem wd_1932 : wAt 1932 (.methodLink RX10 422 yX10_laysFits) = true := wAt_mk (ch_8 (q := 135) rfl) rfl
theorem wd_1934 : wAt 1934 (.instanceMethod yX10_laysFits) = true := wAt_mk (ch_8 (q := 137) rfl) rfl
theorem wd_1935 : wAt 1935 (.code yX10_laysFits cX10_laysFits 4 (some .int)) = true := wAt_mk (ch_8 (q := 138) rfl) rfl
theorem wd_1940 : wAt 1940 (.methodLink RX10 425 yX10_mostBy) = true := wAt_mk (ch_8 (q := 143) rfl) rfl
theorem wd_1942 : wAt 1942 (.instanceMethod yX10_mostBy) = true := wAt_mk (ch_8 (q := 145) rfl) rfl
theorem wd_1943 : wAt 1943 (.code yX10_mostBy cX10_mostBy 6 (some .int)) = true := wAt_mk (ch_8 (q := 146) rfl) rfl
theorem nd_35 : nAt 35 (.fieldLinkNest RX3 72 (RXc 2) (TXc 2 5).2.1 (TXc 2 5).2.2.1 "NameKeeper") = true := nAt_mk (cn_1 (q := 35) rfl) rfl
theorem nd_37 : nAt 37 (.fieldLinkNest RX9 139 (RXc 2) (TXc 2 6).2.1 (TXc 2 6).2.2.1 "NameKeeper") = true := nAt_mk (cn_1 (q := 37) rfl) rfl
theorem nd_38 : nAt 38 (.fieldLinkNest RX3 62 (RXc 2) (TXc 2 6).2.1 (TXc 2 6).2.2.1 "NameKeeper") = true := nAt_mk (cn_1 (q := 38) rfl) rfl
theorem nd_63 : nAt 63 (.fieldLinkNest RX9 104 (RXc 5) (TXc 5 1).2.1 (TXc 5 1).2.2.1 "NameKeeper") = true := nAt_mk (cn_1 (q := 63) rfl) rfl
theorem nd_64 : nAt 64 (.fieldLinkNest RX3 59 (RXc 5) (TXc 5 1).2.1 (TXc 5 1).2.2.1 "NameKeeper") = true := nAt_mk (cn_1 (q := 64) rfl) rfl
theorem nd_79 : nAt 79 (.fieldLinkNest RX9 121 (RXc 3) (TXc 3 0).2.1 (TXc 3 0).2.2.1 "NameKeeper") = true := nAt_mk (cn_1 (q := 79) rfl) rfl
theorem nd_81 : nAt 81 (.fieldLinkNest RX9 142 (RXc 3) (TXc 3 1).2.1 (TXc 3 1).2.2.1 "NameKeeper") = true := nAt_mk (cn_1 (q := 81) rfl) rfl
theorem nd_83 : nAt 83 (.fieldLinkNest RX9 145 (RXc 3) (TXc 3 2).2.1 (TXc 3 2).2.2.1 "NameKeeper") = true := nAt_mk (cn_1 (q := 83) rfl) rfl
theorem nd_121 : nAt 121 (.fieldLinkNest RX7 117 (RXc 1) (TXc 1 6).2.1 (TXc 1 6).2.2.1 "NameKeeper") = true := nAt_mk (cn_1 (q := 121) rfl) rfl
theorem nd_124 : nAt 124 (.fieldLinkNest RX7 114 (RXc 1) (TXc 1 8).2.1 (TXc 1 8).2.2.1 "NameKeeper") = true := nAt_mk (cn_1 (q := 124) rfl) rfl
theorem nd_128 : nAt 128 (.fieldLinkNest RX6 58 (RXc 1) (TXc 1 11).2.1 (TXc 1 11).2.2.1 "NameKeeper") = true := nAt_mk (cn_1 (q := 128) rfl) rfl
theorem nd_129 : nAt 129 (.fieldLinkNest RX9 162 (RXc 1) (TXc 1 11).2.1 (TXc 1 11).2.2.1 "NameKeeper") = true := nAt_mk (cn_1 (q := 129) rfl) rfl
theorem nd_131 : nAt 131 (.fieldLinkNest RX9 165 (RXc 1) (TXc 1 12).2.1 (TXc 1 12).2.2.1 "NameKeeper") = true := nAt_mk (cn_1 (q := 131) rfl) rfl
theorem nd_133 : nAt 133 (.fieldLinkNest RX6 61 (RXc 1) (TXc 1 13).2.1 (TXc 1 13).2.2.1 "NameKeeper") = true := nAt_mk (cn_1 (q := 133) rfl) rfl
theorem nd_134 : nAt 134 (.fieldLinkNest RX9 168 (RXc 1) (TXc 1 13).2.1 (TXc 1 13).2.2.1 "NameKeeper") = true := nAt_mk (cn_1 (q := 134) rfl) rfl
theorem nd_136 : nAt 136 (.fieldLinkNest RX6 69 (RXc 1) (TXc 1 14).2.1 (TXc 1 14).2.2.1 "NameKeeper") = true := nAt_mk (cn_1 (q := 136) rfl) rfl
theorem nd_137 : nAt 137 (.fieldLinkNest RX9 171 (RXc 1) (TXc 1 14).2.1 (TXc 1 14).2.2.1 "NameKeeper") = true := nAt_mk (cn_1 (q := 137) rfl) rfl
theorem nd_139 : nAt 139 (.fieldLinkNest RX7 104 (RXc 1) (TXc 1 15).2.1 (TXc 1 15).2.2.1 "NameKeeper") = true := nAt_mk (cn_1 (q := 139) rfl) rfl
theorem nd_141 : nAt 141 (.fieldLinkNest RX7 101 (RXc 1) (TXc 1 16).2.1 (TXc 1 16).2.2.1 "NameKeeper") = true := nAt_mk (cn_1 (q := 141) rfl) rfl
theorem nd_200 : nAt 200 (.fieldLinkNest RX7 64 (RXc 4) (TXc 4 1).2.1 (TXc 4 1).2.2.1 "NameKeeper") = true := nAt_mk (cn_1 (q := 200) rfl) rfl
theorem nd_201 : nAt 201 (.fieldLinkNest RX6 64 (RXc 4) (TXc 4 1).2.1 (TXc 4 1).2.2.1 "NameKeeper") = true := nAt_mk (cn_1 (q := 201) rfl) rfl
theorem nd_202 : nAt 202 (.fieldLinkNest RX8 63 (RXc 4) (TXc 4 1).2.1 (TXc 4 1).2.2.1 "NameKeeper") = true := nAt_mk (cn_1 (q := 202) rfl) rfl
theorem nd_203 : nAt 203 (.fieldLinkNest RX9 269 (RXc 4) (TXc 4 1).2.1 (TXc 4 1).2.2.1 "NameKeeper") = true := nAt_mk (cn_1 (q := 203) rfl) rfl
theorem nd_215 : nAt 215 (.fieldLinkNest RX8 59 (RXc 7) (TXc 7 5).2.1 (TXc 7 5).2.2.1 "NameKeeper") = true := nAt_mk (cn_1 (q := 215) rfl) rfl
theorem nd_217 : nAt 217 (.fieldLinkNest RX9 386 (RXc 7) (TXc 7 6).2.1 (TXc 7 6).2.2.1 "NameKeeper") = true := nAt_mk (cn_1 (q := 217) rfl) rfl
theorem nd_219 : nAt 219 (.fieldLinkNest RX9 383 (RXc 7) (TXc 7 7).2.1 (TXc 7 7).2.2.1 "NameKeeper") = true := nAt_mk (cn_1 (q := 219) rfl) rfl
theorem nd_241 : nAt 241 (.fieldLinkNest RX9 136 (RXc 8) (TXc 8 0).2.1 (TXc 8 0).2.2.1 "NameKeeper") = true := nAt_mk (cn_2 (q := 1) rfl) rfl
theorem nd_243 : nAt 243 (.fieldLinkNest RX9 148 (RXc 8) (TXc 8 1).2.1 (TXc 8 1).2.2.1 "NameKeeper") = true := nAt_mk (cn_2 (q := 3) rfl) rfl
theorem nd_266 : nAt 266 (.fieldLinkNest RX9 187 (RXc 0) (TXc 0 2).2.1 (TXc 0 2).2.2.1 "NameKeeper") = true := nAt_mk (cn_2 (q := 26) rfl) rfl
theorem nd_287 : nAt 287 (.fieldLinkNest RX9 183 (RXc 6) (TXc 6 1).2.1 (TXc 6 1).2.2.1 "NameKeeper") = true := nAt_mk (cn_2 (q := 47) rfl) rfl
theorem nd_289 : nAt 289 (.fieldLinkNest RX9 184 (RXc 6) (TXc 6 2).2.1 (TXc 6 2).2.2.1 "NameKeeper") = true := nAt_mk (cn_2 (q := 49) rfl) rfl
theorem nm_yJ7_fill_53178_2 : nmB yJ7_fill_53178 2 = true := by decide +kernel
theorem nm_yX4_init_1 : nmB yX4_init 1 = true := by decide +kernel
theorem nm_yX4_stepAt_1 : nmB yX4_stepAt 1 = true := by decide +kernel
theorem nm_yX4_push_1 : nmB yX4_push 1 = true := by decide +kernel
theorem nm_yX4_copyFrom_1 : nmB yX4_copyFrom 1 = true := by decide +kernel
theorem nm_yX2_copyFrom_1 : nmB yX2_copyFrom 1 = true := by decide +kernel
theorem nm_yX1_copyFrom_1 : nmB yX1_copyFrom 1 = true := by decide +kernel
theorem nm_yX7_copyFrom_1 : nmB yX7_copyFrom 1 = true := by decide +kernel
theorem nm_yX1_init_1 : nmB yX1_init 1 = true := by decide +kernel
theorem nm_yX8_init_2 : nmB yX8_init 2 = true := by decide +kernel
theorem nm_yX8_copyFrom_1 : nmB yX8_copyFrom 1 = true := by decide +kernel
theorem nm_yX2_hasVolume_1 : nmB yX2_hasVolume 1 = true := by decide +kernel
theorem nm_yX1_leastUnused_0 : nmB yX1_leastUnused 0 = true := by decide +kernel
theorem nm_yX1_hold_1 : nmB yX1_hold 1 = true := by decide +kernel
theorem nm_yX1_comeTo_1 : nmB yX1_comeTo 1 = true := by decide +kernel
theorem nm_yX2_rootOf_1 : nmB yX2_rootOf 1 = true := by decide +kernel
theorem nm_yX1_add_3 : nmB yX1_add 3 = true := by decide +kernel
theorem nm_yX1_isEntry_1 : nmB yX1_isEntry 1 = true := by decide +kernel
theorem nm_yX2_exists_1 : nmB yX2_exists 1 = true := by decide +kernel
theorem nm_yX2_isFolder_1 : nmB yX2_isFolder 1 = true := by decide +kernel
theorem nm_yX1_rootVolume_1 : nmB yX1_rootVolume 1 = true := by decide +kernel
theorem nm_yX1_coveringVolume_1 : nmB yX1_coveringVolume 1 = true := by decide +kernel
theorem nm_yX1_howManyButRoots_0 : nmB yX1_howManyButRoots 0 = true := by decide +kernel
theorem nm_yX1_longestUnused_1 : nmB yX1_longestUnused 1 = true := by decide +kernel
theorem nm_yX1_drop_1 : nmB yX1_drop 1 = true := by decide +kernel
theorem nm_yX1_find_2 : nmB yX1_find 2 = true := by decide +kernel
theorem nm_yX1_nodeOf_1 : nmB yX1_nodeOf 1 = true := by decide +kernel
theorem nm_yX2_find_2 : nmB yX2_find 2 = true := by decide +kernel
theorem nm_yX1_shrink_1 : nmB yX1_shrink 1 = true := by decide +kernel
theorem nm_yX1_coveredBy_1 : nmB yX1_coveredBy 1 = true := by decide +kernel
theorem nm_yX1_stepUp_1 : nmB yX1_stepUp 1 = true := by decide +kernel
theorem nm_yX1_isFolder_1 : nmB yX1_isFolder 1 = true := by decide +kernel
theorem nm_yX1_reach_2 : nmB yX1_reach 2 = true := by decide +kernel
theorem nm_yX1_comeToRoot_0 : nmB yX1_comeToRoot 0 = true := by decide +kernel
theorem nm_yX1_stepFrom_2 : nmB yX1_stepFrom 2 = true := by decide +kernel
theorem nm_yX2_put_4 : nmB yX2_put 4 = true := by decide +kernel
theorem nm_yX1_isAbsence_1 : nmB yX1_isAbsence 1 = true := by decide +kernel
theorem nm_yX2_addIn_3 : nmB yX2_addIn 3 = true := by decide +kernel
theorem nm_yX1_release_1 : nmB yX1_release 1 = true := by decide +kernel
theorem nm_yX2_volumeOf_1 : nmB yX2_volumeOf 1 = true := by decide +kernel
theorem nm_yX1_isOf_2 : nmB yX1_isOf 2 = true := by decide +kernel
theorem nm_yX1_heldBelow_1 : nmB yX1_heldBelow 1 = true := by decide +kernel
theorem nm_yX1_howMany_0 : nmB yX1_howMany 0 = true := by decide +kernel
theorem nm_yX1_markUpFrom_1 : nmB yX1_markUpFrom 1 = true := by decide +kernel
theorem nm_yX1_isGone_1 : nmB yX1_isGone 1 = true := by decide +kernel
theorem nm_yX2_howManyIn_1 : nmB yX2_howManyIn 1 = true := by decide +kernel
theorem nm_yX5_at_1 : nmB yX5_at 1 = true := by decide +kernel
theorem nm_yX9_isLetter_1 : nmB yX9_isLetter 1 = true := by decide +kernel
theorem nm_yX3_fail_2 : nmB yX3_fail 2 = true := by decide +kernel
theorem nm_yX2_becomeFolder_1 : nmB yX2_becomeFolder 1 = true := by decide +kernel
theorem nm_yX3_skipBlanks_1 : nmB yX3_skipBlanks 1 = true := by decide +kernel
theorem nm_yX3_openFolder_1 : nmB yX3_openFolder 1 = true := by decide +kernel
theorem nm_yX2_parentOf_1 : nmB yX2_parentOf 1 = true := by decide +kernel
theorem nm_yX3_readItem_1 : nmB yX3_readItem 1 = true := by decide +kernel
theorem nm_yX2_addVolume_0 : nmB yX2_addVolume 0 = true := by decide +kernel
theorem nm_yX2_clear_0 : nmB yX2_clear 0 = true := by decide +kernel
theorem nm_yX3_readInside_2 : nmB yX3_readInside 2 = true := by decide +kernel
theorem nm_yX3_readOutside_1 : nmB yX3_readOutside 1 = true := by decide +kernel
theorem nm_yX9_nameBetween_3 : nmB yX9_nameBetween 3 = true := by decide +kernel
theorem nm_yX4_endOfStep_3 : nmB yX4_endOfStep 3 = true := by decide +kernel
theorem nm_yX6_forget_0 : nmB yX6_forget 0 = true := by decide +kernel
theorem nm_yX1_keepMountsAlone_0 : nmB yX1_keepMountsAlone 0 = true := by decide +kernel
theorem nm_yX1_walk_2 : nmB yX1_walk 2 = true := by decide +kernel
theorem nm_yX6_prepare_1 : nmB yX6_prepare 1 = true := by decide +kernel
theorem nm_yX6_runBy_1 : nmB yX6_runBy 1 = true := by decide +kernel
theorem nm_yX6_isFit_1 : nmB yX6_isFit 1 = true := by decide +kernel
theorem nm_yX6_alikeFits_2 : nmB yX6_alikeFits 2 = true := by decide +kernel
theorem nm_yX6_mostLeft_1 : nmB yX6_mostLeft 1 = true := by decide +kernel
theorem nm_yX7_takeTrail_1 : nmB yX7_takeTrail 1 = true := by decide +kernel
theorem nm_yX7_goToRoot_1 : nmB yX7_goToRoot 1 = true := by decide +kernel
theorem nm_yX7_letGo_1 : nmB yX7_letGo 1 = true := by decide +kernel
theorem nm_yX7_lastOfWay_0 : nmB yX7_lastOfWay 0 = true := by decide +kernel
theorem nm_yX7_isChanged_1 : nmB yX7_isChanged 1 = true := by decide +kernel
theorem nm_yX7_lacksNext_1 : nmB yX7_lacksNext 1 = true := by decide +kernel
theorem nm_yX7_holdAll_1 : nmB yX7_holdAll 1 = true := by decide +kernel
theorem nm_yX7_isThrough_0 : nmB yX7_isThrough 0 = true := by decide +kernel
theorem nm_yX1_startAnew_0 : nmB yX1_startAnew 0 = true := by decide +kernel
theorem nm_yX8_freeHandle_0 : nmB yX8_freeHandle 0 = true := by decide +kernel
theorem nm_yX8_walkerAt_1 : nmB yX8_walkerAt 1 = true := by decide +kernel
theorem nm_yX8_freeWalker_0 : nmB yX8_freeWalker 0 = true := by decide +kernel
theorem nm_yX7_start_2 : nmB yX7_start 2 = true := by decide +kernel
theorem nm_yX4_last_0 : nmB yX4_last 0 = true := by decide +kernel
theorem nm_yX8_gapIn_2 : nmB yX8_gapIn 2 = true := by decide +kernel
theorem nm_yX1_fill_2 : nmB yX1_fill 2 = true := by decide +kernel
theorem nm_yX1_canChange_1 : nmB yX1_canChange 1 = true := by decide +kernel
theorem nm_yX2_take_1 : nmB yX2_take 1 = true := by decide +kernel
theorem nm_yX1_empty_1 : nmB yX1_empty 1 = true := by decide +kernel
theorem nm_yX1_isWithin_2 : nmB yX1_isWithin 2 = true := by decide +kernel
theorem nm_yX8_canTake_2 : nmB yX8_canTake 2 = true := by decide +kernel
theorem nm_yX2_move_3 : nmB yX2_move 3 = true := by decide +kernel
theorem nm_yX1_move_3 : nmB yX1_move 3 = true := by decide +kernel
theorem nm_yX1_cover_2 : nmB yX1_cover 2 = true := by decide +kernel
theorem nm_yX1_isMounted_1 : nmB yX1_isMounted 1 = true := by decide +kernel
theorem nm_yX8_isReachable_1 : nmB yX8_isReachable 1 = true := by decide +kernel
theorem nm_yX4_clear_0 : nmB yX4_clear 0 = true := by decide +kernel
theorem nm_yX2_nameOf_1 : nmB yX2_nameOf 1 = true := by decide +kernel
theorem nm_yX4_turnAround_0 : nmB yX4_turnAround 0 = true := by decide +kernel
theorem nm_yX6_init_2 : nmB yX6_init 2 = true := by decide +kernel
theorem nm_yX5_hasSpace_1 : nmB yX5_hasSpace 1 = true := by decide +kernel
theorem nm_yX9_refuse_1 : nmB yX9_refuse 1 = true := by decide +kernel
theorem nm_yX5_addWord_1 : nmB yX5_addWord 1 = true := by decide +kernel
theorem nm_yX5_cut_1 : nmB yX5_cut 1 = true := by decide +kernel
theorem nm_yX9_refuseFlatly_1 : nmB yX9_refuseFlatly 1 = true := by decide +kernel
theorem nm_yX3_readTrees_1 : nmB yX3_readTrees 1 = true := by decide +kernel
theorem nm_yX5_clear_0 : nmB yX5_clear 0 = true := by decide +kernel
theorem nm_yX8_startWith_1 : nmB yX8_startWith 1 = true := by decide +kernel
theorem nm_yX0_forget_0 : nmB yX0_forget 0 = true := by decide +kernel
theorem nm_yX2_howMany_0 : nmB yX2_howMany 0 = true := by decide +kernel
theorem nm_yX1_absences_0 : nmB yX1_absences 0 = true := by decide +kernel
theorem nm_yX1_freeOnes_0 : nmB yX1_freeOnes 0 = true := by decide +kernel
theorem nm_yX8_handlesOpen_0 : nmB yX8_handlesOpen 0 = true := by decide +kernel
theorem nm_yX8_walkersUnderWay_0 : nmB yX8_walkersUnderWay 0 = true := by decide +kernel
theorem nm_yX1_mountedBits_0 : nmB yX1_mountedBits 0 = true := by decide +kernel
theorem nm_yX1_goneOnes_0 : nmB yX1_goneOnes 0 = true := by decide +kernel
theorem nm_yX2_tell_2 : nmB yX2_tell 2 = true := by decide +kernel
theorem nm_yX1_nameOf_1 : nmB yX1_nameOf 1 = true := by decide +kernel
theorem nm_yX9_letterOf_2 : nmB yX9_letterOf 2 = true := by decide +kernel
theorem nm_yX1_tell_2 : nmB yX1_tell 2 = true := by decide +kernel
theorem nm_yX7_tell_1 : nmB yX7_tell 1 = true := by decide +kernel
theorem nm_yX8_handleAt_1 : nmB yX8_handleAt 1 = true := by decide +kernel
theorem nm_yX4_readFrom_3 : nmB yX4_readFrom 3 = true := by decide +kernel
theorem nm_yX9_hasTrees_0 : nmB yX9_hasTrees 0 = true := by decide +kernel
theorem nm_yX9_readRow_2 : nmB yX9_readRow 2 = true := by decide +kernel
theorem nm_yX9_takeRow_0 : nmB yX9_takeRow 0 = true := by decide +kernel
theorem nm_yX9_takePaths_1 : nmB yX9_takePaths 1 = true := by decide +kernel
theorem nm_yX9_tryOut_1 : nmB yX9_tryOut 1 = true := by decide +kernel
theorem nm_yX9_writeByte_1 : nmB yX9_writeByte 1 = true := by decide +kernel
theorem nm_yX9_writeName_1 : nmB yX9_writeName 1 = true := by decide +kernel
theorem nm_yX8_routeTo_2 : nmB yX8_routeTo 2 = true := by decide +kernel
theorem nm_yX9_writeRoute_1 : nmB yX9_writeRoute 1 = true := by decide +kernel
theorem nm_yX0_keep_1 : nmB yX0_keep 1 = true := by decide +kernel
theorem nm_yX2_isFull_0 : nmB yX2_isFull 0 = true := by decide +kernel
theorem nm_yX8_makeAt_2 : nmB yX8_makeAt 2 = true := by decide +kernel
theorem nm_yX9_orRefuse_2 : nmB yX9_orRefuse 2 = true := by decide +kernel
theorem nm_yX8_removeAt_1 : nmB yX8_removeAt 1 = true := by decide +kernel
theorem nm_yX8_renameTo_2 : nmB yX8_renameTo 2 = true := by decide +kernel
theorem nm_yX8_openAt_1 : nmB yX8_openAt 1 = true := by decide +kernel
theorem nm_yX8_closeHandle_1 : nmB yX8_closeHandle 1 = true := by decide +kernel
theorem nm_yX8_mountAt_2 : nmB yX8_mountAt 2 = true := by decide +kernel
theorem nm_yX1_isBusy_1 : nmB yX1_isBusy 1 = true := by decide +kernel
theorem nm_yX1_dropVolume_1 : nmB yX1_dropVolume 1 = true := by decide +kernel
theorem nm_yX1_trimSome_1 : nmB yX1_trimSome 1 = true := by decide +kernel
theorem nm_yX9_isRoom_1 : nmB yX9_isRoom 1 = true := by decide +kernel
theorem nm_yX8_mountedNodes_0 : nmB yX8_mountedNodes 0 = true := by decide +kernel
theorem nm_yX9_drawOf_1 : nmB yX9_drawOf 1 = true := by decide +kernel
theorem nm_yX8_mountedNode_1 : nmB yX8_mountedNode 1 = true := by decide +kernel
theorem nm_yX8_beginWalk_1 : nmB yX8_beginWalk 1 = true := by decide +kernel
theorem nm_yX7_goOn_1 : nmB yX7_goOn 1 = true := by decide +kernel
theorem nm_yX9_tellOutcome_2 : nmB yX9_tellOutcome 2 = true := by decide +kernel
theorem nm_yX7_stop_1 : nmB yX7_stop 1 = true := by decide +kernel
theorem nm_yX6_become_2 : nmB yX6_become 2 = true := by decide +kernel
theorem nm_yX6_loadsBy_2 : nmB yX6_loadsBy 2 = true := by decide +kernel
theorem nm_yX6_runAll_1 : nmB yX6_runAll 1 = true := by decide +kernel
theorem nm_yX6_leastRoom_1 : nmB yX6_leastRoom 1 = true := by decide +kernel
theorem nm_yX6_fitting_1 : nmB yX6_fitting 1 = true := by decide +kernel
theorem nm_yX6_telling_1 : nmB yX6_telling 1 = true := by decide +kernel
theorem nm_yX0_bringBack_1 : nmB yX0_bringBack 1 = true := by decide +kernel
theorem nm_yX10_refuses_1 : nmB yX10_refuses 1 = true := by decide +kernel
theorem nm_yX10_isRefused_1 : nmB yX10_isRefused 1 = true := by decide +kernel
theorem nm_yX10_isIn_3 : nmB yX10_isIn 3 = true := by decide +kernel
theorem nm_yX10_fail_2 : nmB yX10_fail 2 = true := by decide +kernel
theorem nm_yX10_drafted_2 : nmB yX10_drafted 2 = true := by decide +kernel
theorem nm_yX10_flag_1 : nmB yX10_flag 1 = true := by decide +kernel
theorem nm_yX10_isLetter_1 : nmB yX10_isLetter 1 = true := by decide +kernel
theorem nm_yX10_drafts_3 : nmB yX10_drafts 3 = true := by decide +kernel
theorem nm_yX10_look0_0 : nmB yX10_look0 0 = true := by decide +kernel
theorem nm_yX10_nameHere_0 : nmB yX10_nameHere 0 = true := by decide +kernel
theorem nm_yX10_entryAt_2 : nmB yX10_entryAt 2 = true := by decide +kernel
theorem nm_yX10_walkerAt_2 : nmB yX10_walkerAt 2 = true := by decide +kernel
theorem nm_yX10_walkerHas_2 : nmB yX10_walkerHas 2 = true := by decide +kernel
theorem nm_yX10_its_2 : nmB yX10_its 2 = true := by decide +kernel
theorem nm_yX10_notes_1 : nmB yX10_notes 1 = true := by decide +kernel
theorem nm_yX10_comesTo_1 : nmB yX10_comesTo 1 = true := by decide +kernel
theorem nm_yX10_nodeAt_2 : nmB yX10_nodeAt 2 = true := by decide +kernel
theorem nm_yX10_makes_3 : nmB yX10_makes 3 = true := by decide +kernel
theorem nm_yX10_volumeTold_1 : nmB yX10_volumeTold 1 = true := by decide +kernel
theorem nm_yX10_stands_0 : nmB yX10_stands 0 = true := by decide +kernel
theorem nm_yX10_stepHere_0 : nmB yX10_stepHere 0 = true := by decide +kernel
theorem nm_yX10_beginsPaths_0 : nmB yX10_beginsPaths 0 = true := by decide +kernel
theorem nm_yX10_isPathHere_0 : nmB yX10_isPathHere 0 = true := by decide +kernel
theorem nm_yX10_nodeHas_2 : nmB yX10_nodeHas 2 = true := by decide +kernel
theorem nm_yX10_countsHands_0 : nmB yX10_countsHands 0 = true := by decide +kernel
theorem nm_yX10_counts_0 : nmB yX10_counts 0 = true := by decide +kernel
theorem nm_yX10_isRoot_1 : nmB yX10_isRoot 1 = true := by decide +kernel
theorem nm_yX10_leastFree_1 : nmB yX10_leastFree 1 = true := by decide +kernel
theorem nm_yX10_childHere_2 : nmB yX10_childHere 2 = true := by decide +kernel
theorem nm_yX10_nodeIn_2 : nmB yX10_nodeIn 2 = true := by decide +kernel
theorem nm_yX10_entryMany_1 : nmB yX10_entryMany 1 = true := by decide +kernel
theorem nm_yX10_trims_2 : nmB yX10_trims 2 = true := by decide +kernel
theorem nm_yX10_rootOf_1 : nmB yX10_rootOf 1 = true := by decide +kernel
theorem nm_yX10_goesUp_0 : nmB yX10_goesUp 0 = true := by decide +kernel
theorem nm_yX10_isFolder_1 : nmB yX10_isFolder 1 = true := by decide +kernel
theorem nm_yX10_childOf_2 : nmB yX10_childOf 2 = true := by decide +kernel
theorem nm_yX10_steps0_1 : nmB yX10_steps0 1 = true := by decide +kernel
theorem nm_yX10_nodeMany_1 : nmB yX10_nodeMany 1 = true := by decide +kernel
theorem nm_yX10_entriesWith_1 : nmB yX10_entriesWith 1 = true := by decide +kernel
theorem nm_yX10_handleMany_0 : nmB yX10_handleMany 0 = true := by decide +kernel
theorem nm_yX10_walkerMany_0 : nmB yX10_walkerMany 0 = true := by decide +kernel
theorem nm_yX10_mounted_0 : nmB yX10_mounted 0 = true := by decide +kernel
theorem nm_yX10_isNode_1 : nmB yX10_isNode 1 = true := by decide +kernel
theorem nm_yX10_lettersOf_1 : nmB yX10_lettersOf 1 = true := by decide +kernel
theorem nm_yX10_isEntry_1 : nmB yX10_isEntry 1 = true := by decide +kernel
theorem nm_yX10_letterOf_2 : nmB yX10_letterOf 2 = true := by decide +kernel
theorem nm_yX10_isWalker_1 : nmB yX10_isWalker 1 = true := by decide +kernel
theorem nm_yX10_nodeUp_1 : nmB yX10_nodeUp 1 = true := by decide +kernel
theorem nm_yX10_volumeOver_1 : nmB yX10_volumeOver 1 = true := by decide +kernel
theorem nm_yX10_isPath_0 : nmB yX10_isPath 0 = true := by decide +kernel
theorem nm_yX10_nodeBy_2 : nmB yX10_nodeBy 2 = true := by decide +kernel
theorem nm_yX10_putsAside_0 : nmB yX10_putsAside 0 = true := by decide +kernel
theorem nm_yX10_walks_2 : nmB yX10_walks 2 = true := by decide +kernel
theorem nm_yX10_takesBack_0 : nmB yX10_takesBack 0 = true := by decide +kernel
theorem nm_yX10_writes_1 : nmB yX10_writes 1 = true := by decide +kernel
theorem nm_yX10_keeps_0 : nmB yX10_keeps 0 = true := by decide +kernel
theorem nm_yX10_isPlace_2 : nmB yX10_isPlace 2 = true := by decide +kernel
theorem nm_yX10_isPlain_2 : nmB yX10_isPlain 2 = true := by decide +kernel
theorem nm_yX10_isBelow_2 : nmB yX10_isBelow 2 = true := by decide +kernel
theorem nm_yX10_areTwoPaths_0 : nmB yX10_areTwoPaths 0 = true := by decide +kernel
theorem nm_yX10_isRenamed_1 : nmB yX10_isRenamed 1 = true := by decide +kernel
theorem nm_yX10_handle_1 : nmB yX10_handle 1 = true := by decide +kernel
theorem nm_yX10_sweeps_0 : nmB yX10_sweeps 0 = true := by decide +kernel
theorem nm_yX10_isVolume_1 : nmB yX10_isVolume 1 = true := by decide +kernel
theorem nm_yX10_volumeOf_1 : nmB yX10_volumeOf 1 = true := by decide +kernel
theorem nm_yX10_isInUse_1 : nmB yX10_isInUse 1 = true := by decide +kernel
theorem nm_yX10_isMountedNode_1 : nmB yX10_isMountedNode 1 = true := by decide +kernel
theorem nm_yX10_drawOf_1 : nmB yX10_drawOf 1 = true := by decide +kernel
theorem nm_yX10_laysPath_1 : nmB yX10_laysPath 1 = true := by decide +kernel
theorem nm_yX10_looksByDraw_0 : nmB yX10_looksByDraw 0 = true := by decide +kernel
theorem nm_yX10_beginsWay_1 : nmB yX10_beginsWay 1 = true := by decide +kernel
theorem nm_yX10_nextStep_1 : nmB yX10_nextStep 1 = true := by decide +kernel
theorem nm_yX10_isThrough_1 : nmB yX10_isThrough 1 = true := by decide +kernel
theorem nm_yX10_isWayOther_1 : nmB yX10_isWayOther 1 = true := by decide +kernel
theorem nm_yX10_restarts_1 : nmB yX10_restarts 1 = true := by decide +kernel
theorem nm_yX10_turnsHeavy_1 : nmB yX10_turnsHeavy 1 = true := by decide +kernel
theorem nm_yX10_doesStep_1 : nmB yX10_doesStep 1 = true := by decide +kernel
theorem nm_yX10_isOver_2 : nmB yX10_isOver 2 = true := by decide +kernel
theorem nm_yX10_isTrace_0 : nmB yX10_isTrace 0 = true := by decide +kernel
theorem nm_yX10_clears_1 : nmB yX10_clears 1 = true := by decide +kernel
theorem nm_yX10_laysLoads_1 : nmB yX10_laysLoads 1 = true := by decide +kernel
theorem nm_yX10_laysFits_0 : nmB yX10_laysFits 0 = true := by decide +kernel
theorem nm_yX10_mostBy_1 : nmB yX10_mostBy 1 = true := by decide +kernel
