section
-- ===== PART A: goes FIRST, ahead of the names: the tables' words, and 'selects' of the private methods out of them =====
/-- a private method of a class that the tables say can be made, by its rows of tables_1 -/
def lw_okq (q : MethodName × Nat) : Prop := (q.1.cls ≠ "java/lang/invoke/MethodHandle" ∧ q.1.cls ≠ "java/lang/invoke/VarHandle") ∧ Cond.instantiable q.1.cls q.2 ∈ tables_1 ∧ Cond.privateMethod q.1 ∈ tables_1 ∧ Cond.instanceMethod q.1 ∈ tables_1
theorem lw_p0 : lw_okq (⟨"ClockRiver", "deny", "(I)Z"⟩, 15) := ⟨⟨by decide +kernel, by decide +kernel⟩, List.mem_of_getElem? (i := 21) (by decide +kernel), List.mem_of_getElem? (i := 550) (by decide +kernel), List.mem_of_getElem? (i := 551) (by decide +kernel)⟩
theorem lw_p1 : lw_okq (⟨"ClockRiver", "grant", "()Z"⟩, 15) := ⟨⟨by decide +kernel, by decide +kernel⟩, List.mem_of_getElem? (i := 21) (by decide +kernel), List.mem_of_getElem? (i := 558) (by decide +kernel), List.mem_of_getElem? (i := 559) (by decide +kernel)⟩
theorem lw_p2 : lw_okq (⟨"ClockRiver", "refuse", "(I)I"⟩, 15) := ⟨⟨by decide +kernel, by decide +kernel⟩, List.mem_of_getElem? (i := 21) (by decide +kernel), List.mem_of_getElem? (i := 586) (by decide +kernel), List.mem_of_getElem? (i := 587) (by decide +kernel)⟩
theorem lw_p3 : lw_okq (⟨"ClockRiver$Tape", "addToken", "(II)I"⟩, 12) := ⟨⟨by decide +kernel, by decide +kernel⟩, List.mem_of_getElem? (i := 292) (by decide +kernel), List.mem_of_getElem? (i := 621) (by decide +kernel), List.mem_of_getElem? (i := 622) (by decide +kernel)⟩
theorem lw_p4 : lw_okq (⟨"ClockRiver$Tape", "addWord", "(II)I"⟩, 12) := ⟨⟨by decide +kernel, by decide +kernel⟩, List.mem_of_getElem? (i := 292) (by decide +kernel), List.mem_of_getElem? (i := 631) (by decide +kernel), List.mem_of_getElem? (i := 632) (by decide +kernel)⟩
theorem lw_p5 : lw_okq (⟨"ClockRiver$Tape", "kindOfWord", "(II)I"⟩, 12) := ⟨⟨by decide +kernel, by decide +kernel⟩, List.mem_of_getElem? (i := 292) (by decide +kernel), List.mem_of_getElem? (i := 635) (by decide +kernel), List.mem_of_getElem? (i := 636) (by decide +kernel)⟩
theorem lw_p6 : lw_okq (⟨"ClockRiver$Tape", "isLike", "(III)Z"⟩, 12) := ⟨⟨by decide +kernel, by decide +kernel⟩, List.mem_of_getElem? (i := 292) (by decide +kernel), List.mem_of_getElem? (i := 688) (by decide +kernel), List.mem_of_getElem? (i := 689) (by decide +kernel)⟩
theorem lw_p7 : lw_okq (⟨"ClockRiver$Tape", "addNumber", "(II)I"⟩, 12) := ⟨⟨by decide +kernel, by decide +kernel⟩, List.mem_of_getElem? (i := 292) (by decide +kernel), List.mem_of_getElem? (i := 696) (by decide +kernel), List.mem_of_getElem? (i := 697) (by decide +kernel)⟩
theorem lw_p8 : lw_okq (⟨"ClockRiver$Tape", "addSign", "(II)I"⟩, 12) := ⟨⟨by decide +kernel, by decide +kernel⟩, List.mem_of_getElem? (i := 292) (by decide +kernel), List.mem_of_getElem? (i := 702) (by decide +kernel), List.mem_of_getElem? (i := 703) (by decide +kernel)⟩
theorem lw_p9 : lw_okq (⟨"ClockRiver$RiverReader", "readPart", "()Z"⟩, 4) := ⟨⟨by decide +kernel, by decide +kernel⟩, List.mem_of_getElem? (i := 345) (by decide +kernel), List.mem_of_getElem? (i := 718) (by decide +kernel), List.mem_of_getElem? (i := 719) (by decide +kernel)⟩
theorem lw_p10 : lw_okq (⟨"ClockRiver$RiverReader", "readSetting", "(I)Z"⟩, 4) := ⟨⟨by decide +kernel, by decide +kernel⟩, List.mem_of_getElem? (i := 345) (by decide +kernel), List.mem_of_getElem? (i := 722) (by decide +kernel), List.mem_of_getElem? (i := 723) (by decide +kernel)⟩
theorem lw_p11 : lw_okq (⟨"ClockRiver$RiverReader", "readReach", "()Z"⟩, 4) := ⟨⟨by decide +kernel, by decide +kernel⟩, List.mem_of_getElem? (i := 345) (by decide +kernel), List.mem_of_getElem? (i := 749) (by decide +kernel), List.mem_of_getElem? (i := 750) (by decide +kernel)⟩
theorem lw_p12 : lw_okq (⟨"ClockRiver$RiverReader", "takeNewName", "()Z"⟩, 4) := ⟨⟨by decide +kernel, by decide +kernel⟩, List.mem_of_getElem? (i := 345) (by decide +kernel), List.mem_of_getElem? (i := 753) (by decide +kernel), List.mem_of_getElem? (i := 754) (by decide +kernel)⟩
theorem lw_p13 : lw_okq (⟨"ClockRiver$RiverReader", "readMill", "()Z"⟩, 4) := ⟨⟨by decide +kernel, by decide +kernel⟩, List.mem_of_getElem? (i := 345) (by decide +kernel), List.mem_of_getElem? (i := 773) (by decide +kernel), List.mem_of_getElem? (i := 774) (by decide +kernel)⟩
theorem lw_p14 : lw_okq (⟨"ClockRiver$RiverReader", "readWinder", "()Z"⟩, 4) := ⟨⟨by decide +kernel, by decide +kernel⟩, List.mem_of_getElem? (i := 345) (by decide +kernel), List.mem_of_getElem? (i := 782) (by decide +kernel), List.mem_of_getElem? (i := 783) (by decide +kernel)⟩
theorem lw_p15 : lw_okq (⟨"ClockRiver", "give", "(I)I"⟩, 15) := ⟨⟨by decide +kernel, by decide +kernel⟩, List.mem_of_getElem? (i := 21) (by decide +kernel), List.mem_of_getElem? (i := 814) (by decide +kernel), List.mem_of_getElem? (i := 815) (by decide +kernel)⟩
def lw_privs_1 : List (MethodName × Nat) := [(⟨"ClockRiver", "deny", "(I)Z"⟩, 15), (⟨"ClockRiver", "grant", "()Z"⟩, 15), (⟨"ClockRiver", "refuse", "(I)I"⟩, 15), (⟨"ClockRiver$Tape", "addToken", "(II)I"⟩, 12), (⟨"ClockRiver$Tape", "addWord", "(II)I"⟩, 12), (⟨"ClockRiver$Tape", "kindOfWord", "(II)I"⟩, 12), (⟨"ClockRiver$Tape", "isLike", "(III)Z"⟩, 12), (⟨"ClockRiver$Tape", "addNumber", "(II)I"⟩, 12), (⟨"ClockRiver$Tape", "addSign", "(II)I"⟩, 12), (⟨"ClockRiver$RiverReader", "readPart", "()Z"⟩, 4), (⟨"ClockRiver$RiverReader", "readSetting", "(I)Z"⟩, 4), (⟨"ClockRiver$RiverReader", "readReach", "()Z"⟩, 4), (⟨"ClockRiver$RiverReader", "takeNewName", "()Z"⟩, 4), (⟨"ClockRiver$RiverReader", "readMill", "()Z"⟩, 4), (⟨"ClockRiver$RiverReader", "readWinder", "()Z"⟩, 4), (⟨"ClockRiver", "give", "(I)I"⟩, 15)]
theorem lw_r1 : ∀ q ∈ lw_privs_1, lw_okq q := List.forall_mem_cons.mpr ⟨lw_p0, List.forall_mem_cons.mpr ⟨lw_p1, List.forall_mem_cons.mpr ⟨lw_p2, List.forall_mem_cons.mpr ⟨lw_p3, List.forall_mem_cons.mpr ⟨lw_p4, List.forall_mem_cons.mpr ⟨lw_p5, List.forall_mem_cons.mpr ⟨lw_p6, List.forall_mem_cons.mpr ⟨lw_p7, List.forall_mem_cons.mpr ⟨lw_p8, List.forall_mem_cons.mpr ⟨lw_p9, List.forall_mem_cons.mpr ⟨lw_p10, List.forall_mem_cons.mpr ⟨lw_p11, List.forall_mem_cons.mpr ⟨lw_p12, List.forall_mem_cons.mpr ⟨lw_p13, List.forall_mem_cons.mpr ⟨lw_p14, List.forall_mem_cons.mpr ⟨lw_p15, fun _ h => absurd h List.not_mem_nil⟩⟩⟩⟩⟩⟩⟩⟩⟩⟩⟩⟩⟩⟩⟩⟩
theorem lw_p16 : lw_okq (⟨"ClockRiver$WeeksReader", "beginEnd", "()Z"⟩, 6) := ⟨⟨by decide +kernel, by decide +kernel⟩, List.mem_of_getElem? (i := 364) (by decide +kernel), List.mem_of_getElem? (i := 827) (by decide +kernel), List.mem_of_getElem? (i := 828) (by decide +kernel)⟩
theorem lw_p17 : lw_okq (⟨"ClockRiver$WeeksReader", "beginStep", "()Z"⟩, 6) := ⟨⟨by decide +kernel, by decide +kernel⟩, List.mem_of_getElem? (i := 364) (by decide +kernel), List.mem_of_getElem? (i := 837) (by decide +kernel), List.mem_of_getElem? (i := 838) (by decide +kernel)⟩
theorem lw_p18 : lw_okq (⟨"ClockRiver$WeeksReader", "readRest", "()Z"⟩, 6) := ⟨⟨by decide +kernel, by decide +kernel⟩, List.mem_of_getElem? (i := 364) (by decide +kernel), List.mem_of_getElem? (i := 846) (by decide +kernel), List.mem_of_getElem? (i := 847) (by decide +kernel)⟩
theorem lw_p19 : lw_okq (⟨"ClockRiver$WeeksReader", "takeNumber", "(II)Z"⟩, 6) := ⟨⟨by decide +kernel, by decide +kernel⟩, List.mem_of_getElem? (i := 364) (by decide +kernel), List.mem_of_getElem? (i := 850) (by decide +kernel), List.mem_of_getElem? (i := 851) (by decide +kernel)⟩
theorem lw_p20 : lw_okq (⟨"ClockRiver$WeeksReader", "readWind", "()Z"⟩, 6) := ⟨⟨by decide +kernel, by decide +kernel⟩, List.mem_of_getElem? (i := 364) (by decide +kernel), List.mem_of_getElem? (i := 855) (by decide +kernel), List.mem_of_getElem? (i := 856) (by decide +kernel)⟩
theorem lw_p21 : lw_okq (⟨"ClockRiver$WeeksReader", "takeName", "([JI)Z"⟩, 6) := ⟨⟨by decide +kernel, by decide +kernel⟩, List.mem_of_getElem? (i := 364) (by decide +kernel), List.mem_of_getElem? (i := 859) (by decide +kernel), List.mem_of_getElem? (i := 860) (by decide +kernel)⟩
theorem lw_p22 : lw_okq (⟨"ClockRiver$WeeksReader", "readTest", "()Z"⟩, 6) := ⟨⟨by decide +kernel, by decide +kernel⟩, List.mem_of_getElem? (i := 364) (by decide +kernel), List.mem_of_getElem? (i := 864) (by decide +kernel), List.mem_of_getElem? (i := 865) (by decide +kernel)⟩
theorem lw_p23 : lw_okq (⟨"ClockRiver$WeeksReader", "takeComparison", "()Z"⟩, 6) := ⟨⟨by decide +kernel, by decide +kernel⟩, List.mem_of_getElem? (i := 364) (by decide +kernel), List.mem_of_getElem? (i := 868) (by decide +kernel), List.mem_of_getElem? (i := 869) (by decide +kernel)⟩
theorem lw_p24 : lw_okq (⟨"ClockRiver$River", "runDown", "()V"⟩, 11) := ⟨⟨by decide +kernel, by decide +kernel⟩, List.mem_of_getElem? (i := 29) (by decide +kernel), List.mem_of_getElem? (i := 966) (by decide +kernel), List.mem_of_getElem? (i := 967) (by decide +kernel)⟩
theorem lw_p25 : lw_okq (⟨"ClockRiver$River", "runUp", "()V"⟩, 11) := ⟨⟨by decide +kernel, by decide +kernel⟩, List.mem_of_getElem? (i := 29) (by decide +kernel), List.mem_of_getElem? (i := 970) (by decide +kernel), List.mem_of_getElem? (i := 971) (by decide +kernel)⟩
theorem lw_p26 : lw_okq (⟨"ClockRiver$River", "slacken", "()V"⟩, 11) := ⟨⟨by decide +kernel, by decide +kernel⟩, List.mem_of_getElem? (i := 29) (by decide +kernel), List.mem_of_getElem? (i := 989) (by decide +kernel), List.mem_of_getElem? (i := 990) (by decide +kernel)⟩
theorem lw_p27 : lw_okq (⟨"ClockRiver", "giveIfAny", "(I)I"⟩, 15) := ⟨⟨by decide +kernel, by decide +kernel⟩, List.mem_of_getElem? (i := 21) (by decide +kernel), List.mem_of_getElem? (i := 1082) (by decide +kernel), List.mem_of_getElem? (i := 1083) (by decide +kernel)⟩
theorem lw_p28 : lw_okq (⟨"ClockRiver", "whyNoGate", "(II)I"⟩, 15) := ⟨⟨by decide +kernel, by decide +kernel⟩, List.mem_of_getElem? (i := 21) (by decide +kernel), List.mem_of_getElem? (i := 1118) (by decide +kernel), List.mem_of_getElem? (i := 1119) (by decide +kernel)⟩
theorem lw_p29 : lw_okq (⟨"ClockRiver$Ahead", "tryHands", "(III)V"⟩, 12) := ⟨⟨by decide +kernel, by decide +kernel⟩, List.mem_of_getElem? (i := 394) (by decide +kernel), List.mem_of_getElem? (i := 1142) (by decide +kernel), List.mem_of_getElem? (i := 1143) (by decide +kernel)⟩
theorem lw_p30 : lw_okq (⟨"ClockRiver$Ahead", "play", "(I)I"⟩, 12) := ⟨⟨by decide +kernel, by decide +kernel⟩, List.mem_of_getElem? (i := 394) (by decide +kernel), List.mem_of_getElem? (i := 1188) (by decide +kernel), List.mem_of_getElem? (i := 1189) (by decide +kernel)⟩
theorem lw_p31 : lw_okq (⟨"ClockRiver$Ahead", "leadOf", "(LClockRiver$River;)I"⟩, 12) := ⟨⟨by decide +kernel, by decide +kernel⟩, List.mem_of_getElem? (i := 394) (by decide +kernel), List.mem_of_getElem? (i := 1192) (by decide +kernel), List.mem_of_getElem? (i := 1193) (by decide +kernel)⟩
def lw_privs_2 : List (MethodName × Nat) := [(⟨"ClockRiver$WeeksReader", "beginEnd", "()Z"⟩, 6), (⟨"ClockRiver$WeeksReader", "beginStep", "()Z"⟩, 6), (⟨"ClockRiver$WeeksReader", "readRest", "()Z"⟩, 6), (⟨"ClockRiver$WeeksReader", "takeNumber", "(II)Z"⟩, 6), (⟨"ClockRiver$WeeksReader", "readWind", "()Z"⟩, 6), (⟨"ClockRiver$WeeksReader", "takeName", "([JI)Z"⟩, 6), (⟨"ClockRiver$WeeksReader", "readTest", "()Z"⟩, 6), (⟨"ClockRiver$WeeksReader", "takeComparison", "()Z"⟩, 6), (⟨"ClockRiver$River", "runDown", "()V"⟩, 11), (⟨"ClockRiver$River", "runUp", "()V"⟩, 11), (⟨"ClockRiver$River", "slacken", "()V"⟩, 11), (⟨"ClockRiver", "giveIfAny", "(I)I"⟩, 15), (⟨"ClockRiver", "whyNoGate", "(II)I"⟩, 15), (⟨"ClockRiver$Ahead", "tryHands", "(III)V"⟩, 12), (⟨"ClockRiver$Ahead", "play", "(I)I"⟩, 12), (⟨"ClockRiver$Ahead", "leadOf", "(LClockRiver$River;)I"⟩, 12)]
theorem lw_r2 : ∀ q ∈ lw_privs_2, lw_okq q := List.forall_mem_cons.mpr ⟨lw_p16, List.forall_mem_cons.mpr ⟨lw_p17, List.forall_mem_cons.mpr ⟨lw_p18, List.forall_mem_cons.mpr ⟨lw_p19, List.forall_mem_cons.mpr ⟨lw_p20, List.forall_mem_cons.mpr ⟨lw_p21, List.forall_mem_cons.mpr ⟨lw_p22, List.forall_mem_cons.mpr ⟨lw_p23, List.forall_mem_cons.mpr ⟨lw_p24, List.forall_mem_cons.mpr ⟨lw_p25, List.forall_mem_cons.mpr ⟨lw_p26, List.forall_mem_cons.mpr ⟨lw_p27, List.forall_mem_cons.mpr ⟨lw_p28, List.forall_mem_cons.mpr ⟨lw_p29, List.forall_mem_cons.mpr ⟨lw_p30, List.forall_mem_cons.mpr ⟨lw_p31, fun _ h => absurd h List.not_mem_nil⟩⟩⟩⟩⟩⟩⟩⟩⟩⟩⟩⟩⟩⟩⟩⟩
theorem lw_p32 : lw_okq (⟨"ClockRiver", "tellFraction", "(JJ)V"⟩, 15) := ⟨⟨by decide +kernel, by decide +kernel⟩, List.mem_of_getElem? (i := 21) (by decide +kernel), List.mem_of_getElem? (i := 1208) (by decide +kernel), List.mem_of_getElem? (i := 1209) (by decide +kernel)⟩
theorem lw_p33 : lw_okq (⟨"ClockRiver", "waysToRain", "(II)J"⟩, 15) := ⟨⟨by decide +kernel, by decide +kernel⟩, List.mem_of_getElem? (i := 21) (by decide +kernel), List.mem_of_getElem? (i := 1227) (by decide +kernel), List.mem_of_getElem? (i := 1228) (by decide +kernel)⟩
theorem lw_p34 : lw_okq (⟨"ClockRiver$Life", "rowBehindEnd", "(I)I"⟩, 11) := ⟨⟨by decide +kernel, by decide +kernel⟩, List.mem_of_getElem? (i := 443) (by decide +kernel), List.mem_of_getElem? (i := 1240) (by decide +kernel), List.mem_of_getElem? (i := 1241) (by decide +kernel)⟩
theorem lw_p35 : lw_okq (⟨"ClockRiver$Life", "isDone", "(I)Z"⟩, 11) := ⟨⟨by decide +kernel, by decide +kernel⟩, List.mem_of_getElem? (i := 443) (by decide +kernel), List.mem_of_getElem? (i := 1244) (by decide +kernel), List.mem_of_getElem? (i := 1245) (by decide +kernel)⟩
theorem lw_p36 : lw_okq (⟨"ClockRiver$Life", "waits", "(I)Z"⟩, 11) := ⟨⟨by decide +kernel, by decide +kernel⟩, List.mem_of_getElem? (i := 443) (by decide +kernel), List.mem_of_getElem? (i := 1248) (by decide +kernel), List.mem_of_getElem? (i := 1249) (by decide +kernel)⟩
theorem lw_p37 : lw_okq (⟨"ClockRiver$Life", "winds", "(IZ)Z"⟩, 11) := ⟨⟨by decide +kernel, by decide +kernel⟩, List.mem_of_getElem? (i := 443) (by decide +kernel), List.mem_of_getElem? (i := 1254) (by decide +kernel), List.mem_of_getElem? (i := 1255) (by decide +kernel)⟩
theorem lw_p38 : lw_okq (⟨"ClockRiver$Life", "sets", "(II)Z"⟩, 11) := ⟨⟨by decide +kernel, by decide +kernel⟩, List.mem_of_getElem? (i := 443) (by decide +kernel), List.mem_of_getElem? (i := 1260) (by decide +kernel), List.mem_of_getElem? (i := 1261) (by decide +kernel)⟩
theorem lw_p39 : lw_okq (⟨"ClockRiver$Life", "turnsTo", "(Z)Z"⟩, 11) := ⟨⟨by decide +kernel, by decide +kernel⟩, List.mem_of_getElem? (i := 443) (by decide +kernel), List.mem_of_getElem? (i := 1264) (by decide +kernel), List.mem_of_getElem? (i := 1265) (by decide +kernel)⟩
theorem lw_p40 : lw_okq (⟨"ClockRiver$Life", "doesAny", "()Z"⟩, 11) := ⟨⟨by decide +kernel, by decide +kernel⟩, List.mem_of_getElem? (i := 443) (by decide +kernel), List.mem_of_getElem? (i := 1268) (by decide +kernel), List.mem_of_getElem? (i := 1269) (by decide +kernel)⟩
theorem lw_p41 : lw_okq (⟨"ClockRiver$Life", "drawBy", "(I)I"⟩, 11) := ⟨⟨by decide +kernel, by decide +kernel⟩, List.mem_of_getElem? (i := 443) (by decide +kernel), List.mem_of_getElem? (i := 1272) (by decide +kernel), List.mem_of_getElem? (i := 1273) (by decide +kernel)⟩
theorem lw_p42 : lw_okq (⟨"ClockRiver$Life", "rowBehindStep", "(I)I"⟩, 11) := ⟨⟨by decide +kernel, by decide +kernel⟩, List.mem_of_getElem? (i := 443) (by decide +kernel), List.mem_of_getElem? (i := 1277) (by decide +kernel), List.mem_of_getElem? (i := 1278) (by decide +kernel)⟩
theorem lw_p43 : lw_okq (⟨"ClockRiver$Life", "holds", "(I)Z"⟩, 11) := ⟨⟨by decide +kernel, by decide +kernel⟩, List.mem_of_getElem? (i := 443) (by decide +kernel), List.mem_of_getElem? (i := 1281) (by decide +kernel), List.mem_of_getElem? (i := 1282) (by decide +kernel)⟩
theorem lw_p44 : lw_okq (⟨"ClockRiver$Life", "compares", "(II)Z"⟩, 11) := ⟨⟨by decide +kernel, by decide +kernel⟩, List.mem_of_getElem? (i := 443) (by decide +kernel), List.mem_of_getElem? (i := 1285) (by decide +kernel), List.mem_of_getElem? (i := 1286) (by decide +kernel)⟩
theorem lw_p45 : lw_okq (⟨"ClockRiverModel", "empties", "(I)V"⟩, 49) := ⟨⟨by decide +kernel, by decide +kernel⟩, List.mem_of_getElem? (i := 1310) (by decide +kernel), List.mem_of_getElem? (i := 1316) (by decide +kernel), List.mem_of_getElem? (i := 1317) (by decide +kernel)⟩
theorem lw_p46 : lw_okq (⟨"ClockRiverModel", "no", "(I)Z"⟩, 49) := ⟨⟨by decide +kernel, by decide +kernel⟩, List.mem_of_getElem? (i := 1310) (by decide +kernel), List.mem_of_getElem? (i := 1484) (by decide +kernel), List.mem_of_getElem? (i := 1485) (by decide +kernel)⟩
theorem lw_p47 : lw_okq (⟨"ClockRiverModel", "placed", "(II)I"⟩, 49) := ⟨⟨by decide +kernel, by decide +kernel⟩, List.mem_of_getElem? (i := 1310) (by decide +kernel), List.mem_of_getElem? (i := 1492) (by decide +kernel), List.mem_of_getElem? (i := 1493) (by decide +kernel)⟩
def lw_privs_3 : List (MethodName × Nat) := [(⟨"ClockRiver", "tellFraction", "(JJ)V"⟩, 15), (⟨"ClockRiver", "waysToRain", "(II)J"⟩, 15), (⟨"ClockRiver$Life", "rowBehindEnd", "(I)I"⟩, 11), (⟨"ClockRiver$Life", "isDone", "(I)Z"⟩, 11), (⟨"ClockRiver$Life", "waits", "(I)Z"⟩, 11), (⟨"ClockRiver$Life", "winds", "(IZ)Z"⟩, 11), (⟨"ClockRiver$Life", "sets", "(II)Z"⟩, 11), (⟨"ClockRiver$Life", "turnsTo", "(Z)Z"⟩, 11), (⟨"ClockRiver$Life", "doesAny", "()Z"⟩, 11), (⟨"ClockRiver$Life", "drawBy", "(I)I"⟩, 11), (⟨"ClockRiver$Life", "rowBehindStep", "(I)I"⟩, 11), (⟨"ClockRiver$Life", "holds", "(I)Z"⟩, 11), (⟨"ClockRiver$Life", "compares", "(II)Z"⟩, 11), (⟨"ClockRiverModel", "empties", "(I)V"⟩, 49), (⟨"ClockRiverModel", "no", "(I)Z"⟩, 49), (⟨"ClockRiverModel", "placed", "(II)I"⟩, 49)]
theorem lw_r3 : ∀ q ∈ lw_privs_3, lw_okq q := List.forall_mem_cons.mpr ⟨lw_p32, List.forall_mem_cons.mpr ⟨lw_p33, List.forall_mem_cons.mpr ⟨lw_p34, List.forall_mem_cons.mpr ⟨lw_p35, List.forall_mem_cons.mpr ⟨lw_p36, List.forall_mem_cons.mpr ⟨lw_p37, List.forall_mem_cons.mpr ⟨lw_p38, List.forall_mem_cons.mpr ⟨lw_p39, List.forall_mem_cons.mpr ⟨lw_p40, List.forall_mem_cons.mpr ⟨lw_p41, List.forall_mem_cons.mpr ⟨lw_p42, List.forall_mem_cons.mpr ⟨lw_p43, List.forall_mem_cons.mpr ⟨lw_p44, List.forall_mem_cons.mpr ⟨lw_p45, List.forall_mem_cons.mpr ⟨lw_p46, List.forall_mem_cons.mpr ⟨lw_p47, fun _ h => absurd h List.not_mem_nil⟩⟩⟩⟩⟩⟩⟩⟩⟩⟩⟩⟩⟩⟩⟩⟩
theorem lw_p48 : lw_okq (⟨"ClockRiverModel", "trayed", "(I)I"⟩, 49) := ⟨⟨by decide +kernel, by decide +kernel⟩, List.mem_of_getElem? (i := 1310) (by decide +kernel), List.mem_of_getElem? (i := 1496) (by decide +kernel), List.mem_of_getElem? (i := 1497) (by decide +kernel)⟩
theorem lw_p49 : lw_okq (⟨"ClockRiverModel", "lay", "(I)V"⟩, 49) := ⟨⟨by decide +kernel, by decide +kernel⟩, List.mem_of_getElem? (i := 1310) (by decide +kernel), List.mem_of_getElem? (i := 1516) (by decide +kernel), List.mem_of_getElem? (i := 1517) (by decide +kernel)⟩
theorem lw_p50 : lw_okq (⟨"ClockRiverModel", "starts", "(II)Z"⟩, 49) := ⟨⟨by decide +kernel, by decide +kernel⟩, List.mem_of_getElem? (i := 1310) (by decide +kernel), List.mem_of_getElem? (i := 1528) (by decide +kernel), List.mem_of_getElem? (i := 1529) (by decide +kernel)⟩
theorem lw_p51 : lw_okq (⟨"ClockRiverModel", "advance", "()V"⟩, 49) := ⟨⟨by decide +kernel, by decide +kernel⟩, List.mem_of_getElem? (i := 1310) (by decide +kernel), List.mem_of_getElem? (i := 1532) (by decide +kernel), List.mem_of_getElem? (i := 1533) (by decide +kernel)⟩
theorem lw_p52 : lw_okq (⟨"ClockRiverModel", "look2", "(I)I"⟩, 49) := ⟨⟨by decide +kernel, by decide +kernel⟩, List.mem_of_getElem? (i := 1310) (by decide +kernel), List.mem_of_getElem? (i := 1536) (by decide +kernel), List.mem_of_getElem? (i := 1537) (by decide +kernel)⟩
theorem lw_p53 : lw_okq (⟨"ClockRiverModel", "isSignByte", "(I)Z"⟩, 49) := ⟨⟨by decide +kernel, by decide +kernel⟩, List.mem_of_getElem? (i := 1310) (by decide +kernel), List.mem_of_getElem? (i := 1548) (by decide +kernel), List.mem_of_getElem? (i := 1549) (by decide +kernel)⟩
theorem lw_p54 : lw_okq (⟨"ClockRiverModel", "readPart", "()V"⟩, 49) := ⟨⟨by decide +kernel, by decide +kernel⟩, List.mem_of_getElem? (i := 1310) (by decide +kernel), List.mem_of_getElem? (i := 1552) (by decide +kernel), List.mem_of_getElem? (i := 1553) (by decide +kernel)⟩
theorem lw_p55 : lw_okq (⟨"ClockRiverModel", "isTurns", "()Z"⟩, 49) := ⟨⟨by decide +kernel, by decide +kernel⟩, List.mem_of_getElem? (i := 1310) (by decide +kernel), List.mem_of_getElem? (i := 1556) (by decide +kernel), List.mem_of_getElem? (i := 1557) (by decide +kernel)⟩
theorem lw_p56 : lw_okq (⟨"ClockRiverModel", "isWord", "(J)Z"⟩, 49) := ⟨⟨by decide +kernel, by decide +kernel⟩, List.mem_of_getElem? (i := 1310) (by decide +kernel), List.mem_of_getElem? (i := 1563) (by decide +kernel), List.mem_of_getElem? (i := 1564) (by decide +kernel)⟩
theorem lw_p57 : lw_okq (⟨"ClockRiverModel", "readOnce", "(III)V"⟩, 49) := ⟨⟨by decide +kernel, by decide +kernel⟩, List.mem_of_getElem? (i := 1310) (by decide +kernel), List.mem_of_getElem? (i := 1567) (by decide +kernel), List.mem_of_getElem? (i := 1568) (by decide +kernel)⟩
theorem lw_p58 : lw_okq (⟨"ClockRiverModel", "fail", "(II)V"⟩, 49) := ⟨⟨by decide +kernel, by decide +kernel⟩, List.mem_of_getElem? (i := 1310) (by decide +kernel), List.mem_of_getElem? (i := 1574) (by decide +kernel), List.mem_of_getElem? (i := 1575) (by decide +kernel)⟩
theorem lw_p59 : lw_okq (⟨"ClockRiverModel", "count", "(II)I"⟩, 49) := ⟨⟨by decide +kernel, by decide +kernel⟩, List.mem_of_getElem? (i := 1310) (by decide +kernel), List.mem_of_getElem? (i := 1578) (by decide +kernel), List.mem_of_getElem? (i := 1579) (by decide +kernel)⟩
theorem lw_p60 : lw_okq (⟨"ClockRiverModel", "amiss", "()V"⟩, 49) := ⟨⟨by decide +kernel, by decide +kernel⟩, List.mem_of_getElem? (i := 1310) (by decide +kernel), List.mem_of_getElem? (i := 1582) (by decide +kernel), List.mem_of_getElem? (i := 1583) (by decide +kernel)⟩
theorem lw_p61 : lw_okq (⟨"ClockRiverModel", "isSlack", "()Z"⟩, 49) := ⟨⟨by decide +kernel, by decide +kernel⟩, List.mem_of_getElem? (i := 1310) (by decide +kernel), List.mem_of_getElem? (i := 1589) (by decide +kernel), List.mem_of_getElem? (i := 1590) (by decide +kernel)⟩
theorem lw_p62 : lw_okq (⟨"ClockRiverModel", "stepWord", "()I"⟩, 49) := ⟨⟨by decide +kernel, by decide +kernel⟩, List.mem_of_getElem? (i := 1310) (by decide +kernel), List.mem_of_getElem? (i := 1593) (by decide +kernel), List.mem_of_getElem? (i := 1594) (by decide +kernel)⟩
theorem lw_p63 : lw_okq (⟨"ClockRiverModel", "isGate", "()Z"⟩, 49) := ⟨⟨by decide +kernel, by decide +kernel⟩, List.mem_of_getElem? (i := 1310) (by decide +kernel), List.mem_of_getElem? (i := 1597) (by decide +kernel), List.mem_of_getElem? (i := 1598) (by decide +kernel)⟩
def lw_privs_4 : List (MethodName × Nat) := [(⟨"ClockRiverModel", "trayed", "(I)I"⟩, 49), (⟨"ClockRiverModel", "lay", "(I)V"⟩, 49), (⟨"ClockRiverModel", "starts", "(II)Z"⟩, 49), (⟨"ClockRiverModel", "advance", "()V"⟩, 49), (⟨"ClockRiverModel", "look2", "(I)I"⟩, 49), (⟨"ClockRiverModel", "isSignByte", "(I)Z"⟩, 49), (⟨"ClockRiverModel", "readPart", "()V"⟩, 49), (⟨"ClockRiverModel", "isTurns", "()Z"⟩, 49), (⟨"ClockRiverModel", "isWord", "(J)Z"⟩, 49), (⟨"ClockRiverModel", "readOnce", "(III)V"⟩, 49), (⟨"ClockRiverModel", "fail", "(II)V"⟩, 49), (⟨"ClockRiverModel", "count", "(II)I"⟩, 49), (⟨"ClockRiverModel", "amiss", "()V"⟩, 49), (⟨"ClockRiverModel", "isSlack", "()Z"⟩, 49), (⟨"ClockRiverModel", "stepWord", "()I"⟩, 49), (⟨"ClockRiverModel", "isGate", "()Z"⟩, 49)]
theorem lw_r4 : ∀ q ∈ lw_privs_4, lw_okq q := List.forall_mem_cons.mpr ⟨lw_p48, List.forall_mem_cons.mpr ⟨lw_p49, List.forall_mem_cons.mpr ⟨lw_p50, List.forall_mem_cons.mpr ⟨lw_p51, List.forall_mem_cons.mpr ⟨lw_p52, List.forall_mem_cons.mpr ⟨lw_p53, List.forall_mem_cons.mpr ⟨lw_p54, List.forall_mem_cons.mpr ⟨lw_p55, List.forall_mem_cons.mpr ⟨lw_p56, List.forall_mem_cons.mpr ⟨lw_p57, List.forall_mem_cons.mpr ⟨lw_p58, List.forall_mem_cons.mpr ⟨lw_p59, List.forall_mem_cons.mpr ⟨lw_p60, List.forall_mem_cons.mpr ⟨lw_p61, List.forall_mem_cons.mpr ⟨lw_p62, List.forall_mem_cons.mpr ⟨lw_p63, fun _ h => absurd h List.not_mem_nil⟩⟩⟩⟩⟩⟩⟩⟩⟩⟩⟩⟩⟩⟩⟩⟩
theorem lw_p64 : lw_okq (⟨"ClockRiverModel", "isOdds", "()Z"⟩, 49) := ⟨⟨by decide +kernel, by decide +kernel⟩, List.mem_of_getElem? (i := 1310) (by decide +kernel), List.mem_of_getElem? (i := 1601) (by decide +kernel), List.mem_of_getElem? (i := 1602) (by decide +kernel)⟩
theorem lw_p65 : lw_okq (⟨"ClockRiverModel", "isReach", "()Z"⟩, 49) := ⟨⟨by decide +kernel, by decide +kernel⟩, List.mem_of_getElem? (i := 1310) (by decide +kernel), List.mem_of_getElem? (i := 1605) (by decide +kernel), List.mem_of_getElem? (i := 1606) (by decide +kernel)⟩
theorem lw_p66 : lw_okq (⟨"ClockRiverModel", "readReach", "()V"⟩, 49) := ⟨⟨by decide +kernel, by decide +kernel⟩, List.mem_of_getElem? (i := 1310) (by decide +kernel), List.mem_of_getElem? (i := 1609) (by decide +kernel), List.mem_of_getElem? (i := 1610) (by decide +kernel)⟩
theorem lw_p67 : lw_okq (⟨"ClockRiverModel", "readNew", "(I)I"⟩, 49) := ⟨⟨by decide +kernel, by decide +kernel⟩, List.mem_of_getElem? (i := 1310) (by decide +kernel), List.mem_of_getElem? (i := 1613) (by decide +kernel), List.mem_of_getElem? (i := 1614) (by decide +kernel)⟩
theorem lw_p68 : lw_okq (⟨"ClockRiverModel", "isName", "()Z"⟩, 49) := ⟨⟨by decide +kernel, by decide +kernel⟩, List.mem_of_getElem? (i := 1310) (by decide +kernel), List.mem_of_getElem? (i := 1617) (by decide +kernel), List.mem_of_getElem? (i := 1618) (by decide +kernel)⟩
theorem lw_p69 : lw_okq (⟨"ClockRiverModel", "isKept", "()Z"⟩, 49) := ⟨⟨by decide +kernel, by decide +kernel⟩, List.mem_of_getElem? (i := 1310) (by decide +kernel), List.mem_of_getElem? (i := 1621) (by decide +kernel), List.mem_of_getElem? (i := 1622) (by decide +kernel)⟩
theorem lw_p70 : lw_okq (⟨"ClockRiverModel", "isBank", "()Z"⟩, 49) := ⟨⟨by decide +kernel, by decide +kernel⟩, List.mem_of_getElem? (i := 1310) (by decide +kernel), List.mem_of_getElem? (i := 1625) (by decide +kernel), List.mem_of_getElem? (i := 1626) (by decide +kernel)⟩
theorem lw_p71 : lw_okq (⟨"ClockRiverModel", "isHolds", "()Z"⟩, 49) := ⟨⟨by decide +kernel, by decide +kernel⟩, List.mem_of_getElem? (i := 1310) (by decide +kernel), List.mem_of_getElem? (i := 1629) (by decide +kernel), List.mem_of_getElem? (i := 1630) (by decide +kernel)⟩
theorem lw_p72 : lw_okq (⟨"ClockRiverModel", "isMill", "()Z"⟩, 49) := ⟨⟨by decide +kernel, by decide +kernel⟩, List.mem_of_getElem? (i := 1310) (by decide +kernel), List.mem_of_getElem? (i := 1633) (by decide +kernel), List.mem_of_getElem? (i := 1634) (by decide +kernel)⟩
theorem lw_p73 : lw_okq (⟨"ClockRiverModel", "isAt", "()Z"⟩, 49) := ⟨⟨by decide +kernel, by decide +kernel⟩, List.mem_of_getElem? (i := 1310) (by decide +kernel), List.mem_of_getElem? (i := 1637) (by decide +kernel), List.mem_of_getElem? (i := 1638) (by decide +kernel)⟩
theorem lw_p74 : lw_okq (⟨"ClockRiverModel", "isNeeds", "()Z"⟩, 49) := ⟨⟨by decide +kernel, by decide +kernel⟩, List.mem_of_getElem? (i := 1310) (by decide +kernel), List.mem_of_getElem? (i := 1641) (by decide +kernel), List.mem_of_getElem? (i := 1642) (by decide +kernel)⟩
theorem lw_p75 : lw_okq (⟨"ClockRiverModel", "isWinder", "()Z"⟩, 49) := ⟨⟨by decide +kernel, by decide +kernel⟩, List.mem_of_getElem? (i := 1310) (by decide +kernel), List.mem_of_getElem? (i := 1645) (by decide +kernel), List.mem_of_getElem? (i := 1646) (by decide +kernel)⟩
theorem lw_p76 : lw_okq (⟨"ClockRiverModel", "isStrength", "()Z"⟩, 49) := ⟨⟨by decide +kernel, by decide +kernel⟩, List.mem_of_getElem? (i := 1310) (by decide +kernel), List.mem_of_getElem? (i := 1649) (by decide +kernel), List.mem_of_getElem? (i := 1650) (by decide +kernel)⟩
theorem lw_p77 : lw_okq (⟨"ClockRiverModel", "isWage", "()Z"⟩, 49) := ⟨⟨by decide +kernel, by decide +kernel⟩, List.mem_of_getElem? (i := 1310) (by decide +kernel), List.mem_of_getElem? (i := 1655) (by decide +kernel), List.mem_of_getElem? (i := 1656) (by decide +kernel)⟩
theorem lw_p78 : lw_okq (⟨"ClockRiverModel", "isBack", "()Z"⟩, 49) := ⟨⟨by decide +kernel, by decide +kernel⟩, List.mem_of_getElem? (i := 1310) (by decide +kernel), List.mem_of_getElem? (i := 1659) (by decide +kernel), List.mem_of_getElem? (i := 1660) (by decide +kernel)⟩
theorem lw_p79 : lw_okq (⟨"ClockRiverModel", "testWord", "()I"⟩, 49) := ⟨⟨by decide +kernel, by decide +kernel⟩, List.mem_of_getElem? (i := 1310) (by decide +kernel), List.mem_of_getElem? (i := 1663) (by decide +kernel), List.mem_of_getElem? (i := 1664) (by decide +kernel)⟩
def lw_privs_5 : List (MethodName × Nat) := [(⟨"ClockRiverModel", "isOdds", "()Z"⟩, 49), (⟨"ClockRiverModel", "isReach", "()Z"⟩, 49), (⟨"ClockRiverModel", "readReach", "()V"⟩, 49), (⟨"ClockRiverModel", "readNew", "(I)I"⟩, 49), (⟨"ClockRiverModel", "isName", "()Z"⟩, 49), (⟨"ClockRiverModel", "isKept", "()Z"⟩, 49), (⟨"ClockRiverModel", "isBank", "()Z"⟩, 49), (⟨"ClockRiverModel", "isHolds", "()Z"⟩, 49), (⟨"ClockRiverModel", "isMill", "()Z"⟩, 49), (⟨"ClockRiverModel", "isAt", "()Z"⟩, 49), (⟨"ClockRiverModel", "isNeeds", "()Z"⟩, 49), (⟨"ClockRiverModel", "isWinder", "()Z"⟩, 49), (⟨"ClockRiverModel", "isStrength", "()Z"⟩, 49), (⟨"ClockRiverModel", "isWage", "()Z"⟩, 49), (⟨"ClockRiverModel", "isBack", "()Z"⟩, 49), (⟨"ClockRiverModel", "testWord", "()I"⟩, 49)]
theorem lw_r5 : ∀ q ∈ lw_privs_5, lw_okq q := List.forall_mem_cons.mpr ⟨lw_p64, List.forall_mem_cons.mpr ⟨lw_p65, List.forall_mem_cons.mpr ⟨lw_p66, List.forall_mem_cons.mpr ⟨lw_p67, List.forall_mem_cons.mpr ⟨lw_p68, List.forall_mem_cons.mpr ⟨lw_p69, List.forall_mem_cons.mpr ⟨lw_p70, List.forall_mem_cons.mpr ⟨lw_p71, List.forall_mem_cons.mpr ⟨lw_p72, List.forall_mem_cons.mpr ⟨lw_p73, List.forall_mem_cons.mpr ⟨lw_p74, List.forall_mem_cons.mpr ⟨lw_p75, List.forall_mem_cons.mpr ⟨lw_p76, List.forall_mem_cons.mpr ⟨lw_p77, List.forall_mem_cons.mpr ⟨lw_p78, List.forall_mem_cons.mpr ⟨lw_p79, fun _ h => absurd h List.not_mem_nil⟩⟩⟩⟩⟩⟩⟩⟩⟩⟩⟩⟩⟩⟩⟩⟩
theorem lw_p80 : lw_okq (⟨"ClockRiverModel", "isEnd", "()Z"⟩, 49) := ⟨⟨by decide +kernel, by decide +kernel⟩, List.mem_of_getElem? (i := 1310) (by decide +kernel), List.mem_of_getElem? (i := 1668) (by decide +kernel), List.mem_of_getElem? (i := 1669) (by decide +kernel)⟩
theorem lw_p81 : lw_okq (⟨"ClockRiverModel", "isTaken", "()Z"⟩, 49) := ⟨⟨by decide +kernel, by decide +kernel⟩, List.mem_of_getElem? (i := 1310) (by decide +kernel), List.mem_of_getElem? (i := 1672) (by decide +kernel), List.mem_of_getElem? (i := 1673) (by decide +kernel)⟩
theorem lw_p82 : lw_okq (⟨"ClockRiverModel", "named", "(II)I"⟩, 49) := ⟨⟨by decide +kernel, by decide +kernel⟩, List.mem_of_getElem? (i := 1310) (by decide +kernel), List.mem_of_getElem? (i := 1676) (by decide +kernel), List.mem_of_getElem? (i := 1677) (by decide +kernel)⟩
theorem lw_p83 : lw_okq (⟨"ClockRiverModel", "behindWord", "(ZII)I"⟩, 49) := ⟨⟨by decide +kernel, by decide +kernel⟩, List.mem_of_getElem? (i := 1310) (by decide +kernel), List.mem_of_getElem? (i := 1680) (by decide +kernel), List.mem_of_getElem? (i := 1681) (by decide +kernel)⟩
theorem lw_p84 : lw_okq (⟨"ClockRiverModel", "must", "(Z)V"⟩, 49) := ⟨⟨by decide +kernel, by decide +kernel⟩, List.mem_of_getElem? (i := 1310) (by decide +kernel), List.mem_of_getElem? (i := 1684) (by decide +kernel), List.mem_of_getElem? (i := 1685) (by decide +kernel)⟩
theorem lw_p85 : lw_okq (⟨"ClockRiverModel", "perhaps", "(Z)Z"⟩, 49) := ⟨⟨by decide +kernel, by decide +kernel⟩, List.mem_of_getElem? (i := 1310) (by decide +kernel), List.mem_of_getElem? (i := 1688) (by decide +kernel), List.mem_of_getElem? (i := 1689) (by decide +kernel)⟩
theorem lw_p86 : lw_okq (⟨"ClockRiverModel", "readMill", "()V"⟩, 49) := ⟨⟨by decide +kernel, by decide +kernel⟩, List.mem_of_getElem? (i := 1310) (by decide +kernel), List.mem_of_getElem? (i := 1692) (by decide +kernel), List.mem_of_getElem? (i := 1693) (by decide +kernel)⟩
theorem lw_p87 : lw_okq (⟨"ClockRiverModel", "readTold", "(II)I"⟩, 49) := ⟨⟨by decide +kernel, by decide +kernel⟩, List.mem_of_getElem? (i := 1310) (by decide +kernel), List.mem_of_getElem? (i := 1696) (by decide +kernel), List.mem_of_getElem? (i := 1697) (by decide +kernel)⟩
theorem lw_p88 : lw_okq (⟨"ClockRiverModel", "readWinder", "()V"⟩, 49) := ⟨⟨by decide +kernel, by decide +kernel⟩, List.mem_of_getElem? (i := 1310) (by decide +kernel), List.mem_of_getElem? (i := 1701) (by decide +kernel), List.mem_of_getElem? (i := 1702) (by decide +kernel)⟩
theorem lw_p89 : lw_okq (⟨"ClockRiverModel", "isSign", "(I)Z"⟩, 49) := ⟨⟨by decide +kernel, by decide +kernel⟩, List.mem_of_getElem? (i := 1310) (by decide +kernel), List.mem_of_getElem? (i := 1705) (by decide +kernel), List.mem_of_getElem? (i := 1706) (by decide +kernel)⟩
theorem lw_p90 : lw_okq (⟨"ClockRiverModel", "isWell", "()Z"⟩, 49) := ⟨⟨by decide +kernel, by decide +kernel⟩, List.mem_of_getElem? (i := 1310) (by decide +kernel), List.mem_of_getElem? (i := 1709) (by decide +kernel), List.mem_of_getElem? (i := 1710) (by decide +kernel)⟩
theorem lw_p91 : lw_okq (⟨"ClockRiverModel", "copy", "(II)V"⟩, 49) := ⟨⟨by decide +kernel, by decide +kernel⟩, List.mem_of_getElem? (i := 1310) (by decide +kernel), List.mem_of_getElem? (i := 1713) (by decide +kernel), List.mem_of_getElem? (i := 1714) (by decide +kernel)⟩
theorem lw_p92 : lw_okq (⟨"ClockRiverModel", "readStep", "(I)V"⟩, 49) := ⟨⟨by decide +kernel, by decide +kernel⟩, List.mem_of_getElem? (i := 1310) (by decide +kernel), List.mem_of_getElem? (i := 1721) (by decide +kernel), List.mem_of_getElem? (i := 1722) (by decide +kernel)⟩
theorem lw_p93 : lw_okq (⟨"ClockRiverModel", "readRest", "(I)V"⟩, 49) := ⟨⟨by decide +kernel, by decide +kernel⟩, List.mem_of_getElem? (i := 1310) (by decide +kernel), List.mem_of_getElem? (i := 1725) (by decide +kernel), List.mem_of_getElem? (i := 1726) (by decide +kernel)⟩
theorem lw_p94 : lw_okq (⟨"ClockRiverModel", "readTest", "(I)V"⟩, 49) := ⟨⟨by decide +kernel, by decide +kernel⟩, List.mem_of_getElem? (i := 1310) (by decide +kernel), List.mem_of_getElem? (i := 1729) (by decide +kernel), List.mem_of_getElem? (i := 1730) (by decide +kernel)⟩
theorem lw_p95 : lw_okq (⟨"ClockRiverModel", "refuse", "(I)I"⟩, 49) := ⟨⟨by decide +kernel, by decide +kernel⟩, List.mem_of_getElem? (i := 1310) (by decide +kernel), List.mem_of_getElem? (i := 1738) (by decide +kernel), List.mem_of_getElem? (i := 1739) (by decide +kernel)⟩
def lw_privs_6 : List (MethodName × Nat) := [(⟨"ClockRiverModel", "isEnd", "()Z"⟩, 49), (⟨"ClockRiverModel", "isTaken", "()Z"⟩, 49), (⟨"ClockRiverModel", "named", "(II)I"⟩, 49), (⟨"ClockRiverModel", "behindWord", "(ZII)I"⟩, 49), (⟨"ClockRiverModel", "must", "(Z)V"⟩, 49), (⟨"ClockRiverModel", "perhaps", "(Z)Z"⟩, 49), (⟨"ClockRiverModel", "readMill", "()V"⟩, 49), (⟨"ClockRiverModel", "readTold", "(II)I"⟩, 49), (⟨"ClockRiverModel", "readWinder", "()V"⟩, 49), (⟨"ClockRiverModel", "isSign", "(I)Z"⟩, 49), (⟨"ClockRiverModel", "isWell", "()Z"⟩, 49), (⟨"ClockRiverModel", "copy", "(II)V"⟩, 49), (⟨"ClockRiverModel", "readStep", "(I)V"⟩, 49), (⟨"ClockRiverModel", "readRest", "(I)V"⟩, 49), (⟨"ClockRiverModel", "readTest", "(I)V"⟩, 49), (⟨"ClockRiverModel", "refuse", "(I)I"⟩, 49)]
theorem lw_r6 : ∀ q ∈ lw_privs_6, lw_okq q := List.forall_mem_cons.mpr ⟨lw_p80, List.forall_mem_cons.mpr ⟨lw_p81, List.forall_mem_cons.mpr ⟨lw_p82, List.forall_mem_cons.mpr ⟨lw_p83, List.forall_mem_cons.mpr ⟨lw_p84, List.forall_mem_cons.mpr ⟨lw_p85, List.forall_mem_cons.mpr ⟨lw_p86, List.forall_mem_cons.mpr ⟨lw_p87, List.forall_mem_cons.mpr ⟨lw_p88, List.forall_mem_cons.mpr ⟨lw_p89, List.forall_mem_cons.mpr ⟨lw_p90, List.forall_mem_cons.mpr ⟨lw_p91, List.forall_mem_cons.mpr ⟨lw_p92, List.forall_mem_cons.mpr ⟨lw_p93, List.forall_mem_cons.mpr ⟨lw_p94, List.forall_mem_cons.mpr ⟨lw_p95, fun _ h => absurd h List.not_mem_nil⟩⟩⟩⟩⟩⟩⟩⟩⟩⟩⟩⟩⟩⟩⟩⟩
theorem lw_p96 : lw_okq (⟨"ClockRiverModel", "day", "()I"⟩, 49) := ⟨⟨by decide +kernel, by decide +kernel⟩, List.mem_of_getElem? (i := 1310) (by decide +kernel), List.mem_of_getElem? (i := 1742) (by decide +kernel), List.mem_of_getElem? (i := 1743) (by decide +kernel)⟩
theorem lw_p97 : lw_okq (⟨"ClockRiverModel", "sumOf", "(II)I"⟩, 49) := ⟨⟨by decide +kernel, by decide +kernel⟩, List.mem_of_getElem? (i := 1310) (by decide +kernel), List.mem_of_getElem? (i := 1746) (by decide +kernel), List.mem_of_getElem? (i := 1747) (by decide +kernel)⟩
theorem lw_p98 : lw_okq (⟨"ClockRiverModel", "allGround", "()I"⟩, 49) := ⟨⟨by decide +kernel, by decide +kernel⟩, List.mem_of_getElem? (i := 1310) (by decide +kernel), List.mem_of_getElem? (i := 1750) (by decide +kernel), List.mem_of_getElem? (i := 1751) (by decide +kernel)⟩
theorem lw_p99 : lw_okq (⟨"ClockRiverModel", "isReachAt", "(I)Z"⟩, 49) := ⟨⟨by decide +kernel, by decide +kernel⟩, List.mem_of_getElem? (i := 1310) (by decide +kernel), List.mem_of_getElem? (i := 1767) (by decide +kernel), List.mem_of_getElem? (i := 1768) (by decide +kernel)⟩
theorem lw_p100 : lw_okq (⟨"ClockRiverModel", "passOf", "(I)I"⟩, 49) := ⟨⟨by decide +kernel, by decide +kernel⟩, List.mem_of_getElem? (i := 1310) (by decide +kernel), List.mem_of_getElem? (i := 1772) (by decide +kernel), List.mem_of_getElem? (i := 1773) (by decide +kernel)⟩
theorem lw_p101 : lw_okq (⟨"ClockRiverModel", "millsAt", "(I)I"⟩, 49) := ⟨⟨by decide +kernel, by decide +kernel⟩, List.mem_of_getElem? (i := 1310) (by decide +kernel), List.mem_of_getElem? (i := 1777) (by decide +kernel), List.mem_of_getElem? (i := 1778) (by decide +kernel)⟩
theorem lw_p102 : lw_okq (⟨"ClockRiverModel", "isMillAt", "(I)Z"⟩, 49) := ⟨⟨by decide +kernel, by decide +kernel⟩, List.mem_of_getElem? (i := 1310) (by decide +kernel), List.mem_of_getElem? (i := 1785) (by decide +kernel), List.mem_of_getElem? (i := 1786) (by decide +kernel)⟩
theorem lw_p103 : lw_okq (⟨"ClockRiverModel", "isWinderAt", "(I)Z"⟩, 49) := ⟨⟨by decide +kernel, by decide +kernel⟩, List.mem_of_getElem? (i := 1310) (by decide +kernel), List.mem_of_getElem? (i := 1794) (by decide +kernel), List.mem_of_getElem? (i := 1795) (by decide +kernel)⟩
theorem lw_p104 : lw_okq (⟨"ClockRiverModel", "isTray", "(I)Z"⟩, 49) := ⟨⟨by decide +kernel, by decide +kernel⟩, List.mem_of_getElem? (i := 1310) (by decide +kernel), List.mem_of_getElem? (i := 1803) (by decide +kernel), List.mem_of_getElem? (i := 1804) (by decide +kernel)⟩
theorem lw_p105 : lw_okq (⟨"ClockRiverModel", "goesHour", "()I"⟩, 49) := ⟨⟨by decide +kernel, by decide +kernel⟩, List.mem_of_getElem? (i := 1310) (by decide +kernel), List.mem_of_getElem? (i := 1813) (by decide +kernel), List.mem_of_getElem? (i := 1814) (by decide +kernel)⟩
theorem lw_p106 : lw_okq (⟨"ClockRiverModel", "flowsDown", "()V"⟩, 49) := ⟨⟨by decide +kernel, by decide +kernel⟩, List.mem_of_getElem? (i := 1310) (by decide +kernel), List.mem_of_getElem? (i := 1817) (by decide +kernel), List.mem_of_getElem? (i := 1818) (by decide +kernel)⟩
theorem lw_p107 : lw_okq (⟨"ClockRiverModel", "flowsUp", "()V"⟩, 49) := ⟨⟨by decide +kernel, by decide +kernel⟩, List.mem_of_getElem? (i := 1310) (by decide +kernel), List.mem_of_getElem? (i := 1821) (by decide +kernel), List.mem_of_getElem? (i := 1822) (by decide +kernel)⟩
theorem lw_p108 : lw_okq (⟨"ClockRiverModel", "rainsAndFloods", "()V"⟩, 49) := ⟨⟨by decide +kernel, by decide +kernel⟩, List.mem_of_getElem? (i := 1310) (by decide +kernel), List.mem_of_getElem? (i := 1825) (by decide +kernel), List.mem_of_getElem? (i := 1826) (by decide +kernel)⟩
theorem lw_p109 : lw_okq (⟨"ClockRiverModel", "slackNow", "(I)I"⟩, 49) := ⟨⟨by decide +kernel, by decide +kernel⟩, List.mem_of_getElem? (i := 1310) (by decide +kernel), List.mem_of_getElem? (i := 1829) (by decide +kernel), List.mem_of_getElem? (i := 1830) (by decide +kernel)⟩
theorem lw_p110 : lw_okq (⟨"ClockRiverModel", "winds", "(IZ)Z"⟩, 49) := ⟨⟨by decide +kernel, by decide +kernel⟩, List.mem_of_getElem? (i := 1310) (by decide +kernel), List.mem_of_getElem? (i := 1840) (by decide +kernel), List.mem_of_getElem? (i := 1841) (by decide +kernel)⟩
theorem lw_p111 : lw_okq (⟨"ClockRiverModel", "isSeventh", "()Z"⟩, 49) := ⟨⟨by decide +kernel, by decide +kernel⟩, List.mem_of_getElem? (i := 1310) (by decide +kernel), List.mem_of_getElem? (i := 1844) (by decide +kernel), List.mem_of_getElem? (i := 1845) (by decide +kernel)⟩
def lw_privs_7 : List (MethodName × Nat) := [(⟨"ClockRiverModel", "day", "()I"⟩, 49), (⟨"ClockRiverModel", "sumOf", "(II)I"⟩, 49), (⟨"ClockRiverModel", "allGround", "()I"⟩, 49), (⟨"ClockRiverModel", "isReachAt", "(I)Z"⟩, 49), (⟨"ClockRiverModel", "passOf", "(I)I"⟩, 49), (⟨"ClockRiverModel", "millsAt", "(I)I"⟩, 49), (⟨"ClockRiverModel", "isMillAt", "(I)Z"⟩, 49), (⟨"ClockRiverModel", "isWinderAt", "(I)Z"⟩, 49), (⟨"ClockRiverModel", "isTray", "(I)Z"⟩, 49), (⟨"ClockRiverModel", "goesHour", "()I"⟩, 49), (⟨"ClockRiverModel", "flowsDown", "()V"⟩, 49), (⟨"ClockRiverModel", "flowsUp", "()V"⟩, 49), (⟨"ClockRiverModel", "rainsAndFloods", "()V"⟩, 49), (⟨"ClockRiverModel", "slackNow", "(I)I"⟩, 49), (⟨"ClockRiverModel", "winds", "(IZ)Z"⟩, 49), (⟨"ClockRiverModel", "isSeventh", "()Z"⟩, 49)]
theorem lw_r7 : ∀ q ∈ lw_privs_7, lw_okq q := List.forall_mem_cons.mpr ⟨lw_p96, List.forall_mem_cons.mpr ⟨lw_p97, List.forall_mem_cons.mpr ⟨lw_p98, List.forall_mem_cons.mpr ⟨lw_p99, List.forall_mem_cons.mpr ⟨lw_p100, List.forall_mem_cons.mpr ⟨lw_p101, List.forall_mem_cons.mpr ⟨lw_p102, List.forall_mem_cons.mpr ⟨lw_p103, List.forall_mem_cons.mpr ⟨lw_p104, List.forall_mem_cons.mpr ⟨lw_p105, List.forall_mem_cons.mpr ⟨lw_p106, List.forall_mem_cons.mpr ⟨lw_p107, List.forall_mem_cons.mpr ⟨lw_p108, List.forall_mem_cons.mpr ⟨lw_p109, List.forall_mem_cons.mpr ⟨lw_p110, List.forall_mem_cons.mpr ⟨lw_p111, fun _ h => absurd h List.not_mem_nil⟩⟩⟩⟩⟩⟩⟩⟩⟩⟩⟩⟩⟩⟩⟩⟩
theorem lw_p112 : lw_okq (⟨"ClockRiverModel", "turnsBy", "(I)V"⟩, 49) := ⟨⟨by decide +kernel, by decide +kernel⟩, List.mem_of_getElem? (i := 1310) (by decide +kernel), List.mem_of_getElem? (i := 1848) (by decide +kernel), List.mem_of_getElem? (i := 1849) (by decide +kernel)⟩
theorem lw_p113 : lw_okq (⟨"ClockRiverModel", "becomes", "(II)Z"⟩, 49) := ⟨⟨by decide +kernel, by decide +kernel⟩, List.mem_of_getElem? (i := 1310) (by decide +kernel), List.mem_of_getElem? (i := 1861) (by decide +kernel), List.mem_of_getElem? (i := 1862) (by decide +kernel)⟩
theorem lw_p114 : lw_okq (⟨"ClockRiverModel", "cellIn", "(II)I"⟩, 49) := ⟨⟨by decide +kernel, by decide +kernel⟩, List.mem_of_getElem? (i := 1310) (by decide +kernel), List.mem_of_getElem? (i := 1898) (by decide +kernel), List.mem_of_getElem? (i := 1899) (by decide +kernel)⟩
theorem lw_p115 : lw_okq (⟨"ClockRiverModel", "puts", "()V"⟩, 49) := ⟨⟨by decide +kernel, by decide +kernel⟩, List.mem_of_getElem? (i := 1310) (by decide +kernel), List.mem_of_getElem? (i := 1902) (by decide +kernel), List.mem_of_getElem? (i := 1903) (by decide +kernel)⟩
theorem lw_p116 : lw_okq (⟨"ClockRiverModel", "gives", "()V"⟩, 49) := ⟨⟨by decide +kernel, by decide +kernel⟩, List.mem_of_getElem? (i := 1310) (by decide +kernel), List.mem_of_getElem? (i := 1906) (by decide +kernel), List.mem_of_getElem? (i := 1907) (by decide +kernel)⟩
theorem lw_p117 : lw_okq (⟨"ClockRiverModel", "whyNoGate", "(II)I"⟩, 49) := ⟨⟨by decide +kernel, by decide +kernel⟩, List.mem_of_getElem? (i := 1310) (by decide +kernel), List.mem_of_getElem? (i := 1947) (by decide +kernel), List.mem_of_getElem? (i := 1948) (by decide +kernel)⟩
theorem lw_p118 : lw_okq (⟨"ClockRiverModel", "bestOf", "(II)I"⟩, 49) := ⟨⟨by decide +kernel, by decide +kernel⟩, List.mem_of_getElem? (i := 1310) (by decide +kernel), List.mem_of_getElem? (i := 1952) (by decide +kernel), List.mem_of_getElem? (i := 1953) (by decide +kernel)⟩
theorem lw_p119 : lw_okq (⟨"ClockRiverModel", "isHired", "(II)Z"⟩, 49) := ⟨⟨by decide +kernel, by decide +kernel⟩, List.mem_of_getElem? (i := 1310) (by decide +kernel), List.mem_of_getElem? (i := 1967) (by decide +kernel), List.mem_of_getElem? (i := 1968) (by decide +kernel)⟩
theorem lw_p120 : lw_okq (⟨"ClockRiverModel", "hires", "(IIII)V"⟩, 49) := ⟨⟨by decide +kernel, by decide +kernel⟩, List.mem_of_getElem? (i := 1310) (by decide +kernel), List.mem_of_getElem? (i := 1971) (by decide +kernel), List.mem_of_getElem? (i := 1972) (by decide +kernel)⟩
theorem lw_p121 : lw_okq (⟨"ClockRiverModel", "laysTurn", "(I)V"⟩, 49) := ⟨⟨by decide +kernel, by decide +kernel⟩, List.mem_of_getElem? (i := 1310) (by decide +kernel), List.mem_of_getElem? (i := 1975) (by decide +kernel), List.mem_of_getElem? (i := 1976) (by decide +kernel)⟩
theorem lw_p122 : lw_okq (⟨"ClockRiverModel", "takesTurn", "(I)V"⟩, 49) := ⟨⟨by decide +kernel, by decide +kernel⟩, List.mem_of_getElem? (i := 1310) (by decide +kernel), List.mem_of_getElem? (i := 1979) (by decide +kernel), List.mem_of_getElem? (i := 1980) (by decide +kernel)⟩
theorem lw_p123 : lw_okq (⟨"ClockRiverModel", "laysWound", "(II)V"⟩, 49) := ⟨⟨by decide +kernel, by decide +kernel⟩, List.mem_of_getElem? (i := 1310) (by decide +kernel), List.mem_of_getElem? (i := 1995) (by decide +kernel), List.mem_of_getElem? (i := 1996) (by decide +kernel)⟩
theorem lw_p124 : lw_okq (⟨"ClockRiverModel", "whyNoGame", "(IIII)I"⟩, 49) := ⟨⟨by decide +kernel, by decide +kernel⟩, List.mem_of_getElem? (i := 1310) (by decide +kernel), List.mem_of_getElem? (i := 2011) (by decide +kernel), List.mem_of_getElem? (i := 2012) (by decide +kernel)⟩
theorem lw_p125 : lw_okq (⟨"ClockRiverModel", "plays", "(IIII)I"⟩, 49) := ⟨⟨by decide +kernel, by decide +kernel⟩, List.mem_of_getElem? (i := 1310) (by decide +kernel), List.mem_of_getElem? (i := 2015) (by decide +kernel), List.mem_of_getElem? (i := 2016) (by decide +kernel)⟩
theorem lw_p126 : lw_okq (⟨"ClockRiverModel", "fraction", "(JJ)Z"⟩, 49) := ⟨⟨by decide +kernel, by decide +kernel⟩, List.mem_of_getElem? (i := 1310) (by decide +kernel), List.mem_of_getElem? (i := 2027) (by decide +kernel), List.mem_of_getElem? (i := 2028) (by decide +kernel)⟩
theorem lw_p127 : lw_okq (⟨"ClockRiverModel", "runsWeeks", "(I)V"⟩, 49) := ⟨⟨by decide +kernel, by decide +kernel⟩, List.mem_of_getElem? (i := 1310) (by decide +kernel), List.mem_of_getElem? (i := 2047) (by decide +kernel), List.mem_of_getElem? (i := 2048) (by decide +kernel)⟩
def lw_privs_8 : List (MethodName × Nat) := [(⟨"ClockRiverModel", "turnsBy", "(I)V"⟩, 49), (⟨"ClockRiverModel", "becomes", "(II)Z"⟩, 49), (⟨"ClockRiverModel", "cellIn", "(II)I"⟩, 49), (⟨"ClockRiverModel", "puts", "()V"⟩, 49), (⟨"ClockRiverModel", "gives", "()V"⟩, 49), (⟨"ClockRiverModel", "whyNoGate", "(II)I"⟩, 49), (⟨"ClockRiverModel", "bestOf", "(II)I"⟩, 49), (⟨"ClockRiverModel", "isHired", "(II)Z"⟩, 49), (⟨"ClockRiverModel", "hires", "(IIII)V"⟩, 49), (⟨"ClockRiverModel", "laysTurn", "(I)V"⟩, 49), (⟨"ClockRiverModel", "takesTurn", "(I)V"⟩, 49), (⟨"ClockRiverModel", "laysWound", "(II)V"⟩, 49), (⟨"ClockRiverModel", "whyNoGame", "(IIII)I"⟩, 49), (⟨"ClockRiverModel", "plays", "(IIII)I"⟩, 49), (⟨"ClockRiverModel", "fraction", "(JJ)Z"⟩, 49), (⟨"ClockRiverModel", "runsWeeks", "(I)V"⟩, 49)]
theorem lw_r8 : ∀ q ∈ lw_privs_8, lw_okq q := List.forall_mem_cons.mpr ⟨lw_p112, List.forall_mem_cons.mpr ⟨lw_p113, List.forall_mem_cons.mpr ⟨lw_p114, List.forall_mem_cons.mpr ⟨lw_p115, List.forall_mem_cons.mpr ⟨lw_p116, List.forall_mem_cons.mpr ⟨lw_p117, List.forall_mem_cons.mpr ⟨lw_p118, List.forall_mem_cons.mpr ⟨lw_p119, List.forall_mem_cons.mpr ⟨lw_p120, List.forall_mem_cons.mpr ⟨lw_p121, List.forall_mem_cons.mpr ⟨lw_p122, List.forall_mem_cons.mpr ⟨lw_p123, List.forall_mem_cons.mpr ⟨lw_p124, List.forall_mem_cons.mpr ⟨lw_p125, List.forall_mem_cons.mpr ⟨lw_p126, List.forall_mem_cons.mpr ⟨lw_p127, fun _ h => absurd h List.not_mem_nil⟩⟩⟩⟩⟩⟩⟩⟩⟩⟩⟩⟩⟩⟩⟩⟩
theorem lw_p128 : lw_okq (⟨"ClockRiverModel", "doAll", "(II)V"⟩, 49) := ⟨⟨by decide +kernel, by decide +kernel⟩, List.mem_of_getElem? (i := 1310) (by decide +kernel), List.mem_of_getElem? (i := 2051) (by decide +kernel), List.mem_of_getElem? (i := 2052) (by decide +kernel)⟩
theorem lw_p129 : lw_okq (⟨"ClockRiverModel", "doOne", "(I)V"⟩, 49) := ⟨⟨by decide +kernel, by decide +kernel⟩, List.mem_of_getElem? (i := 1310) (by decide +kernel), List.mem_of_getElem? (i := 2055) (by decide +kernel), List.mem_of_getElem? (i := 2056) (by decide +kernel)⟩
theorem lw_p130 : lw_okq (⟨"ClockRiverModel", "does", "(I)Z"⟩, 49) := ⟨⟨by decide +kernel, by decide +kernel⟩, List.mem_of_getElem? (i := 1310) (by decide +kernel), List.mem_of_getElem? (i := 2059) (by decide +kernel), List.mem_of_getElem? (i := 2060) (by decide +kernel)⟩
theorem lw_p131 : lw_okq (⟨"ClockRiverModel", "anyHours", "(I)Z"⟩, 49) := ⟨⟨by decide +kernel, by decide +kernel⟩, List.mem_of_getElem? (i := 1310) (by decide +kernel), List.mem_of_getElem? (i := 2063) (by decide +kernel), List.mem_of_getElem? (i := 2064) (by decide +kernel)⟩
theorem lw_p132 : lw_okq (⟨"ClockRiverModel", "isWound", "(IZ)Z"⟩, 49) := ⟨⟨by decide +kernel, by decide +kernel⟩, List.mem_of_getElem? (i := 1310) (by decide +kernel), List.mem_of_getElem? (i := 2067) (by decide +kernel), List.mem_of_getElem? (i := 2068) (by decide +kernel)⟩
theorem lw_p133 : lw_okq (⟨"ClockRiverModel", "isAny", "()Z"⟩, 49) := ⟨⟨by decide +kernel, by decide +kernel⟩, List.mem_of_getElem? (i := 1310) (by decide +kernel), List.mem_of_getElem? (i := 2071) (by decide +kernel), List.mem_of_getElem? (i := 2072) (by decide +kernel)⟩
theorem lw_p134 : lw_okq (⟨"ClockRiverModel", "draw", "(I)I"⟩, 49) := ⟨⟨by decide +kernel, by decide +kernel⟩, List.mem_of_getElem? (i := 1310) (by decide +kernel), List.mem_of_getElem? (i := 2075) (by decide +kernel), List.mem_of_getElem? (i := 2076) (by decide +kernel)⟩
theorem lw_p135 : lw_okq (⟨"ClockRiverModel", "isSo", "(I)Z"⟩, 49) := ⟨⟨by decide +kernel, by decide +kernel⟩, List.mem_of_getElem? (i := 1310) (by decide +kernel), List.mem_of_getElem? (i := 2080) (by decide +kernel), List.mem_of_getElem? (i := 2081) (by decide +kernel)⟩
def lw_privs_9 : List (MethodName × Nat) := [(⟨"ClockRiverModel", "doAll", "(II)V"⟩, 49), (⟨"ClockRiverModel", "doOne", "(I)V"⟩, 49), (⟨"ClockRiverModel", "does", "(I)Z"⟩, 49), (⟨"ClockRiverModel", "anyHours", "(I)Z"⟩, 49), (⟨"ClockRiverModel", "isWound", "(IZ)Z"⟩, 49), (⟨"ClockRiverModel", "isAny", "()Z"⟩, 49), (⟨"ClockRiverModel", "draw", "(I)I"⟩, 49), (⟨"ClockRiverModel", "isSo", "(I)Z"⟩, 49)]
theorem lw_r9 : ∀ q ∈ lw_privs_9, lw_okq q := List.forall_mem_cons.mpr ⟨lw_p128, List.forall_mem_cons.mpr ⟨lw_p129, List.forall_mem_cons.mpr ⟨lw_p130, List.forall_mem_cons.mpr ⟨lw_p131, List.forall_mem_cons.mpr ⟨lw_p132, List.forall_mem_cons.mpr ⟨lw_p133, List.forall_mem_cons.mpr ⟨lw_p134, List.forall_mem_cons.mpr ⟨lw_p135, fun _ h => absurd h List.not_mem_nil⟩⟩⟩⟩⟩⟩⟩⟩
def lw_privs : List (MethodName × Nat) := lw_privs_1 ++ (lw_privs_2 ++ (lw_privs_3 ++ (lw_privs_4 ++ (lw_privs_5 ++ (lw_privs_6 ++ (lw_privs_7 ++ (lw_privs_8 ++ (lw_privs_9))))))))
def lw_tbl : List Cond := k2_sels lw_privs ++ tables_1
theorem lw_privs_ok : ∀ q ∈ lw_privs, lw_okq q := by
  show ∀ q ∈ lw_privs_1 ++ (lw_privs_2 ++ (lw_privs_3 ++ (lw_privs_4 ++ (lw_privs_5 ++ (lw_privs_6 ++ (lw_privs_7 ++ (lw_privs_8 ++ (lw_privs_9)))))))), lw_okq q
  exact List.forall_mem_append.mpr ⟨lw_r1, List.forall_mem_append.mpr ⟨lw_r2, List.forall_mem_append.mpr ⟨lw_r3, List.forall_mem_append.mpr ⟨lw_r4, List.forall_mem_append.mpr ⟨lw_r5, List.forall_mem_append.mpr ⟨lw_r6, List.forall_mem_append.mpr ⟨lw_r7, List.forall_mem_append.mpr ⟨lw_r8, lw_r9⟩⟩⟩⟩⟩⟩⟩⟩
def RX0 : String := "ClockRiver$Ahead"
def TX0 : u_T := fun k => match k with
  | 0 => ("ClockRiver$Ahead", "levels", "[LClockRiver$River;", true)
  | 1 => ("ClockRiver$Ahead", "bestWidth", "I", false)
  | 2 => ("ClockRiver$Ahead", "mostGround", "I", false)
  | 3 => ("ClockRiver$Ahead", "firstMove", "I", false)
  | 4 => ("ClockRiver$Ahead", "bestHands", "[I", true)
  | 5 => ("ClockRiver$Ahead", "hands", "[I", true)
  | 6 => ("ClockRiver$Ahead", "spells", "I", false)
  | 7 => ("ClockRiver$Ahead", "neededGround", "I", false)
  | 8 => ("ClockRiver$Ahead", "leastWages", "I", false)
  | 9 => ("ClockRiver$Ahead", "first", "I", false)
  | 10 => ("ClockRiver$Ahead", "second", "I", false)
  | _ => ("ClockRiver$Ahead", "gameTurns", "I", false)
def tyX0 : Nat → FieldType := fun k => match k with
  | 0 => .array (.object "ClockRiver$River")
  | 1 => .int
  | 2 => .int
  | 3 => .int
  | 4 => .array .int
  | 5 => .array .int
  | 6 => .int
  | 7 => .int
  | 8 => .int
  | 9 => .int
  | 10 => .int
  | _ => .int
theorem nmX0 : ∀ a, a < 12 → ∀ b, b < 12 → a ≠ b → (TX0 a).2.1 ≠ (TX0 b).2.1 := by decide +kernel
theorem tyX0_ok : ∀ k, k < 12 → parseFieldDescriptor (TX0 k).2.2.1 = some (tyX0 k) := by decide +kernel
abbrev cX0_init : ByteArray := prog_2_method_1_code
def yX0_init : MethodName := ⟨RX0, "<init>", "()V"⟩
abbrev cX0_spare : ByteArray := prog_2_method_2_code
def yX0_spare : MethodName := ⟨RX0, "spare", "()LClockRiver$River;"⟩
abbrev cX0_copyOf : ByteArray := prog_2_method_3_code
def yX0_copyOf : MethodName := ⟨RX0, "copyOf", "(LClockRiver$River;)LClockRiver$River;"⟩
abbrev cX0_later : ByteArray := prog_2_method_4_code
def yX0_later : MethodName := ⟨RX0, "later", "(LClockRiver$River;I)LClockRiver$River;"⟩
abbrev cX0_hoursTillDry : ByteArray := prog_2_method_5_code
def yX0_hoursTillDry : MethodName := ⟨RX0, "hoursTillDry", "(LClockRiver$River;I)I"⟩
abbrev cX0_hoursTillFlood : ByteArray := prog_2_method_6_code
def yX0_hoursTillFlood : MethodName := ⟨RX0, "hoursTillFlood", "(LClockRiver$River;I)I"⟩
abbrev cX0_hoursTillStill : ByteArray := prog_2_method_7_code
def yX0_hoursTillStill : MethodName := ⟨RX0, "hoursTillStill", "(LClockRiver$River;)I"⟩
abbrev cX0_leastTurns : ByteArray := prog_2_method_8_code
def yX0_leastTurns : MethodName := ⟨RX0, "leastTurns", "(LClockRiver$River;III)I"⟩
abbrev cX0_findGate : ByteArray := prog_2_method_9_code
def yX0_findGate : MethodName := ⟨RX0, "findGate", "(LClockRiver$River;II)V"⟩
abbrev cX0_hireFor : ByteArray := prog_2_method_10_code
def yX0_hireFor : MethodName := ⟨RX0, "hireFor", "(LClockRiver$River;II)I"⟩
abbrev cX0_tryHands : ByteArray := prog_2_method_11_code
def yX0_tryHands : MethodName := ⟨RX0, "tryHands", "(III)V"⟩
abbrev cX0_bestLead : ByteArray := prog_2_method_12_code
def yX0_bestLead : MethodName := ⟨RX0, "bestLead", "(LClockRiver$River;III)I"⟩
abbrev cX0_leadOf : ByteArray := prog_2_method_13_code
def yX0_leadOf : MethodName := ⟨RX0, "leadOf", "(LClockRiver$River;)I"⟩
abbrev cX0_play : ByteArray := prog_2_method_14_code
def yX0_play : MethodName := ⟨RX0, "play", "(I)I"⟩
abbrev cX0_moveGate : ByteArray := prog_2_method_15_code
def yX0_moveGate : MethodName := ⟨RX0, "moveGate", "(LClockRiver$River;II)V"⟩
def RX1 : String := "ClockRiver$Life"
def TX1 : u_T := fun k => match k with
  | 0 => ("ClockRiver$Life", "wasRun", "Z", false)
  | 1 => ("ClockRiver$Life", "steps", "I", false)
  | 2 => ("ClockRiver$Life", "missed", "I", false)
  | 3 => ("ClockRiver$Life", "hours", "I", false)
  | 4 => ("ClockRiver$Life", "ground", "I", false)
  | 5 => ("ClockRiver$Life", "winds", "I", false)
  | 6 => ("ClockRiver$Life", "left", "I", false)
  | 7 => ("ClockRiver$Life", "seed", "I", false)
  | 8 => ("ClockRiver$Life", "river", "LClockRiver$River;", false)
  | 9 => ("ClockRiver$Life", "plan", "LClockRiver$Weeks;", false)
  | _ => ("ClockRiver$Life", "rounds", "[I", true)
def tyX1 : Nat → FieldType := fun k => match k with
  | 0 => .boolean
  | 1 => .int
  | 2 => .int
  | 3 => .int
  | 4 => .int
  | 5 => .int
  | 6 => .int
  | 7 => .int
  | 8 => .object "ClockRiver$River"
  | 9 => .object "ClockRiver$Weeks"
  | _ => .array .int
theorem nmX1 : ∀ a, a < 11 → ∀ b, b < 11 → a ≠ b → (TX1 a).2.1 ≠ (TX1 b).2.1 := by decide +kernel
theorem tyX1_ok : ∀ k, k < 11 → parseFieldDescriptor (TX1 k).2.2.1 = some (tyX1 k) := by decide +kernel
abbrev cX1_init : ByteArray := prog_3_method_1_code
def yX1_init : MethodName := ⟨RX1, "<init>", "()V"⟩
abbrev cX1_figure : ByteArray := prog_3_method_2_code
def yX1_figure : MethodName := ⟨RX1, "figure", "(I)I"⟩
abbrev cX1_run : ByteArray := prog_3_method_3_code
def yX1_run : MethodName := ⟨RX1, "run", "(LClockRiver$River;LClockRiver$Weeks;I)V"⟩
abbrev cX1_rowBehindEnd : ByteArray := prog_3_method_4_code
def yX1_rowBehindEnd : MethodName := ⟨RX1, "rowBehindEnd", "(I)I"⟩
abbrev cX1_rowBehindStep : ByteArray := prog_3_method_5_code
def yX1_rowBehindStep : MethodName := ⟨RX1, "rowBehindStep", "(I)I"⟩
abbrev cX1_holds : ByteArray := prog_3_method_6_code
def yX1_holds : MethodName := ⟨RX1, "holds", "(I)Z"⟩
abbrev cX1_compares : ByteArray := prog_3_method_7_code
def yX1_compares : MethodName := ⟨RX1, "compares", "(II)Z"⟩
abbrev cX1_isDone : ByteArray := prog_3_method_8_code
def yX1_isDone : MethodName := ⟨RX1, "isDone", "(I)Z"⟩
abbrev cX1_waits : ByteArray := prog_3_method_9_code
def yX1_waits : MethodName := ⟨RX1, "waits", "(I)Z"⟩
abbrev cX1_winds : ByteArray := prog_3_method_10_code
def yX1_winds : MethodName := ⟨RX1, "winds", "(IZ)Z"⟩
abbrev cX1_sets : ByteArray := prog_3_method_11_code
def yX1_sets : MethodName := ⟨RX1, "sets", "(II)Z"⟩
abbrev cX1_turnsTo : ByteArray := prog_3_method_12_code
def yX1_turnsTo : MethodName := ⟨RX1, "turnsTo", "(Z)Z"⟩
abbrev cX1_doesAny : ByteArray := prog_3_method_13_code
def yX1_doesAny : MethodName := ⟨RX1, "doesAny", "()Z"⟩
abbrev cX1_drawBy : ByteArray := prog_3_method_14_code
def yX1_drawBy : MethodName := ⟨RX1, "drawBy", "(I)I"⟩
def RX2 : String := "ClockRiver$Mills"
def TX2 : u_T := fun k => match k with
  | 0 => ("ClockRiver$Mills", "count", "I", false)
  | 1 => ("ClockRiver$Mills", "name", "[J", true)
  | 2 => ("ClockRiver$Mills", "at", "[I", true)
  | 3 => ("ClockRiver$Mills", "needs", "[I", true)
  | _ => ("ClockRiver$Mills", "ground", "[I", true)
def tyX2 : Nat → FieldType := fun k => match k with
  | 0 => .int
  | 1 => .array .long
  | 2 => .array .int
  | 3 => .array .int
  | _ => .array .int
theorem nmX2 : ∀ a, a < 5 → ∀ b, b < 5 → a ≠ b → (TX2 a).2.1 ≠ (TX2 b).2.1 := by decide +kernel
theorem tyX2_ok : ∀ k, k < 5 → parseFieldDescriptor (TX2 k).2.2.1 = some (tyX2 k) := by decide +kernel
abbrev cX2_init : ByteArray := prog_4_method_1_code
def yX2_init : MethodName := ⟨RX2, "<init>", "()V"⟩
abbrev cX2_add : ByteArray := prog_4_method_2_code
def yX2_add : MethodName := ⟨RX2, "add", "(JII)V"⟩
abbrev cX2_copyFrom : ByteArray := prog_4_method_3_code
def yX2_copyFrom : MethodName := ⟨RX2, "copyFrom", "(LClockRiver$Mills;)V"⟩
abbrev cX2_countAt : ByteArray := prog_4_method_4_code
def yX2_countAt : MethodName := ⟨RX2, "countAt", "(I)I"⟩
abbrev cX2_allGround : ByteArray := prog_4_method_5_code
def yX2_allGround : MethodName := ⟨RX2, "allGround", "()I"⟩
abbrev cX2_grind : ByteArray := prog_4_method_6_code
def yX2_grind : MethodName := ⟨RX2, "grind", "([I)I"⟩
def RX3 : String := "ClockRiver$Reaches"
def TX3 : u_T := fun k => match k with
  | 0 => ("ClockRiver$Reaches", "count", "I", false)
  | 1 => ("ClockRiver$Reaches", "name", "[J", true)
  | 2 => ("ClockRiver$Reaches", "bank", "[I", true)
  | 3 => ("ClockRiver$Reaches", "gate", "[I", true)
  | 4 => ("ClockRiver$Reaches", "holds", "[I", true)
  | 5 => ("ClockRiver$Reaches", "passed", "[I", true)
  | _ => ("ClockRiver$Reaches", "spilt", "[I", true)
def tyX3 : Nat → FieldType := fun k => match k with
  | 0 => .int
  | 1 => .array .long
  | 2 => .array .int
  | 3 => .array .int
  | 4 => .array .int
  | 5 => .array .int
  | _ => .array .int
theorem nmX3 : ∀ a, a < 7 → ∀ b, b < 7 → a ≠ b → (TX3 a).2.1 ≠ (TX3 b).2.1 := by decide +kernel
theorem tyX3_ok : ∀ k, k < 7 → parseFieldDescriptor (TX3 k).2.2.1 = some (tyX3 k) := by decide +kernel
abbrev cX3_init : ByteArray := prog_5_method_1_code
def yX3_init : MethodName := ⟨RX3, "<init>", "()V"⟩
abbrev cX3_add : ByteArray := prog_5_method_2_code
def yX3_add : MethodName := ⟨RX3, "add", "(JIII)V"⟩
abbrev cX3_copyFrom : ByteArray := prog_5_method_3_code
def yX3_copyFrom : MethodName := ⟨RX3, "copyFrom", "(LClockRiver$Reaches;)V"⟩
abbrev cX3_allHeld : ByteArray := prog_5_method_4_code
def yX3_allHeld : MethodName := ⟨RX3, "allHeld", "()I"⟩
abbrev cX3_letPass : ByteArray := prog_5_method_5_code
def yX3_letPass : MethodName := ⟨RX3, "letPass", "()V"⟩
abbrev cX3_addEach : ByteArray := prog_5_method_6_code
def yX3_addEach : MethodName := ⟨RX3, "addEach", "(I)V"⟩
abbrev cX3_spill : ByteArray := prog_5_method_7_code
def yX3_spill : MethodName := ⟨RX3, "spill", "()I"⟩
def RX4 : String := "ClockRiver$River"
def TX4 : u_T := fun k => match k with
  | 0 => ("ClockRiver$River", "turns", "I", false)
  | 1 => ("ClockRiver$River", "slack", "I", false)
  | 2 => ("ClockRiver$River", "rainfall", "I", false)
  | 3 => ("ClockRiver$River", "odds", "I", false)
  | 4 => ("ClockRiver$River", "hour", "I", false)
  | 5 => ("ClockRiver$River", "oiled", "I", false)
  | 6 => ("ClockRiver$River", "raining", "Z", false)
  | 7 => ("ClockRiver$River", "waters", "[J", true)
  | 8 => ("ClockRiver$River", "reaches", "LClockRiver$Reaches;", true)
  | 9 => ("ClockRiver$River", "mills", "LClockRiver$Mills;", true)
  | _ => ("ClockRiver$River", "winders", "LClockRiver$Winders;", true)
def tyX4 : Nat → FieldType := fun k => match k with
  | 0 => .int
  | 1 => .int
  | 2 => .int
  | 3 => .int
  | 4 => .int
  | 5 => .int
  | 6 => .boolean
  | 7 => .array .long
  | 8 => .object "ClockRiver$Reaches"
  | 9 => .object "ClockRiver$Mills"
  | _ => .object "ClockRiver$Winders"
theorem nmX4 : ∀ a, a < 11 → ∀ b, b < 11 → a ≠ b → (TX4 a).2.1 ≠ (TX4 b).2.1 := by decide +kernel
theorem tyX4_ok : ∀ k, k < 11 → parseFieldDescriptor (TX4 k).2.2.1 = some (tyX4 k) := by decide +kernel
abbrev cX4_init : ByteArray := prog_6_method_1_code
def yX4_init : MethodName := ⟨RX4, "<init>", "()V"⟩
abbrev cX4_clear : ByteArray := prog_6_method_2_code
def yX4_clear : MethodName := ⟨RX4, "clear", "()V"⟩
abbrev cX4_copyFrom : ByteArray := prog_6_method_3_code
def yX4_copyFrom : MethodName := ⟨RX4, "copyFrom", "(LClockRiver$River;)V"⟩
abbrev cX4_hasReach : ByteArray := prog_6_method_4_code
def yX4_hasReach : MethodName := ⟨RX4, "hasReach", "(I)Z"⟩
abbrev cX4_hasMill : ByteArray := prog_6_method_5_code
def yX4_hasMill : MethodName := ⟨RX4, "hasMill", "(I)Z"⟩
abbrev cX4_hasWinder : ByteArray := prog_6_method_6_code
def yX4_hasWinder : MethodName := ⟨RX4, "hasWinder", "(I)Z"⟩
abbrev cX4_hasHours : ByteArray := prog_6_method_7_code
def yX4_hasHours : MethodName := ⟨RX4, "hasHours", "(I)Z"⟩
abbrev cX4_isLawDay : ByteArray := prog_6_method_8_code
def yX4_isLawDay : MethodName := ⟨RX4, "isLawDay", "()Z"⟩
abbrev cX4_isTaken : ByteArray := prog_6_method_9_code
def yX4_isTaken : MethodName := ⟨RX4, "isTaken", "(J)Z"⟩
abbrev cX4_placeOf : ByteArray := prog_6_method_10_code
def yX4_placeOf : MethodName := ⟨RX4, "placeOf", "(J[JI)I"⟩
abbrev cX4_figure : ByteArray := prog_6_method_11_code
def yX4_figure : MethodName := ⟨RX4, "figure", "(I)I"⟩
abbrev cX4_letWind : ByteArray := prog_6_method_12_code
def yX4_letWind : MethodName := ⟨RX4, "letWind", "(IZ)V"⟩
abbrev cX4_passHours : ByteArray := prog_6_method_13_code
def yX4_passHours : MethodName := ⟨RX4, "passHours", "(I)I"⟩
abbrev cX4_passHour : ByteArray := prog_6_method_14_code
def yX4_passHour : MethodName := ⟨RX4, "passHour", "()I"⟩
abbrev cX4_runDown : ByteArray := prog_6_method_15_code
def yX4_runDown : MethodName := ⟨RX4, "runDown", "()V"⟩
abbrev cX4_runUp : ByteArray := prog_6_method_16_code
def yX4_runUp : MethodName := ⟨RX4, "runUp", "()V"⟩
abbrev cX4_slacken : ByteArray := prog_6_method_17_code
def yX4_slacken : MethodName := ⟨RX4, "slacken", "()V"⟩
def RX5 : String := "ClockRiver$RiverReader"
def TX5 : u_T := fun k => match k with
  | 0 => ("ClockRiver$RiverReader", "tape", "LClockRiver$Tape;", false)
  | 1 => ("ClockRiver$RiverReader", "told", "LClockRiver$River;", false)
  | 2 => ("ClockRiver$RiverReader", "newName", "J", false)
  | _ => ("ClockRiver$RiverReader", "settingsTold", "I", false)
def tyX5 : Nat → FieldType := fun k => match k with
  | 0 => .object "ClockRiver$Tape"
  | 1 => .object "ClockRiver$River"
  | 2 => .long
  | _ => .int
theorem nmX5 : ∀ a, a < 4 → ∀ b, b < 4 → a ≠ b → (TX5 a).2.1 ≠ (TX5 b).2.1 := by decide +kernel
theorem tyX5_ok : ∀ k, k < 4 → parseFieldDescriptor (TX5 k).2.2.1 = some (tyX5 k) := by decide +kernel
abbrev cX5_init : ByteArray := prog_7_method_1_code
def yX5_init : MethodName := ⟨RX5, "<init>", "()V"⟩
abbrev cX5_readInto : ByteArray := prog_7_method_2_code
def yX5_readInto : MethodName := ⟨RX5, "readInto", "(LClockRiver$Tape;LClockRiver$River;)Z"⟩
abbrev cX5_readPart : ByteArray := prog_7_method_3_code
def yX5_readPart : MethodName := ⟨RX5, "readPart", "()Z"⟩
abbrev cX5_readSetting : ByteArray := prog_7_method_4_code
def yX5_readSetting : MethodName := ⟨RX5, "readSetting", "(I)Z"⟩
abbrev cX5_readReach : ByteArray := prog_7_method_5_code
def yX5_readReach : MethodName := ⟨RX5, "readReach", "()Z"⟩
abbrev cX5_readMill : ByteArray := prog_7_method_6_code
def yX5_readMill : MethodName := ⟨RX5, "readMill", "()Z"⟩
abbrev cX5_readWinder : ByteArray := prog_7_method_7_code
def yX5_readWinder : MethodName := ⟨RX5, "readWinder", "()Z"⟩
abbrev cX5_takeNewName : ByteArray := prog_7_method_8_code
def yX5_takeNewName : MethodName := ⟨RX5, "takeNewName", "()Z"⟩
def RX6 : String := "ClockRiver$Tape"
def TX6 : u_T := fun k => match k with
  | 0 => ("ClockRiver$Tape", "bytes", "[B", true)
  | 1 => ("ClockRiver$Tape", "fed", "I", false)
  | 2 => ("ClockRiver$Tape", "fault", "I", false)
  | 3 => ("ClockRiver$Tape", "faultPlace", "I", false)
  | 4 => ("ClockRiver$Tape", "kind", "I", false)
  | 5 => ("ClockRiver$Tape", "value", "J", false)
  | 6 => ("ClockRiver$Tape", "taken", "I", false)
  | 7 => ("ClockRiver$Tape", "at", "I", false)
  | 8 => ("ClockRiver$Tape", "tokens", "I", false)
  | 9 => ("ClockRiver$Tape", "kinds", "[I", true)
  | 10 => ("ClockRiver$Tape", "starts", "[I", true)
  | _ => ("ClockRiver$Tape", "values", "[J", true)
def tyX6 : Nat → FieldType := fun k => match k with
  | 0 => .array .byte
  | 1 => .int
  | 2 => .int
  | 3 => .int
  | 4 => .int
  | 5 => .long
  | 6 => .int
  | 7 => .int
  | 8 => .int
  | 9 => .array .int
  | 10 => .array .int
  | _ => .array .long
theorem nmX6 : ∀ a, a < 12 → ∀ b, b < 12 → a ≠ b → (TX6 a).2.1 ≠ (TX6 b).2.1 := by decide +kernel
theorem tyX6_ok : ∀ k, k < 12 → parseFieldDescriptor (TX6 k).2.2.1 = some (tyX6 k) := by decide +kernel
abbrev cX6_init : ByteArray := prog_8_method_1_code
def yX6_init : MethodName := ⟨RX6, "<init>", "()V"⟩
abbrev cX6_append : ByteArray := prog_8_method_2_code
def yX6_append : MethodName := ⟨RX6, "append", "(I)V"⟩
abbrev cX6_begin : ByteArray := prog_8_method_3_code
def yX6_begin : MethodName := ⟨RX6, "begin", "(I)V"⟩
abbrev cX6_advance : ByteArray := prog_8_method_4_code
def yX6_advance : MethodName := ⟨RX6, "advance", "()V"⟩
abbrev cX6_fail : ByteArray := prog_8_method_5_code
def yX6_fail : MethodName := ⟨RX6, "fail", "(I)Z"⟩
abbrev cX6_failToStand : ByteArray := prog_8_method_6_code
def yX6_failToStand : MethodName := ⟨RX6, "failToStand", "()Z"⟩
abbrev cX6_takeWord : ByteArray := prog_8_method_7_code
def yX6_takeWord : MethodName := ⟨RX6, "takeWord", "(I)Z"⟩
abbrev cX6_takeEnd : ByteArray := prog_8_method_8_code
def yX6_takeEnd : MethodName := ⟨RX6, "takeEnd", "()Z"⟩
abbrev cX6_takeNumber : ByteArray := prog_8_method_9_code
def yX6_takeNumber : MethodName := ⟨RX6, "takeNumber", "(II)Z"⟩
abbrev cX6_addToken : ByteArray := prog_8_method_10_code
def yX6_addToken : MethodName := ⟨RX6, "addToken", "(II)I"⟩
abbrev cX6_addWord : ByteArray := prog_8_method_11_code
def yX6_addWord : MethodName := ⟨RX6, "addWord", "(II)I"⟩
abbrev cX6_kindOfWord : ByteArray := prog_8_method_12_code
def yX6_kindOfWord : MethodName := ⟨RX6, "kindOfWord", "(II)I"⟩
abbrev cX6_isLike : ByteArray := prog_8_method_13_code
def yX6_isLike : MethodName := ⟨RX6, "isLike", "(III)Z"⟩
abbrev cX6_addNumber : ByteArray := prog_8_method_14_code
def yX6_addNumber : MethodName := ⟨RX6, "addNumber", "(II)I"⟩
abbrev cX6_addSign : ByteArray := prog_8_method_15_code
def yX6_addSign : MethodName := ⟨RX6, "addSign", "(II)I"⟩
abbrev cX6_isBlank : ByteArray := prog_8_method_16_code
def yX6_isBlank : MethodName := ⟨RX6, "isBlank", "(I)Z"⟩
abbrev cX6_isLetter : ByteArray := prog_8_method_17_code
def yX6_isLetter : MethodName := ⟨RX6, "isLetter", "(I)Z"⟩
abbrev cX6_isDigit : ByteArray := prog_8_method_18_code
def yX6_isDigit : MethodName := ⟨RX6, "isDigit", "(I)Z"⟩
def RX7 : String := "ClockRiver$Trays"
def TX7 : u_T := fun k => match k with
  | 0 => ("ClockRiver$Trays", "rows", "[[J", true)
  | 1 => ("ClockRiver$Trays", "sorts", "[I", true)
  | _ => ("ClockRiver$Trays", "lengths", "[I", true)
def tyX7 : Nat → FieldType := fun k => match k with
  | 0 => .array (.array .long)
  | 1 => .array .int
  | _ => .array .int
theorem nmX7 : ∀ a, a < 3 → ∀ b, b < 3 → a ≠ b → (TX7 a).2.1 ≠ (TX7 b).2.1 := by decide +kernel
theorem tyX7_ok : ∀ k, k < 3 → parseFieldDescriptor (TX7 k).2.2.1 = some (tyX7 k) := by decide +kernel
abbrev cX7_init : ByteArray := prog_9_method_1_code
def yX7_init : MethodName := ⟨RX7, "<init>", "()V"⟩
abbrev cX7_isTray : ByteArray := prog_9_method_2_code
def yX7_isTray : MethodName := ⟨RX7, "isTray", "(I)Z"⟩
abbrev cX7_isMissing : ByteArray := prog_9_method_3_code
def yX7_isMissing : MethodName := ⟨RX7, "isMissing", "(I)Z"⟩
abbrev cX7_whyNoPlace : ByteArray := prog_9_method_4_code
def yX7_whyNoPlace : MethodName := ⟨RX7, "whyNoPlace", "(II)I"⟩
abbrev cX7_hasRoom : ByteArray := prog_9_method_5_code
def yX7_hasRoom : MethodName := ⟨RX7, "hasRoom", "(III)Z"⟩
abbrev cX7_renew : ByteArray := prog_9_method_6_code
def yX7_renew : MethodName := ⟨RX7, "renew", "(III)V"⟩
abbrev cX7_put : ByteArray := prog_9_method_7_code
def yX7_put : MethodName := ⟨RX7, "put", "(IIJ)V"⟩
abbrev cX7_cut : ByteArray := prog_9_method_8_code
def yX7_cut : MethodName := ⟨RX7, "cut", "(IJ)J"⟩
def RX8 : String := "ClockRiver$Weeks"
def TX8 : u_T := fun k => match k with
  | 0 => ("ClockRiver$Weeks", "isThere", "Z", false)
  | 1 => ("ClockRiver$Weeks", "steps", "I", false)
  | 2 => ("ClockRiver$Weeks", "rows", "I", false)
  | 3 => ("ClockRiver$Weeks", "word", "[I", true)
  | 4 => ("ClockRiver$Weeks", "thing", "[I", true)
  | 5 => ("ClockRiver$Weeks", "number", "[I", true)
  | 6 => ("ClockRiver$Weeks", "test", "[I", true)
  | 7 => ("ClockRiver$Weeks", "sign", "[I", true)
  | _ => ("ClockRiver$Weeks", "mate", "[I", true)
def tyX8 : Nat → FieldType := fun k => match k with
  | 0 => .boolean
  | 1 => .int
  | 2 => .int
  | 3 => .array .int
  | 4 => .array .int
  | 5 => .array .int
  | 6 => .array .int
  | 7 => .array .int
  | _ => .array .int
theorem nmX8 : ∀ a, a < 9 → ∀ b, b < 9 → a ≠ b → (TX8 a).2.1 ≠ (TX8 b).2.1 := by decide +kernel
theorem tyX8_ok : ∀ k, k < 9 → parseFieldDescriptor (TX8 k).2.2.1 = some (tyX8 k) := by decide +kernel
abbrev cX8_init : ByteArray := prog_10_method_1_code
def yX8_init : MethodName := ⟨RX8, "<init>", "()V"⟩
abbrev cX8_forget : ByteArray := prog_10_method_2_code
def yX8_forget : MethodName := ⟨RX8, "forget", "()V"⟩
abbrev cX8_copyFrom : ByteArray := prog_10_method_3_code
def yX8_copyFrom : MethodName := ⟨RX8, "copyFrom", "(LClockRiver$Weeks;)V"⟩
abbrev cX8_addRow : ByteArray := prog_10_method_4_code
def yX8_addRow : MethodName := ⟨RX8, "addRow", "(I)I"⟩
def RX9 : String := "ClockRiver$WeeksReader"
def TX9 : u_T := fun k => match k with
  | 0 => ("ClockRiver$WeeksReader", "told", "LClockRiver$Weeks;", true)
  | 1 => ("ClockRiver$WeeksReader", "tape", "LClockRiver$Tape;", false)
  | 2 => ("ClockRiver$WeeksReader", "river", "LClockRiver$River;", false)
  | 3 => ("ClockRiver$WeeksReader", "row", "I", false)
  | 4 => ("ClockRiver$WeeksReader", "depth", "I", false)
  | _ => ("ClockRiver$WeeksReader", "begun", "[I", true)
def tyX9 : Nat → FieldType := fun k => match k with
  | 0 => .object "ClockRiver$Weeks"
  | 1 => .object "ClockRiver$Tape"
  | 2 => .object "ClockRiver$River"
  | 3 => .int
  | 4 => .int
  | _ => .array .int
theorem nmX9 : ∀ a, a < 6 → ∀ b, b < 6 → a ≠ b → (TX9 a).2.1 ≠ (TX9 b).2.1 := by decide +kernel
theorem tyX9_ok : ∀ k, k < 6 → parseFieldDescriptor (TX9 k).2.2.1 = some (tyX9 k) := by decide +kernel
abbrev cX9_init : ByteArray := prog_11_method_1_code
def yX9_init : MethodName := ⟨RX9, "<init>", "()V"⟩
abbrev cX9_readFor : ByteArray := prog_11_method_2_code
def yX9_readFor : MethodName := ⟨RX9, "readFor", "(LClockRiver$Tape;LClockRiver$River;)Z"⟩
abbrev cX9_beginEnd : ByteArray := prog_11_method_3_code
def yX9_beginEnd : MethodName := ⟨RX9, "beginEnd", "()Z"⟩
abbrev cX9_beginStep : ByteArray := prog_11_method_4_code
def yX9_beginStep : MethodName := ⟨RX9, "beginStep", "()Z"⟩
abbrev cX9_isStep : ByteArray := prog_11_method_5_code
def yX9_isStep : MethodName := ⟨RX9, "isStep", "(I)Z"⟩
abbrev cX9_readRest : ByteArray := prog_11_method_6_code
def yX9_readRest : MethodName := ⟨RX9, "readRest", "()Z"⟩
abbrev cX9_readWind : ByteArray := prog_11_method_7_code
def yX9_readWind : MethodName := ⟨RX9, "readWind", "()Z"⟩
abbrev cX9_readTest : ByteArray := prog_11_method_8_code
def yX9_readTest : MethodName := ⟨RX9, "readTest", "()Z"⟩
abbrev cX9_takeName : ByteArray := prog_11_method_9_code
def yX9_takeName : MethodName := ⟨RX9, "takeName", "([JI)Z"⟩
abbrev cX9_takeComparison : ByteArray := prog_11_method_10_code
def yX9_takeComparison : MethodName := ⟨RX9, "takeComparison", "()Z"⟩
abbrev cX9_takeNumber : ByteArray := prog_11_method_11_code
def yX9_takeNumber : MethodName := ⟨RX9, "takeNumber", "(II)Z"⟩
def RX10 : String := "ClockRiver$Winders"
def TX10 : u_T := fun k => match k with
  | 0 => ("ClockRiver$Winders", "count", "I", false)
  | 1 => ("ClockRiver$Winders", "name", "[J", true)
  | 2 => ("ClockRiver$Winders", "strength", "[I", true)
  | 3 => ("ClockRiver$Winders", "wage", "[I", true)
  | 4 => ("ClockRiver$Winders", "times", "[I", true)
  | _ => ("ClockRiver$Winders", "had", "[I", true)
def tyX10 : Nat → FieldType := fun k => match k with
  | 0 => .int
  | 1 => .array .long
  | 2 => .array .int
  | 3 => .array .int
  | 4 => .array .int
  | _ => .array .int
theorem nmX10 : ∀ a, a < 6 → ∀ b, b < 6 → a ≠ b → (TX10 a).2.1 ≠ (TX10 b).2.1 := by decide +kernel
theorem tyX10_ok : ∀ k, k < 6 → parseFieldDescriptor (TX10 k).2.2.1 = some (tyX10 k) := by decide +kernel
abbrev cX10_init : ByteArray := prog_12_method_1_code
def yX10_init : MethodName := ⟨RX10, "<init>", "()V"⟩
abbrev cX10_add : ByteArray := prog_12_method_2_code
def yX10_add : MethodName := ⟨RX10, "add", "(JII)V"⟩
abbrev cX10_copyFrom : ByteArray := prog_12_method_3_code
def yX10_copyFrom : MethodName := ⟨RX10, "copyFrom", "(LClockRiver$Winders;)V"⟩
abbrev cX10_pay : ByteArray := prog_12_method_4_code
def yX10_pay : MethodName := ⟨RX10, "pay", "(I)V"⟩
abbrev cX10_allHad : ByteArray := prog_12_method_5_code
def yX10_allHad : MethodName := ⟨RX10, "allHad", "()I"⟩
abbrev cX10_sets : ByteArray := prog_12_method_6_code
def yX10_sets : MethodName := ⟨RX10, "sets", "()I"⟩
abbrev cX10_canWind : ByteArray := prog_12_method_7_code
def yX10_canWind : MethodName := ⟨RX10, "canWind", "(III)Z"⟩
abbrev cX10_wagesOf : ByteArray := prog_12_method_8_code
def yX10_wagesOf : MethodName := ⟨RX10, "wagesOf", "(I)I"⟩
def RX11 : String := "ClockRiver"
def TX11 : u_T := fun k => match k with
  | 0 => ("ClockRiver", "latestStatus", "I", false)
  | 1 => ("ClockRiver", "latestTop", "J", false)
  | 2 => ("ClockRiver", "latestBottom", "J", false)
  | 3 => ("ClockRiver", "marks", "I", false)
  | 4 => ("ClockRiver", "now", "LClockRiver$River;", true)
  | 5 => ("ClockRiver", "plan", "LClockRiver$Weeks;", true)
  | 6 => ("ClockRiver", "trays", "LClockRiver$Trays;", true)
  | 7 => ("ClockRiver", "tape", "LClockRiver$Tape;", true)
  | 8 => ("ClockRiver", "riverReader", "LClockRiver$RiverReader;", true)
  | 9 => ("ClockRiver", "weeksReader", "LClockRiver$WeeksReader;", true)
  | 10 => ("ClockRiver", "markedRivers", "[LClockRiver$River;", true)
  | 11 => ("ClockRiver", "markedPlans", "[LClockRiver$Weeks;", true)
  | 12 => ("ClockRiver", "ahead", "LClockRiver$Ahead;", true)
  | 13 => ("ClockRiver", "latestLife", "LClockRiver$Life;", true)
  | _ => ("ClockRiver", "trialLife", "LClockRiver$Life;", true)
def tyX11 : Nat → FieldType := fun k => match k with
  | 0 => .int
  | 1 => .long
  | 2 => .long
  | 3 => .int
  | 4 => .object "ClockRiver$River"
  | 5 => .object "ClockRiver$Weeks"
  | 6 => .object "ClockRiver$Trays"
  | 7 => .object "ClockRiver$Tape"
  | 8 => .object "ClockRiver$RiverReader"
  | 9 => .object "ClockRiver$WeeksReader"
  | 10 => .array (.object "ClockRiver$River")
  | 11 => .array (.object "ClockRiver$Weeks")
  | 12 => .object "ClockRiver$Ahead"
  | 13 => .object "ClockRiver$Life"
  | _ => .object "ClockRiver$Life"
theorem nmX11 : ∀ a, a < 15 → ∀ b, b < 15 → a ≠ b → (TX11 a).2.1 ≠ (TX11 b).2.1 := by decide +kernel
theorem tyX11_ok : ∀ k, k < 15 → parseFieldDescriptor (TX11 k).2.2.1 = some (tyX11 k) := by decide +kernel
abbrev cX11_init : ByteArray := prog_1_method_1_code
def yX11_init : MethodName := ⟨RX11, "<init>", "()V"⟩
abbrev cX11_status : ByteArray := prog_1_method_2_code
def yX11_status : MethodName := ⟨RX11, "status", "()I"⟩
abbrev cX11_top : ByteArray := prog_1_method_3_code
def yX11_top : MethodName := ⟨RX11, "top", "()J"⟩
abbrev cX11_bottom : ByteArray := prog_1_method_4_code
def yX11_bottom : MethodName := ⟨RX11, "bottom", "()J"⟩
abbrev cX11_tray : ByteArray := prog_1_method_5_code
def yX11_tray : MethodName := ⟨RX11, "tray", "(III)Z"⟩
abbrev cX11_write : ByteArray := prog_1_method_6_code
def yX11_write : MethodName := ⟨RX11, "write", "(IIJ)Z"⟩
abbrev cX11_read : ByteArray := prog_1_method_7_code
def yX11_read : MethodName := ⟨RX11, "read", "(II)J"⟩
abbrev cX11_pour : ByteArray := prog_1_method_8_code
def yX11_pour : MethodName := ⟨RX11, "pour", "(IIIII)Z"⟩
abbrev cX11_feed : ByteArray := prog_1_method_9_code
def yX11_feed : MethodName := ⟨RX11, "feed", "(IIIII)I"⟩
abbrev cX11_river : ByteArray := prog_1_method_10_code
def yX11_river : MethodName := ⟨RX11, "river", "(I)I"⟩
abbrev cX11_weeks : ByteArray := prog_1_method_11_code
def yX11_weeks : MethodName := ⟨RX11, "weeks", "(I)I"⟩
abbrev cX11_fault : ByteArray := prog_1_method_12_code
def yX11_fault : MethodName := ⟨RX11, "fault", "(I)I"⟩
abbrev cX11_many : ByteArray := prog_1_method_13_code
def yX11_many : MethodName := ⟨RX11, "many", "(I)I"⟩
abbrev cX11_turnsLeft : ByteArray := prog_1_method_14_code
def yX11_turnsLeft : MethodName := ⟨RX11, "turnsLeft", "()I"⟩
abbrev cX11_water : ByteArray := prog_1_method_15_code
def yX11_water : MethodName := ⟨RX11, "water", "(I)J"⟩
abbrev cX11_reach : ByteArray := prog_1_method_16_code
def yX11_reach : MethodName := ⟨RX11, "reach", "(II)I"⟩
abbrev cX11_mill : ByteArray := prog_1_method_17_code
def yX11_mill : MethodName := ⟨RX11, "mill", "(II)I"⟩
abbrev cX11_winder : ByteArray := prog_1_method_18_code
def yX11_winder : MethodName := ⟨RX11, "winder", "(II)I"⟩
abbrev cX11_copyStored : ByteArray := prog_1_method_19_code
def yX11_copyStored : MethodName := ⟨RX11, "copyStored", "(I)I"⟩
abbrev cX11_hour : ByteArray := prog_1_method_20_code
def yX11_hour : MethodName := ⟨RX11, "hour", "(I)I"⟩
abbrev cX11_wind : ByteArray := prog_1_method_21_code
def yX11_wind : MethodName := ⟨RX11, "wind", "(IZ)I"⟩
abbrev cX11_oil : ByteArray := prog_1_method_22_code
def yX11_oil : MethodName := ⟨RX11, "oil", "()I"⟩
abbrev cX11_gate : ByteArray := prog_1_method_23_code
def yX11_gate : MethodName := ⟨RX11, "gate", "(II)I"⟩
abbrev cX11_rain : ByteArray := prog_1_method_24_code
def yX11_rain : MethodName := ⟨RX11, "rain", "(Z)Z"⟩
abbrev cX11_bring : ByteArray := prog_1_method_25_code
def yX11_bring : MethodName := ⟨RX11, "bring", "(II)I"⟩
abbrev cX11_rule : ByteArray := prog_1_method_26_code
def yX11_rule : MethodName := ⟨RX11, "rule", "(II)Z"⟩
abbrev cX11_build : ByteArray := prog_1_method_27_code
def yX11_build : MethodName := ⟨RX11, "build", "(II)I"⟩
abbrev cX11_train : ByteArray := prog_1_method_28_code
def yX11_train : MethodName := ⟨RX11, "train", "(II)Z"⟩
abbrev cX11_turnsIn : ByteArray := prog_1_method_29_code
def yX11_turnsIn : MethodName := ⟨RX11, "turnsIn", "(I)I"⟩
abbrev cX11_storedIn : ByteArray := prog_1_method_30_code
def yX11_storedIn : MethodName := ⟨RX11, "storedIn", "(II)I"⟩
abbrev cX11_groundIn : ByteArray := prog_1_method_31_code
def yX11_groundIn : MethodName := ⟨RX11, "groundIn", "(II)I"⟩
abbrev cX11_seaIn : ByteArray := prog_1_method_32_code
def yX11_seaIn : MethodName := ⟨RX11, "seaIn", "(I)J"⟩
abbrev cX11_dryIn : ByteArray := prog_1_method_33_code
def yX11_dryIn : MethodName := ⟨RX11, "dryIn", "(I)I"⟩
abbrev cX11_floodIn : ByteArray := prog_1_method_34_code
def yX11_floodIn : MethodName := ⟨RX11, "floodIn", "(I)I"⟩
abbrev cX11_stillIn : ByteArray := prog_1_method_35_code
def yX11_stillIn : MethodName := ⟨RX11, "stillIn", "()I"⟩
abbrev cX11_lawIn : ByteArray := prog_1_method_36_code
def yX11_lawIn : MethodName := ⟨RX11, "lawIn", "()I"⟩
abbrev cX11_enough : ByteArray := prog_1_method_37_code
def yX11_enough : MethodName := ⟨RX11, "enough", "(III)I"⟩
abbrev cX11_bestGate : ByteArray := prog_1_method_38_code
def yX11_bestGate : MethodName := ⟨RX11, "bestGate", "(II)I"⟩
abbrev cX11_bestGround : ByteArray := prog_1_method_39_code
def yX11_bestGround : MethodName := ⟨RX11, "bestGround", "(II)I"⟩
abbrev cX11_hire : ByteArray := prog_1_method_40_code
def yX11_hire : MethodName := ⟨RX11, "hire", "(II)I"⟩
abbrev cX11_hireAt : ByteArray := prog_1_method_41_code
def yX11_hireAt : MethodName := ⟨RX11, "hireAt", "(III)I"⟩
abbrev cX11_wound : ByteArray := prog_1_method_42_code
def yX11_wound : MethodName := ⟨RX11, "wound", "(II)I"⟩
abbrev cX11_sure : ByteArray := prog_1_method_43_code
def yX11_sure : MethodName := ⟨RX11, "sure", "(II)I"⟩
abbrev cX11_cheapest : ByteArray := prog_1_method_44_code
def yX11_cheapest : MethodName := ⟨RX11, "cheapest", "(II)I"⟩
abbrev cX11_game : ByteArray := prog_1_method_45_code
def yX11_game : MethodName := ⟨RX11, "game", "(III)I"⟩
abbrev cX11_moveOf : ByteArray := prog_1_method_46_code
def yX11_moveOf : MethodName := ⟨RX11, "moveOf", "(III)I"⟩
abbrev cX11_share : ByteArray := prog_1_method_47_code
def yX11_share : MethodName := ⟨RX11, "share", "(I)Z"⟩
abbrev cX11_price : ByteArray := prog_1_method_48_code
def yX11_price : MethodName := ⟨RX11, "price", "(I)Z"⟩
abbrev cX11_wet : ByteArray := prog_1_method_49_code
def yX11_wet : MethodName := ⟨RX11, "wet", "(II)Z"⟩
abbrev cX11_live : ByteArray := prog_1_method_50_code
def yX11_live : MethodName := ⟨RX11, "live", "(I)I"⟩
abbrev cX11_lived : ByteArray := prog_1_method_51_code
def yX11_lived : MethodName := ⟨RX11, "lived", "(I)I"⟩
abbrev cX11_mean : ByteArray := prog_1_method_52_code
def yX11_mean : MethodName := ⟨RX11, "mean", "(II)Z"⟩
abbrev cX11_mark : ByteArray := prog_1_method_53_code
def yX11_mark : MethodName := ⟨RX11, "mark", "()I"⟩
abbrev cX11_back : ByteArray := prog_1_method_54_code
def yX11_back : MethodName := ⟨RX11, "back", "()I"⟩
abbrev cX11_give : ByteArray := prog_1_method_55_code
def yX11_give : MethodName := ⟨RX11, "give", "(I)I"⟩
abbrev cX11_giveIfAny : ByteArray := prog_1_method_56_code
def yX11_giveIfAny : MethodName := ⟨RX11, "giveIfAny", "(I)I"⟩
abbrev cX11_refuse : ByteArray := prog_1_method_57_code
def yX11_refuse : MethodName := ⟨RX11, "refuse", "(I)I"⟩
abbrev cX11_grant : ByteArray := prog_1_method_58_code
def yX11_grant : MethodName := ⟨RX11, "grant", "()Z"⟩
abbrev cX11_deny : ByteArray := prog_1_method_59_code
def yX11_deny : MethodName := ⟨RX11, "deny", "(I)Z"⟩
abbrev cX11_tellFraction : ByteArray := prog_1_method_60_code
def yX11_tellFraction : MethodName := ⟨RX11, "tellFraction", "(JJ)V"⟩
abbrev cX11_commonDivisor : ByteArray := prog_1_method_61_code
def yX11_commonDivisor : MethodName := ⟨RX11, "commonDivisor", "(JJ)J"⟩
abbrev cX11_isTooFar : ByteArray := prog_1_method_62_code
def yX11_isTooFar : MethodName := ⟨RX11, "isTooFar", "(I)Z"⟩
abbrev cX11_isNoHire : ByteArray := prog_1_method_63_code
def yX11_isNoHire : MethodName := ⟨RX11, "isNoHire", "(II)Z"⟩
abbrev cX11_isNoSpring : ByteArray := prog_1_method_64_code
def yX11_isNoSpring : MethodName := ⟨RX11, "isNoSpring", "(I)Z"⟩
abbrev cX11_whyNoGate : ByteArray := prog_1_method_65_code
def yX11_whyNoGate : MethodName := ⟨RX11, "whyNoGate", "(II)I"⟩
abbrev cX11_mostOfRule : ByteArray := prog_1_method_66_code
def yX11_mostOfRule : MethodName := ⟨RX11, "mostOfRule", "(I)I"⟩
abbrev cX11_waysToRain : ByteArray := prog_1_method_67_code
def yX11_waysToRain : MethodName := ⟨RX11, "waysToRain", "(II)J"⟩
def RX12 : String := "ClockRiverModel"
def TX12 : u_T := fun k => match k with
  | 0 => ("ClockRiverModel", "status", "I", false)
  | 1 => ("ClockRiverModel", "thrown", "I", false)
  | 2 => ("ClockRiverModel", "above", "J", false)
  | 3 => ("ClockRiverModel", "under", "J", false)
  | 4 => ("ClockRiverModel", "traySort", "[I", true)
  | 5 => ("ClockRiverModel", "trayMany", "[I", true)
  | 6 => ("ClockRiverModel", "numbers", "[J", true)
  | 7 => ("ClockRiverModel", "tape", "[B", true)
  | 8 => ("ClockRiverModel", "taped", "I", false)
  | 9 => ("ClockRiverModel", "textEnd", "I", false)
  | 10 => ("ClockRiverModel", "faultKind", "I", false)
  | 11 => ("ClockRiverModel", "faultAt", "I", false)
  | 12 => ("ClockRiverModel", "bad", "I", false)
  | 13 => ("ClockRiverModel", "badAt", "I", false)
  | 14 => ("ClockRiverModel", "token", "I", false)
  | 15 => ("ClockRiverModel", "at", "I", false)
  | 16 => ("ClockRiverModel", "behind", "I", false)
  | 17 => ("ClockRiverModel", "number", "I", false)
  | 18 => ("ClockRiverModel", "letters", "I", false)
  | 19 => ("ClockRiverModel", "word", "J", false)
  | 20 => ("ClockRiverModel", "c", "[I", true)
  | 21 => ("ClockRiverModel", "aside", "[I", true)
  | 22 => ("ClockRiverModel", "before", "[I", true)
  | 23 => ("ClockRiverModel", "words", "[J", true)
  | 24 => ("ClockRiverModel", "markMany", "I", false)
  | 25 => ("ClockRiverModel", "toldOnce", "I", false)
  | 26 => ("ClockRiverModel", "newSteps", "I", false)
  | 27 => ("ClockRiverModel", "passed", "[I", true)
  | 28 => ("ClockRiverModel", "flooded", "[I", true)
  | 29 => ("ClockRiverModel", "bestGround", "I", false)
  | 30 => ("ClockRiverModel", "turn", "[I", true)
  | 31 => ("ClockRiverModel", "hired", "[I", true)
  | 32 => ("ClockRiverModel", "bestHired", "[I", true)
  | 33 => ("ClockRiverModel", "leastWage", "I", false)
  | 34 => ("ClockRiverModel", "wayMany", "I", false)
  | 35 => ("ClockRiverModel", "sureOnes", "I", false)
  | 36 => ("ClockRiverModel", "cheap", "I", false)
  | 37 => ("ClockRiverModel", "firstMove", "I", false)
  | 38 => ("ClockRiverModel", "chances", "[J", true)
  | 39 => ("ClockRiverModel", "livedLast", "[I", true)
  | 40 => ("ClockRiverModel", "hasLived", "Z", false)
  | 41 => ("ClockRiverModel", "isOver", "Z", false)
  | 42 => ("ClockRiverModel", "random", "I", false)
  | 43 => ("ClockRiverModel", "done", "I", false)
  | 44 => ("ClockRiverModel", "missed", "I", false)
  | 45 => ("ClockRiverModel", "hours", "I", false)
  | 46 => ("ClockRiverModel", "groundNow", "I", false)
  | 47 => ("ClockRiverModel", "woundNow", "I", false)
  | _ => ("ClockRiverModel", "leftOver", "I", false)
def tyX12 : Nat → FieldType := fun k => match k with
  | 0 => .int
  | 1 => .int
  | 2 => .long
  | 3 => .long
  | 4 => .array .int
  | 5 => .array .int
  | 6 => .array .long
  | 7 => .array .byte
  | 8 => .int
  | 9 => .int
  | 10 => .int
  | 11 => .int
  | 12 => .int
  | 13 => .int
  | 14 => .int
  | 15 => .int
  | 16 => .int
  | 17 => .int
  | 18 => .int
  | 19 => .long
  | 20 => .array .int
  | 21 => .array .int
  | 22 => .array .int
  | 23 => .array .long
  | 24 => .int
  | 25 => .int
  | 26 => .int
  | 27 => .array .int
  | 28 => .array .int
  | 29 => .int
  | 30 => .array .int
  | 31 => .array .int
  | 32 => .array .int
  | 33 => .int
  | 34 => .int
  | 35 => .int
  | 36 => .int
  | 37 => .int
  | 38 => .array .long
  | 39 => .array .int
  | 40 => .boolean
  | 41 => .boolean
  | 42 => .int
  | 43 => .int
  | 44 => .int
  | 45 => .int
  | 46 => .int
  | 47 => .int
  | _ => .int
theorem nmX12 : ∀ a, a < 49 → ∀ b, b < 49 → a ≠ b → (TX12 a).2.1 ≠ (TX12 b).2.1 := by decide +kernel
theorem tyX12_ok : ∀ k, k < 49 → parseFieldDescriptor (TX12 k).2.2.1 = some (tyX12 k) := by decide +kernel
abbrev cX12_init : ByteArray := prog_14_method_1_code
def yX12_init : MethodName := ⟨RX12, "<init>", "()V"⟩
abbrev cX12_status : ByteArray := prog_14_method_3_code
def yX12_status : MethodName := ⟨RX12, "status", "()I"⟩
abbrev cX12_top : ByteArray := prog_14_method_4_code
def yX12_top : MethodName := ⟨RX12, "top", "()J"⟩
abbrev cX12_bottom : ByteArray := prog_14_method_5_code
def yX12_bottom : MethodName := ⟨RX12, "bottom", "()J"⟩
abbrev cX12_refuse : ByteArray := prog_14_method_6_code
def yX12_refuse : MethodName := ⟨RX12, "refuse", "(I)I"⟩
abbrev cX12_no : ByteArray := prog_14_method_7_code
def yX12_no : MethodName := ⟨RX12, "no", "(I)Z"⟩
abbrev cX12_isIn : ByteArray := prog_14_method_8_code
def yX12_isIn : MethodName := ⟨RX12, "isIn", "(JJJ)Z"⟩
abbrev cX12_fraction : ByteArray := prog_14_method_9_code
def yX12_fraction : MethodName := ⟨RX12, "fraction", "(JJ)Z"⟩
abbrev cX12_cut : ByteArray := prog_14_method_10_code
def yX12_cut : MethodName := ⟨RX12, "cut", "(IJ)J"⟩
abbrev cX12_tray : ByteArray := prog_14_method_11_code
def yX12_tray : MethodName := ⟨RX12, "tray", "(III)Z"⟩
abbrev cX12_trayed : ByteArray := prog_14_method_12_code
def yX12_trayed : MethodName := ⟨RX12, "trayed", "(I)I"⟩
abbrev cX12_placed : ByteArray := prog_14_method_13_code
def yX12_placed : MethodName := ⟨RX12, "placed", "(II)I"⟩
abbrev cX12_write : ByteArray := prog_14_method_14_code
def yX12_write : MethodName := ⟨RX12, "write", "(IIJ)Z"⟩
abbrev cX12_read : ByteArray := prog_14_method_15_code
def yX12_read : MethodName := ⟨RX12, "read", "(II)J"⟩
abbrev cX12_pour : ByteArray := prog_14_method_16_code
def yX12_pour : MethodName := ⟨RX12, "pour", "(IIIII)Z"⟩
abbrev cX12_isTray : ByteArray := prog_14_method_17_code
def yX12_isTray : MethodName := ⟨RX12, "isTray", "(I)Z"⟩
abbrev cX12_has : ByteArray := prog_14_method_18_code
def yX12_has : MethodName := ⟨RX12, "has", "(II)Z"⟩
abbrev cX12_look2 : ByteArray := prog_14_method_19_code
def yX12_look2 : MethodName := ⟨RX12, "look2", "(I)I"⟩
abbrev cX12_isLetter : ByteArray := prog_14_method_20_code
def yX12_isLetter : MethodName := ⟨RX12, "isLetter", "(I)Z"⟩
abbrev cX12_isDigit : ByteArray := prog_14_method_21_code
def yX12_isDigit : MethodName := ⟨RX12, "isDigit", "(I)Z"⟩
abbrev cX12_isSignByte : ByteArray := prog_14_method_22_code
def yX12_isSignByte : MethodName := ⟨RX12, "isSignByte", "(I)Z"⟩
abbrev cX12_advance : ByteArray := prog_14_method_23_code
def yX12_advance : MethodName := ⟨RX12, "advance", "()V"⟩
abbrev cX12_isSign : ByteArray := prog_14_method_24_code
def yX12_isSign : MethodName := ⟨RX12, "isSign", "(I)Z"⟩
abbrev cX12_spelled : ByteArray := prog_14_method_25_code
def yX12_spelled : MethodName := ⟨RX12, "spelled", "(IIIIII)J"⟩
abbrev cX12_isWord : ByteArray := prog_14_method_26_code
def yX12_isWord : MethodName := ⟨RX12, "isWord", "(J)Z"⟩
abbrev cX12_isTurns : ByteArray := prog_14_method_27_code
def yX12_isTurns : MethodName := ⟨RX12, "isTurns", "()Z"⟩
abbrev cX12_isSlack : ByteArray := prog_14_method_28_code
def yX12_isSlack : MethodName := ⟨RX12, "isSlack", "()Z"⟩
abbrev cX12_isOdds : ByteArray := prog_14_method_29_code
def yX12_isOdds : MethodName := ⟨RX12, "isOdds", "()Z"⟩
abbrev cX12_isReach : ByteArray := prog_14_method_30_code
def yX12_isReach : MethodName := ⟨RX12, "isReach", "()Z"⟩
abbrev cX12_isBank : ByteArray := prog_14_method_31_code
def yX12_isBank : MethodName := ⟨RX12, "isBank", "()Z"⟩
abbrev cX12_isGate : ByteArray := prog_14_method_32_code
def yX12_isGate : MethodName := ⟨RX12, "isGate", "()Z"⟩
abbrev cX12_isHolds : ByteArray := prog_14_method_33_code
def yX12_isHolds : MethodName := ⟨RX12, "isHolds", "()Z"⟩
abbrev cX12_isMill : ByteArray := prog_14_method_34_code
def yX12_isMill : MethodName := ⟨RX12, "isMill", "()Z"⟩
abbrev cX12_isAt : ByteArray := prog_14_method_35_code
def yX12_isAt : MethodName := ⟨RX12, "isAt", "()Z"⟩
abbrev cX12_isNeeds : ByteArray := prog_14_method_36_code
def yX12_isNeeds : MethodName := ⟨RX12, "isNeeds", "()Z"⟩
abbrev cX12_isWinder : ByteArray := prog_14_method_37_code
def yX12_isWinder : MethodName := ⟨RX12, "isWinder", "()Z"⟩
abbrev cX12_isStrength : ByteArray := prog_14_method_38_code
def yX12_isStrength : MethodName := ⟨RX12, "isStrength", "()Z"⟩
abbrev cX12_isWage : ByteArray := prog_14_method_39_code
def yX12_isWage : MethodName := ⟨RX12, "isWage", "()Z"⟩
abbrev cX12_isBack : ByteArray := prog_14_method_40_code
def yX12_isBack : MethodName := ⟨RX12, "isBack", "()Z"⟩
abbrev cX12_stepWord : ByteArray := prog_14_method_41_code
def yX12_stepWord : MethodName := ⟨RX12, "stepWord", "()I"⟩
abbrev cX12_testWord : ByteArray := prog_14_method_42_code
def yX12_testWord : MethodName := ⟨RX12, "testWord", "()I"⟩
abbrev cX12_isEnd : ByteArray := prog_14_method_43_code
def yX12_isEnd : MethodName := ⟨RX12, "isEnd", "()Z"⟩
abbrev cX12_isKept : ByteArray := prog_14_method_44_code
def yX12_isKept : MethodName := ⟨RX12, "isKept", "()Z"⟩
abbrev cX12_isName : ByteArray := prog_14_method_45_code
def yX12_isName : MethodName := ⟨RX12, "isName", "()Z"⟩
abbrev cX12_fail : ByteArray := prog_14_method_46_code
def yX12_fail : MethodName := ⟨RX12, "fail", "(II)V"⟩
abbrev cX12_amiss : ByteArray := prog_14_method_47_code
def yX12_amiss : MethodName := ⟨RX12, "amiss", "()V"⟩
abbrev cX12_must : ByteArray := prog_14_method_48_code
def yX12_must : MethodName := ⟨RX12, "must", "(Z)V"⟩
abbrev cX12_count : ByteArray := prog_14_method_49_code
def yX12_count : MethodName := ⟨RX12, "count", "(II)I"⟩
abbrev cX12_behindWord : ByteArray := prog_14_method_50_code
def yX12_behindWord : MethodName := ⟨RX12, "behindWord", "(ZII)I"⟩
abbrev cX12_perhaps : ByteArray := prog_14_method_51_code
def yX12_perhaps : MethodName := ⟨RX12, "perhaps", "(Z)Z"⟩
abbrev cX12_feed : ByteArray := prog_14_method_52_code
def yX12_feed : MethodName := ⟨RX12, "feed", "(IIIII)I"⟩
abbrev cX12_lay : ByteArray := prog_14_method_53_code
def yX12_lay : MethodName := ⟨RX12, "lay", "(I)V"⟩
abbrev cX12_starts : ByteArray := prog_14_method_54_code
def yX12_starts : MethodName := ⟨RX12, "starts", "(II)Z"⟩
abbrev cX12_isWell : ByteArray := prog_14_method_55_code
def yX12_isWell : MethodName := ⟨RX12, "isWell", "()Z"⟩
abbrev cX12_fault : ByteArray := prog_14_method_56_code
def yX12_fault : MethodName := ⟨RX12, "fault", "(I)I"⟩
abbrev cX12_empties : ByteArray := prog_14_method_57_code
def yX12_empties : MethodName := ⟨RX12, "empties", "(I)V"⟩
abbrev cX12_named : ByteArray := prog_14_method_58_code
def yX12_named : MethodName := ⟨RX12, "named", "(II)I"⟩
abbrev cX12_isTaken : ByteArray := prog_14_method_59_code
def yX12_isTaken : MethodName := ⟨RX12, "isTaken", "()Z"⟩
abbrev cX12_readNew : ByteArray := prog_14_method_60_code
def yX12_readNew : MethodName := ⟨RX12, "readNew", "(I)I"⟩
abbrev cX12_readTold : ByteArray := prog_14_method_61_code
def yX12_readTold : MethodName := ⟨RX12, "readTold", "(II)I"⟩
abbrev cX12_readOnce : ByteArray := prog_14_method_62_code
def yX12_readOnce : MethodName := ⟨RX12, "readOnce", "(III)V"⟩
abbrev cX12_readReach : ByteArray := prog_14_method_63_code
def yX12_readReach : MethodName := ⟨RX12, "readReach", "()V"⟩
abbrev cX12_readMill : ByteArray := prog_14_method_64_code
def yX12_readMill : MethodName := ⟨RX12, "readMill", "()V"⟩
abbrev cX12_readWinder : ByteArray := prog_14_method_65_code
def yX12_readWinder : MethodName := ⟨RX12, "readWinder", "()V"⟩
abbrev cX12_readPart : ByteArray := prog_14_method_66_code
def yX12_readPart : MethodName := ⟨RX12, "readPart", "()V"⟩
abbrev cX12_river : ByteArray := prog_14_method_67_code
def yX12_river : MethodName := ⟨RX12, "river", "(I)I"⟩
abbrev cX12_readTest : ByteArray := prog_14_method_68_code
def yX12_readTest : MethodName := ⟨RX12, "readTest", "(I)V"⟩
abbrev cX12_readRest : ByteArray := prog_14_method_69_code
def yX12_readRest : MethodName := ⟨RX12, "readRest", "(I)V"⟩
abbrev cX12_readStep : ByteArray := prog_14_method_70_code
def yX12_readStep : MethodName := ⟨RX12, "readStep", "(I)V"⟩
abbrev cX12_weeks : ByteArray := prog_14_method_71_code
def yX12_weeks : MethodName := ⟨RX12, "weeks", "(I)I"⟩
abbrev cX12_isReachAt : ByteArray := prog_14_method_72_code
def yX12_isReachAt : MethodName := ⟨RX12, "isReachAt", "(I)Z"⟩
abbrev cX12_isMillAt : ByteArray := prog_14_method_73_code
def yX12_isMillAt : MethodName := ⟨RX12, "isMillAt", "(I)Z"⟩
abbrev cX12_isWinderAt : ByteArray := prog_14_method_74_code
def yX12_isWinderAt : MethodName := ⟨RX12, "isWinderAt", "(I)Z"⟩
abbrev cX12_sumOf : ByteArray := prog_14_method_75_code
def yX12_sumOf : MethodName := ⟨RX12, "sumOf", "(II)I"⟩
abbrev cX12_allGround : ByteArray := prog_14_method_76_code
def yX12_allGround : MethodName := ⟨RX12, "allGround", "()I"⟩
abbrev cX12_day : ByteArray := prog_14_method_77_code
def yX12_day : MethodName := ⟨RX12, "day", "()I"⟩
abbrev cX12_many : ByteArray := prog_14_method_78_code
def yX12_many : MethodName := ⟨RX12, "many", "(I)I"⟩
abbrev cX12_turnsLeft : ByteArray := prog_14_method_79_code
def yX12_turnsLeft : MethodName := ⟨RX12, "turnsLeft", "()I"⟩
abbrev cX12_water : ByteArray := prog_14_method_80_code
def yX12_water : MethodName := ⟨RX12, "water", "(I)J"⟩
abbrev cX12_passOf : ByteArray := prog_14_method_81_code
def yX12_passOf : MethodName := ⟨RX12, "passOf", "(I)I"⟩
abbrev cX12_millsAt : ByteArray := prog_14_method_82_code
def yX12_millsAt : MethodName := ⟨RX12, "millsAt", "(I)I"⟩
abbrev cX12_reach : ByteArray := prog_14_method_83_code
def yX12_reach : MethodName := ⟨RX12, "reach", "(II)I"⟩
abbrev cX12_mill : ByteArray := prog_14_method_84_code
def yX12_mill : MethodName := ⟨RX12, "mill", "(II)I"⟩
abbrev cX12_winder : ByteArray := prog_14_method_85_code
def yX12_winder : MethodName := ⟨RX12, "winder", "(II)I"⟩
abbrev cX12_copyStored : ByteArray := prog_14_method_86_code
def yX12_copyStored : MethodName := ⟨RX12, "copyStored", "(I)I"⟩
abbrev cX12_flowsDown : ByteArray := prog_14_method_87_code
def yX12_flowsDown : MethodName := ⟨RX12, "flowsDown", "()V"⟩
abbrev cX12_flowsUp : ByteArray := prog_14_method_88_code
def yX12_flowsUp : MethodName := ⟨RX12, "flowsUp", "()V"⟩
abbrev cX12_rainsAndFloods : ByteArray := prog_14_method_89_code
def yX12_rainsAndFloods : MethodName := ⟨RX12, "rainsAndFloods", "()V"⟩
abbrev cX12_slackened : ByteArray := prog_14_method_90_code
def yX12_slackened : MethodName := ⟨RX12, "slackened", "(II)I"⟩
abbrev cX12_slackNow : ByteArray := prog_14_method_91_code
def yX12_slackNow : MethodName := ⟨RX12, "slackNow", "(I)I"⟩
abbrev cX12_goesHour : ByteArray := prog_14_method_92_code
def yX12_goesHour : MethodName := ⟨RX12, "goesHour", "()I"⟩
abbrev cX12_hour : ByteArray := prog_14_method_93_code
def yX12_hour : MethodName := ⟨RX12, "hour", "(I)I"⟩
abbrev cX12_isSeventh : ByteArray := prog_14_method_94_code
def yX12_isSeventh : MethodName := ⟨RX12, "isSeventh", "()Z"⟩
abbrev cX12_turnsBy : ByteArray := prog_14_method_95_code
def yX12_turnsBy : MethodName := ⟨RX12, "turnsBy", "(I)V"⟩
abbrev cX12_winds : ByteArray := prog_14_method_96_code
def yX12_winds : MethodName := ⟨RX12, "winds", "(IZ)Z"⟩
abbrev cX12_wind : ByteArray := prog_14_method_97_code
def yX12_wind : MethodName := ⟨RX12, "wind", "(IZ)I"⟩
abbrev cX12_oil : ByteArray := prog_14_method_98_code
def yX12_oil : MethodName := ⟨RX12, "oil", "()I"⟩
abbrev cX12_becomes : ByteArray := prog_14_method_99_code
def yX12_becomes : MethodName := ⟨RX12, "becomes", "(II)Z"⟩
abbrev cX12_gate : ByteArray := prog_14_method_100_code
def yX12_gate : MethodName := ⟨RX12, "gate", "(II)I"⟩
abbrev cX12_rain : ByteArray := prog_14_method_101_code
def yX12_rain : MethodName := ⟨RX12, "rain", "(Z)Z"⟩
abbrev cX12_bring : ByteArray := prog_14_method_102_code
def yX12_bring : MethodName := ⟨RX12, "bring", "(II)I"⟩
abbrev cX12_rule : ByteArray := prog_14_method_103_code
def yX12_rule : MethodName := ⟨RX12, "rule", "(II)Z"⟩
abbrev cX12_build : ByteArray := prog_14_method_104_code
def yX12_build : MethodName := ⟨RX12, "build", "(II)I"⟩
abbrev cX12_train : ByteArray := prog_14_method_105_code
def yX12_train : MethodName := ⟨RX12, "train", "(II)Z"⟩
abbrev cX12_puts : ByteArray := prog_14_method_106_code
def yX12_puts : MethodName := ⟨RX12, "puts", "()V"⟩
abbrev cX12_gives : ByteArray := prog_14_method_107_code
def yX12_gives : MethodName := ⟨RX12, "gives", "()V"⟩
abbrev cX12_isAhead : ByteArray := prog_14_method_108_code
def yX12_isAhead : MethodName := ⟨RX12, "isAhead", "(I)Z"⟩
abbrev cX12_cellIn : ByteArray := prog_14_method_109_code
def yX12_cellIn : MethodName := ⟨RX12, "cellIn", "(II)I"⟩
abbrev cX12_turnsIn : ByteArray := prog_14_method_110_code
def yX12_turnsIn : MethodName := ⟨RX12, "turnsIn", "(I)I"⟩
abbrev cX12_storedIn : ByteArray := prog_14_method_111_code
def yX12_storedIn : MethodName := ⟨RX12, "storedIn", "(II)I"⟩
abbrev cX12_groundIn : ByteArray := prog_14_method_112_code
def yX12_groundIn : MethodName := ⟨RX12, "groundIn", "(II)I"⟩
abbrev cX12_seaIn : ByteArray := prog_14_method_113_code
def yX12_seaIn : MethodName := ⟨RX12, "seaIn", "(I)J"⟩
abbrev cX12_dryIn : ByteArray := prog_14_method_114_code
def yX12_dryIn : MethodName := ⟨RX12, "dryIn", "(I)I"⟩
abbrev cX12_floodIn : ByteArray := prog_14_method_115_code
def yX12_floodIn : MethodName := ⟨RX12, "floodIn", "(I)I"⟩
abbrev cX12_stillIn : ByteArray := prog_14_method_116_code
def yX12_stillIn : MethodName := ⟨RX12, "stillIn", "()I"⟩
abbrev cX12_lawIn : ByteArray := prog_14_method_117_code
def yX12_lawIn : MethodName := ⟨RX12, "lawIn", "()I"⟩
abbrev cX12_enough : ByteArray := prog_14_method_118_code
def yX12_enough : MethodName := ⟨RX12, "enough", "(III)I"⟩
abbrev cX12_bestOf : ByteArray := prog_14_method_119_code
def yX12_bestOf : MethodName := ⟨RX12, "bestOf", "(II)I"⟩
abbrev cX12_whyNoGate : ByteArray := prog_14_method_120_code
def yX12_whyNoGate : MethodName := ⟨RX12, "whyNoGate", "(II)I"⟩
abbrev cX12_bestGate : ByteArray := prog_14_method_121_code
def yX12_bestGate : MethodName := ⟨RX12, "bestGate", "(II)I"⟩
abbrev cX12_bestGround : ByteArray := prog_14_method_122_code
def yX12_bestGround : MethodName := ⟨RX12, "bestGround", "(II)I"⟩
abbrev cX12_laysTurn : ByteArray := prog_14_method_123_code
def yX12_laysTurn : MethodName := ⟨RX12, "laysTurn", "(I)V"⟩
abbrev cX12_takesTurn : ByteArray := prog_14_method_124_code
def yX12_takesTurn : MethodName := ⟨RX12, "takesTurn", "(I)V"⟩
abbrev cX12_hires : ByteArray := prog_14_method_125_code
def yX12_hires : MethodName := ⟨RX12, "hires", "(IIII)V"⟩
abbrev cX12_isHired : ByteArray := prog_14_method_126_code
def yX12_isHired : MethodName := ⟨RX12, "isHired", "(II)Z"⟩
abbrev cX12_isHire : ByteArray := prog_14_method_127_code
def yX12_isHire : MethodName := ⟨RX12, "isHire", "(II)Z"⟩
abbrev cX12_hire : ByteArray := prog_14_method_128_code
def yX12_hire : MethodName := ⟨RX12, "hire", "(II)I"⟩
abbrev cX12_hireAt : ByteArray := prog_14_method_129_code
def yX12_hireAt : MethodName := ⟨RX12, "hireAt", "(III)I"⟩
abbrev cX12_laysWound : ByteArray := prog_14_method_130_code
def yX12_laysWound : MethodName := ⟨RX12, "laysWound", "(II)V"⟩
abbrev cX12_areTurns : ByteArray := prog_14_method_131_code
def yX12_areTurns : MethodName := ⟨RX12, "areTurns", "(II)Z"⟩
abbrev cX12_wound : ByteArray := prog_14_method_132_code
def yX12_wound : MethodName := ⟨RX12, "wound", "(II)I"⟩
abbrev cX12_sure : ByteArray := prog_14_method_133_code
def yX12_sure : MethodName := ⟨RX12, "sure", "(II)I"⟩
abbrev cX12_cheapest : ByteArray := prog_14_method_134_code
def yX12_cheapest : MethodName := ⟨RX12, "cheapest", "(II)I"⟩
abbrev cX12_plays : ByteArray := prog_14_method_135_code
def yX12_plays : MethodName := ⟨RX12, "plays", "(IIII)I"⟩
abbrev cX12_whyNoGame : ByteArray := prog_14_method_136_code
def yX12_whyNoGame : MethodName := ⟨RX12, "whyNoGame", "(IIII)I"⟩
abbrev cX12_game : ByteArray := prog_14_method_137_code
def yX12_game : MethodName := ⟨RX12, "game", "(III)I"⟩
abbrev cX12_moveOf : ByteArray := prog_14_method_138_code
def yX12_moveOf : MethodName := ⟨RX12, "moveOf", "(III)I"⟩
abbrev cX12_share : ByteArray := prog_14_method_139_code
def yX12_share : MethodName := ⟨RX12, "share", "(I)Z"⟩
abbrev cX12_price : ByteArray := prog_14_method_140_code
def yX12_price : MethodName := ⟨RX12, "price", "(I)Z"⟩
abbrev cX12_wet : ByteArray := prog_14_method_141_code
def yX12_wet : MethodName := ⟨RX12, "wet", "(II)Z"⟩
abbrev cX12_draw : ByteArray := prog_14_method_142_code
def yX12_draw : MethodName := ⟨RX12, "draw", "(I)I"⟩
abbrev cX12_anyHours : ByteArray := prog_14_method_143_code
def yX12_anyHours : MethodName := ⟨RX12, "anyHours", "(I)Z"⟩
abbrev cX12_isWound : ByteArray := prog_14_method_144_code
def yX12_isWound : MethodName := ⟨RX12, "isWound", "(IZ)Z"⟩
abbrev cX12_isAny : ByteArray := prog_14_method_145_code
def yX12_isAny : MethodName := ⟨RX12, "isAny", "()Z"⟩
abbrev cX12_does : ByteArray := prog_14_method_146_code
def yX12_does : MethodName := ⟨RX12, "does", "(I)Z"⟩
abbrev cX12_isSo : ByteArray := prog_14_method_147_code
def yX12_isSo : MethodName := ⟨RX12, "isSo", "(I)Z"⟩
abbrev cX12_doOne : ByteArray := prog_14_method_148_code
def yX12_doOne : MethodName := ⟨RX12, "doOne", "(I)V"⟩
abbrev cX12_doAll : ByteArray := prog_14_method_149_code
def yX12_doAll : MethodName := ⟨RX12, "doAll", "(II)V"⟩
abbrev cX12_runsWeeks : ByteArray := prog_14_method_150_code
def yX12_runsWeeks : MethodName := ⟨RX12, "runsWeeks", "(I)V"⟩
abbrev cX12_live : ByteArray := prog_14_method_151_code
def yX12_live : MethodName := ⟨RX12, "live", "(I)I"⟩
abbrev cX12_lived : ByteArray := prog_14_method_152_code
def yX12_lived : MethodName := ⟨RX12, "lived", "(I)I"⟩
abbrev cX12_mean : ByteArray := prog_14_method_153_code
def yX12_mean : MethodName := ⟨RX12, "mean", "(II)Z"⟩
abbrev cX12_copy : ByteArray := prog_14_method_154_code
def yX12_copy : MethodName := ⟨RX12, "copy", "(II)V"⟩
abbrev cX12_mark : ByteArray := prog_14_method_155_code
def yX12_mark : MethodName := ⟨RX12, "mark", "()I"⟩
abbrev cX12_back : ByteArray := prog_14_method_156_code
def yX12_back : MethodName := ⟨RX12, "back", "()I"⟩
def RJ9 : String := "java/lang/Math"
abbrev cJ9_abs_067f4 : ByteArray := prog_15_method_61_code
def yJ9_abs_067f4 : MethodName := ⟨RJ9, "abs", "(J)J"⟩
abbrev cJ9_max_7cf53 : ByteArray := prog_15_method_65_code
def yJ9_max_7cf53 : MethodName := ⟨RJ9, "max", "(II)I"⟩
abbrev cJ9_max_f86c9 : ByteArray := prog_15_method_66_code
def yJ9_max_f86c9 : MethodName := ⟨RJ9, "max", "(JJ)J"⟩
abbrev cJ9_min_7cf53 : ByteArray := prog_15_method_69_code
def yJ9_min_7cf53 : MethodName := ⟨RJ9, "min", "(II)I"⟩
def RJ0 : String := "java/lang/String"
abbrev cJ0_length_8abf5 : ByteArray := prog_16_method_54_code
def yJ0_length_8abf5 : MethodName := ⟨RJ0, "length", "()I"⟩
abbrev cJ0_charAt_5068e : ByteArray := prog_16_method_56_code
def yJ0_charAt_5068e : MethodName := ⟨RJ0, "charAt", "(I)C"⟩
abbrev cJ0_coder_7d493 : ByteArray := prog_16_method_152_code
def yJ0_coder_7d493 : MethodName := ⟨RJ0, "coder", "()B"⟩
abbrev cJ0_isLatin1_aae02 : ByteArray := prog_16_method_154_code
def yJ0_isLatin1_aae02 : MethodName := ⟨RJ0, "isLatin1", "()Z"⟩
abbrev cJ0_checkIndex_df160 : ByteArray := prog_16_method_155_code
def yJ0_checkIndex_df160 : MethodName := ⟨RJ0, "checkIndex", "(II)V"⟩
def RJ1 : String := "java/lang/StringLatin1"
abbrev cJ1_charAt_3b067 : ByteArray := prog_17_method_2_code
def yJ1_charAt_3b067 : MethodName := ⟨RJ1, "charAt", "([BI)C"⟩
def RJ2 : String := "java/lang/StringUTF16"
abbrev cJ2_getChar_3b067 : ByteArray := prog_18_method_5_code
def yJ2_getChar_3b067 : MethodName := ⟨RJ2, "getChar", "([BI)C"⟩
abbrev cJ2_length_9d52b : ByteArray := prog_18_method_6_code
def yJ2_length_9d52b : MethodName := ⟨RJ2, "length", "([B)I"⟩
abbrev cJ2_charAt_3b067 : ByteArray := prog_18_method_83_code
def yJ2_charAt_3b067 : MethodName := ⟨RJ2, "charAt", "([BI)C"⟩
abbrev cJ2_checkIndex_2214a : ByteArray := prog_18_method_91_code
def yJ2_checkIndex_2214a : MethodName := ⟨RJ2, "checkIndex", "(I[B)V"⟩
def RJ10 : String := "java/lang/System"
def RJ3 : String := "jdk/internal/util/Preconditions"
abbrev cJ3_checkIndex_8e157 : ByteArray := prog_20_method_11_code
def yJ3_checkIndex_8e157 : MethodName := ⟨RJ3, "checkIndex", "(IILjava/util/function/BiFunction;)I"⟩
def RL : String := "ClockRiverLaw"
abbrev cL_law : ByteArray := code
def yL_law : MethodName := ⟨RL, "law", "([I)Z"⟩
abbrev vwCl : List vw_C := [(RX0, TX0, 12), (RX1, TX1, 11), (RX2, TX2, 5), (RX3, TX3, 7), (RX4, TX4, 11), (RX5, TX5, 4), (RX6, TX6, 12), (RX7, TX7, 3), (RX8, TX8, 9), (RX9, TX9, 6), (RX10, TX10, 6), (RX11, TX11, 15), (RX12, TX12, 49)]
end
section
/-! the layout: kinds of cells, their fields, lengths, how many there are, and the order in which they are made -/
def knf : Nat → Nat := fun k => match k with
  | 1 => 12
  | 2 => 11
  | 3 => 5
  | 4 => 7
  | 5 => 11
  | 6 => 4
  | 7 => 12
  | 8 => 3
  | 9 => 9
  | 10 => 6
  | 11 => 6
  | 12 => 15
  | 13 => 49
  | _ => 0
def kar : Nat → Nat := fun k => match k with
  | 20 => 4
  | 21 => 1
  | 22 => 1
  | 23 => 1
  | 24 => 2
  | 25 => 1
  | 26 => 1
  | 27 => 1
  | 28 => 2
  | 29 => 1
  | 30 => 1
  | 31 => 1
  | 32 => 1
  | 33 => 1
  | 34 => 2
  | 35 => 3
  | 36 => 1
  | 37 => 1
  | 38 => 2
  | 39 => 4
  | 40 => 2
  | 41 => 1
  | 42 => 1
  | 43 => 1
  | 44 => 1
  | 45 => 1
  | 46 => 1
  | 47 => 1
  | 48 => 1
  | 49 => 1
  | 50 => 2
  | 51 => 1
  | 52 => 1
  | 53 => 1
  | 54 => 1
  | 55 => 4
  | 56 => 4
  | 57 => 1
  | 58 => 1
  | 59 => 2
  | 60 => 3
  | 61 => 1
  | 62 => 1
  | 63 => 1
  | 64 => 2
  | 65 => 1
  | 66 => 1
  | 67 => 1
  | 68 => 1
  | 69 => 1
  | 70 => 2
  | 71 => 1
  | _ => 0
def kln : Nat → Nat := fun k => match k with
  | 20 => 5
  | 21 => 4
  | 22 => 4
  | 23 => 60
  | 24 => 6
  | 25 => 6
  | 26 => 6
  | 27 => 6
  | 28 => 6
  | 29 => 6
  | 30 => 6
  | 31 => 6
  | 32 => 6
  | 33 => 6
  | 34 => 6
  | 35 => 900
  | 36 => 901
  | 37 => 901
  | 38 => 901
  | 39 => 4
  | 40 => 60
  | 41 => 4
  | 42 => 4
  | 43 => 60
  | 44 => 60
  | 45 => 60
  | 46 => 60
  | 47 => 60
  | 48 => 60
  | 49 => 3
  | 50 => 6
  | 51 => 6
  | 52 => 6
  | 53 => 6
  | 54 => 6
  | 55 => 3
  | 56 => 3
  | 57 => 4
  | 58 => 4
  | 59 => 240
  | 60 => 900
  | 61 => 1740
  | 62 => 76
  | 63 => 76
  | 64 => 90
  | 65 => 6
  | 66 => 6
  | 67 => 380
  | 68 => 4
  | 69 => 4
  | 70 => 13
  | 71 => 5
  | _ => 0
def kni : Nat → Nat := fun k => match k with
  | 1 => 1
  | 2 => 2
  | 3 => 9
  | 4 => 9
  | 5 => 9
  | 6 => 1
  | 7 => 1
  | 8 => 1
  | 9 => 5
  | 10 => 1
  | 11 => 9
  | 12 => 1
  | 13 => 1
  | 20 => 1
  | 21 => 1
  | 22 => 1
  | 23 => 2
  | 24 => 9
  | 25 => 9
  | 26 => 9
  | 27 => 9
  | 28 => 9
  | 29 => 9
  | 30 => 9
  | 31 => 9
  | 32 => 9
  | 33 => 9
  | 34 => 9
  | 35 => 1
  | 36 => 1
  | 37 => 1
  | 38 => 1
  | 39 => 1
  | 40 => 4
  | 41 => 1
  | 42 => 1
  | 43 => 5
  | 44 => 5
  | 45 => 5
  | 46 => 5
  | 47 => 5
  | 48 => 5
  | 49 => 1
  | 50 => 9
  | 51 => 9
  | 52 => 9
  | 53 => 9
  | 54 => 9
  | 55 => 1
  | 56 => 1
  | 57 => 1
  | 58 => 1
  | 59 => 1
  | 60 => 1
  | 61 => 1
  | 62 => 1
  | 63 => 1
  | 64 => 1
  | 65 => 1
  | 66 => 1
  | 67 => 1
  | 68 => 1
  | 69 => 1
  | 70 => 1
  | 71 => 1
  | _ => 0
def kae : Nat → Nat × Nat := fun k => match k with
  | 20 => (5, 4)
  | 39 => (40, 0)
  | 55 => (5, 1)
  | 56 => (9, 1)
  | _ => (0, 0)
def kft : Nat → Nat → Nat := fun k s => match k with
  | 1 => (match s with
    | 0 => 2
    | 1 => 0
    | 2 => 0
    | 3 => 0
    | 4 => 2
    | 5 => 2
    | 6 => 0
    | 7 => 0
    | 8 => 0
    | 9 => 0
    | 10 => 0
    | 11 => 0
    | _ => 9)
  | 2 => (match s with
    | 0 => 4
    | 1 => 0
    | 2 => 0
    | 3 => 0
    | 4 => 0
    | 5 => 0
    | 6 => 0
    | 7 => 0
    | 8 => 3
    | 9 => 3
    | 10 => 2
    | _ => 9)
  | 3 => (match s with
    | 0 => 0
    | 1 => 2
    | 2 => 2
    | 3 => 2
    | 4 => 2
    | _ => 9)
  | 4 => (match s with
    | 0 => 0
    | 1 => 2
    | 2 => 2
    | 3 => 2
    | 4 => 2
    | 5 => 2
    | 6 => 2
    | _ => 9)
  | 5 => (match s with
    | 0 => 0
    | 1 => 0
    | 2 => 0
    | 3 => 0
    | 4 => 0
    | 5 => 0
    | 6 => 4
    | 7 => 2
    | 8 => 2
    | 9 => 2
    | 10 => 2
    | _ => 9)
  | 6 => (match s with
    | 0 => 3
    | 1 => 3
    | 2 => 1
    | 3 => 0
    | _ => 9)
  | 7 => (match s with
    | 0 => 2
    | 1 => 0
    | 2 => 0
    | 3 => 0
    | 4 => 0
    | 5 => 1
    | 6 => 0
    | 7 => 0
    | 8 => 0
    | 9 => 2
    | 10 => 2
    | 11 => 2
    | _ => 9)
  | 8 => (match s with
    | 0 => 2
    | 1 => 2
    | 2 => 2
    | _ => 9)
  | 9 => (match s with
    | 0 => 4
    | 1 => 0
    | 2 => 0
    | 3 => 2
    | 4 => 2
    | 5 => 2
    | 6 => 2
    | 7 => 2
    | 8 => 2
    | _ => 9)
  | 10 => (match s with
    | 0 => 2
    | 1 => 3
    | 2 => 3
    | 3 => 0
    | 4 => 0
    | 5 => 2
    | _ => 9)
  | 11 => (match s with
    | 0 => 0
    | 1 => 2
    | 2 => 2
    | 3 => 2
    | 4 => 2
    | 5 => 2
    | _ => 9)
  | 12 => (match s with
    | 0 => 0
    | 1 => 1
    | 2 => 1
    | 3 => 0
    | 4 => 2
    | 5 => 2
    | 6 => 2
    | 7 => 2
    | 8 => 2
    | 9 => 2
    | 10 => 2
    | 11 => 2
    | 12 => 2
    | 13 => 2
    | 14 => 2
    | _ => 9)
  | 13 => (match s with
    | 0 => 0
    | 1 => 0
    | 2 => 1
    | 3 => 1
    | 4 => 2
    | 5 => 2
    | 6 => 2
    | 7 => 2
    | 8 => 0
    | 9 => 0
    | 10 => 0
    | 11 => 0
    | 12 => 0
    | 13 => 0
    | 14 => 0
    | 15 => 0
    | 16 => 0
    | 17 => 0
    | 18 => 0
    | 19 => 1
    | 20 => 2
    | 21 => 2
    | 22 => 2
    | 23 => 2
    | 24 => 0
    | 25 => 0
    | 26 => 0
    | 27 => 2
    | 28 => 2
    | 29 => 0
    | 30 => 2
    | 31 => 2
    | 32 => 2
    | 33 => 0
    | 34 => 0
    | 35 => 0
    | 36 => 0
    | 37 => 0
    | 38 => 2
    | 39 => 2
    | 40 => 4
    | 41 => 4
    | 42 => 0
    | 43 => 0
    | 44 => 0
    | 45 => 0
    | 46 => 0
    | 47 => 0
    | 48 => 0
    | _ => 9)
  | _ => 9
def kfr : Nat → Nat → Nat × Nat := fun k s => match k with
  | 1 => (match s with
    | 0 => (20, 0)
    | 4 => (21, 0)
    | 5 => (22, 0)
    | _ => (0, 0))
  | 2 => (match s with
    | 8 => (5, 0)
    | 9 => (9, 0)
    | 10 => (23, 0)
    | _ => (0, 0))
  | 3 => (match s with
    | 1 => (24, 0)
    | 2 => (25, 0)
    | 3 => (26, 0)
    | 4 => (27, 0)
    | _ => (0, 0))
  | 4 => (match s with
    | 1 => (28, 0)
    | 2 => (29, 0)
    | 3 => (30, 0)
    | 4 => (31, 0)
    | 5 => (32, 0)
    | 6 => (33, 0)
    | _ => (0, 0))
  | 5 => (match s with
    | 7 => (34, 0)
    | 8 => (4, 0)
    | 9 => (3, 0)
    | 10 => (11, 0)
    | _ => (0, 0))
  | 6 => (match s with
    | 0 => (7, 0)
    | 1 => (5, 0)
    | _ => (0, 0))
  | 7 => (match s with
    | 0 => (35, 0)
    | 9 => (36, 0)
    | 10 => (37, 0)
    | 11 => (38, 0)
    | _ => (0, 0))
  | 8 => (match s with
    | 0 => (39, 0)
    | 1 => (41, 0)
    | 2 => (42, 0)
    | _ => (0, 0))
  | 9 => (match s with
    | 3 => (43, 0)
    | 4 => (44, 0)
    | 5 => (45, 0)
    | 6 => (46, 0)
    | 7 => (47, 0)
    | 8 => (48, 0)
    | _ => (0, 0))
  | 10 => (match s with
    | 0 => (9, 5)
    | 1 => (7, 0)
    | 2 => (5, 0)
    | 5 => (49, 0)
    | _ => (0, 0))
  | 11 => (match s with
    | 1 => (50, 0)
    | 2 => (51, 0)
    | 3 => (52, 0)
    | 4 => (53, 0)
    | 5 => (54, 0)
    | _ => (0, 0))
  | 12 => (match s with
    | 4 => (5, 1)
    | 5 => (9, 1)
    | 6 => (8, 1)
    | 7 => (7, 1)
    | 8 => (6, 1)
    | 9 => (10, 1)
    | 10 => (55, 0)
    | 11 => (56, 0)
    | 12 => (1, 1)
    | 13 => (2, 1)
    | 14 => (2, 2)
    | _ => (0, 0))
  | 13 => (match s with
    | 4 => (57, 0)
    | 5 => (58, 0)
    | 6 => (59, 0)
    | 7 => (60, 0)
    | 20 => (61, 0)
    | 21 => (62, 0)
    | 22 => (63, 0)
    | 23 => (64, 0)
    | 27 => (65, 0)
    | 28 => (66, 0)
    | 30 => (67, 0)
    | 31 => (68, 0)
    | 32 => (69, 0)
    | 38 => (70, 0)
    | 39 => (71, 0)
    | _ => (0, 0))
  | _ => (0, 0)
def kLV : List (Nat × Nat) := [(12, 0), (5, 0), (34, 0), (4, 0), (28, 0), (29, 0), (30, 0), (31, 0), (32, 0), (33, 0), (3, 0), (24, 0), (25, 0), (26, 0), (27, 0), (11, 0), (50, 0), (51, 0), (52, 0), (53, 0), (54, 0), (9, 0), (43, 0), (44, 0), (45, 0), (46, 0), (47, 0), (48, 0), (8, 0), (39, 0), (40, 0), (40, 1), (40, 2), (40, 3), (41, 0), (42, 0), (7, 0), (35, 0), (36, 0), (37, 0), (38, 0), (6, 0), (10, 0), (9, 4), (43, 4), (44, 4), (45, 4), (46, 4), (47, 4), (48, 4), (49, 0), (55, 0), (56, 0), (5, 1), (34, 1), (4, 1), (28, 1), (29, 1), (30, 1), (31, 1), (32, 1), (33, 1), (3, 1), (24, 1), (25, 1), (26, 1), (27, 1), (11, 1), (50, 1), (51, 1), (52, 1), (53, 1), (54, 1), (9, 1), (43, 1), (44, 1), (45, 1), (46, 1), (47, 1), (48, 1), (5, 2), (34, 2), (4, 2), (28, 2), (29, 2), (30, 2), (31, 2), (32, 2), (33, 2), (3, 2), (24, 2), (25, 2), (26, 2), (27, 2), (11, 2), (50, 2), (51, 2), (52, 2), (53, 2), (54, 2), (9, 2), (43, 2), (44, 2), (45, 2), (46, 2), (47, 2), (48, 2), (5, 3), (34, 3), (4, 3), (28, 3), (29, 3), (30, 3), (31, 3), (32, 3), (33, 3), (3, 3), (24, 3), (25, 3), (26, 3), (27, 3), (11, 3), (50, 3), (51, 3), (52, 3), (53, 3), (54, 3), (9, 3), (43, 3), (44, 3), (45, 3), (46, 3), (47, 3), (48, 3), (1, 0), (20, 0), (21, 0), (22, 0), (5, 4), (34, 4), (4, 4), (28, 4), (29, 4), (30, 4), (31, 4), (32, 4), (33, 4), (3, 4), (24, 4), (25, 4), (26, 4), (27, 4), (11, 4), (50, 4), (51, 4), (52, 4), (53, 4), (54, 4), (5, 5), (34, 5), (4, 5), (28, 5), (29, 5), (30, 5), (31, 5), (32, 5), (33, 5), (3, 5), (24, 5), (25, 5), (26, 5), (27, 5), (11, 5), (50, 5), (51, 5), (52, 5), (53, 5), (54, 5), (5, 6), (34, 6), (4, 6), (28, 6), (29, 6), (30, 6), (31, 6), (32, 6), (33, 6), (3, 6), (24, 6), (25, 6), (26, 6), (27, 6), (11, 6), (50, 6), (51, 6), (52, 6), (53, 6), (54, 6), (5, 7), (34, 7), (4, 7), (28, 7), (29, 7), (30, 7), (31, 7), (32, 7), (33, 7), (3, 7), (24, 7), (25, 7), (26, 7), (27, 7), (11, 7), (50, 7), (51, 7), (52, 7), (53, 7), (54, 7), (5, 8), (34, 8), (4, 8), (28, 8), (29, 8), (30, 8), (31, 8), (32, 8), (33, 8), (3, 8), (24, 8), (25, 8), (26, 8), (27, 8), (11, 8), (50, 8), (51, 8), (52, 8), (53, 8), (54, 8), (2, 0), (23, 0), (2, 1), (23, 1), (13, 0), (57, 0), (58, 0), (59, 0), (60, 0), (61, 0), (62, 0), (63, 0), (64, 0), (65, 0), (66, 0), (67, 0), (68, 0), (69, 0), (70, 0), (71, 0)]
/-- field links: place among the words, own class, pool index, class, slot -/
def kFL0 : List (Nat × Nat × Nat × Nat × Nat) := [(176, 3, 31, 3, 0), (177, 4, 59, 3, 0), (178, 5, 85, 3, 0), (179, 9, 107, 3, 0), (180, 11, 164, 3, 0), (181, 3, 9, 3, 1), (182, 9, 101, 3, 1), (183, 5, 114, 3, 1), (184, 4, 80, 3, 1), (185, 3, 15, 3, 2), (186, 11, 203, 3, 2), (187, 3, 19, 3, 3), (188, 0, 69, 3, 3), (189, 1, 145, 3, 3), (190, 11, 206, 3, 3), (191, 3, 22, 3, 4), (192, 0, 41, 3, 4), (193, 1, 87, 3, 4), (194, 4, 144, 3, 4), (195, 11, 209, 3, 4), (196, 3, 25, 3, 5), (197, 4, 134, 3, 5), (198, 3, 28, 3, 6), (199, 0, 50, 3, 6), (223, 2, 25, 2, 0), (224, 4, 62, 2, 0), (225, 5, 108, 2, 0), (226, 9, 141, 2, 0), (227, 0, 100, 2, 0), (228, 11, 298, 2, 0), (229, 2, 9, 2, 1), (230, 9, 138, 2, 1), (231, 4, 87, 2, 1), (232, 2, 15, 2, 2), (233, 0, 140, 2, 2), (234, 11, 229, 2, 2), (235, 2, 19, 2, 3), (236, 11, 232, 2, 3), (237, 2, 22, 2, 4), (238, 1, 102, 2, 4), (239, 0, 61, 2, 4), (240, 11, 235, 2, 4), (258, 10, 28, 10, 0), (259, 4, 63, 10, 0), (260, 5, 129, 10, 0), (261, 9, 124, 10, 0), (262, 0, 107, 10, 0), (263, 1, 152, 10, 0), (264, 10, 9, 10, 1), (265, 9, 121, 10, 1), (266, 4, 88, 10, 1), (267, 10, 15, 10, 2), (268, 4, 99, 10, 2), (269, 11, 245, 10, 2), (270, 10, 19, 10, 3), (271, 0, 114, 10, 3), (272, 11, 250, 10, 3), (273, 10, 22, 10, 4), (274, 11, 253, 10, 4), (275, 10, 25, 10, 5)]
def kFL1 : List (Nat × Nat × Nat × Nat × Nat) := [(276, 11, 256, 10, 5), (290, 4, 46, 4, 0), (291, 5, 66, 4, 0), (292, 0, 53, 4, 0), (293, 11, 193, 4, 0), (294, 4, 9, 4, 1), (295, 5, 69, 4, 1), (296, 11, 289, 4, 1), (297, 4, 15, 4, 2), (298, 5, 72, 4, 2), (299, 11, 292, 4, 2), (300, 4, 18, 4, 3), (301, 5, 75, 4, 3), (302, 1, 160, 4, 3), (303, 11, 295, 4, 3), (304, 4, 49, 4, 4), (305, 11, 324, 4, 4), (306, 4, 52, 4, 5), (307, 1, 118, 4, 5), (308, 11, 275, 4, 5), (309, 4, 55, 4, 6), (310, 1, 106, 4, 6), (311, 11, 278, 4, 6), (312, 4, 21, 4, 7), (313, 11, 196, 4, 7), (314, 4, 28, 4, 8), (315, 5, 81, 4, 8), (316, 0, 37, 4, 8), (317, 1, 81, 4, 8), (318, 9, 95, 4, 8), (319, 11, 160, 4, 8), (320, 4, 35, 4, 9), (321, 5, 104, 4, 9), (322, 1, 98, 4, 9), (323, 0, 57, 4, 9), (324, 9, 134, 4, 9), (325, 11, 217, 4, 9), (326, 4, 42, 4, 10), (327, 5, 125, 4, 10), (328, 9, 117, 4, 10), (329, 0, 103, 4, 10), (330, 1, 148, 4, 10), (331, 11, 241, 4, 10), (361, 8, 30, 8, 0), (362, 9, 37, 8, 0), (363, 11, 386, 8, 0), (364, 8, 34, 8, 1), (365, 9, 79, 8, 1), (366, 11, 181, 8, 1), (367, 8, 38, 8, 2), (368, 1, 52, 8, 2), (369, 8, 11, 8, 3), (370, 1, 55, 8, 3), (371, 9, 85, 8, 3), (372, 8, 15, 8, 4), (373, 1, 91, 8, 4), (374, 9, 153, 8, 4), (375, 8, 18, 8, 5), (376, 1, 75, 8, 5), (377, 9, 125, 8, 5)]
def kFL2 : List (Nat × Nat × Nat × Nat × Nat) := [(378, 8, 21, 8, 6), (379, 1, 78, 8, 6), (380, 9, 128, 8, 6), (381, 8, 24, 8, 7), (382, 1, 109, 8, 7), (383, 9, 158, 8, 7), (384, 8, 27, 8, 8), (385, 9, 69, 8, 8), (386, 1, 69, 8, 8), (414, 7, 11, 7, 0), (415, 11, 114, 7, 0), (416, 7, 16, 7, 1), (417, 11, 121, 7, 1), (418, 7, 20, 7, 2), (419, 11, 259, 7, 2), (433, 6, 9, 6, 0), (434, 6, 33, 6, 1), (435, 11, 135, 6, 1), (436, 6, 15, 6, 2), (437, 11, 184, 6, 2), (438, 6, 19, 6, 3), (439, 11, 187, 6, 3), (440, 5, 28, 6, 4), (441, 9, 41, 6, 4), (442, 6, 51, 6, 4), (443, 6, 54, 6, 5), (444, 5, 111, 6, 5), (445, 9, 145, 6, 5), (446, 5, 63, 6, 6), (447, 6, 71, 6, 6), (448, 9, 162, 6, 6), (449, 6, 48, 6, 7), (450, 6, 42, 6, 8), (451, 6, 22, 6, 9), (452, 6, 26, 6, 10), (453, 6, 29, 6, 11), (486, 5, 9, 5, 0), (487, 5, 15, 5, 1), (488, 5, 96, 5, 2), (489, 5, 19, 5, 3), (507, 9, 12, 9, 0), (508, 11, 175, 9, 0), (509, 9, 22, 9, 1), (510, 9, 26, 9, 2), (511, 9, 66, 9, 3), (512, 9, 30, 9, 4), (513, 9, 18, 9, 5), (537, 0, 11, 0, 0), (538, 0, 72, 0, 1), (539, 11, 338, 0, 1), (540, 0, 66, 0, 2), (541, 11, 341, 0, 2), (542, 0, 126, 0, 3), (543, 11, 370, 0, 3), (544, 0, 17, 0, 4), (545, 11, 352, 0, 4), (546, 0, 21, 0, 5), (547, 0, 81, 0, 6), (548, 0, 84, 0, 7), (549, 0, 87, 0, 8)]
def kFL3 : List (Nat × Nat × Nat × Nat × Nat) := [(550, 0, 117, 0, 9), (551, 0, 120, 0, 10), (552, 0, 123, 0, 11), (584, 1, 33, 1, 0), (585, 11, 394, 1, 0), (586, 1, 37, 1, 1), (587, 11, 393, 1, 1), (588, 1, 17, 1, 2), (589, 1, 21, 1, 3), (590, 1, 24, 1, 4), (591, 1, 27, 1, 5), (592, 1, 30, 1, 6), (593, 1, 40, 1, 7), (594, 1, 43, 1, 8), (595, 1, 47, 1, 9), (596, 1, 11, 1, 10), (620, 11, 80, 11, 0), (621, 11, 84, 11, 1), (622, 11, 7, 11, 2), (623, 11, 402, 11, 3), (624, 11, 16, 11, 4), (625, 11, 23, 11, 5), (626, 11, 30, 11, 6), (627, 11, 37, 11, 7), (628, 11, 44, 11, 8), (629, 11, 51, 11, 9), (630, 11, 55, 11, 10), (631, 11, 59, 11, 11), (632, 11, 66, 11, 12), (633, 11, 73, 11, 13), (634, 11, 77, 11, 14), (1455, 12, 75, 12, 0), (1456, 12, 72, 12, 1), (1457, 12, 78, 12, 2), (1458, 12, 7, 12, 3), (1459, 12, 13, 12, 4), (1460, 12, 17, 12, 5), (1461, 12, 20, 12, 6), (1462, 12, 24, 12, 7), (1463, 12, 241, 12, 8), (1464, 12, 111, 12, 9), (1465, 12, 28, 12, 10), (1466, 12, 32, 12, 11), (1467, 12, 218, 12, 12), (1468, 12, 221, 12, 13), (1469, 12, 123, 12, 14), (1470, 12, 117, 12, 15), (1471, 12, 114, 12, 16), (1472, 12, 142, 12, 17), (1473, 12, 136, 12, 18), (1474, 12, 129, 12, 19), (1475, 12, 35, 12, 20), (1476, 12, 38, 12, 21), (1477, 12, 41, 12, 22), (1478, 12, 44, 12, 23), (1479, 12, 545, 12, 24), (1480, 12, 259, 12, 25), (1481, 12, 311, 12, 26), (1482, 12, 47, 12, 27), (1483, 12, 50, 12, 28)]
def kFL4 : List (Nat × Nat × Nat × Nat × Nat) := [(1484, 12, 426, 12, 29), (1485, 12, 53, 12, 30), (1486, 12, 56, 12, 31), (1487, 12, 59, 12, 32), (1488, 12, 437, 12, 33), (1489, 12, 456, 12, 34), (1490, 12, 459, 12, 35), (1491, 12, 462, 12, 36), (1492, 12, 477, 12, 37), (1493, 12, 62, 12, 38), (1494, 12, 65, 12, 39), (1495, 12, 542, 12, 40), (1496, 12, 515, 12, 41), (1497, 12, 487, 12, 42), (1498, 12, 512, 12, 43), (1499, 12, 522, 12, 44), (1500, 12, 494, 12, 45), (1501, 12, 491, 12, 46), (1502, 12, 497, 12, 47), (1503, 12, 519, 12, 48)]
def kFL : List (Nat × Nat × Nat × Nat × Nat) := kFL0 ++ kFL1 ++ kFL2 ++ kFL3 ++ kFL4
def kCI : List (Nat × Nat × Nat × Int32) := [(1374, 1, 51, 1000000), (1411, 1, 163, 65536), (2214, 12, 490, 65536)]
def kCL : List (Nat × Nat × Nat × Int64) := [(827, 6, 95, 256), (835, 6, 113, 10), (836, 6, 115, 48), (883, 6, 69, 59), (1007, 9, 156, 59), (1361, 11, 380, 16), (1642, 12, 103, -1), (1678, 12, 132, 32), (1679, 12, 134, 96), (1788, 12, 156, 20), (1789, 12, 158, 8), (1802, 12, 164, 7), (1872, 12, 323, 12), (1897, 12, 334, 5), (1906, 12, 342, 4), (1924, 12, 353, 2), (1933, 12, 105, 3), (1947, 12, 380, 168), (1995, 12, 395, 99), (2008, 12, 400, -999), (2009, 12, 402, 999), (2014, 12, 404, 9), (2015, 12, 406, 16), (2024, 12, 408, 40), (2032, 12, 410, 500), (2077, 12, 424, 100), (2086, 12, 429, 48), (2129, 12, 465, 60), (2181, 12, 537, 9999), (2235, 13, 32, 4294967295)]
/-- a class's name by its number; 13 is the law's -/
def kRn (n : Nat) : String := match n with
  | 0 => RX0
  | 1 => RX1
  | 2 => RX2
  | 3 => RX3
  | 4 => RX4
  | 5 => RX5
  | 6 => RX6
  | 7 => RX7
  | 8 => RX8
  | 9 => RX9
  | 10 => RX10
  | 11 => RX11
  | 12 => RX12
  | 14 => RJ9
  | _ => RL
def kTt (n : Nat) : u_T := match n with
  | 0 => TX0
  | 1 => TX1
  | 2 => TX2
  | 3 => TX3
  | 4 => TX4
  | 5 => TX5
  | 6 => TX6
  | 7 => TX7
  | 8 => TX8
  | 9 => TX9
  | 10 => TX10
  | 11 => TX11
  | _ => TX12
def kTy (n : Nat) : Nat → FieldType := match n with
  | 0 => tyX0
  | 1 => tyX1
  | 2 => tyX2
  | 3 => tyX3
  | 4 => tyX4
  | 5 => tyX5
  | 6 => tyX6
  | 7 => tyX7
  | 8 => tyX8
  | 9 => tyX9
  | 10 => tyX10
  | 11 => tyX11
  | _ => tyX12
end
section
/-! 03: the plain machine's memory, values, and the world that they picture -/
abbrev sV : Type := Int32 ⊕ Int64 ⊕ (Nat × Nat)
abbrev sM : Type := (Nat → Nat → Nat → Int32) × (Nat → Nat → Nat → Int64) × (Nat → Nat → Nat → Nat)
abbrev vi (x : Int32) : sV := Sum.inl x
abbrev vl (x : Int64) : sV := Sum.inr (Sum.inl x)
abbrev vr (k i : Nat) : sV := Sum.inr (Sum.inr (k, i))
def rI (μ : sM) (k i j : Nat) : Int32 := μ.1 k i j
def rL (μ : sM) (k i j : Nat) : Int64 := μ.2.1 k i j
def rR (μ : sM) (k i j : Nat) : Nat := μ.2.2 k i j
def wI (μ : sM) (k i j : Nat) (v : Int32) : sM := (fun a b c => if a = k ∧ c = j ∧ b = i then v else μ.1 a b c, μ.2)
def wL (μ : sM) (k i j : Nat) (v : Int64) : sM := (μ.1, fun a b c => if a = k ∧ c = j ∧ b = i then v else μ.2.1 a b c, μ.2.2)
def wR (μ : sM) (k i j : Nat) (v : Nat) : sM := (μ.1, μ.2.1, fun a b c => if a = k ∧ c = j ∧ b = i then v else μ.2.2 a b c)
/-- n ints (longs) of the array (k, i) from sp on, into (k', i') from dp on -/
def cI (μ : sM) (k i sp k' i' dp n : Nat) : sM := (fun a b c => if a = k' ∧ b = i' ∧ dp ≤ c ∧ c < dp + n then μ.1 k i (sp + (c - dp)) else μ.1 a b c, μ.2)
def cL (μ : sM) (k i sp k' i' dp n : Nat) : sM := (μ.1, fun a b c => if a = k' ∧ b = i' ∧ dp ≤ c ∧ c < dp + n then μ.2.1 k i (sp + (c - dp)) else μ.2.1 a b c, μ.2.2)
abbrev ix (i : Int32) : Nat := i.toNatClampNeg
def inb (i : Int32) (n : Nat) : Bool := !(decide (i < 0) || decide (n ≤ i.toNatClampNeg))
theorem inb_in {i : Int32} {n : Nat} (h : inb i n = true) : vp_in i n := by
  unfold inb at h
  unfold vp_in
  simpa using h
def kof (k i : Nat) : Nat := kLV.idxOf (k, i)
/-- the law's start, the script's cell and length, the classes' numbers, the array classes, the words' String and its bytes -/
abbrev sE : Type := State × Nat × Nat × va_G × (Nat → ClassId) × Nat × Nat
def eS (E : sE) : State := E.1
def eB (E : sE) : Nat := E.2.1
def eL (E : sE) : Nat := E.2.2.1
def eD (E : sE) : va_G := E.2.2.2.1
def eT (E : sE) : Nat → ClassId := E.2.2.2.2.1
def eW (E : sE) : Nat := E.2.2.2.2.2.1
def eV (E : sE) : Nat := E.2.2.2.2.2.2
def sad (E : sE) (q : Nat × Nat) : Nat := if q.1 = 0 then (if q.2 = 0 then eB E else eW E) else (eS E).heap.size + kof q.1 q.2
def gm (E : sE) (v : sV) : Value := match v with
  | .inl x => .int x
  | .inr (.inl x) => .long x
  | .inr (.inr q) => .ref (sad E q)
def gl (E : sE) (q : Nat × sV) : Nat × Value := (q.1, gm E q.2)
/-- where a field that never changes leads -/
def kfd (k s i : Nat) : Nat × Nat := ((kfr k s).1, match (kfr k s).2 with
  | 0 => i
  | n + 1 => n)
def kat (k : Nat) : Nat := if k = 56 then 4 else if k = 39 then 5 else 3
def fval (E : sE) (μ : sM) (k i j : Nat) : Value := match kft k j with
  | 0 => .int (rI μ k i j)
  | 1 => .long (rL μ k i j)
  | 2 => .ref (sad E (kfd k j i))
  | 3 => (match rR μ k i j with
    | 0 => .null
    | n + 1 => .ref (sad E ((kfr k j).1, n)))
  | 4 => .int (rI μ k i j)
  | _ => .null
def ent (E : sE) (μ : sM) (q : Nat × Nat) : va_E := match kar q.1 with
  | 0 => .inr (q.1 - 1, (List.range (knf q.1)).map (fval E μ q.1 q.2))
  | 1 => .inl (eT E 0, kln q.1, .inl (rI μ q.1 q.2))
  | 2 => .inl (eT E 1, kln q.1, .inr (.inl (rL μ q.1 q.2)))
  | 3 => .inl (eT E 2, kln q.1, .inl (rI μ q.1 q.2))
  | _ => .inl (eT E (kat q.1), kln q.1, .inr (.inr (.inr (.inr (fun j => some (sad E ((kae q.1).1, (kae q.1).2 + j)))))))
def tys (E : sE) : List (ClassId × FieldType) := [(eT E 0, .int), (eT E 1, .long), (eT E 2, .byte), (eT E 3, .object "ClockRiver$River"), (eT E 4, .object "ClockRiver$Weeks"), (eT E 5, .array .long)]
def wld (E : sE) (μ : sM) : va_W := (List.range 258).map (fun n => ((eS E).heap.size + n, ent E μ (kLV.getD n (0, 0))))
def sA (E : sE) : Nat → Prop := fun q => (eS E).heap.size ≤ q
set_option maxRecDepth 100000 in
theorem kof_ok1 : ∀ k, k < 80 → ∀ i, i < kni k → kof k i < 258 ∧ kLV.getD (kof k i) (0, 0) = (k, i) := by decide +kernel
theorem kni_big (k : Nat) (h : 80 ≤ k) : kni k = 0 := by
  unfold kni
  split <;> first | omega | rfl
theorem kof_ok {k i : Nat} (h : i < kni k) : kof k i < 258 ∧ kLV.getD (kof k i) (0, 0) = (k, i) := by
  by_cases hk : k < 80
  · exact kof_ok1 k hk i h
  · rw [kni_big k (by omega)] at h
    omega
set_option maxRecDepth 100000 in
theorem kof_inv : ∀ n, n < 258 → kof (kLV.getD n (0, 0)).1 (kLV.getD n (0, 0)).2 = n := by decide +kernel
theorem kni_0 : kni 0 = 0 := rfl
theorem wld_at (E : sE) (μ : sM) {k i : Nat} (h : i < kni k) : (wld E μ)[kof k i]? = some ((eS E).heap.size + kof k i, ent E μ (k, i)) := by
  obtain ⟨h1, h2⟩ := kof_ok h
  unfold wld
  rw [List.getElem?_map, List.getElem?_range h1]
  simp only [Option.map_some, h2]
theorem wld_set (E : sE) {μ μ' : sM} {k i : Nat} (h : i < kni k) {e' : va_E} (he : ent E μ' (k, i) = e') (ho : ∀ q : Nat × Nat, q ≠ (k, i) → ent E μ' q = ent E μ q) :
    (wld E μ).set (kof k i) ((eS E).heap.size + kof k i, e') = wld E μ' := by
  obtain ⟨h1, h2⟩ := kof_ok h
  apply List.ext_getElem?
  intro n
  rw [List.getElem?_set]
  by_cases hn : kof k i = n
  · subst hn
    rw [if_pos rfl, wld_at E μ' h, he, if_pos (by unfold wld; simpa using h1)]
  · rw [if_neg hn]
    by_cases hl : n < 258
    · unfold wld
      rw [List.getElem?_map, List.getElem?_map, List.getElem?_range hl]
      simp only [Option.map_some]
      rw [ho]
      intro q
      exact hn (by rw [← kof_inv n hl, q])
    · have e1 : (wld E μ).length ≤ n := by unfold wld; simp; omega
      have e2 : (wld E μ').length ≤ n := by unfold wld; simp; omega
      rw [List.getElem?_eq_none e1, List.getElem?_eq_none e2]
theorem wld_D (E : sE) (μ : sM) : va_D (sA E) (wld E μ) := by
  have key : ∀ (n : Nat) (q : Nat × va_E), (wld E μ)[n]? = some q → q.1 = (eS E).heap.size + n := by
    intro n q h
    unfold wld at h
    rw [List.getElem?_map] at h
    cases hr : (List.range 258)[n]? with
    | none => rw [hr] at h; cases h
    | some z =>
      rw [hr] at h
      have hz : n < 258 := by
        have := (List.getElem?_eq_some_iff.mp hr).1
        simpa using this
      rw [List.getElem?_range hz] at hr
      cases hr
      cases h
      rfl
  refine ⟨fun i j a b hi hj hab => ?_, fun n q h => ?_⟩
  · have := key i a hi
    have := key j b hj
    omega
  · show (eS E).heap.size ≤ q.1
    rw [key n q h]
    omega
/-- references in the memory that may change lead to cells that are there -/
def sRf (μ : sM) : Prop := ∀ k i j n : Nat, kft k j = 3 → rR μ k i j = n + 1 → n < kni (kfr k j).1
def sW (E : sE) (μ : sM) (H : Heap) : Prop := va_P (eD E) vwCl (wld E μ) H ∧ (va_X (eB E) (eL E) (rI μ 0 0) (eS E) (eS E).heap ∧ rI μ 0 1 0 = Int32.ofNat (eL E)) ∧ (∀ q : Nat, q < (eS E).heap.size → H[q]? = (eS E).heap[q]?) ∧ sRf μ
def slv (v : sV) : Prop := match v with
  | .inr (.inr q) => q.2 < kni q.1 ∨ q.1 = 0
  | _ => True
theorem rng_set {N j : Nat} {f f' : Nat → Value} {v : Value} (hv : f' j = v) (ho : ∀ n, n ≠ j → f' n = f n) : (List.range N).map f' = ((List.range N).map f).set j v := by
  apply List.ext_getElem?
  intro n
  rw [List.getElem?_set]
  by_cases hl : n < N
  · by_cases hn : j = n
    · subst hn
      simp [hl, hv]
    · rw [if_neg hn, List.getElem?_map, List.getElem?_map, List.getElem?_range hl]
      simp only [Option.map_some]
      rw [ho n (fun q => hn q.symm)]
  · by_cases hn : j = n
    · subst hn
      simp [hl]
    · simp [hl, hn]
theorem fval_ne (E : sE) {μ μ' : sM} {k i j : Nat} (h1 : rI μ' k i j = rI μ k i j) (h2 : rL μ' k i j = rL μ k i j) (h3 : rR μ' k i j = rR μ k i j) : fval E μ' k i j = fval E μ k i j := by
  unfold fval
  rw [h1, h2, h3]
theorem ent_ne (E : sE) {μ μ' : sM} {q : Nat × Nat} (h1 : ∀ j, rI μ' q.1 q.2 j = rI μ q.1 q.2 j) (h2 : ∀ j, rL μ' q.1 q.2 j = rL μ q.1 q.2 j) (h3 : ∀ j, rR μ' q.1 q.2 j = rR μ q.1 q.2 j) : ent E μ' q = ent E μ q := by
  have e0 : fval E μ' q.1 q.2 = fval E μ q.1 q.2 := funext fun j => fval_ne E (h1 j) (h2 j) (h3 j)
  have e1 : rI μ' q.1 q.2 = rI μ q.1 q.2 := funext h1
  have e2 : rL μ' q.1 q.2 = rL μ q.1 q.2 := funext h2
  unfold ent
  rw [e0, e1, e2]
/-! the memory's laws -/
theorem rI_wI (μ : sM) (k i j : Nat) (v : Int32) (a b c : Nat) : rI (wI μ k i j v) a b c = if a = k ∧ c = j ∧ b = i then v else rI μ a b c := rfl
theorem rL_wI (μ : sM) (k i j : Nat) (v : Int32) (a b c : Nat) : rL (wI μ k i j v) a b c = rL μ a b c := rfl
theorem rR_wI (μ : sM) (k i j : Nat) (v : Int32) (a b c : Nat) : rR (wI μ k i j v) a b c = rR μ a b c := rfl
theorem rI_wL (μ : sM) (k i j : Nat) (v : Int64) (a b c : Nat) : rI (wL μ k i j v) a b c = rI μ a b c := rfl
theorem rL_wL (μ : sM) (k i j : Nat) (v : Int64) (a b c : Nat) : rL (wL μ k i j v) a b c = if a = k ∧ c = j ∧ b = i then v else rL μ a b c := rfl
theorem rR_wL (μ : sM) (k i j : Nat) (v : Int64) (a b c : Nat) : rR (wL μ k i j v) a b c = rR μ a b c := rfl
theorem rI_wR (μ : sM) (k i j : Nat) (v : Nat) (a b c : Nat) : rI (wR μ k i j v) a b c = rI μ a b c := rfl
theorem rL_wR (μ : sM) (k i j : Nat) (v : Nat) (a b c : Nat) : rL (wR μ k i j v) a b c = rL μ a b c := rfl
theorem rR_wR (μ : sM) (k i j : Nat) (v : Nat) (a b c : Nat) : rR (wR μ k i j v) a b c = if a = k ∧ c = j ∧ b = i then v else rR μ a b c := rfl
theorem rI_cI (μ : sM) (k i sp k' i' dp n a b c : Nat) : rI (cI μ k i sp k' i' dp n) a b c = if a = k' ∧ b = i' ∧ dp ≤ c ∧ c < dp + n then rI μ k i (sp + (c - dp)) else rI μ a b c := rfl
theorem rL_cI (μ : sM) (k i sp k' i' dp n a b c : Nat) : rL (cI μ k i sp k' i' dp n) a b c = rL μ a b c := rfl
theorem rR_cI (μ : sM) (k i sp k' i' dp n a b c : Nat) : rR (cI μ k i sp k' i' dp n) a b c = rR μ a b c := rfl
theorem rI_cL (μ : sM) (k i sp k' i' dp n a b c : Nat) : rI (cL μ k i sp k' i' dp n) a b c = rI μ a b c := rfl
theorem rL_cL (μ : sM) (k i sp k' i' dp n a b c : Nat) : rL (cL μ k i sp k' i' dp n) a b c = if a = k' ∧ b = i' ∧ dp ≤ c ∧ c < dp + n then rL μ k i (sp + (c - dp)) else rL μ a b c := rfl
theorem rR_cL (μ : sM) (k i sp k' i' dp n a b c : Nat) : rR (cL μ k i sp k' i' dp n) a b c = rR μ a b c := rfl
theorem pair_ne {k i a b : Nat} (h : (a, b) ≠ (k, i)) : ¬ (a = k ∧ b = i) := fun q => h (by rw [q.1, q.2])
/-- the world behind a change of one cell -/
theorem sW_put {E : sE} {μ μ' : sM} {H H1 : Heap} {k i : Nat} {e' : va_E} (hW : sW E μ H) (h : i < kni k) (hP : va_P (eD E) vwCl ((wld E μ).set (kof k i) ((eS E).heap.size + kof k i, e')) H1) (he : ent E μ' (k, i) = e')
    (hI : ∀ a b c, (a, b) ≠ (k, i) → rI μ' a b c = rI μ a b c) (hL : ∀ a b c, (a, b) ≠ (k, i) → rL μ' a b c = rL μ a b c) (hR : ∀ a b c, (a, b) ≠ (k, i) → rR μ' a b c = rR μ a b c)
    (hlow : ∀ q : Nat, q < (eS E).heap.size → H1[q]? = (eS E).heap[q]?) (hf : sRf μ') : sW E μ' H1 := by
  refine ⟨?_, ?_, hlow, hf⟩
  · rw [← wld_set E h he (fun q hq => ent_ne E (fun j => hI _ _ j hq) (fun j => hL _ _ j hq) (fun j => hR _ _ j hq))]
    exact hP
  · have e0 : rI μ' 0 0 = rI μ 0 0 := funext fun j => hI 0 0 j (fun q => by cases q; exact absurd h (by rw [kni_0]; omega))
    have e1 : rI μ' 0 1 0 = rI μ 0 1 0 := hI 0 1 0 (fun q => by cases q; exact absurd h (by rw [kni_0]; omega))
    rw [e0, e1]
    exact hW.2.1
end
section
/-! 04: closed facts of the classes and of the words -/
def sT : List Cond := lw_tbl.filter goodWord
theorem sT_in {w : Cond} {n : Nat} (h : lw_tbl[n]? = some w) (hg : goodWord w = true) : w ∈ sT := List.mem_filter.mpr ⟨List.mem_of_getElem? h, hg⟩
theorem sT_good {w : Cond} (h : w ∈ sT) : (w.onTables && w.keeps) = true ∨ ∃ ty, w = .arrayClass ty := good_of_word (List.mem_filter.mp h).2
def kLp : Nat → List Nat := fun n => match n with
  | 0 => [553, 555, 557, 559, 561, 563, 565, 567, 569, 571, 573, 575]
  | 1 => [597, 599, 601, 603, 605, 607, 609, 611, 613, 615, 617]
  | 2 => [241, 243, 245, 247, 249]
  | 3 => [200, 202, 204, 206, 208, 210, 212]
  | 4 => [332, 334, 336, 338, 340, 342, 344, 346, 348, 350, 352]
  | 5 => [490, 492, 494, 496]
  | 6 => [454, 456, 458, 460, 462, 464, 466, 468, 470, 472, 474, 476]
  | 7 => [420, 422, 424]
  | 8 => [387, 389, 391, 393, 395, 397, 399, 401, 403]
  | 9 => [514, 516, 518, 520, 522, 524]
  | 10 => [277, 279, 281, 283, 285, 287]
  | 11 => [635, 637, 639, 641, 643, 645, 647, 649, 651, 653, 655, 657, 659, 661, 663]
  | 12 => [1504, 1506, 1508, 1510, 1512, 1514, 1516, 1518, 1520, 1522, 1524, 1526, 1528, 1530, 1532, 1534, 1536, 1538, 1540, 1542, 1544, 1546, 1548, 1550, 1552, 1554, 1556, 1558, 1560, 1562, 1564, 1566, 1568, 1570, 1572, 1574, 1576, 1578, 1580, 1582, 1584, 1586, 1588, 1590, 1592, 1594, 1596, 1598, 1600]
  | _ => []
theorem kU0 : ∀ s, s < 12 → lw_tbl[(kLp 0).getD s 0]? = some (u_lay RX0 TX0 s) ∧ goodWord (u_lay RX0 TX0 s) = true := by decide +kernel
theorem kU1 : ∀ s, s < 11 → lw_tbl[(kLp 1).getD s 0]? = some (u_lay RX1 TX1 s) ∧ goodWord (u_lay RX1 TX1 s) = true := by decide +kernel
theorem kU2 : ∀ s, s < 5 → lw_tbl[(kLp 2).getD s 0]? = some (u_lay RX2 TX2 s) ∧ goodWord (u_lay RX2 TX2 s) = true := by decide +kernel
theorem kU3 : ∀ s, s < 7 → lw_tbl[(kLp 3).getD s 0]? = some (u_lay RX3 TX3 s) ∧ goodWord (u_lay RX3 TX3 s) = true := by decide +kernel
theorem kU4 : ∀ s, s < 11 → lw_tbl[(kLp 4).getD s 0]? = some (u_lay RX4 TX4 s) ∧ goodWord (u_lay RX4 TX4 s) = true := by decide +kernel
theorem kU5 : ∀ s, s < 4 → lw_tbl[(kLp 5).getD s 0]? = some (u_lay RX5 TX5 s) ∧ goodWord (u_lay RX5 TX5 s) = true := by decide +kernel
theorem kU6 : ∀ s, s < 12 → lw_tbl[(kLp 6).getD s 0]? = some (u_lay RX6 TX6 s) ∧ goodWord (u_lay RX6 TX6 s) = true := by decide +kernel
theorem kU7 : ∀ s, s < 3 → lw_tbl[(kLp 7).getD s 0]? = some (u_lay RX7 TX7 s) ∧ goodWord (u_lay RX7 TX7 s) = true := by decide +kernel
theorem kU8 : ∀ s, s < 9 → lw_tbl[(kLp 8).getD s 0]? = some (u_lay RX8 TX8 s) ∧ goodWord (u_lay RX8 TX8 s) = true := by decide +kernel
theorem kU9 : ∀ s, s < 6 → lw_tbl[(kLp 9).getD s 0]? = some (u_lay RX9 TX9 s) ∧ goodWord (u_lay RX9 TX9 s) = true := by decide +kernel
theorem kU10 : ∀ s, s < 6 → lw_tbl[(kLp 10).getD s 0]? = some (u_lay RX10 TX10 s) ∧ goodWord (u_lay RX10 TX10 s) = true := by decide +kernel
theorem kU11 : ∀ s, s < 15 → lw_tbl[(kLp 11).getD s 0]? = some (u_lay RX11 TX11 s) ∧ goodWord (u_lay RX11 TX11 s) = true := by decide +kernel
theorem kU12 : ∀ s, s < 49 → lw_tbl[(kLp 12).getD s 0]? = some (u_lay RX12 TX12 s) ∧ goodWord (u_lay RX12 TX12 s) = true := by decide +kernel
theorem kUin {C : String} {T : u_T} {N : Nat} {f : Nat → Nat} (h : ∀ s, s < N → lw_tbl[f s]? = some (u_lay C T s) ∧ goodWord (u_lay C T s) = true) : ∀ w ∈ u_ws C T N, w ∈ sT := by
  intro w hw
  obtain ⟨s, hs, rfl⟩ := List.mem_map.mp hw
  have hl := List.mem_range.mp hs
  exact sT_in (h s hl).1 (h s hl).2
theorem kU (n : Nat) (hn : n < 13) : ∀ w ∈ u_ws (kRn n) (kTt n) (knf (n + 1)), w ∈ sT := match n, hn with
  | 0, _ => kUin kU0
  | 1, _ => kUin kU1
  | 2, _ => kUin kU2
  | 3, _ => kUin kU3
  | 4, _ => kUin kU4
  | 5, _ => kUin kU5
  | 6, _ => kUin kU6
  | 7, _ => kUin kU7
  | 8, _ => kUin kU8
  | 9, _ => kUin kU9
  | 10, _ => kUin kU10
  | 11, _ => kUin kU11
  | 12, _ => kUin kU12
  | n + 13, hn => absurd hn (by omega)
theorem kcl (n : Nat) (hn : n < 13) : vwCl[n]? = some (kRn n, kTt n, knf (n + 1)) := match n, hn with
  | 0, _ => rfl
  | 1, _ => rfl
  | 2, _ => rfl
  | 3, _ => rfl
  | 4, _ => rfl
  | 5, _ => rfl
  | 6, _ => rfl
  | 7, _ => rfl
  | 8, _ => rfl
  | 9, _ => rfl
  | 10, _ => rfl
  | 11, _ => rfl
  | 12, _ => rfl
  | n + 13, hn => absurd hn (by omega)
theorem kty (n : Nat) (hn : n < 13) : ∀ k, k < knf (n + 1) → parseFieldDescriptor (kTt n k).2.2.1 = some (kTy n k) := match n, hn with
  | 0, _ => tyX0_ok
  | 1, _ => tyX1_ok
  | 2, _ => tyX2_ok
  | 3, _ => tyX3_ok
  | 4, _ => tyX4_ok
  | 5, _ => tyX5_ok
  | 6, _ => tyX6_ok
  | 7, _ => tyX7_ok
  | 8, _ => tyX8_ok
  | 9, _ => tyX9_ok
  | 10, _ => tyX10_ok
  | 11, _ => tyX11_ok
  | 12, _ => tyX12_ok
  | n + 13, hn => absurd hn (by omega)
theorem knm (n : Nat) (hn : n < 13) : ∀ a, a < knf (n + 1) → ∀ b, b < knf (n + 1) → a ≠ b → (kTt n a).2.1 ≠ (kTt n b).2.1 := match n, hn with
  | 0, _ => nmX0
  | 1, _ => nmX1
  | 2, _ => nmX2
  | 3, _ => nmX3
  | 4, _ => nmX4
  | 5, _ => nmX5
  | 6, _ => nmX6
  | 7, _ => nmX7
  | 8, _ => nmX8
  | 9, _ => nmX9
  | 10, _ => nmX10
  | 11, _ => nmX11
  | 12, _ => nmX12
  | n + 13, hn => absurd hn (by omega)
def ftc : FieldType → Nat := fun t => match t with
  | .int => 0
  | .long => 1
  | .boolean => 4
  | .object _ => 3
  | _ => 6
theorem kfc : ∀ n, n < 13 → ∀ s, s < knf (n + 1) → (kTt n s).1 = kRn n ∧ (kft (n + 1) s = 2 ∨ ((kTt n s).2.2.2 = false ∧ kft (n + 1) s = ftc (kTy n s))) := by decide +kernel
theorem kfdl : ∀ k, k < 80 → ∀ s, s < 60 → kft k s = 2 → ∀ i, i < kni k → (kfd k s i).2 < kni (kfd k s i).1 := by decide +kernel
theorem kael : ∀ k, k < 80 → kar k = 4 → ∀ j, j < kln k → (kae k).2 + j < kni (kae k).1 := by decide +kernel
theorem kft_big (k s : Nat) (h : 60 ≤ s) : kft k s = 9 := by
  unfold kft
  split <;> (first | rfl | (split <;> first | rfl | omega))
theorem kFLok0 : ∀ q ∈ kFL0, lw_tbl[q.1]? = some (Cond.fieldLink (kRn q.2.1) q.2.2.1 (kRn q.2.2.2.1) (kTt q.2.2.2.1 q.2.2.2.2).2.1 (kTt q.2.2.2.1 q.2.2.2.2).2.2.1) ∧ q.2.2.2.1 < 13 ∧ q.2.2.2.2 < knf (q.2.2.2.1 + 1) := by decide +kernel
theorem kFLok1 : ∀ q ∈ kFL1, lw_tbl[q.1]? = some (Cond.fieldLink (kRn q.2.1) q.2.2.1 (kRn q.2.2.2.1) (kTt q.2.2.2.1 q.2.2.2.2).2.1 (kTt q.2.2.2.1 q.2.2.2.2).2.2.1) ∧ q.2.2.2.1 < 13 ∧ q.2.2.2.2 < knf (q.2.2.2.1 + 1) := by decide +kernel
theorem kFLok2 : ∀ q ∈ kFL2, lw_tbl[q.1]? = some (Cond.fieldLink (kRn q.2.1) q.2.2.1 (kRn q.2.2.2.1) (kTt q.2.2.2.1 q.2.2.2.2).2.1 (kTt q.2.2.2.1 q.2.2.2.2).2.2.1) ∧ q.2.2.2.1 < 13 ∧ q.2.2.2.2 < knf (q.2.2.2.1 + 1) := by decide +kernel
theorem kFLok3 : ∀ q ∈ kFL3, lw_tbl[q.1]? = some (Cond.fieldLink (kRn q.2.1) q.2.2.1 (kRn q.2.2.2.1) (kTt q.2.2.2.1 q.2.2.2.2).2.1 (kTt q.2.2.2.1 q.2.2.2.2).2.2.1) ∧ q.2.2.2.1 < 13 ∧ q.2.2.2.2 < knf (q.2.2.2.1 + 1) := by decide +kernel
theorem kFLok4 : ∀ q ∈ kFL4, lw_tbl[q.1]? = some (Cond.fieldLink (kRn q.2.1) q.2.2.1 (kRn q.2.2.2.1) (kTt q.2.2.2.1 q.2.2.2.2).2.1 (kTt q.2.2.2.1 q.2.2.2.2).2.2.1) ∧ q.2.2.2.1 < 13 ∧ q.2.2.2.2 < knf (q.2.2.2.1 + 1) := by decide +kernel
theorem kFLok : ∀ q ∈ kFL, lw_tbl[q.1]? = some (Cond.fieldLink (kRn q.2.1) q.2.2.1 (kRn q.2.2.2.1) (kTt q.2.2.2.1 q.2.2.2.2).2.1 (kTt q.2.2.2.1 q.2.2.2.2).2.2.1) ∧ q.2.2.2.1 < 13 ∧ q.2.2.2.2 < knf (q.2.2.2.1 + 1) := by
  intro q hq
  unfold kFL at hq
  simp only [List.mem_append] at hq
  rcases hq with (((h0 | h1) | h2) | h3) | h4
  · exact kFLok0 q h0
  · exact kFLok1 q h1
  · exact kFLok2 q h2
  · exact kFLok3 q h3
  · exact kFLok4 q h4
theorem kCIok : ∀ q ∈ kCI, lw_tbl[q.1]? = some (Cond.constant (kRn q.2.1) q.2.2.1 q.2.2.2) := by decide +kernel
theorem kCLok : ∀ q ∈ kCL, lw_tbl[q.1]? = some (Cond.constantLong (kRn q.2.1) q.2.2.1 q.2.2.2) := by decide +kernel
end
section
/-! 05: the plain machine's straight steps -/
abbrev sO : Type := Instr × Nat × Nat × Int32 × Int64
abbrev sL : Type := List (Nat × sV)
abbrev sS : Type := sL × List sV × sM
def lk (i : Nat) : sL → Option sV
  | [] => none
  | q :: t => if q.1 = i then some q.2 else lk i t
theorem lk_mem {i : Nat} {v : sV} : ∀ {lo : sL}, lk i lo = some v → (i, v) ∈ lo
  | [], h => by cases h
  | q :: t, h => by
    unfold lk at h
    by_cases e : q.1 = i
    · rw [if_pos e] at h
      cases h
      rw [← e]
      exact List.mem_cons_self
    · rw [if_neg e] at h
      exact List.mem_cons_of_mem _ (lk_mem h)
def ct2 (v : sV) : Bool := match v with
  | .inr (.inl _) => true
  | _ => false
theorem ct2_gm (E : sE) (v : sV) : ((gm E v).category == 2) = ct2 v := by
  rcases v with x | x | q <;> rfl
def ls1 (i : Nat) (v : sV) (lo : sL) : sL := (i, v) :: lo.filter (fun q => !(q.1 == i) && !(q.1 + 1 == i && ct2 q.2))
def ls2 (i : Nat) (v : sV) (lo : sL) : sL := (i, v) :: lo.filter (fun q => !(q.1 == i) && (!(q.1 == i + 1) && !(q.1 + 1 == i && ct2 q.2)))
theorem ls1_gm (E : sE) (i : Nat) (v : sV) (lo : sL) : (i, gm E v) :: (lo.map (gl E)).filter (fun q => !(q.1 == i) && !(q.1 + 1 == i && q.2.category == 2)) = (ls1 i v lo).map (gl E) := by
  unfold ls1
  rw [List.map_cons, List.filter_map]
  congr 2
  apply List.filter_congr
  intro q _
  simp only [Function.comp, gl, ct2_gm]
theorem ls2_gm (E : sE) (i : Nat) (v : sV) (lo : sL) : (i, gm E v) :: (lo.map (gl E)).filter (fun q => !(q.1 == i) && (!(q.1 == i + 1) && !(q.1 + 1 == i && q.2.category == 2))) = (ls2 i v lo).map (gl E) := by
  unfold ls2
  rw [List.map_cons, List.filter_map]
  congr 2
  apply List.filter_congr
  intro q _
  simp only [Function.comp, gl, ct2_gm]
def e_il (i : Nat) (lo : sL) (st : List sV) (μ : sM) : Option sS := match lk i lo with
  | some (.inl x) => some (lo, .inl x :: st, μ)
  | _ => none
def e_ll (i : Nat) (lo : sL) (st : List sV) (μ : sM) : Option sS := match lk i lo with
  | some (.inr (.inl x)) => some (lo, .inr (.inl x) :: st, μ)
  | _ => none
def e_al (i : Nat) (lo : sL) (st : List sV) (μ : sM) : Option sS := match lk i lo with
  | some (.inr (.inr q)) => some (lo, .inr (.inr q) :: st, μ)
  | _ => none
def e_is (nL i : Nat) (lo : sL) (st : List sV) (μ : sM) : Option sS := match st with
  | .inl x :: t => if i < nL then some (ls1 i (.inl x) lo, t, μ) else none
  | _ => none
def e_ls (nL i : Nat) (lo : sL) (st : List sV) (μ : sM) : Option sS := match st with
  | .inr (.inl x) :: t => if i + 1 < nL then some (ls2 i (.inr (.inl x)) lo, t, μ) else none
  | _ => none
def e_as (nL i : Nat) (lo : sL) (st : List sV) (μ : sM) : Option sS := match st with
  | .inr (.inr x) :: t => if i < nL then some (ls1 i (.inr (.inr x)) lo, t, μ) else none
  | _ => none
def e_inc (nL i : Nat) (c : Int32) (lo : sL) (st : List sV) (μ : sM) : Option sS := match lk i lo with
  | some (.inl x) => if i < nL then some (ls1 i (.inl (x + c)) lo, st, μ) else none
  | _ => none
def e_ii (f : Int32 → Int32 → Int32) (lo : sL) (st : List sV) (μ : sM) : Option sS := match st with
  | .inl y :: .inl x :: t => some (lo, .inl (f x y) :: t, μ)
  | _ => none
def e_id (f : Int32 → Int32 → Int32) (lo : sL) (st : List sV) (μ : sM) : Option sS := match st with
  | .inl y :: .inl x :: t => if y = 0 then none else some (lo, .inl (f x y) :: t, μ)
  | _ => none
def e_lL (f : Int64 → Int64 → Int64) (lo : sL) (st : List sV) (μ : sM) : Option sS := match st with
  | .inr (.inl y) :: .inr (.inl x) :: t => some (lo, .inr (.inl (f x y)) :: t, μ)
  | _ => none
def e_lD (f : Int64 → Int64 → Int64) (lo : sL) (st : List sV) (μ : sM) : Option sS := match st with
  | .inr (.inl y) :: .inr (.inl x) :: t => if y = 0 then none else some (lo, .inr (.inl (f x y)) :: t, μ)
  | _ => none
def e_u (f : Int32 → sV) (lo : sL) (st : List sV) (μ : sM) : Option sS := match st with
  | .inl x :: t => some (lo, f x :: t, μ)
  | _ => none
def e_U (f : Int64 → sV) (lo : sL) (st : List sV) (μ : sM) : Option sS := match st with
  | .inr (.inl x) :: t => some (lo, f x :: t, μ)
  | _ => none
def e_lcmp (lo : sL) (st : List sV) (μ : sM) : Option sS := match st with
  | .inr (.inl y) :: .inr (.inl x) :: t => some (lo, .inl (lg_cmp x y) :: t, μ)
  | _ => none
def e_lshl (lo : sL) (st : List sV) (μ : sM) : Option sS := match st with
  | .inl y :: .inr (.inl x) :: t => some (lo, .inr (.inl (x <<< (y.toInt64 &&& 63))) :: t, μ)
  | _ => none
def e_dup (lo : sL) (st : List sV) (μ : sM) : Option sS := match st with
  | v :: t => if ct2 v = false then some (lo, v :: v :: t, μ) else none
  | _ => none
def e_pop (lo : sL) (st : List sV) (μ : sM) : Option sS := match st with
  | v :: t => if ct2 v = false then some (lo, t, μ) else none
  | _ => none
def e_dup2 (lo : sL) (st : List sV) (μ : sM) : Option sS := match st with
  | v :: w :: t => if ct2 v = false ∧ ct2 w = false then some (lo, v :: w :: v :: w :: t, μ) else none
  | _ => none
def e_get (ci sl : Nat) (lo : sL) (st : List sV) (μ : sM) : Option sS := match st with
  | .inr (.inr q) :: t => if q.1 = ci + 1 then (match kft q.1 sl with
    | 0 => some (lo, .inl (rI μ q.1 q.2 sl) :: t, μ)
    | 4 => some (lo, .inl (rI μ q.1 q.2 sl) :: t, μ)
    | 1 => some (lo, .inr (.inl (rL μ q.1 q.2 sl)) :: t, μ)
    | 2 => some (lo, .inr (.inr (kfd q.1 sl q.2)) :: t, μ)
    | _ => none) else none
  | _ => none
def e_put (ci sl : Nat) (lo : sL) (st : List sV) (μ : sM) : Option sS := match st with
  | .inl x :: .inr (.inr q) :: t => if q.1 = ci + 1 then (match kft q.1 sl with
    | 0 => some (lo, t, wI μ q.1 q.2 sl x)
    | 4 => if x = 0 ∨ x = 1 then some (lo, t, wI μ q.1 q.2 sl x) else none
    | _ => none) else none
  | .inr (.inl x) :: .inr (.inr q) :: t => if q.1 = ci + 1 then (match kft q.1 sl with
    | 1 => some (lo, t, wL μ q.1 q.2 sl x)
    | _ => none) else none
  | .inr (.inr x) :: .inr (.inr q) :: t => if q.1 = ci + 1 then (match kft q.1 sl with
    | 3 => if x.1 = (kfr q.1 sl).1 ∧ x.1 ≠ 0 then some (lo, t, wR μ q.1 q.2 sl (x.2 + 1)) else none
    | _ => none) else none
  | _ => none
def e_iald (b : Nat) (lo : sL) (st : List sV) (μ : sM) : Option sS := match st with
  | .inl i :: .inr (.inr q) :: t => if kar q.1 = b then (if inb i (kln q.1) = true then some (lo, .inl (rI μ q.1 q.2 (ix i)) :: t, μ) else none) else none
  | _ => none
def e_lald (lo : sL) (st : List sV) (μ : sM) : Option sS := match st with
  | .inl i :: .inr (.inr q) :: t => if kar q.1 = 2 then (if inb i (kln q.1) = true then some (lo, .inr (.inl (rL μ q.1 q.2 (ix i))) :: t, μ) else none) else none
  | _ => none
def e_aald (lo : sL) (st : List sV) (μ : sM) : Option sS := match st with
  | .inl i :: .inr (.inr q) :: t => if kar q.1 = 4 then (if inb i (kln q.1) = true then some (lo, .inr (.inr ((kae q.1).1, (kae q.1).2 + ix i)) :: t, μ) else none) else none
  | _ => none
def e_iast (b : Nat) (f : Int32 → Int32) (lo : sL) (st : List sV) (μ : sM) : Option sS := match st with
  | .inl x :: .inl i :: .inr (.inr q) :: t => if kar q.1 = b then (if inb i (kln q.1) = true then some (lo, t, wI μ q.1 q.2 (ix i) (f x)) else none) else none
  | _ => none
def e_last (lo : sL) (st : List sV) (μ : sM) : Option sS := match st with
  | .inr (.inl x) :: .inl i :: .inr (.inr q) :: t => if kar q.1 = 2 then (if inb i (kln q.1) = true then some (lo, t, wL μ q.1 q.2 (ix i) x) else none) else none
  | _ => none
/-- one straight step: the operation, its class and slot, its constants -/
def ev1 (nL : Nat) (q : sO) (lo : sL) (st : List sV) (μ : sM) : Option sS := match q.1 with
  | .iload_n n => e_il n.val lo st μ
  | .iload n => e_il n lo st μ
  | .lload_n n => e_ll n.val lo st μ
  | .lload n => e_ll n lo st μ
  | .aload_n n => e_al n.val lo st μ
  | .aload n => e_al n lo st μ
  | .istore_n n => e_is nL n.val lo st μ
  | .istore n => e_is nL n lo st μ
  | .lstore_n n => e_ls nL n.val lo st μ
  | .lstore n => e_ls nL n lo st μ
  | .astore_n n => e_as nL n.val lo st μ
  | .astore n => e_as nL n lo st μ
  | .iinc i _ => e_inc nL i q.2.2.2.1 lo st μ
  | .iconst _ => some (lo, .inl q.2.2.2.1 :: st, μ)
  | .bipush _ => some (lo, .inl q.2.2.2.1 :: st, μ)
  | .sipush _ => some (lo, .inl q.2.2.2.1 :: st, μ)
  | .ldc _ => some (lo, .inl q.2.2.2.1 :: st, μ)
  | .lconst _ => some (lo, .inr (.inl q.2.2.2.2) :: st, μ)
  | .ldc2_w _ => some (lo, .inr (.inl q.2.2.2.2) :: st, μ)
  | .iadd => e_ii (fun x y => x + y) lo st μ
  | .isub => e_ii (fun x y => x - y) lo st μ
  | .imul => e_ii (fun x y => x * y) lo st μ
  | .iand => e_ii (fun x y => x &&& y) lo st μ
  | .ior => e_ii (fun x y => x ||| y) lo st μ
  | .ishl => e_ii (fun x y => x <<< (y &&& 31)) lo st μ
  | .ishr => e_ii (fun x y => x >>> (y &&& 31)) lo st μ
  | .idiv => e_id (fun x y => x / y) lo st μ
  | .irem => e_id (fun x y => x - x / y * y) lo st μ
  | .ladd => e_lL (fun x y => x + y) lo st μ
  | .lsub => e_lL (fun x y => x - y) lo st μ
  | .lmul => e_lL (fun x y => x * y) lo st μ
  | .land => e_lL (fun x y => x &&& y) lo st μ
  | .lor => e_lL (fun x y => x ||| y) lo st μ
  | .ldiv => e_lD (fun x y => x / y) lo st μ
  | .lrem => e_lD (fun x y => x - x / y * y) lo st μ
  | .ineg => e_u (fun x => .inl (-x)) lo st μ
  | .i2l => e_u (fun x => .inr (.inl x.toInt64)) lo st μ
  | .i2b => e_u (fun x => .inl x.toInt8.toInt32) lo st μ
  | .i2s => e_u (fun x => .inl x.toInt16.toInt32) lo st μ
  | .l2i => e_U (fun x => .inl x.toInt32) lo st μ
  | .lneg => e_U (fun x => .inr (.inl (-x))) lo st μ
  | .lcmp => e_lcmp lo st μ
  | .lshl => e_lshl lo st μ
  | .dup => e_dup lo st μ
  | .pop => e_pop lo st μ
  | .dup2 => e_dup2 lo st μ
  | .getfield _ => e_get q.2.1 q.2.2.1 lo st μ
  | .putfield _ => e_put q.2.1 q.2.2.1 lo st μ
  | .iaload => e_iald 1 lo st μ
  | .baload => e_iald 3 lo st μ
  | .laload => e_lald lo st μ
  | .aaload => e_aald lo st μ
  | .iastore => e_iast 1 (fun x => x) lo st μ
  | .bastore => e_iast 3 (fun x => x.toInt8.toInt32) lo st μ
  | .lastore => e_last lo st μ
  | _ => none
def iln (i : Instr) : Nat := match i with
  | .iload _ => 2
  | .lload _ => 2
  | .aload _ => 2
  | .istore _ => 2
  | .lstore _ => 2
  | .astore _ => 2
  | .bipush _ => 2
  | .ldc _ => 2
  | .sipush _ => 3
  | .ldc2_w _ => 3
  | .iinc _ _ => 3
  | .getfield _ => 3
  | .putfield _ => 3
  | _ => 1
/-- what else an operation's row rests on -/
def aux (own : Nat) (q : sO) : Bool := match q.1 with
  | .iconst n => decide (Int32.ofInt n = q.2.2.2.1)
  | .bipush n => decide ((Int8.ofInt n).toInt32 = q.2.2.2.1)
  | .sipush n => decide ((Int16.ofInt n).toInt32 = q.2.2.2.1)
  | .iinc _ n => decide (Int32.ofInt n = q.2.2.2.1)
  | .lconst n => decide (Int64.ofNat (n : Nat) = q.2.2.2.2)
  | .ldc k => kCI.any (fun r => r.2.1 == own && (r.2.2.1 == k && decide (r.2.2.2 = q.2.2.2.1)))
  | .ldc2_w k => kCL.any (fun r => r.2.1 == own && (r.2.2.1 == k && decide (r.2.2.2 = q.2.2.2.2)))
  | .getfield k => kFL.any (fun r => r.2.1 == own && (r.2.2.1 == k && (r.2.2.2.1 == q.2.1 && r.2.2.2.2 == q.2.2.1)))
  | .putfield k => kFL.any (fun r => r.2.1 == own && (r.2.2.1 == k && (r.2.2.2.1 == q.2.1 && r.2.2.2.2 == q.2.2.1)))
  | _ => true
def bk1 (cc : ByteArray) (own pc : Nat) (q : sO) : Bool := decide (decode cc pc = .ok (q.1, iln q.1)) && aux own q
def ev (nL : Nat) : List sO → sL → List sV → sM → Option sS
  | [], lo, st, μ => some (lo, st, μ)
  | q :: t, lo, st, μ => match ev1 nL q lo st μ with
    | some (lo1, st1, μ1) => ev nL t lo1 st1 μ1
    | none => none
def bk (cc : ByteArray) (own : Nat) : Nat → List sO → Bool
  | _, [] => true
  | pc, q :: t => bk1 cc own pc q && bk cc own (pc + iln q.1) t
def evp : Nat → List sO → Nat
  | pc, [] => pc
  | pc, q :: t => evp (pc + iln q.1) t
/-! the judgement -/
def sCx (E : sE) (p : Program) (s : State) (m : MethodId) (args : Array Value) (c : Code) (own : Nat) (cc : ByteArray) (nL : Nat) : Prop :=
  p.tables.exec = Jvm.exec ∧ c.code = cc ∧ c.maxLocals = nL ∧ s.vm.findClass (kRn own) = some m.cls ∧ (∀ w ∈ sT, w.before args s = true) ∧ (eS E).WarmedH s.vm ∧ (∀ q : Nat, q < (eS E).heap.size → s.heap[q]? = (eS E).heap[q]?) ∧ (eS E).heap.size ≤ s.heap.size
def kWt : String := "turns slack rain odds reach bank gate holds mill at needs winder strength wage hour wind back oil dry any when stored ground raining loop end stop "
def kWb : List Int32 := [116, 117, 114, 110, 115, 32, 115, 108, 97, 99, 107, 32, 114, 97, 105, 110, 32, 111, 100, 100, 115, 32, 114, 101, 97, 99, 104, 32, 98, 97, 110, 107, 32, 103, 97, 116, 101, 32, 104, 111, 108, 100, 115, 32, 109, 105, 108, 108, 32, 97, 116, 32, 110, 101, 101, 100, 115, 32, 119, 105, 110, 100, 101, 114, 32, 115, 116, 114, 101, 110, 103, 116, 104, 32, 119, 97, 103, 101, 32, 104, 111, 117, 114, 32, 119, 105, 110, 100, 32, 98, 97, 99, 107, 32, 111, 105, 108, 32, 100, 114, 121, 32, 97, 110, 121, 32, 119, 104, 101, 110, 32, 115, 116, 111, 114, 101, 100, 32, 103, 114, 111, 117, 110, 100, 32, 114, 97, 105, 110, 105, 110, 103, 32, 108, 111, 111, 112, 32, 101, 110, 100, 32, 115, 116, 111, 112, 32]
/-- the words' String, as the start has it -/
def sSt (E : sE) : Prop := vk_R RX6 97 kWt (eW E) (eS E) ∧ vk_S 1 [147] [kWb] (fun _ => eW E) (fun _ => eV E) (sA E) (eS E) (eS E).heap ∧ va_Z "java/lang/String" "COMPACT_STRINGS" "Z" (.int 1) (sA E) (eS E) (eS E).heap
def sEn (E : sE) : Prop := va_K (eD E) vwCl (tys E) (eS E) ∧ eB E < (eS E).heap.size ∧ eL E ≤ 3072 ∧ sSt E
def sRet (cc : ByteArray) (bl : Bool) (pc : Nat) (r : Option sV) : Prop := match r with
  | none => decode cc pc = .ok (.return_, 1)
  | some (.inl x) => decode cc pc = .ok (.ireturn, 1) ∧ (bl = true → x = 0 ∨ x = 1)
  | some (.inr (.inl _)) => decode cc pc = .ok (.lreturn, 1)
  | some (.inr (.inr _)) => decode cc pc = .ok (.areturn, 1)
/-- the fixed part of a walk: where it runs, and what its end is good for -/
def sGo (own : Nat) (cc : ByteArray) (nL d : Nat) (bl : Bool) (r : Option sV) (ρ : sM) (E : sE) (p : Program) (l : Launch) (e : Env) (R : Room) (s : State) (m : MethodId) (args : Array Value) (below : List Frame) (meth : Method) (c : Code) (cells slots : Nat) (Q : State → Prop) : Prop :=
  sEn E ∧ sCx E p s m args c own cc nL ∧ (d ≤ R.frames ∧ 64 * d ≤ R.locals ∧ cells ≤ R.cells ∧ slots ≤ R.slots) ∧
  ∀ (H : Heap) (locs : List Loc) (pc : Nat) (ls : Array Slot), sW E ρ H → va_S (sA E) s.heap H locs → sRet cc bl pc r → (∀ v, r = some v → slv v) → W p l e R s m args below meth c H locs cells slots Q (F0 m pc ls ((r.map (gm E)).toList))
def sAt (E : sE) (nL : Nat) (s : State) (lo : sL) (st : List sV) (μ : sM) (H : Heap) (locs : List Loc) (ls : Array Slot) : Prop :=
  sW E μ H ∧ va_S (sA E) s.heap H locs ∧ (∀ v ∈ st, slv v) ∧ (∀ q ∈ lo, slv q.2) ∧ lv_has ls nL (lo.map (gl E))
def sOk (own : Nat) (cc : ByteArray) (nL d : Nat) (bl : Bool) (pc : Nat) (lo : sL) (st : List sV) (μ : sM) (o : Option (Option sV × sM)) : Prop :=
  ∀ (r : Option sV) (ρ : sM), o = some (r, ρ) → ∀ (E : sE) (p : Program) (l : Launch) (e : Env) (R : Room) (s : State) (m : MethodId) (args : Array Value) (below : List Frame) (meth : Method) (c : Code) (cells slots : Nat) (Q : State → Prop),
    sGo own cc nL d bl r ρ E p l e R s m args below meth c cells slots Q → ∀ (H : Heap) (locs : List Loc) (ls : Array Slot), sAt E nL s lo st μ H locs ls →
    W p l e R s m args below meth c H locs cells slots Q (F0 m pc ls (st.map (gm E)))
end
section
/-! 06: a straight step of the plain machine is a step of the machine -/
theorem slv_i (x : Int32) : slv (.inl x) := trivial
theorem slv_l (x : Int64) : slv (.inr (.inl x)) := trivial
theorem sl_cons {v : sV} {st : List sV} (h1 : slv v) (h2 : ∀ w ∈ st, slv w) : ∀ w ∈ v :: st, slv w := fun w h => (List.mem_cons.mp h).elim (fun e => e ▸ h1) (h2 w)
theorem sl_tail {v : sV} {st : List sV} (h : ∀ w ∈ v :: st, slv w) : ∀ w ∈ st, slv w := fun w hw => h w (List.mem_cons_of_mem _ hw)
theorem sl_head {v : sV} {st : List sV} (h : ∀ w ∈ v :: st, slv w) : slv v := h v List.mem_cons_self
theorem sl_ls1 {i : Nat} {v : sV} {lo : sL} (h1 : slv v) (h2 : ∀ q ∈ lo, slv q.2) : ∀ q ∈ ls1 i v lo, slv q.2 := fun q h => (List.mem_cons.mp h).elim (fun e => e ▸ h1) (fun h => h2 q (List.mem_filter.mp h).1)
theorem sl_ls2 {i : Nat} {v : sV} {lo : sL} (h1 : slv v) (h2 : ∀ q ∈ lo, slv q.2) : ∀ q ∈ ls2 i v lo, slv q.2 := fun q h => (List.mem_cons.mp h).elim (fun e => e ▸ h1) (fun h => h2 q (List.mem_filter.mp h).1)
theorem lk_at {E : sE} {ls : Array Slot} {nL i : Nat} {lo : sL} {v : sV} (h : lv_has ls nL (lo.map (gl E))) (hk : lk i lo = some v) : ls[i]? = some (.val (gm E v)) := h.2.2 (i, gm E v) (List.mem_map.mpr ⟨(i, v), lk_mem hk, rfl⟩)
theorem lk_pl {E : sE} {i : Nat} {lo : sL} {v : sV} (hk : lk i lo = some v) : ∃ n : Nat, (lo.map (gl E))[n]? = some (i, gm E v) := List.mem_iff_getElem?.mp (List.mem_map.mpr ⟨(i, v), lk_mem hk, rfl⟩)
theorem i_il {i : Nat} {lo lo' : sL} {st st' : List sV} {μ μ' : sM} (h : e_il i lo st μ = some (lo', st', μ')) : ∃ x, lk i lo = some (.inl x) ∧ lo' = lo ∧ st' = .inl x :: st ∧ μ' = μ := by
  unfold e_il at h
  split at h
  · rename_i x hx
    simp only [Option.some.injEq, Prod.mk.injEq] at h
    exact ⟨x, hx, h.1.symm, h.2.1.symm, h.2.2.symm⟩
  · cases h
theorem i_ll {i : Nat} {lo lo' : sL} {st st' : List sV} {μ μ' : sM} (h : e_ll i lo st μ = some (lo', st', μ')) : ∃ x, lk i lo = some (.inr (.inl x)) ∧ lo' = lo ∧ st' = .inr (.inl x) :: st ∧ μ' = μ := by
  unfold e_ll at h
  split at h
  · rename_i x hx
    simp only [Option.some.injEq, Prod.mk.injEq] at h
    exact ⟨x, hx, h.1.symm, h.2.1.symm, h.2.2.symm⟩
  · cases h
theorem i_al {i : Nat} {lo lo' : sL} {st st' : List sV} {μ μ' : sM} (h : e_al i lo st μ = some (lo', st', μ')) : ∃ x, lk i lo = some (.inr (.inr x)) ∧ lo' = lo ∧ st' = .inr (.inr x) :: st ∧ μ' = μ := by
  unfold e_al at h
  split at h
  · rename_i x hx
    simp only [Option.some.injEq, Prod.mk.injEq] at h
    exact ⟨x, hx, h.1.symm, h.2.1.symm, h.2.2.symm⟩
  · cases h
theorem i_is {nL i : Nat} {lo lo' : sL} {st st' : List sV} {μ μ' : sM} (h : e_is nL i lo st μ = some (lo', st', μ')) : ∃ x, st = .inl x :: st' ∧ lo' = ls1 i (.inl x) lo ∧ μ' = μ ∧ i < nL := by
  unfold e_is at h
  split at h
  · rename_i x t
    split at h
    · simp only [Option.some.injEq, Prod.mk.injEq] at h
      exact ⟨x, by rw [h.2.1], h.1.symm, h.2.2.symm, by assumption⟩
    · cases h
  · cases h
theorem i_ls {nL i : Nat} {lo lo' : sL} {st st' : List sV} {μ μ' : sM} (h : e_ls nL i lo st μ = some (lo', st', μ')) : ∃ x, st = .inr (.inl x) :: st' ∧ lo' = ls2 i (.inr (.inl x)) lo ∧ μ' = μ ∧ i + 1 < nL := by
  unfold e_ls at h
  split at h
  · rename_i x t
    split at h
    · simp only [Option.some.injEq, Prod.mk.injEq] at h
      exact ⟨x, by rw [h.2.1], h.1.symm, h.2.2.symm, by assumption⟩
    · cases h
  · cases h
theorem i_as {nL i : Nat} {lo lo' : sL} {st st' : List sV} {μ μ' : sM} (h : e_as nL i lo st μ = some (lo', st', μ')) : ∃ x, st = .inr (.inr x) :: st' ∧ lo' = ls1 i (.inr (.inr x)) lo ∧ μ' = μ ∧ i < nL := by
  unfold e_as at h
  split at h
  · rename_i x t
    split at h
    · simp only [Option.some.injEq, Prod.mk.injEq] at h
      exact ⟨x, by rw [h.2.1], h.1.symm, h.2.2.symm, by assumption⟩
    · cases h
  · cases h
theorem i_inc {nL i : Nat} {c : Int32} {lo lo' : sL} {st st' : List sV} {μ μ' : sM} (h : e_inc nL i c lo st μ = some (lo', st', μ')) : ∃ x, lk i lo = some (.inl x) ∧ lo' = ls1 i (.inl (x + c)) lo ∧ st' = st ∧ μ' = μ ∧ i < nL := by
  unfold e_inc at h
  split at h
  · rename_i x hx
    split at h
    · simp only [Option.some.injEq, Prod.mk.injEq] at h
      exact ⟨x, hx, h.1.symm, h.2.1.symm, h.2.2.symm, by assumption⟩
    · cases h
  · cases h
theorem i_ii {f : Int32 → Int32 → Int32} {lo lo' : sL} {st st' : List sV} {μ μ' : sM} (h : e_ii f lo st μ = some (lo', st', μ')) : ∃ x y t, st = .inl y :: .inl x :: t ∧ lo' = lo ∧ st' = .inl (f x y) :: t ∧ μ' = μ := by
  unfold e_ii at h
  split at h
  · rename_i y x t
    simp only [Option.some.injEq, Prod.mk.injEq] at h
    exact ⟨x, y, t, rfl, h.1.symm, h.2.1.symm, h.2.2.symm⟩
  · cases h
theorem i_id {f : Int32 → Int32 → Int32} {lo lo' : sL} {st st' : List sV} {μ μ' : sM} (h : e_id f lo st μ = some (lo', st', μ')) : ∃ x y t, st = .inl y :: .inl x :: t ∧ lo' = lo ∧ st' = .inl (f x y) :: t ∧ μ' = μ ∧ ¬ y = 0 := by
  unfold e_id at h
  split at h
  · rename_i y x t
    split at h
    · cases h
    · simp only [Option.some.injEq, Prod.mk.injEq] at h
      exact ⟨x, y, t, rfl, h.1.symm, h.2.1.symm, h.2.2.symm, by assumption⟩
  · cases h
theorem i_lL {f : Int64 → Int64 → Int64} {lo lo' : sL} {st st' : List sV} {μ μ' : sM} (h : e_lL f lo st μ = some (lo', st', μ')) : ∃ x y t, st = .inr (.inl y) :: .inr (.inl x) :: t ∧ lo' = lo ∧ st' = .inr (.inl (f x y)) :: t ∧ μ' = μ := by
  unfold e_lL at h
  split at h
  · rename_i y x t
    simp only [Option.some.injEq, Prod.mk.injEq] at h
    exact ⟨x, y, t, rfl, h.1.symm, h.2.1.symm, h.2.2.symm⟩
  · cases h
theorem i_lD {f : Int64 → Int64 → Int64} {lo lo' : sL} {st st' : List sV} {μ μ' : sM} (h : e_lD f lo st μ = some (lo', st', μ')) : ∃ x y t, st = .inr (.inl y) :: .inr (.inl x) :: t ∧ lo' = lo ∧ st' = .inr (.inl (f x y)) :: t ∧ μ' = μ ∧ ¬ y = 0 := by
  unfold e_lD at h
  split at h
  · rename_i y x t
    split at h
    · cases h
    · simp only [Option.some.injEq, Prod.mk.injEq] at h
      exact ⟨x, y, t, rfl, h.1.symm, h.2.1.symm, h.2.2.symm, by assumption⟩
  · cases h
theorem i_u {f : Int32 → sV} {lo lo' : sL} {st st' : List sV} {μ μ' : sM} (h : e_u f lo st μ = some (lo', st', μ')) : ∃ x t, st = .inl x :: t ∧ lo' = lo ∧ st' = f x :: t ∧ μ' = μ := by
  unfold e_u at h
  split at h
  · rename_i x t
    simp only [Option.some.injEq, Prod.mk.injEq] at h
    exact ⟨x, t, rfl, h.1.symm, h.2.1.symm, h.2.2.symm⟩
  · cases h
theorem i_U {f : Int64 → sV} {lo lo' : sL} {st st' : List sV} {μ μ' : sM} (h : e_U f lo st μ = some (lo', st', μ')) : ∃ x t, st = .inr (.inl x) :: t ∧ lo' = lo ∧ st' = f x :: t ∧ μ' = μ := by
  unfold e_U at h
  split at h
  · rename_i x t
    simp only [Option.some.injEq, Prod.mk.injEq] at h
    exact ⟨x, t, rfl, h.1.symm, h.2.1.symm, h.2.2.symm⟩
  · cases h
theorem i_lcmp {lo lo' : sL} {st st' : List sV} {μ μ' : sM} (h : e_lcmp lo st μ = some (lo', st', μ')) : ∃ x y t, st = .inr (.inl y) :: .inr (.inl x) :: t ∧ lo' = lo ∧ st' = .inl (lg_cmp x y) :: t ∧ μ' = μ := by
  unfold e_lcmp at h
  split at h
  · rename_i y x t
    simp only [Option.some.injEq, Prod.mk.injEq] at h
    exact ⟨x, y, t, rfl, h.1.symm, h.2.1.symm, h.2.2.symm⟩
  · cases h
theorem i_lshl {lo lo' : sL} {st st' : List sV} {μ μ' : sM} (h : e_lshl lo st μ = some (lo', st', μ')) : ∃ x y t, st = .inl y :: .inr (.inl x) :: t ∧ lo' = lo ∧ st' = .inr (.inl (x <<< (y.toInt64 &&& 63))) :: t ∧ μ' = μ := by
  unfold e_lshl at h
  split at h
  · rename_i y x t
    simp only [Option.some.injEq, Prod.mk.injEq] at h
    exact ⟨x, y, t, rfl, h.1.symm, h.2.1.symm, h.2.2.symm⟩
  · cases h
theorem i_dup {lo lo' : sL} {st st' : List sV} {μ μ' : sM} (h : e_dup lo st μ = some (lo', st', μ')) : ∃ v t, st = v :: t ∧ lo' = lo ∧ st' = v :: v :: t ∧ μ' = μ ∧ ct2 v = false := by
  unfold e_dup at h
  split at h
  · rename_i v t
    split at h
    · simp only [Option.some.injEq, Prod.mk.injEq] at h
      exact ⟨v, t, rfl, h.1.symm, h.2.1.symm, h.2.2.symm, by assumption⟩
    · cases h
  · cases h
theorem i_pop {lo lo' : sL} {st st' : List sV} {μ μ' : sM} (h : e_pop lo st μ = some (lo', st', μ')) : ∃ v t, st = v :: t ∧ lo' = lo ∧ st' = t ∧ μ' = μ ∧ ct2 v = false := by
  unfold e_pop at h
  split at h
  · rename_i v t
    split at h
    · simp only [Option.some.injEq, Prod.mk.injEq] at h
      exact ⟨v, t, rfl, h.1.symm, h.2.1.symm, h.2.2.symm, by assumption⟩
    · cases h
  · cases h
theorem i_dup2 {lo lo' : sL} {st st' : List sV} {μ μ' : sM} (h : e_dup2 lo st μ = some (lo', st', μ')) : ∃ v w t, st = v :: w :: t ∧ lo' = lo ∧ st' = v :: w :: v :: w :: t ∧ μ' = μ ∧ ct2 v = false ∧ ct2 w = false := by
  unfold e_dup2 at h
  split at h
  · rename_i v w t
    split at h
    · rename_i hc
      simp only [Option.some.injEq, Prod.mk.injEq] at h
      exact ⟨v, w, t, rfl, h.1.symm, h.2.1.symm, h.2.2.symm, hc.1, hc.2⟩
    · cases h
  · cases h
theorem ct1 {E : sE} {v : sV} (h : ct2 v = false) : (gm E v).category = 1 := by
  rcases v with x | x | q
  · rfl
  · cases h
  · rfl
theorem i_iald {b : Nat} {lo lo' : sL} {st st' : List sV} {μ μ' : sM} (h : e_iald b lo st μ = some (lo', st', μ')) : ∃ i q t, st = .inl i :: .inr (.inr q) :: t ∧ lo' = lo ∧ st' = .inl (rI μ q.1 q.2 (ix i)) :: t ∧ μ' = μ ∧ kar q.1 = b ∧ inb i (kln q.1) = true := by
  unfold e_iald at h
  split at h
  · rename_i i q t
    split at h
    · split at h
      · simp only [Option.some.injEq, Prod.mk.injEq] at h
        exact ⟨i, q, t, rfl, h.1.symm, h.2.1.symm, h.2.2.symm, by assumption, by assumption⟩
      · cases h
    · cases h
  · cases h
theorem i_lald {lo lo' : sL} {st st' : List sV} {μ μ' : sM} (h : e_lald lo st μ = some (lo', st', μ')) : ∃ i q t, st = .inl i :: .inr (.inr q) :: t ∧ lo' = lo ∧ st' = .inr (.inl (rL μ q.1 q.2 (ix i))) :: t ∧ μ' = μ ∧ kar q.1 = 2 ∧ inb i (kln q.1) = true := by
  unfold e_lald at h
  split at h
  · rename_i i q t
    split at h
    · split at h
      · simp only [Option.some.injEq, Prod.mk.injEq] at h
        exact ⟨i, q, t, rfl, h.1.symm, h.2.1.symm, h.2.2.symm, by assumption, by assumption⟩
      · cases h
    · cases h
  · cases h
theorem i_aald {lo lo' : sL} {st st' : List sV} {μ μ' : sM} (h : e_aald lo st μ = some (lo', st', μ')) : ∃ i q t, st = .inl i :: .inr (.inr q) :: t ∧ lo' = lo ∧ st' = .inr (.inr ((kae q.1).1, (kae q.1).2 + ix i)) :: t ∧ μ' = μ ∧ kar q.1 = 4 ∧ inb i (kln q.1) = true := by
  unfold e_aald at h
  split at h
  · rename_i i q t
    split at h
    · split at h
      · simp only [Option.some.injEq, Prod.mk.injEq] at h
        exact ⟨i, q, t, rfl, h.1.symm, h.2.1.symm, h.2.2.symm, by assumption, by assumption⟩
      · cases h
    · cases h
  · cases h
theorem i_iast {b : Nat} {f : Int32 → Int32} {lo lo' : sL} {st st' : List sV} {μ μ' : sM} (h : e_iast b f lo st μ = some (lo', st', μ')) : ∃ x i q t, st = .inl x :: .inl i :: .inr (.inr q) :: t ∧ lo' = lo ∧ st' = t ∧ μ' = wI μ q.1 q.2 (ix i) (f x) ∧ kar q.1 = b ∧ inb i (kln q.1) = true := by
  unfold e_iast at h
  split at h
  · rename_i x i q t
    split at h
    · split at h
      · simp only [Option.some.injEq, Prod.mk.injEq] at h
        exact ⟨x, i, q, t, rfl, h.1.symm, h.2.1.symm, h.2.2.symm, by assumption, by assumption⟩
      · cases h
    · cases h
  · cases h
theorem i_last {lo lo' : sL} {st st' : List sV} {μ μ' : sM} (h : e_last lo st μ = some (lo', st', μ')) : ∃ x i q t, st = .inr (.inl x) :: .inl i :: .inr (.inr q) :: t ∧ lo' = lo ∧ st' = t ∧ μ' = wL μ q.1 q.2 (ix i) x ∧ kar q.1 = 2 ∧ inb i (kln q.1) = true := by
  unfold e_last at h
  split at h
  · rename_i x i q t
    split at h
    · split at h
      · simp only [Option.some.injEq, Prod.mk.injEq] at h
        exact ⟨x, i, q, t, rfl, h.1.symm, h.2.1.symm, h.2.2.symm, by assumption, by assumption⟩
      · cases h
    · cases h
  · cases h
/-! reads and writes of cells -/
theorem kar_0 {k b : Nat} (h : kar k = b) (hb : b ≠ 0) : k ≠ 0 := fun q => hb (by rw [← h, q]; rfl)
theorem sl_ref {q : Nat × Nat} (h : slv (.inr (.inr q))) (hk : q.1 ≠ 0) : q.2 < kni q.1 := h.elim id (fun e => absurd e hk)
theorem sad_ne {E : sE} {q : Nat × Nat} (hk : q.1 ≠ 0) : sad E q = (eS E).heap.size + kof q.1 q.2 := if_neg hk
theorem sK_at {E : sE} {s : State} (hE : sEn E) (hw : (eS E).WarmedH s.vm) : va_K (eD E) vwCl (tys E) s := hE.1.moved hw.alike
theorem low_of {E : sE} {s : State} {H1 : Heap} {locs : List Loc} (hlow : ∀ q : Nat, q < (eS E).heap.size → s.heap[q]? = (eS E).heap[q]?) (hsz : (eS E).heap.size ≤ s.heap.size) (hS : va_S (sA E) s.heap H1 locs) : ∀ q : Nat, q < (eS E).heap.size → H1[q]? = (eS E).heap[q]? := fun q hq => by
  rw [hS.2.1 q (by omega) (Nat.not_le.mpr hq)]
  exact hlow q hq
theorem ent_i {E : sE} {μ : sM} {q : Nat × Nat} (h : kar q.1 = 1) : ent E μ q = .inl (eT E 0, kln q.1, .inl (rI μ q.1 q.2)) := by
  unfold ent
  rw [h]
  rfl
theorem ent_l {E : sE} {μ : sM} {q : Nat × Nat} (h : kar q.1 = 2) : ent E μ q = .inl (eT E 1, kln q.1, .inr (.inl (rL μ q.1 q.2))) := by
  unfold ent
  rw [h]
  rfl
theorem ent_b {E : sE} {μ : sM} {q : Nat × Nat} (h : kar q.1 = 3) : ent E μ q = .inl (eT E 2, kln q.1, .inl (rI μ q.1 q.2)) := by
  unfold ent
  rw [h]
  rfl
theorem ent_a {E : sE} {μ : sM} {q : Nat × Nat} (h : kar q.1 = 4) : ent E μ q = .inl (eT E (kat q.1), kln q.1, .inr (.inr (.inr (.inr (fun j => some (sad E ((kae q.1).1, (kae q.1).2 + j))))))) := by
  unfold ent
  rw [h]
  rfl
theorem kar_o : ∀ n, n < 13 → kar (n + 1) = 0 := by decide +kernel
theorem ent_o {E : sE} {μ : sM} {q : Nat × Nat} {n : Nat} (hn : n < 13) (h : q.1 = n + 1) : ent E μ q = .inr (n, (List.range (knf (n + 1))).map (fval E μ q.1 q.2)) := by
  unfold ent
  rw [show kar q.1 = 0 by rw [h]; exact kar_o n hn, h]
  rfl
theorem wI_upd (μ : sM) (k i j : Nat) (v : Int32) : rI (wI μ k i j v) k i = upd (rI μ k i) j v := by
  funext c
  unfold upd
  rw [rI_wI]
  by_cases h : c = j
  · rw [if_pos ⟨rfl, h, rfl⟩, if_pos h]
  · rw [if_neg (fun q => h q.2.1), if_neg h]
theorem wL_upd (μ : sM) (k i j : Nat) (v : Int64) : rL (wL μ k i j v) k i = vp_updL (rL μ k i) j v := by
  funext c
  unfold vp_updL
  rw [rL_wL]
  by_cases h : c = j
  · rw [if_pos ⟨rfl, h, rfl⟩, if_pos h]
  · rw [if_neg (fun q => h q.2.1), if_neg h]
theorem wI_ne {μ : sM} {k i j : Nat} {v : Int32} (a b c : Nat) (h : (a, b) ≠ (k, i)) : rI (wI μ k i j v) a b c = rI μ a b c := by
  rw [rI_wI, if_neg (fun q => pair_ne h ⟨q.1, q.2.2⟩)]
theorem wL_ne {μ : sM} {k i j : Nat} {v : Int64} (a b c : Nat) (h : (a, b) ≠ (k, i)) : rL (wL μ k i j v) a b c = rL μ a b c := by
  rw [rL_wL, if_neg (fun q => pair_ne h ⟨q.1, q.2.2⟩)]
theorem wR_ne {μ : sM} {k i j : Nat} {v : Nat} (a b c : Nat) (h : (a, b) ≠ (k, i)) : rR (wR μ k i j v) a b c = rR μ a b c := by
  rw [rR_wR, if_neg (fun q => pair_ne h ⟨q.1, q.2.2⟩)]
theorem sW_iast {E : sE} {μ : sM} {H H1 : Heap} {q : Nat × Nat} {j : Nat} {v : Int32} {cA : ClassId} (hW : sW E μ H) (h : q.2 < kni q.1) (he : ∀ ν : sM, ent E ν q = .inl (cA, kln q.1, .inl (rI ν q.1 q.2)))
    (hP : va_P (eD E) vwCl ((wld E μ).set (kof q.1 q.2) ((eS E).heap.size + kof q.1 q.2, .inl (cA, kln q.1, .inl (upd (rI μ q.1 q.2) j v)))) H1) (hlow : ∀ q : Nat, q < (eS E).heap.size → H1[q]? = (eS E).heap[q]?) : sW E (wI μ q.1 q.2 j v) H1 :=
  sW_put hW h hP (by rw [he, wI_upd]) wI_ne (fun _ _ _ _ => rfl) (fun _ _ _ _ => rfl) hlow (fun k i j n a b => hW.2.2.2 k i j n a b)
theorem sW_last {E : sE} {μ : sM} {H H1 : Heap} {q : Nat × Nat} {j : Nat} {v : Int64} {cA : ClassId} (hW : sW E μ H) (h : q.2 < kni q.1) (he : ∀ ν : sM, ent E ν q = .inl (cA, kln q.1, .inr (.inl (rL ν q.1 q.2))))
    (hP : va_P (eD E) vwCl ((wld E μ).set (kof q.1 q.2) ((eS E).heap.size + kof q.1 q.2, .inl (cA, kln q.1, .inr (.inl (vp_updL (rL μ q.1 q.2) j v))))) H1) (hlow : ∀ q : Nat, q < (eS E).heap.size → H1[q]? = (eS E).heap[q]?) : sW E (wL μ q.1 q.2 j v) H1 :=
  sW_put hW h hP (by rw [he, wL_upd]) (fun _ _ _ _ => rfl) wL_ne (fun _ _ _ _ => rfl) hlow (fun k i j n a b => hW.2.2.2 k i j n a b)
/-- an object behind a change of one field -/
theorem sW_field {E : sE} {μ μ' : sM} {H H1 : Heap} {q : Nat × Nat} {n j : Nat} {v : Value} (hW : sW E μ H) (h : q.2 < kni q.1) (hn : n < 13) (hq : q.1 = n + 1)
    (hP : va_P (eD E) vwCl ((wld E μ).set (kof q.1 q.2) ((eS E).heap.size + kof q.1 q.2, .inr (n, ((List.range (knf (n + 1))).map (fval E μ q.1 q.2)).set j v))) H1) (hv : fval E μ' q.1 q.2 j = v)
    (hI : ∀ a b c, ¬ (a = q.1 ∧ c = j ∧ b = q.2) → rI μ' a b c = rI μ a b c) (hL : ∀ a b c, ¬ (a = q.1 ∧ c = j ∧ b = q.2) → rL μ' a b c = rL μ a b c) (hR : ∀ a b c, ¬ (a = q.1 ∧ c = j ∧ b = q.2) → rR μ' a b c = rR μ a b c)
    (hlow : ∀ q : Nat, q < (eS E).heap.size → H1[q]? = (eS E).heap[q]?) (hf : sRf μ') : sW E μ' H1 := by
  refine sW_put hW h hP ?_ (fun a b c hab => hI a b c (fun z => pair_ne hab ⟨z.1, z.2.2⟩)) (fun a b c hab => hL a b c (fun z => pair_ne hab ⟨z.1, z.2.2⟩)) (fun a b c hab => hR a b c (fun z => pair_ne hab ⟨z.1, z.2.2⟩)) hlow hf
  rw [ent_o hn hq]
  rw [rng_set hv (f := fval E μ q.1 q.2)]
  intro m hm
  exact fval_ne E (hI _ _ _ (fun z => hm z.2.1)) (hL _ _ _ (fun z => hm z.2.1)) (hR _ _ _ (fun z => hm z.2.1))
theorem rng_at {N j : Nat} {f : Nat → Value} (h : j < N) : ((List.range N).map f)[j]? = some (f j) := by
  rw [List.getElem?_map, List.getElem?_range h]
  rfl
theorem kft_lt {k s : Nat} (h : ¬ kft k s = 9) : s < 60 := by
  rcases Nat.lt_or_ge s 60 with q | q
  · exact q
  · exact absurd (kft_big k s q) h
theorem kFL_any {own k ci sl : Nat} (h : kFL.any (fun r => r.2.1 == own && (r.2.2.1 == k && (r.2.2.2.1 == ci && r.2.2.2.2 == sl))) = true) : Cond.fieldLink (kRn own) k (kRn ci) (kTt ci sl).2.1 (kTt ci sl).2.2.1 ∈ sT ∧ ci < 13 ∧ sl < knf (ci + 1) := by
  obtain ⟨r, hr, h1⟩ := List.any_eq_true.mp h
  simp only [Bool.and_eq_true, beq_iff_eq] at h1
  obtain ⟨a1, a2, a3, a4⟩ := h1
  have h2 := kFLok r hr
  rw [a1, a2, a3, a4] at h2
  exact ⟨sT_in h2.1 rfl, h2.2⟩
end
section
/-! 07: one straight step, whole -/
theorem i_get {ci sl : Nat} {lo lo' : sL} {st st' : List sV} {μ μ' : sM} (h : e_get ci sl lo st μ = some (lo', st', μ')) : ∃ q t v, st = .inr (.inr q) :: t ∧ q.1 = ci + 1 ∧ lo' = lo ∧ μ' = μ ∧ st' = v :: t ∧
    (((kft q.1 sl = 0 ∨ kft q.1 sl = 4) ∧ v = .inl (rI μ q.1 q.2 sl)) ∨ (kft q.1 sl = 1 ∧ v = .inr (.inl (rL μ q.1 q.2 sl))) ∨ (kft q.1 sl = 2 ∧ v = .inr (.inr (kfd q.1 sl q.2)))) := by
  unfold e_get at h
  split at h
  · rename_i q t
    split at h
    · rename_i hq
      split at h
      · rename_i hk
        simp only [Option.some.injEq, Prod.mk.injEq] at h
        exact ⟨q, t, _, rfl, hq, h.1.symm, h.2.2.symm, h.2.1.symm, Or.inl ⟨Or.inl hk, rfl⟩⟩
      · rename_i hk
        simp only [Option.some.injEq, Prod.mk.injEq] at h
        exact ⟨q, t, _, rfl, hq, h.1.symm, h.2.2.symm, h.2.1.symm, Or.inl ⟨Or.inr hk, rfl⟩⟩
      · rename_i hk
        simp only [Option.some.injEq, Prod.mk.injEq] at h
        exact ⟨q, t, _, rfl, hq, h.1.symm, h.2.2.symm, h.2.1.symm, Or.inr (Or.inl ⟨hk, rfl⟩)⟩
      · rename_i hk
        simp only [Option.some.injEq, Prod.mk.injEq] at h
        exact ⟨q, t, _, rfl, hq, h.1.symm, h.2.2.symm, h.2.1.symm, Or.inr (Or.inr ⟨hk, rfl⟩)⟩
      · cases h
    · cases h
  · cases h
theorem i_put {ci sl : Nat} {lo lo' : sL} {st st' : List sV} {μ μ' : sM} (h : e_put ci sl lo st μ = some (lo', st', μ')) : ∃ q t v, st = v :: .inr (.inr q) :: t ∧ q.1 = ci + 1 ∧ lo' = lo ∧ st' = t ∧
    ((∃ x, v = .inl x ∧ (kft q.1 sl = 0 ∨ (kft q.1 sl = 4 ∧ (x = 0 ∨ x = 1))) ∧ μ' = wI μ q.1 q.2 sl x) ∨ (∃ x, v = .inr (.inl x) ∧ kft q.1 sl = 1 ∧ μ' = wL μ q.1 q.2 sl x) ∨ (∃ x : Nat × Nat, v = .inr (.inr x) ∧ kft q.1 sl = 3 ∧ x.1 = (kfr q.1 sl).1 ∧ x.1 ≠ 0 ∧ μ' = wR μ q.1 q.2 sl (x.2 + 1))) := by
  unfold e_put at h
  split at h
  · rename_i x q t
    split at h
    · rename_i hq
      split at h
      · rename_i hk
        simp only [Option.some.injEq, Prod.mk.injEq] at h
        exact ⟨q, t, _, rfl, hq, h.1.symm, h.2.1.symm, Or.inl ⟨x, rfl, Or.inl hk, h.2.2.symm⟩⟩
      · rename_i hk
        split at h
        · rename_i hx
          simp only [Option.some.injEq, Prod.mk.injEq] at h
          exact ⟨q, t, _, rfl, hq, h.1.symm, h.2.1.symm, Or.inl ⟨x, rfl, Or.inr ⟨hk, hx⟩, h.2.2.symm⟩⟩
        · cases h
      · cases h
    · cases h
  · rename_i x q t
    split at h
    · rename_i hq
      split at h
      · rename_i hk
        simp only [Option.some.injEq, Prod.mk.injEq] at h
        exact ⟨q, t, _, rfl, hq, h.1.symm, h.2.1.symm, Or.inr (Or.inl ⟨x, rfl, hk, h.2.2.symm⟩)⟩
      · cases h
    · cases h
  · rename_i x q t
    split at h
    · rename_i hq
      split at h
      · rename_i hk
        split at h
        · rename_i hx
          simp only [Option.some.injEq, Prod.mk.injEq] at h
          exact ⟨q, t, _, rfl, hq, h.1.symm, h.2.1.symm, Or.inr (Or.inr ⟨x, rfl, hk, hx.1, hx.2, h.2.2.symm⟩)⟩
        · cases h
      · cases h
    · cases h
  · cases h
theorem ftc0 {t : FieldType} (h : ftc t = 0) : t = .int := by cases t <;> simp_all [ftc]
theorem ftc1 {t : FieldType} (h : ftc t = 1) : t = .long := by cases t <;> simp_all [ftc]
theorem ftc4 {t : FieldType} (h : ftc t = 4) : t = .boolean := by cases t <;> simp_all [ftc]
theorem ftc3 {t : FieldType} (h : ftc t = 3) : ∃ n, t = .object n := by cases t <;> simp_all [ftc]
theorem kft_c {ci sl a : Nat} (hn : ci < 13) (hs : sl < knf (ci + 1)) (h : kft (ci + 1) sl = a) (ha : a ≠ 2) : (kTt ci sl).2.2.2 = false ∧ ftc (kTy ci sl) = a := by
  rcases (kfc ci hn sl hs).2 with q | q
  · exact absurd (h.symm.trans q) ha
  · exact ⟨q.1, by rw [← q.2, h]⟩
section S1
variable {own : Nat} {cc : ByteArray} {nL d : Nat} {bl : Bool} {pc : Nat} {lo lo' : sL} {st st' : List sV} {μ μ' : sM} {o : Option (Option sV × sM)}
variable {E : sE} {p : Program} {l : Launch} {e : Env} {R : Room} {s : State} {m : MethodId} {args : Array Value} {below : List Frame} {meth : Method} {c : Code} {cells slots : Nat} {Q : State → Prop} {H : Heap} {locs : List Loc} {ls : Array Slot}
theorem cell_o {q : Nat × Nat} {ci : Nat} (hn : ci < 13) (hq : q.1 = ci + 1) (hl : q.2 < kni q.1) : (wld E μ)[kof q.1 q.2]? = some (sad E q, .inr (ci, (List.range (knf (ci + 1))).map (fval E μ q.1 q.2))) := by
  rw [wld_at E μ hl, ent_o hn hq, sad_ne (by omega)]
theorem w_get {ci sl idx : Nat} (hE : sEn E) (C : sCx E p s m args c own cc nL) (A : sAt E nL s lo st μ H locs ls) (hd : decode cc pc = .ok (.getfield idx, 3)) (ha : kFL.any (fun r => r.2.1 == own && (r.2.2.1 == idx && (r.2.2.2.1 == ci && r.2.2.2.2 == sl))) = true)
    (he : e_get ci sl lo st μ = some (lo', st', μ')) (K : ∀ (H : Heap) (locs : List Loc) (ls : Array Slot), sAt E nL s lo' st' μ' H locs ls → W p l e R s m args below meth c H locs cells slots Q (F0 m (pc + 3) ls (st'.map (gm E)))) :
    W p l e R s m args below meth c H locs cells slots Q (F0 m pc ls (st.map (gm E))) := by
  obtain ⟨hx, hcc, hml, hown, hts, hwm, hlow, hsz⟩ := C
  obtain ⟨hW, hS, hst, hlo, hls⟩ := A
  obtain ⟨hlink, hn, hsl⟩ := kFL_any ha
  obtain ⟨q, t, v, rfl, hq, rfl, rfl, rfl, hv⟩ := i_get he
  have hl : q.2 < kni q.1 := sl_ref (sl_head hst) (by omega)
  have hg : gm E v = fval E μ' q.1 q.2 sl := by
    unfold fval
    rcases hv with ⟨hk | hk, rfl⟩ | ⟨hk, rfl⟩ | ⟨hk, rfl⟩ <;> rw [hk] <;> rfl
  have hk80 : q.1 < 80 := by omega
  have hsv : slv v := by
    rcases hv with ⟨-, rfl⟩ | ⟨-, rfl⟩ | ⟨hk, rfl⟩
    · trivial
    · trivial
    · exact Or.inl (kfdl q.1 hk80 sl (kft_lt (by rw [hk]; decide)) hk q.2 hl)
  have Kf := K H locs ls ⟨hW, hS, sl_cons hsv (sl_tail hst), hlo, hls⟩
  rw [List.map_cons, hg] at Kf
  exact va_get hx hcc hts (kU ci hn) hown (sK_at hE hwm) hW.1 (kof q.1 q.2) (cell_o hn hq hl) (kcl ci hn) sl hsl (hts _ hlink) (fun x h => by rw [(kfc ci hn sl hsl).1] at h; exact h) (rng_at hsl) hd Kf
theorem w_put {ci sl idx : Nat} (hE : sEn E) (C : sCx E p s m args c own cc nL) (A : sAt E nL s lo st μ H locs ls) (hd : decode cc pc = .ok (.putfield idx, 3)) (ha : kFL.any (fun r => r.2.1 == own && (r.2.2.1 == idx && (r.2.2.2.1 == ci && r.2.2.2.2 == sl))) = true)
    (he : e_put ci sl lo st μ = some (lo', st', μ')) (K : ∀ (H : Heap) (locs : List Loc) (ls : Array Slot), sAt E nL s lo' st' μ' H locs ls → W p l e R s m args below meth c H locs cells slots Q (F0 m (pc + 3) ls (st'.map (gm E)))) :
    W p l e R s m args below meth c H locs cells slots Q (F0 m pc ls (st.map (gm E))) := by
  obtain ⟨hx, hcc, hml, hown, hts, hwm, hlow, hsz⟩ := C
  obtain ⟨hW, hS, hst, hlo, hls⟩ := A
  obtain ⟨hlink, hn, hsl⟩ := kFL_any ha
  obtain ⟨q, t, v, rfl, hq, rfl, rfl, hv⟩ := i_put he
  have hl : q.2 < kni q.1 := sl_ref (sl_head (sl_tail hst)) (by omega)
  have hty : (kTt ci sl).2.2.2 = false ∧ narrow (kTy ci sl) (gm E v) = gm E v ∧ fits (kTy ci sl) (gm E v) = true := by
    rcases hv with ⟨x, rfl, hk | ⟨hk, hx⟩, -⟩ | ⟨x, rfl, hk, -⟩ | ⟨x, rfl, hk, -, -, -⟩ <;> rw [hq] at hk
    · obtain ⟨a, b⟩ := kft_c hn hsl hk (by decide)
      rw [ftc0 b]
      exact ⟨a, vp_nar_int x, rfl⟩
    · obtain ⟨a, b⟩ := kft_c hn hsl hk (by decide)
      rw [ftc4 b]
      rcases hx with rfl | rfl
      · exact ⟨a, (by decide +kernel : narrow FieldType.boolean (.int 0) = .int 0), (by decide +kernel : fits FieldType.boolean (.int 0) = true)⟩
      · exact ⟨a, (by decide +kernel : narrow FieldType.boolean (.int 1) = .int 1), (by decide +kernel : fits FieldType.boolean (.int 1) = true)⟩
    · obtain ⟨a, b⟩ := kft_c hn hsl hk (by decide)
      rw [ftc1 b]
      exact ⟨a, rfl, rfl⟩
    · obtain ⟨a, b⟩ := kft_c hn hsl hk (by decide)
      obtain ⟨n, hn'⟩ := ftc3 b
      rw [hn']
      exact ⟨a, rfl, rfl⟩
  refine va_put hx hcc hts (kU ci hn) (kTy ci) (kty ci hn) (knm ci hn) hown (sK_at hE hwm) hW.1 (wld_D E μ) hS (kof q.1 q.2) (cell_o hn hq hl) (kcl ci hn) sl hsl (hts _ hlink) (fun x h => by rw [(kfc ci hn sl hsl).1] at h; exact h) hty.1 (kty ci hn sl hsl) hty.2.1 hty.2.2 (by simpa using hsl) hd ?_
  intro H1 locs1 hP1 hD1 hS1
  have hlow1 := low_of hlow hsz hS1
  rw [sad_ne (by omega)] at hP1
  refine K H1 locs1 ls ⟨?_, hS1, sl_tail (sl_tail hst), hlo, hls⟩
  rcases hv with ⟨x, rfl, hk, rfl⟩ | ⟨x, rfl, hk, rfl⟩ | ⟨x, rfl, hk, hx1, hx0, rfl⟩
  · refine sW_field hW hl hn hq hP1 ?_ (fun a b c h => by rw [rI_wI, if_neg h]) (fun _ _ _ _ => rfl) (fun _ _ _ _ => rfl) hlow1 (fun k i j n a b => hW.2.2.2 k i j n a b)
    unfold fval
    rcases hk with hk | ⟨hk, -⟩ <;> rw [hk] <;> (show Value.int (rI _ _ _ _) = _; rw [rI_wI, if_pos ⟨rfl, rfl, rfl⟩]; rfl)
  · refine sW_field hW hl hn hq hP1 ?_ (fun _ _ _ _ => rfl) (fun a b c h => by rw [rL_wL, if_neg h]) (fun _ _ _ _ => rfl) hlow1 (fun k i j n a b => hW.2.2.2 k i j n a b)
    unfold fval
    rw [hk]
    show Value.long (rL _ _ _ _) = _
    rw [rL_wL, if_pos ⟨rfl, rfl, rfl⟩]
    rfl
  · refine sW_field hW hl hn hq hP1 ?_ (fun _ _ _ _ => rfl) (fun _ _ _ _ => rfl) (fun a b c h => by rw [rR_wR, if_neg h]) hlow1 ?_
    · unfold fval
      rw [hk]
      show (match rR _ _ _ _ with
        | 0 => Value.null
        | n + 1 => Value.ref (sad E ((kfr q.1 sl).1, n))) = _
      rw [rR_wR, if_pos ⟨rfl, rfl, rfl⟩, ← hx1]
      rfl
    · intro k i j n a b
      rw [rR_wR] at b
      by_cases z : k = q.1 ∧ j = sl ∧ i = q.2
      · rw [if_pos z] at b
        rw [z.1, z.2.1, ← hx1, show n = x.2 by omega]
        exact sl_ref (sl_head hst) hx0
      · rw [if_neg z] at b
        exact hW.2.2.2 k i j n a b
theorem w_ald {bb t0 : Nat} {cA : ClassId} {ins : Instr} {ty : FieldType} (A : sAt E nL s lo st μ H locs ls) (he : e_iald bb lo st μ = some (lo', st', μ')) (hb : bb ≠ 0) (hent : ∀ q : Nat × Nat, kar q.1 = bb → ent E μ q = .inl (cA, kln q.1, .inl (rI μ q.1 q.2)))
    (row : ∀ (q0 a n : Nat) (f : Nat → Int32) (i : Int32) (rest : List Value), (wld E μ)[q0]? = some (a, .inl (cA, n, .inl f)) → vp_in i n → W p l e R s m args below meth c H locs cells slots Q (F0 m (pc + 1) ls (.int (f i.toNatClampNeg) :: rest)) → W p l e R s m args below meth c H locs cells slots Q (F0 m pc ls (.int i :: .ref a :: rest)))
    (K : ∀ (H : Heap) (locs : List Loc) (ls : Array Slot), sAt E nL s lo' st' μ' H locs ls → W p l e R s m args below meth c H locs cells slots Q (F0 m (pc + 1) ls (st'.map (gm E)))) :
    W p l e R s m args below meth c H locs cells slots Q (F0 m pc ls (st.map (gm E))) := by
  obtain ⟨hW, hS, hst, hlo, hls⟩ := A
  obtain ⟨i, q, t, rfl, rfl, rfl, rfl, hk, hi⟩ := i_iald he
  have hk0 := kar_0 hk hb
  have hl : q.2 < kni q.1 := sl_ref (sl_head (sl_tail hst)) hk0
  refine row (kof q.1 q.2) (sad E q) (kln q.1) (rI μ' q.1 q.2) i _ ?_ (inb_in hi) (K H locs ls ⟨hW, hS, sl_cons trivial (sl_tail (sl_tail hst)), hlo, hls⟩)
  rw [wld_at E μ' hl, hent q hk, sad_ne hk0]
theorem w_ast {bb : Nat} {f : Int32 → Int32} {cA : ClassId} (C : sCx E p s m args c own cc nL) (A : sAt E nL s lo st μ H locs ls) (he : e_iast bb f lo st μ = some (lo', st', μ')) (hb : bb ≠ 0) (hent : ∀ (ν : sM) (q : Nat × Nat), kar q.1 = bb → ent E ν q = .inl (cA, kln q.1, .inl (rI ν q.1 q.2)))
    (row : ∀ (q0 a n : Nat) (g : Nat → Int32) (i x : Int32) (rest : List Value), (wld E μ)[q0]? = some (a, .inl (cA, n, .inl g)) → vp_in i n → (∀ (H1 : Heap) (locs1 : List Loc), va_P (eD E) vwCl ((wld E μ).set q0 (a, .inl (cA, n, .inl (upd g i.toNatClampNeg (f x))))) H1 → va_S (sA E) s.heap H1 locs1 → W p l e R s m args below meth c H1 locs1 cells slots Q (F0 m (pc + 1) ls rest)) → W p l e R s m args below meth c H locs cells slots Q (F0 m pc ls (.int x :: .int i :: .ref a :: rest)))
    (K : ∀ (H : Heap) (locs : List Loc) (ls : Array Slot), sAt E nL s lo' st' μ' H locs ls → W p l e R s m args below meth c H locs cells slots Q (F0 m (pc + 1) ls (st'.map (gm E)))) :
    W p l e R s m args below meth c H locs cells slots Q (F0 m pc ls (st.map (gm E))) := by
  obtain ⟨hx, hcc, hml, hown, hts, hwm, hlow, hsz⟩ := C
  obtain ⟨hW, hS, hst, hlo, hls⟩ := A
  obtain ⟨x, i, q, t, rfl, rfl, rfl, rfl, hk, hi⟩ := i_iast he
  have hk0 := kar_0 hk hb
  have hl : q.2 < kni q.1 := sl_ref (sl_head (sl_tail (sl_tail hst))) hk0
  refine row (kof q.1 q.2) (sad E q) (kln q.1) (rI μ q.1 q.2) i x _ ?_ (inb_in hi) ?_
  · rw [wld_at E μ hl, hent μ q hk, sad_ne hk0]
  · intro H1 locs1 hP1 hS1
    rw [sad_ne hk0] at hP1
    exact K H1 locs1 ls ⟨sW_iast hW hl (fun ν => hent ν q hk) hP1 (low_of hlow hsz hS1), hS1, sl_tail (sl_tail (sl_tail hst)), hlo, hls⟩
theorem tys_at (k : Nat) : ∃ ty : FieldType, (tys E)[kat k]? = some (eT E (kat k), ty) ∧ ty.isReference = true := by
  unfold kat
  split
  · exact ⟨_, rfl, rfl⟩
  · split
    · exact ⟨_, rfl, rfl⟩
    · exact ⟨_, rfl, rfl⟩
end S1
end
section
/-! 08: s1, and blocks -/
theorem kCI_any {own k : Nat} {x : Int32} (h : kCI.any (fun r => r.2.1 == own && (r.2.2.1 == k && decide (r.2.2.2 = x))) = true) : Cond.constant (kRn own) k x ∈ sT := by
  obtain ⟨r, hr, h1⟩ := List.any_eq_true.mp h
  simp only [Bool.and_eq_true, beq_iff_eq, decide_eq_true_eq] at h1
  obtain ⟨a1, a2, a3⟩ := h1
  have h2 := kCIok r hr
  rw [a1, a2, a3] at h2
  exact sT_in h2 rfl
theorem kCL_any {own k : Nat} {x : Int64} (h : kCL.any (fun r => r.2.1 == own && (r.2.2.1 == k && decide (r.2.2.2 = x))) = true) : Cond.constantLong (kRn own) k x ∈ sT := by
  obtain ⟨r, hr, h1⟩ := List.any_eq_true.mp h
  simp only [Bool.and_eq_true, beq_iff_eq, decide_eq_true_eq] at h1
  obtain ⟨a1, a2, a3⟩ := h1
  have h2 := kCLok r hr
  rw [a1, a2, a3] at h2
  exact sT_in h2 rfl
set_option maxHeartbeats 4000000 in
theorem s1 {own : Nat} {cc : ByteArray} {nL d : Nat} {bl : Bool} {pc : Nat} {q : sO} {lo lo' : sL} {st st' : List sV} {μ μ' : sM} {o : Option (Option sV × sM)} (hb : bk1 cc own pc q = true) (he : ev1 nL q lo st μ = some (lo', st', μ'))
    (k : sOk own cc nL d bl (pc + iln q.1) lo' st' μ' o) : sOk own cc nL d bl pc lo st μ o := by
  intro r ρ ho E p l e R s m args below meth c cells slots Q G H locs ls A
  have K := k r ρ ho E p l e R s m args below meth c cells slots Q G
  obtain ⟨hE, C, hR, -⟩ := G
  unfold bk1 at hb
  rw [Bool.and_eq_true] at hb
  obtain ⟨hd, ha⟩ := hb
  have hd := of_decide_eq_true hd
  obtain ⟨ins, ci, sl, ic, lc⟩ := q
  have C' := C
  have A' := A
  obtain ⟨hx, hcc, hml, hown, hts, hwm, hlow, hsz⟩ := C
  obtain ⟨hW, hS, hst, hlo, hls⟩ := A
  have hK := sK_at hE hwm
  cases ins with
  | iload_n n =>
    obtain ⟨x, h1, rfl, rfl, rfl⟩ := i_il he
    exact lv_iload_n hx hcc hd rfl (lk_at hls h1) (K H locs ls ⟨hW, hS, sl_cons trivial hst, hlo, hls⟩)
  | iload n =>
    obtain ⟨x, h1, rfl, rfl, rfl⟩ := i_il he
    exact lv_iload hx hcc hd (lk_at hls h1) (K H locs ls ⟨hW, hS, sl_cons trivial hst, hlo, hls⟩)
  | lload_n n =>
    obtain ⟨x, h1, rfl, rfl, rfl⟩ := i_ll he
    exact lv_lload_n hx hcc hd rfl (lk_at hls h1) (K H locs ls ⟨hW, hS, sl_cons trivial hst, hlo, hls⟩)
  | lload n =>
    obtain ⟨x, h1, rfl, rfl, rfl⟩ := i_ll he
    exact lv_lload hx hcc hd (lk_at hls h1) (K H locs ls ⟨hW, hS, sl_cons trivial hst, hlo, hls⟩)
  | aload_n n =>
    obtain ⟨x, h1, rfl, rfl, rfl⟩ := i_al he
    exact lv_aload_n hx hcc hd rfl (lk_at hls h1) (K H locs ls ⟨hW, hS, sl_cons (hlo _ (lk_mem h1)) hst, hlo, hls⟩)
  | aload n =>
    obtain ⟨x, h1, rfl, rfl, rfl⟩ := i_al he
    exact lv_aload hx hcc hd (lk_at hls h1) (K H locs ls ⟨hW, hS, sl_cons (hlo _ (lk_mem h1)) hst, hlo, hls⟩)
  | istore_n n =>
    obtain ⟨x, rfl, rfl, rfl, hn⟩ := i_is he
    exact lv_istore_n hx hcc hd rfl hls hn (ls1_gm E n.val (.inl x) lo) (fun ls1 h1 => K H locs ls1 ⟨hW, hS, sl_tail hst, sl_ls1 trivial hlo, h1⟩)
  | istore n =>
    obtain ⟨x, rfl, rfl, rfl, hn⟩ := i_is he
    exact lv_istore hx hcc hd hls hn (ls1_gm E n (.inl x) lo) (fun ls1 h1 => K H locs ls1 ⟨hW, hS, sl_tail hst, sl_ls1 trivial hlo, h1⟩)
  | lstore_n n =>
    obtain ⟨x, rfl, rfl, rfl, hn⟩ := i_ls he
    exact lv_lstore_n hx hcc hd rfl hls hn (ls2_gm E n.val (.inr (.inl x)) lo) (fun ls1 h1 => K H locs ls1 ⟨hW, hS, sl_tail hst, sl_ls2 trivial hlo, h1⟩)
  | lstore n =>
    obtain ⟨x, rfl, rfl, rfl, hn⟩ := i_ls he
    exact lv_lstore hx hcc hd hls hn (ls2_gm E n (.inr (.inl x)) lo) (fun ls1 h1 => K H locs ls1 ⟨hW, hS, sl_tail hst, sl_ls2 trivial hlo, h1⟩)
  | astore_n n =>
    obtain ⟨x, rfl, rfl, rfl, hn⟩ := i_as he
    exact lv_astore_n hx hcc hd rfl hls hn (ls1_gm E n.val (.inr (.inr x)) lo) (fun ls1 h1 => K H locs ls1 ⟨hW, hS, sl_tail hst, sl_ls1 (sl_head hst) hlo, h1⟩)
  | astore n =>
    obtain ⟨x, rfl, rfl, rfl, hn⟩ := i_as he
    exact lv_astore hx hcc hd hls hn (ls1_gm E n (.inr (.inr x)) lo) (fun ls1 h1 => K H locs ls1 ⟨hW, hS, sl_tail hst, sl_ls1 (sl_head hst) hlo, h1⟩)
  | iinc i n =>
    obtain ⟨x, h1, rfl, rfl, rfl, hn⟩ := i_inc he
    obtain ⟨z, hz⟩ := lk_pl (E := E) h1
    exact lv_iinc hx hcc hd hls hz (by rw [of_decide_eq_true ha]) hn (ls1_gm E i (.inl (x + ic)) lo) (fun ls1 h1 => K H locs ls1 ⟨hW, hS, hst, sl_ls1 trivial hlo, h1⟩)
  | iconst n =>
    cases he
    exact lv_iconst hx hcc hd (of_decide_eq_true ha) (K H locs ls ⟨hW, hS, sl_cons trivial hst, hlo, hls⟩)
  | bipush n =>
    cases he
    exact lv_bipush hx hcc hd (of_decide_eq_true ha) (K H locs ls ⟨hW, hS, sl_cons trivial hst, hlo, hls⟩)
  | sipush n =>
    cases he
    exact lv_sipush hx hcc hd (of_decide_eq_true ha) (K H locs ls ⟨hW, hS, sl_cons trivial hst, hlo, hls⟩)
  | ldc n =>
    cases he
    exact lv_ldc hx hcc hown (hts _ (kCI_any ha)) hd (K H locs ls ⟨hW, hS, sl_cons trivial hst, hlo, hls⟩)
  | lconst n =>
    cases he
    exact lv_lconst hx hcc hd (of_decide_eq_true ha) (K H locs ls ⟨hW, hS, sl_cons trivial hst, hlo, hls⟩)
  | ldc2_w n =>
    cases he
    exact lv_ldc2 hx hcc hown (hts _ (kCL_any ha)) hd (K H locs ls ⟨hW, hS, sl_cons trivial hst, hlo, hls⟩)
  | iadd =>
    obtain ⟨x, y, t, rfl, rfl, rfl, rfl⟩ := i_ii he
    exact lv_iadd hx hcc hd (K H locs ls ⟨hW, hS, sl_cons trivial (sl_tail (sl_tail hst)), hlo, hls⟩)
  | isub =>
    obtain ⟨x, y, t, rfl, rfl, rfl, rfl⟩ := i_ii he
    exact lv_isub hx hcc hd (K H locs ls ⟨hW, hS, sl_cons trivial (sl_tail (sl_tail hst)), hlo, hls⟩)
  | imul =>
    obtain ⟨x, y, t, rfl, rfl, rfl, rfl⟩ := i_ii he
    exact lv_imul hx hcc hd (K H locs ls ⟨hW, hS, sl_cons trivial (sl_tail (sl_tail hst)), hlo, hls⟩)
  | iand =>
    obtain ⟨x, y, t, rfl, rfl, rfl, rfl⟩ := i_ii he
    exact lv_iand hx hcc hd (K H locs ls ⟨hW, hS, sl_cons trivial (sl_tail (sl_tail hst)), hlo, hls⟩)
  | ior =>
    obtain ⟨x, y, t, rfl, rfl, rfl, rfl⟩ := i_ii he
    exact lv_ior hx hcc hd (K H locs ls ⟨hW, hS, sl_cons trivial (sl_tail (sl_tail hst)), hlo, hls⟩)
  | ishl =>
    obtain ⟨x, y, t, rfl, rfl, rfl, rfl⟩ := i_ii he
    exact lv_ishl hx hcc hd (K H locs ls ⟨hW, hS, sl_cons trivial (sl_tail (sl_tail hst)), hlo, hls⟩)
  | ishr =>
    obtain ⟨x, y, t, rfl, rfl, rfl, rfl⟩ := i_ii he
    exact lv_ishr hx hcc hd (K H locs ls ⟨hW, hS, sl_cons trivial (sl_tail (sl_tail hst)), hlo, hls⟩)
  | idiv =>
    obtain ⟨x, y, t, rfl, rfl, rfl, rfl, hy⟩ := i_id he
    exact lv_idiv hx hcc hd hy (K H locs ls ⟨hW, hS, sl_cons trivial (sl_tail (sl_tail hst)), hlo, hls⟩)
  | irem =>
    obtain ⟨x, y, t, rfl, rfl, rfl, rfl, hy⟩ := i_id he
    exact lv_irem hx hcc hd hy (K H locs ls ⟨hW, hS, sl_cons trivial (sl_tail (sl_tail hst)), hlo, hls⟩)
  | ladd =>
    obtain ⟨x, y, t, rfl, rfl, rfl, rfl⟩ := i_lL he
    exact lv_ladd hx hcc hd (K H locs ls ⟨hW, hS, sl_cons trivial (sl_tail (sl_tail hst)), hlo, hls⟩)
  | lsub =>
    obtain ⟨x, y, t, rfl, rfl, rfl, rfl⟩ := i_lL he
    exact lv_lsub hx hcc hd (K H locs ls ⟨hW, hS, sl_cons trivial (sl_tail (sl_tail hst)), hlo, hls⟩)
  | lmul =>
    obtain ⟨x, y, t, rfl, rfl, rfl, rfl⟩ := i_lL he
    exact lv_lmul hx hcc hd (K H locs ls ⟨hW, hS, sl_cons trivial (sl_tail (sl_tail hst)), hlo, hls⟩)
  | land =>
    obtain ⟨x, y, t, rfl, rfl, rfl, rfl⟩ := i_lL he
    exact lv_land hx hcc hd (K H locs ls ⟨hW, hS, sl_cons trivial (sl_tail (sl_tail hst)), hlo, hls⟩)
  | lor =>
    obtain ⟨x, y, t, rfl, rfl, rfl, rfl⟩ := i_lL he
    exact lv_lor hx hcc hd (K H locs ls ⟨hW, hS, sl_cons trivial (sl_tail (sl_tail hst)), hlo, hls⟩)
  | ldiv =>
    obtain ⟨x, y, t, rfl, rfl, rfl, rfl, hy⟩ := i_lD he
    exact lv_ldiv hx hcc hd hy (K H locs ls ⟨hW, hS, sl_cons trivial (sl_tail (sl_tail hst)), hlo, hls⟩)
  | lrem =>
    obtain ⟨x, y, t, rfl, rfl, rfl, rfl, hy⟩ := i_lD he
    exact lv_lrem hx hcc hd hy (K H locs ls ⟨hW, hS, sl_cons trivial (sl_tail (sl_tail hst)), hlo, hls⟩)
  | ineg =>
    obtain ⟨x, t, rfl, rfl, rfl, rfl⟩ := i_u he
    exact lv_ineg hx hcc hd (K H locs ls ⟨hW, hS, sl_cons trivial (sl_tail hst), hlo, hls⟩)
  | i2l =>
    obtain ⟨x, t, rfl, rfl, rfl, rfl⟩ := i_u he
    exact lv_i2l hx hcc hd rfl (K H locs ls ⟨hW, hS, sl_cons trivial (sl_tail hst), hlo, hls⟩)
  | i2b =>
    obtain ⟨x, t, rfl, rfl, rfl, rfl⟩ := i_u he
    exact lv_i2b hx hcc hd rfl (K H locs ls ⟨hW, hS, sl_cons trivial (sl_tail hst), hlo, hls⟩)
  | i2s =>
    obtain ⟨x, t, rfl, rfl, rfl, rfl⟩ := i_u he
    exact lv_i2s hx hcc hd rfl (K H locs ls ⟨hW, hS, sl_cons trivial (sl_tail hst), hlo, hls⟩)
  | l2i =>
    obtain ⟨x, t, rfl, rfl, rfl, rfl⟩ := i_U he
    exact lv_l2i hx hcc hd rfl (K H locs ls ⟨hW, hS, sl_cons trivial (sl_tail hst), hlo, hls⟩)
  | lneg =>
    obtain ⟨x, t, rfl, rfl, rfl, rfl⟩ := i_U he
    exact lv_lneg hx hcc hd (K H locs ls ⟨hW, hS, sl_cons trivial (sl_tail hst), hlo, hls⟩)
  | lcmp =>
    obtain ⟨x, y, t, rfl, rfl, rfl, rfl⟩ := i_lcmp he
    exact W.lcmp hx hcc hd (K H locs ls ⟨hW, hS, sl_cons trivial (sl_tail (sl_tail hst)), hlo, hls⟩)
  | lshl =>
    obtain ⟨x, y, t, rfl, rfl, rfl, rfl⟩ := i_lshl he
    exact lv_lshl hx hcc hd rfl (K H locs ls ⟨hW, hS, sl_cons trivial (sl_tail (sl_tail hst)), hlo, hls⟩)
  | dup =>
    obtain ⟨v, t, rfl, rfl, rfl, rfl, h2⟩ := i_dup he
    exact lv_dup hx hcc hd (ct1 h2) (K H locs ls ⟨hW, hS, sl_cons (sl_head hst) hst, hlo, hls⟩)
  | pop =>
    obtain ⟨v, t, rfl, rfl, rfl, rfl, h2⟩ := i_pop he
    exact lv_pop hx hcc hd (ct1 h2) (K H locs ls ⟨hW, hS, sl_tail hst, hlo, hls⟩)
  | dup2 =>
    obtain ⟨v, w, t, rfl, rfl, rfl, rfl, h2, h3⟩ := i_dup2 he
    exact lv_dup2_11 hx hcc hd (ct1 h2) (ct1 h3) (K H locs ls ⟨hW, hS, sl_cons (sl_head hst) (sl_cons (sl_head (sl_tail hst)) hst), hlo, hls⟩)
  | getfield n => exact w_get hE C' A' hd ha he K
  | putfield n => exact w_put hE C' A' hd ha he K
  | iaload =>
    exact w_ald (cA := eT E 0) (ins := .iaload) (t0 := 0) (ty := .int) A' he (by decide) (fun q h => ent_i h) (fun q0 a n f i rest h1 h2 k2 => va_iald hx hcc hK hW.1 q0 0 h1 rfl h2 hd k2) K
  | baload =>
    exact w_ald (cA := eT E 2) (ins := .baload) (t0 := 2) (ty := .byte) A' he (by decide) (fun q h => ent_b h) (fun q0 a n f i rest h1 h2 k2 => va_bald hx hcc hK hW.1 q0 2 h1 rfl h2 hd k2) K
  | laload =>
    obtain ⟨i, q, t, rfl, rfl, rfl, rfl, hk, hi⟩ := i_lald he
    have hk0 := kar_0 hk (by decide)
    have hl : q.2 < kni q.1 := sl_ref (sl_head (sl_tail hst)) hk0
    refine va_lald (f := rL μ' q.1 q.2) hx hcc hK hW.1 (kof q.1 q.2) 1 (n := kln q.1) (cA := eT E 1) ?_ rfl (inb_in hi) hd (K H locs ls ⟨hW, hS, sl_cons trivial (sl_tail (sl_tail hst)), hlo, hls⟩)
    rw [wld_at E μ' hl, ent_l hk, sad_ne hk0]
  | aaload =>
    obtain ⟨i, q, t, rfl, rfl, rfl, rfl, hk, hi⟩ := i_aald he
    have hk0 := kar_0 hk (by decide)
    have hl : q.2 < kni q.1 := sl_ref (sl_head (sl_tail hst)) hk0
    have hk80 : q.1 < 80 := by
      rcases Nat.lt_or_ge q.1 80 with z | z
      · exact z
      · rw [kni_big _ z] at hl; omega
    have hin := inb_in hi
    have hlt : i.toNatClampNeg < kln q.1 := Nat.not_le.mp fun z => hin (Or.inr z)
    obtain ⟨ty, ht, hty⟩ := tys_at (E := E) q.1
    have hcell : (wld E μ')[kof q.1 q.2]? = some (sad E q, .inl (eT E (kat q.1), kln q.1, .inr (.inr (.inr (.inr (fun j => some (sad E ((kae q.1).1, (kae q.1).2 + j)))))))) := by
      rw [wld_at E μ' hl, ent_a hk, sad_ne hk0]
    have hll := kael q.1 hk80 hk _ hlt
    exact W.aald (v := va_rf (some (sad E ((kae q.1).1, (kae q.1).2 + i.toNatClampNeg)))) (ty := ty) hx hcc (hW.1 _ _ hcell) ((hK.2 _ _ ht).1 (kln q.1) (fun j => va_rf (some (sad E ((kae q.1).1, (kae q.1).2 + j))))) hty (fun z => by cases z)
      (by show ¬ (i < 0 ∨ (arrV _ _ _).slots.size ≤ _); rw [arrV_size]; exact hin) (by show (arrV _ _ _).slots[_]? = _; rw [arrV_read _ _ hlt]) rfl rfl hd (K H locs ls ⟨hW, hS, sl_cons (Or.inl hll) (sl_tail (sl_tail hst)), hlo, hls⟩)
  | iastore =>
    exact w_ast (cA := eT E 0) C' A' he (by decide) (fun ν q h => ent_i h) (fun q0 a n g i x rest h1 h2 k2 => va_iast hx hcc hK hW.1 (wld_D E μ) hS q0 0 h1 rfl h2 hd (fun H1 l1 a1 _ a3 => k2 H1 l1 a1 a3)) K
  | bastore =>
    exact w_ast (cA := eT E 2) C' A' he (by decide) (fun ν q h => ent_b h) (fun q0 a n g i x rest h1 h2 k2 => va_bast hx hcc hK hW.1 (wld_D E μ) hS q0 2 h1 rfl h2 hd (fun H1 l1 a1 _ a3 => k2 H1 l1 (by rw [← vp_nar_byte]; exact a1) a3)) K
  | lastore =>
    obtain ⟨x, i, q, t, rfl, rfl, rfl, rfl, hk, hi⟩ := i_last he
    have hk0 := kar_0 hk (by decide)
    have hl : q.2 < kni q.1 := sl_ref (sl_head (sl_tail (sl_tail hst))) hk0
    refine va_last (f := rL μ q.1 q.2) hx hcc hK hW.1 (wld_D E μ) hS (kof q.1 q.2) 1 (n := kln q.1) (cA := eT E 1) ?_ rfl (inb_in hi) hd ?_
    · rw [wld_at E μ hl, ent_l hk, sad_ne hk0]
    · intro H1 locs1 hP1 _ hS1
      rw [sad_ne hk0] at hP1
      exact K H1 locs1 ls ⟨sW_last hW hl (fun ν => ent_l hk) hP1 (low_of hlow hsz hS1), hS1, sl_tail (sl_tail (sl_tail hst)), hlo, hls⟩
  | _ => cases he
theorem evp_cons (pc : Nat) (q : sO) (t : List sO) : evp pc (q :: t) = evp (pc + iln q.1) t := rfl
/-- a straight stretch -/
theorem sBk {own : Nat} {cc : ByteArray} {nL d : Nat} {bl : Bool} {o : Option (Option sV × sM)} {lo' : sL} {st' : List sV} {μ' : sM} {pc' : Nat} : ∀ (ops : List sO) {pc : Nat} {lo : sL} {st : List sV} {μ : sM}, bk cc own pc ops = true → ev nL ops lo st μ = some (lo', st', μ') → evp pc ops = pc' →
    sOk own cc nL d bl pc' lo' st' μ' o → sOk own cc nL d bl pc lo st μ o
  | [], pc, lo, st, μ, _, he, hp, k => by
    cases he
    cases hp
    exact k
  | q :: t, pc, lo, st, μ, hb, he, hp, k => by
    unfold bk at hb
    rw [Bool.and_eq_true] at hb
    unfold ev at he
    split at he
    · rename_i lo1 st1 μ1 h1
      exact s1 hb.1 h1 (sBk t hb.2 he hp k)
    · cases he
end
section
/-! 09: branches, returns, calls -/
section R9
variable {own : Nat} {cc : ByteArray} {nL d : Nat} {bl : Bool} {pc : Nat} {lo lo' : sL} {st st' : List sV} {μ μ' : sM} {o : Option (Option sV × sM)}
theorem sNo : sOk own cc nL d bl pc lo st μ none := fun _ _ h => by cases h
theorem sIte {c : Prop} [h : Decidable c] {β : Type} (g : β → Option (Option sV × sM)) {a b : β} (ka : c → sOk own cc nL d bl pc lo st μ (g a)) (kb : ¬ c → sOk own cc nL d bl pc lo st μ (g b)) : sOk own cc nL d bl pc lo st μ (g (if c then a else b)) := by
  by_cases hc : c
  · rw [if_pos hc]
    exact ka hc
  · rw [if_neg hc]
    exact kb hc
/-- a test without which nothing is said -/
theorem sCk {c : Prop} [h : Decidable c] {β : Type} (g : Option β → Option (Option sV × sM)) (hg : g none = none) {a : Option β} (ka : c → sOk own cc nL d bl pc lo st μ (g a)) : sOk own cc nL d bl pc lo st μ (g (if c then a else none)) :=
  sIte g ka (fun _ => by rw [hg]; exact sNo)
/-- the same, the other way round -/
theorem sCn {c : Prop} [h : Decidable c] {β : Type} (g : Option β → Option (Option sV × sM)) (hg : g none = none) {a : Option β} (ka : ¬ c → sOk own cc nL d bl pc lo st μ (g a)) : sOk own cc nL d bl pc lo st μ (g (if c then none else a)) :=
  sIte g (fun _ => by rw [hg]; exact sNo) ka
theorem sWk (ks : List Nat) (hk : ks.filterMap (fun k => lo[k]?) = lo') (k : sOk own cc nL d bl pc lo' st μ o) : sOk own cc nL d bl pc lo st μ o := by
  intro r ρ ho E p l e R s m args below meth c cells slots Q G H locs ls A
  obtain ⟨hW, hS, hst, hlo, hls⟩ := A
  have key : ∀ q ∈ lo', q ∈ lo := by
    intro q hq
    rw [← hk] at hq
    obtain ⟨n, -, hn⟩ := List.mem_filterMap.mp hq
    exact List.mem_of_getElem? hn
  refine k r ρ ho E p l e R s m args below meth c cells slots Q G H locs ls ⟨hW, hS, hst, fun q hq => hlo q (key q hq), hls.1, hls.2.1, fun q hq => ?_⟩
  obtain ⟨z, hz, rfl⟩ := List.mem_map.mp hq
  exact hls.2.2 _ (List.mem_map.mpr ⟨z, key z hz, rfl⟩)
theorem sGt {off : Int} {tgt : Nat} (hd : decode cc pc = .ok (.goto off, 3)) (ht : (pc : Int) + off = (tgt : Int)) (k : sOk own cc nL d bl tgt lo st μ o) : sOk own cc nL d bl pc lo st μ o := by
  intro r ρ ho E p l e R s m args below meth c cells slots Q G H locs ls A
  exact lv_goto G.2.1.1 G.2.1.2.1 hd ht (k r ρ ho E p l e R s m args below meth c cells slots Q G H locs ls A)
theorem at_1 {E : sE} {s : State} {H : Heap} {locs : List Loc} {ls : Array Slot} {v : sV} (A : sAt E nL s lo (v :: st) μ H locs ls) : sAt E nL s lo st μ H locs ls := ⟨A.1, A.2.1, sl_tail A.2.2.1, A.2.2.2⟩
theorem at_2 {E : sE} {s : State} {H : Heap} {locs : List Loc} {ls : Array Slot} {v w : sV} (A : sAt E nL s lo (v :: w :: st) μ H locs ls) : sAt E nL s lo st μ H locs ls := at_1 (at_1 A)
theorem sIf_eq {off : Int} {tgt : Nat} {x : Int32} {β : Type} (g : β → Option (Option sV × sM)) {a b : β} (hd : decode cc pc = .ok (.ifCond .eq off, 3)) (ht : (pc : Int) + off = (tgt : Int)) (kt : x = 0 → sOk own cc nL d bl tgt lo st μ (g a)) (kf : ¬ x = 0 → sOk own cc nL d bl (pc + 3) lo st μ (g b)) : sOk own cc nL d bl pc lo (.inl x :: st) μ (g (if x = 0 then a else b)) :=
  sIte g (fun h r ρ ho E p l e R s m args below meth c cells slots Q G H locs ls A => lv_if_eq G.2.1.1 G.2.1.2.1 hd ht (fun _ => kt h r ρ ho E p l e R s m args below meth c cells slots Q G H locs ls (at_1 A)) (fun h' => absurd h h'))
    (fun h r ρ ho E p l e R s m args below meth c cells slots Q G H locs ls A => lv_if_eq G.2.1.1 G.2.1.2.1 hd ht (fun h' => absurd h' h) (fun _ => kf h r ρ ho E p l e R s m args below meth c cells slots Q G H locs ls (at_1 A)))
theorem sIf_ne {off : Int} {tgt : Nat} {x : Int32} {β : Type} (g : β → Option (Option sV × sM)) {a b : β} (hd : decode cc pc = .ok (.ifCond .ne off, 3)) (ht : (pc : Int) + off = (tgt : Int)) (kt : ¬ x = 0 → sOk own cc nL d bl tgt lo st μ (g a)) (kf : x = 0 → sOk own cc nL d bl (pc + 3) lo st μ (g b)) : sOk own cc nL d bl pc lo (.inl x :: st) μ (g (if x = 0 then b else a)) :=
  sIte g (fun h r ρ ho E p l e R s m args below meth c cells slots Q G H locs ls A => lv_if_ne G.2.1.1 G.2.1.2.1 hd ht (fun h' => absurd h h') (fun _ => kf h r ρ ho E p l e R s m args below meth c cells slots Q G H locs ls (at_1 A)))
    (fun h r ρ ho E p l e R s m args below meth c cells slots Q G H locs ls A => lv_if_ne G.2.1.1 G.2.1.2.1 hd ht (fun _ => kt h r ρ ho E p l e R s m args below meth c cells slots Q G H locs ls (at_1 A)) (fun h' => absurd h' h))
theorem sIf_lt {off : Int} {tgt : Nat} {x : Int32} {β : Type} (g : β → Option (Option sV × sM)) {a b : β} (hd : decode cc pc = .ok (.ifCond .lt off, 3)) (ht : (pc : Int) + off = (tgt : Int)) (kt : x < 0 → sOk own cc nL d bl tgt lo st μ (g a)) (kf : ¬ x < 0 → sOk own cc nL d bl (pc + 3) lo st μ (g b)) : sOk own cc nL d bl pc lo (.inl x :: st) μ (g (if x < 0 then a else b)) :=
  sIte g (fun h r ρ ho E p l e R s m args below meth c cells slots Q G H locs ls A => lv_if_lt G.2.1.1 G.2.1.2.1 hd ht (fun _ => kt h r ρ ho E p l e R s m args below meth c cells slots Q G H locs ls (at_1 A)) (fun h' => absurd h h'))
    (fun h r ρ ho E p l e R s m args below meth c cells slots Q G H locs ls A => lv_if_lt G.2.1.1 G.2.1.2.1 hd ht (fun h' => absurd h' h) (fun _ => kf h r ρ ho E p l e R s m args below meth c cells slots Q G H locs ls (at_1 A)))
theorem sIf_ge {off : Int} {tgt : Nat} {x : Int32} {β : Type} (g : β → Option (Option sV × sM)) {a b : β} (hd : decode cc pc = .ok (.ifCond .ge off, 3)) (ht : (pc : Int) + off = (tgt : Int)) (kt : 0 ≤ x → sOk own cc nL d bl tgt lo st μ (g a)) (kf : ¬ 0 ≤ x → sOk own cc nL d bl (pc + 3) lo st μ (g b)) : sOk own cc nL d bl pc lo (.inl x :: st) μ (g (if 0 ≤ x then a else b)) :=
  sIte g (fun h r ρ ho E p l e R s m args below meth c cells slots Q G H locs ls A => lv_if_ge G.2.1.1 G.2.1.2.1 hd ht (fun _ => kt h r ρ ho E p l e R s m args below meth c cells slots Q G H locs ls (at_1 A)) (fun h' => absurd h h'))
    (fun h r ρ ho E p l e R s m args below meth c cells slots Q G H locs ls A => lv_if_ge G.2.1.1 G.2.1.2.1 hd ht (fun h' => absurd h' h) (fun _ => kf h r ρ ho E p l e R s m args below meth c cells slots Q G H locs ls (at_1 A)))
theorem sIf_gt {off : Int} {tgt : Nat} {x : Int32} {β : Type} (g : β → Option (Option sV × sM)) {a b : β} (hd : decode cc pc = .ok (.ifCond .gt off, 3)) (ht : (pc : Int) + off = (tgt : Int)) (kt : 0 < x → sOk own cc nL d bl tgt lo st μ (g a)) (kf : ¬ 0 < x → sOk own cc nL d bl (pc + 3) lo st μ (g b)) : sOk own cc nL d bl pc lo (.inl x :: st) μ (g (if 0 < x then a else b)) :=
  sIte g (fun h r ρ ho E p l e R s m args below meth c cells slots Q G H locs ls A => lv_if_gt G.2.1.1 G.2.1.2.1 hd ht (fun _ => kt h r ρ ho E p l e R s m args below meth c cells slots Q G H locs ls (at_1 A)) (fun h' => absurd h h'))
    (fun h r ρ ho E p l e R s m args below meth c cells slots Q G H locs ls A => lv_if_gt G.2.1.1 G.2.1.2.1 hd ht (fun h' => absurd h' h) (fun _ => kf h r ρ ho E p l e R s m args below meth c cells slots Q G H locs ls (at_1 A)))
theorem sIf_le {off : Int} {tgt : Nat} {x : Int32} {β : Type} (g : β → Option (Option sV × sM)) {a b : β} (hd : decode cc pc = .ok (.ifCond .le off, 3)) (ht : (pc : Int) + off = (tgt : Int)) (kt : x ≤ 0 → sOk own cc nL d bl tgt lo st μ (g a)) (kf : ¬ x ≤ 0 → sOk own cc nL d bl (pc + 3) lo st μ (g b)) : sOk own cc nL d bl pc lo (.inl x :: st) μ (g (if x ≤ 0 then a else b)) :=
  sIte g (fun h r ρ ho E p l e R s m args below meth c cells slots Q G H locs ls A => lv_if_le G.2.1.1 G.2.1.2.1 hd ht (fun _ => kt h r ρ ho E p l e R s m args below meth c cells slots Q G H locs ls (at_1 A)) (fun h' => absurd h h'))
    (fun h r ρ ho E p l e R s m args below meth c cells slots Q G H locs ls A => lv_if_le G.2.1.1 G.2.1.2.1 hd ht (fun h' => absurd h' h) (fun _ => kf h r ρ ho E p l e R s m args below meth c cells slots Q G H locs ls (at_1 A)))
theorem sIc_eq {off : Int} {tgt : Nat} {x y : Int32} {β : Type} (g : β → Option (Option sV × sM)) {a b : β} (hd : decode cc pc = .ok (.if_icmp .eq off, 3)) (ht : (pc : Int) + off = (tgt : Int)) (kt : x = y → sOk own cc nL d bl tgt lo st μ (g a)) (kf : ¬ x = y → sOk own cc nL d bl (pc + 3) lo st μ (g b)) : sOk own cc nL d bl pc lo (.inl y :: .inl x :: st) μ (g (if x = y then a else b)) :=
  sIte g (fun h r ρ ho E p l e R s m args below meth c cells slots Q G H locs ls A => lv_icmp_eq G.2.1.1 G.2.1.2.1 hd ht (fun _ => kt h r ρ ho E p l e R s m args below meth c cells slots Q G H locs ls (at_2 A)) (fun h' => absurd h h'))
    (fun h r ρ ho E p l e R s m args below meth c cells slots Q G H locs ls A => lv_icmp_eq G.2.1.1 G.2.1.2.1 hd ht (fun h' => absurd h' h) (fun _ => kf h r ρ ho E p l e R s m args below meth c cells slots Q G H locs ls (at_2 A)))
theorem sIc_ne {off : Int} {tgt : Nat} {x y : Int32} {β : Type} (g : β → Option (Option sV × sM)) {a b : β} (hd : decode cc pc = .ok (.if_icmp .ne off, 3)) (ht : (pc : Int) + off = (tgt : Int)) (kt : ¬ x = y → sOk own cc nL d bl tgt lo st μ (g a)) (kf : x = y → sOk own cc nL d bl (pc + 3) lo st μ (g b)) : sOk own cc nL d bl pc lo (.inl y :: .inl x :: st) μ (g (if x = y then b else a)) :=
  sIte g (fun h r ρ ho E p l e R s m args below meth c cells slots Q G H locs ls A => lv_icmp_ne G.2.1.1 G.2.1.2.1 hd ht (fun h' => absurd h h') (fun _ => kf h r ρ ho E p l e R s m args below meth c cells slots Q G H locs ls (at_2 A)))
    (fun h r ρ ho E p l e R s m args below meth c cells slots Q G H locs ls A => lv_icmp_ne G.2.1.1 G.2.1.2.1 hd ht (fun _ => kt h r ρ ho E p l e R s m args below meth c cells slots Q G H locs ls (at_2 A)) (fun h' => absurd h' h))
theorem sIc_lt {off : Int} {tgt : Nat} {x y : Int32} {β : Type} (g : β → Option (Option sV × sM)) {a b : β} (hd : decode cc pc = .ok (.if_icmp .lt off, 3)) (ht : (pc : Int) + off = (tgt : Int)) (kt : x < y → sOk own cc nL d bl tgt lo st μ (g a)) (kf : ¬ x < y → sOk own cc nL d bl (pc + 3) lo st μ (g b)) : sOk own cc nL d bl pc lo (.inl y :: .inl x :: st) μ (g (if x < y then a else b)) :=
  sIte g (fun h r ρ ho E p l e R s m args below meth c cells slots Q G H locs ls A => lv_icmp_lt G.2.1.1 G.2.1.2.1 hd ht (fun _ => kt h r ρ ho E p l e R s m args below meth c cells slots Q G H locs ls (at_2 A)) (fun h' => absurd h h'))
    (fun h r ρ ho E p l e R s m args below meth c cells slots Q G H locs ls A => lv_icmp_lt G.2.1.1 G.2.1.2.1 hd ht (fun h' => absurd h' h) (fun _ => kf h r ρ ho E p l e R s m args below meth c cells slots Q G H locs ls (at_2 A)))
theorem sIc_ge {off : Int} {tgt : Nat} {x y : Int32} {β : Type} (g : β → Option (Option sV × sM)) {a b : β} (hd : decode cc pc = .ok (.if_icmp .ge off, 3)) (ht : (pc : Int) + off = (tgt : Int)) (kt : y ≤ x → sOk own cc nL d bl tgt lo st μ (g a)) (kf : ¬ y ≤ x → sOk own cc nL d bl (pc + 3) lo st μ (g b)) : sOk own cc nL d bl pc lo (.inl y :: .inl x :: st) μ (g (if y ≤ x then a else b)) :=
  sIte g (fun h r ρ ho E p l e R s m args below meth c cells slots Q G H locs ls A => lv_icmp_ge G.2.1.1 G.2.1.2.1 hd ht (fun _ => kt h r ρ ho E p l e R s m args below meth c cells slots Q G H locs ls (at_2 A)) (fun h' => absurd h h'))
    (fun h r ρ ho E p l e R s m args below meth c cells slots Q G H locs ls A => lv_icmp_ge G.2.1.1 G.2.1.2.1 hd ht (fun h' => absurd h' h) (fun _ => kf h r ρ ho E p l e R s m args below meth c cells slots Q G H locs ls (at_2 A)))
theorem sIc_gt {off : Int} {tgt : Nat} {x y : Int32} {β : Type} (g : β → Option (Option sV × sM)) {a b : β} (hd : decode cc pc = .ok (.if_icmp .gt off, 3)) (ht : (pc : Int) + off = (tgt : Int)) (kt : y < x → sOk own cc nL d bl tgt lo st μ (g a)) (kf : ¬ y < x → sOk own cc nL d bl (pc + 3) lo st μ (g b)) : sOk own cc nL d bl pc lo (.inl y :: .inl x :: st) μ (g (if y < x then a else b)) :=
  sIte g (fun h r ρ ho E p l e R s m args below meth c cells slots Q G H locs ls A => lv_icmp_gt G.2.1.1 G.2.1.2.1 hd ht (fun _ => kt h r ρ ho E p l e R s m args below meth c cells slots Q G H locs ls (at_2 A)) (fun h' => absurd h h'))
    (fun h r ρ ho E p l e R s m args below meth c cells slots Q G H locs ls A => lv_icmp_gt G.2.1.1 G.2.1.2.1 hd ht (fun h' => absurd h' h) (fun _ => kf h r ρ ho E p l e R s m args below meth c cells slots Q G H locs ls (at_2 A)))
theorem sIc_le {off : Int} {tgt : Nat} {x y : Int32} {β : Type} (g : β → Option (Option sV × sM)) {a b : β} (hd : decode cc pc = .ok (.if_icmp .le off, 3)) (ht : (pc : Int) + off = (tgt : Int)) (kt : x ≤ y → sOk own cc nL d bl tgt lo st μ (g a)) (kf : ¬ x ≤ y → sOk own cc nL d bl (pc + 3) lo st μ (g b)) : sOk own cc nL d bl pc lo (.inl y :: .inl x :: st) μ (g (if x ≤ y then a else b)) :=
  sIte g (fun h r ρ ho E p l e R s m args below meth c cells slots Q G H locs ls A => lv_icmp_le G.2.1.1 G.2.1.2.1 hd ht (fun _ => kt h r ρ ho E p l e R s m args below meth c cells slots Q G H locs ls (at_2 A)) (fun h' => absurd h h'))
    (fun h r ρ ho E p l e R s m args below meth c cells slots Q G H locs ls A => lv_icmp_le G.2.1.1 G.2.1.2.1 hd ht (fun h' => absurd h' h) (fun _ => kf h r ρ ho E p l e R s m args below meth c cells slots Q G H locs ls (at_2 A)))
end R9
end
section
/-! 10: switches, returns, methods, calls -/
/-- a switch's place: the first pair that fits -/
def swl : List (Int32 × Nat) → Nat → Int32 → Nat
  | [], d, _ => d
  | (v, t) :: r, d, x => if x = v then t else swl r d x
theorem swl_ne {d : Nat} {x : Int32} : ∀ {ps : List (Int32 × Nat)}, (∀ q ∈ ps, x ≠ q.1) → swl ps d x = d
  | [], _ => rfl
  | (v, t) :: r, h => by
    unfold swl
    rw [if_neg (h (v, t) List.mem_cons_self)]
    exact swl_ne (fun q hq => h q (List.mem_cons_of_mem _ hq))
/-- all that a tableswitch's row rests on, decided -/
def swt (cc : ByteArray) (pc : Nat) (ps : List (Int32 × Nat)) (d : Nat) : Bool := match decode cc pc with
  | .ok (.tableswitch dflt lo hi offs, _) => decide ((pc : Int) + dflt = (d : Int)) && (decide (-1000 ≤ lo ∧ hi ≤ 1000 ∧ lo ≤ hi ∧ offs.size = (hi - lo + 1).toNat) && (ps.all (fun q => decide (lo ≤ q.1.toInt ∧ q.1.toInt ≤ hi)) && (List.range offs.size).all (fun n => decide ((pc : Int) + offs.getD n 0 = (swl ps d (Int32.ofInt (lo + n)) : Int)))))
  | _ => false
def lut (cc : ByteArray) (pc : Nat) (ps : List (Int32 × Nat)) (d : Nat) : Bool := match decode cc pc with
  | .ok (.lookupswitch dflt qs, _) => decide ((pc : Int) + dflt = (d : Int)) && ((qs.toList.zip (qs.toList.drop 1)).all (fun (a, next) => a.1 < next.1) && (decide (qs.toList.map (fun q => (q.1, (pc : Int) + q.2)) = ps.map (fun q => (q.1.toInt, (q.2 : Int))))))
  | _ => false
theorem lut_off (pc : Nat) (dflt : Int) (d : Nat) (hd : (pc : Int) + dflt = (d : Int)) (x : Int32) : ∀ (qs : List (Int × Int)) (ps : List (Int32 × Nat)), qs.map (fun q => (q.1, (pc : Int) + q.2)) = ps.map (fun q => (q.1.toInt, (q.2 : Int))) → (pc : Int) + Op.lookupswitch.offset qs dflt x.toInt = (swl ps d x : Int)
  | [], [], _ => hd
  | [], _ :: _, h => by cases h
  | _ :: _, [], h => by cases h
  | (a, o) :: qs, (v, t) :: ps, h => by
    simp only [List.map_cons, List.cons.injEq, Prod.mk.injEq] at h
    obtain ⟨⟨h1, h2⟩, h3⟩ := h
    rw [Op.lookupswitch.offset_cons]
    unfold swl
    by_cases e : x = v
    · rw [if_pos e, if_pos (by rw [e]; exact h1)]
      exact h2
    · rw [if_neg e, if_neg (fun q => e (Int32.toInt_inj.mp (q.symm.trans h1)))]
      exact lut_off pc dflt d hd x qs ps h3
section R10
variable {own : Nat} {cc : ByteArray} {nL d : Nat} {bl : Bool} {pc : Nat} {lo lo' : sL} {st st' : List sV} {μ μ' : sM} {o : Option (Option sV × sM)}
theorem sTs {ps : List (Int32 × Nat)} {df : Nat} {x : Int32} (h : swt cc pc ps df = true) (k : sOk own cc nL d bl (swl ps df x) lo st μ o) : sOk own cc nL d bl pc lo (.inl x :: st) μ o := by
  intro r ρ ho E p l e R s m args below meth c cells slots Q G H locs ls A
  have K := k r ρ ho E p l e R s m args below meth c cells slots Q G H locs ls (at_1 A)
  unfold swt at h
  split at h
  · rename_i dflt low hi offs len hd
    simp only [Bool.and_eq_true, decide_eq_true_eq, List.all_eq_true, List.mem_range] at h
    obtain ⟨h1, ⟨b1, b2, b3, b4⟩, h2, h3⟩ := h
    by_cases hout : x.toInt < low ∨ hi < x.toInt
    · have e1 : swl ps df x = df := swl_ne (fun q hq e => by
        have := h2 q hq
        rw [← e] at this
        omega)
      rw [e1] at K
      exact lv_tableOut G.2.1.1 G.2.1.2.1 hd hout h1 K
    · have hlo : low ≤ x.toInt := by omega
      have hhi : x.toInt ≤ hi := by omega
      obtain ⟨n, hn⟩ : ∃ n : Nat, x.toInt = low + n := ⟨(x.toInt - low).toNat, by omega⟩
      have hsz : n < offs.size := by rw [b4]; omega
      have hx : Int32.ofInt (low + n) = x := by rw [← hn]; exact Int32.ofInt_toInt x
      have h4 := h3 n hsz
      rw [hx] at h4
      refine lv_tableIn G.2.1.1 G.2.1.2.1 hd (by omega) (by omega) (off := offs.getD n 0) ?_ h4 K
      rw [show (x.toInt - low).toNat = n by omega]
      simp [hsz]
  · cases h
theorem sLu {ps : List (Int32 × Nat)} {df : Nat} {x : Int32} (h : lut cc pc ps df = true) (k : sOk own cc nL d bl (swl ps df x) lo st μ o) : sOk own cc nL d bl pc lo (.inl x :: st) μ o := by
  intro r ρ ho E p l e R s m args below meth c cells slots Q G H locs ls A
  have K := k r ρ ho E p l e R s m args below meth c cells slots Q G H locs ls (at_1 A)
  unfold lut at h
  split at h
  · rename_i dflt qs len hd
    simp only [Bool.and_eq_true, decide_eq_true_eq] at h
    obtain ⟨h1, h2, h3⟩ := h
    exact lv_lookup G.2.1.1 G.2.1.2.1 hd h2 rfl (lut_off pc dflt df h1 x qs.toList ps h3) K
  · cases h
theorem sSc {v x : Int32} {t : Nat} {ps : List (Int32 × Nat)} {df : Nat} {β : Type} (g : β → Option (Option sV × sM)) {a b : β} (ka : x = v → sOk own cc nL d bl t lo st μ (g a)) (kb : ¬ x = v → sOk own cc nL d bl (swl ps df x) lo st μ (g b)) : sOk own cc nL d bl (swl ((v, t) :: ps) df x) lo st μ (g (if x = v then a else b)) := by
  unfold swl
  by_cases e : x = v
  · rw [if_pos e, if_pos e]
    exact ka e
  · rw [if_neg e, if_neg e]
    exact kb e
/-! ends -/
def oI (f : Option (Int32 × sM)) : Option (Option sV × sM) := f.map (fun q => (some (.inl q.1), q.2))
def oL (f : Option (Int64 × sM)) : Option (Option sV × sM) := f.map (fun q => (some (.inr (.inl q.1)), q.2))
def oV (f : Option sM) : Option (Option sV × sM) := f.map (fun q => (none, q))
def oA (k : Nat) (f : Option (Nat × sM)) : Option (Option sV × sM) := f.map (fun q => (some (.inr (.inr (k, q.1))), q.2))
theorem sRi {x : Int32} (hd : decode cc pc = .ok (.ireturn, 1)) (hb : bl = true → x = 0 ∨ x = 1) : sOk own cc nL d bl pc lo [.inl x] μ (oI (some (x, μ))) := by
  intro r ρ ho E p l e R s m args below meth c cells slots Q G H locs ls A
  cases ho
  exact G.2.2.2 H locs pc ls A.1 A.2.1 ⟨hd, hb⟩ (fun v h => by cases h; trivial)
theorem sRl {x : Int64} (hd : decode cc pc = .ok (.lreturn, 1)) : sOk own cc nL d bl pc lo [.inr (.inl x)] μ (oL (some (x, μ))) := by
  intro r ρ ho E p l e R s m args below meth c cells slots Q G H locs ls A
  cases ho
  exact G.2.2.2 H locs pc ls A.1 A.2.1 hd (fun v h => by cases h; trivial)
theorem sRa {k i : Nat} (hd : decode cc pc = .ok (.areturn, 1)) : sOk own cc nL d bl pc lo [.inr (.inr (k, i))] μ (oA k (some (i, μ))) := by
  intro r ρ ho E p l e R s m args below meth c cells slots Q G H locs ls A
  cases ho
  exact G.2.2.2 H locs pc ls A.1 A.2.1 hd (fun v h => by cases h; exact sl_head A.2.2.1)
theorem sRv (hd : decode cc pc = .ok (.return_, 1)) : sOk own cc nL d bl pc lo [] μ (oV (some μ)) := by
  intro r ρ ho E p l e R s m args below meth c cells slots Q G H locs ls A
  cases ho
  exact G.2.2.2 H locs pc ls A.1 A.2.1 hd (fun v h => by cases h)
end R10
/-! methods -/
def sPc (E : sE) (avs : List sV) (μ : sM) : Array Value → State → Prop := fun v U => v = (avs.map (gm E)).toArray ∧ (eS E).WarmedH U.vm ∧ sW E μ U.heap ∧ (eS E).heap.size ≤ U.heap.size
def sQc (E : sE) (r : Option sV) (ρ : sM) : Array Value → State → Outcome → State → Prop := fun _ u oc t => oc = .returned (r.map (gm E)) ∧ (eS E).WarmedH t.vm ∧ sW E ρ t.heap ∧ u.heap.size ≤ t.heap.size ∧ ∀ v, r = some v → slv v
def sRm (d : Nat) : Room := { frames := d, cells := 0, slots := 0, locals := 64 * d }
def sMt (y : MethodName) (cc : ByteArray) (nL : Nat) (ret : Option FieldType) (d : Nat) (avs : List sV) (μ : sM) (o : Option (Option sV × sM)) : Prop :=
  ∀ (r : Option sV) (ρ : sM), o = some (r, ρ) → ∀ (l : Launch) (E : sE), sEn E → (∀ v ∈ avs, slv v) → Met l y (.code y cc nL ret :: sT) (sRm d) (sPc E avs μ) (sQc E r ρ) 0 0 (sA E)
def la : Nat → List sV → sL
  | _, [] => []
  | i, v :: vs => (i, v) :: la (if ct2 v = true then i + 2 else i + 1) vs
def lz : List sV → Nat
  | [] => 0
  | v :: vs => (if ct2 v = true then 2 else 1) + lz vs
theorem cat_2 (E : sE) (v : sV) : (gm E v).category = 2 ↔ ct2 v = true := by
  rcases v with x | x | q <;> simp [gm, Value.category, ct2]
theorem la_gm (E : sE) : ∀ (vs : List sV) (i : Nat), lv_args i (vs.map (gm E)) = (la i vs).map (gl E)
  | [], _ => rfl
  | v :: vs, i => by
    show (i, gm E v) :: lv_args (if (gm E v).category = 2 then i + 2 else i + 1) (vs.map (gm E)) = (i, gm E v) :: (la (if ct2 v = true then i + 2 else i + 1) vs).map (gl E)
    rw [la_gm E vs]
    simp only [cat_2]
theorem lz_gm (E : sE) : ∀ vs : List sV, (lg_sl (vs.map (gm E))).length = lz vs
  | [] => rfl
  | v :: vs => by
    have h := lz_gm E vs
    unfold lg_sl at h ⊢
    rw [List.map_cons, List.flatMap_cons, List.length_append, h]
    show _ = (if ct2 v = true then 2 else 1) + lz vs
    by_cases e : ct2 v = true
    · rw [if_pos ((cat_2 E v).mpr e), if_pos e]
      rfl
    · rw [if_neg (fun q => e ((cat_2 E v).mp q)), if_neg e]
      rfl
theorem la_sl {vs : List sV} (h : ∀ v ∈ vs, slv v) : ∀ i, ∀ q ∈ la i vs, slv q.2 := by
  induction vs with
  | nil => intro i q hq; cases hq
  | cons v vs ih =>
    intro i q hq
    rcases List.mem_cons.mp hq with rfl | hq
    · exact h v List.mem_cons_self
    · exact ih (fun w hw => h w (List.mem_cons_of_mem _ hw)) _ q hq
/-- what a return leaves is what the method's type takes -/
def rOk (ret : Option FieldType) (bl : Bool) (r : Option sV) : Prop := match r with
  | none => ret = none
  | some (.inl _) => ret = some .int ∨ (ret = some .boolean ∧ bl = true)
  | some (.inr (.inl _)) => ret = some .long
  | some (.inr (.inr _)) => ∃ n, ret = some (.object n)
set_option maxHeartbeats 1000000 in
theorem sMt_of {y : MethodName} {own : Nat} {cc : ByteArray} {nL : Nat} {ret : Option FieldType} {d : Nat} {bl : Bool} {avs : List sV} {μ : sM} {o : Option (Option sV × sM)} (hy : plainName y.cls = true) (hown : kRn own = y.cls) (hz : lz avs ≤ nL) (hr : ∀ r ρ, o = some (r, ρ) → rOk ret bl r)
    (k : sOk own cc nL d bl 0 (la 0 avs) [] μ o) : sMt y cc nL ret d avs μ o := by
  intro r ρ ho l E hE hsl
  refine Met.ofW (cc := cc) (maxL := nL) (ret := ret) hy rfl ?_
  intro p e s m args below meth c s₁ B hml hv
  obtain ⟨rfl, hwm, hW, hsz⟩ := hv
  have hts := atoms_spec (ws := .code y cc nL ret :: sT) B.pre
  have hfc : s.vm.findClass (kRn own) = some m.cls := by rw [hown]; exact findClass_of_methodNamed B.named
  have hl := lv_entry (avs.map (gm E)) (n := nL) (by rw [lz_gm]; exact hz)
  rw [la_gm] at hl
  rw [lg_entry_eq]
  have hmr := B.returns
  have hlk := B.notSynchronized
  refine k r ρ ho E p l e _ s m _ below meth c 0 0 _ ⟨hE, ⟨B.exec, B.bytes, hml, hfc, fun w hw => hts w (List.mem_cons_of_mem _ hw), hwm, hW.2.2.1, hsz⟩, ⟨Nat.le_refl _, Nat.le_refl _, Nat.le_refl _, Nat.le_refl _⟩, ?_⟩ s.heap [] _ ⟨hW, va_S.rf, (fun v h => by cases h), la_sl hsl 0, hl⟩
  intro H locs pc ls hW1 hS1 hret hsv
  have hq : ∀ t : State, t.heap = H → s.WarmedH t.vm → sQc E r ρ (avs.map (gm E)).toArray s (.returned (r.map (gm E))) t := fun t ht hw => ⟨rfl, hwm.trans hw, by rw [ht]; exact hW1, by rw [ht]; exact hS1.1, hsv⟩
  have hro := hr r ρ ho
  match r, hret, hq, hro with
  | none, hret, hq, hro =>
    exact W.vret B.exec B.bytes (hmr.trans hro) hq hS1.2.2 hret hlk
  | some (.inl x), hret, hq, hro =>
    rcases hro with hro | ⟨hro, hbl⟩
    · exact W.iret B.exec B.bytes (hmr.trans hro) hq hS1.2.2 hret.1 hlk
    · refine W.zret B.exec B.bytes (hmr.trans hro) ?_ hq hS1.2.2 hret.1 hlk
      rcases hret.2 hbl with rfl | rfl <;> decide +kernel
  | some (.inr (.inl x)), hret, hq, hro =>
    exact W.lret B.exec B.bytes (hmr.trans hro) hq hS1.2.2 hret hlk
  | some (.inr (.inr x)), hret, hq, hro =>
    obtain ⟨n, hn⟩ := hro
    exact W.aret B.exec B.bytes (hmr.trans hn) (Or.inl ⟨n, rfl⟩) (Or.inr ⟨_, rfl⟩) hq hS1.2.2 hret hlk
/-! calls -/
/-- what is known of a method that is called -/
def yF (y : MethodName) (cc : ByteArray) (nL : Nat) (ret : Option FieldType) (n : Nat) : Prop :=
  Cond.code y cc nL ret ∈ sT ∧ Cond.initialized y.cls ∈ sT ∧ (y.cls ≠ "java/lang/invoke/MethodHandle" ∧ y.cls ≠ "java/lang/invoke/VarHandle" ∧ (parseMethodDescriptor y.desc).map (fun d => d.parameters.length) = some n) ∧ nL ≤ 40
def yV (y : MethodName) (cc : ByteArray) (nL : Nat) (ret : Option FieldType) (n : Nat) : Prop := yF y cc nL ret n ∧ Cond.instanceMethod y ∈ sT ∧ Cond.selects y.cls y y ∈ sT
def yS (y : MethodName) (cc : ByteArray) (nL : Nat) (ret : Option FieldType) (n : Nat) : Prop := yF y cc nL ret n ∧ Cond.static y ∈ sT
theorem sT_GoodIn (y : MethodName) (cc : ByteArray) (nL : Nat) (ret : Option FieldType) (h : Cond.code y cc nL ret ∈ sT) : GoodIn sT (.code y cc nL ret :: sT) := by
  intro w hw
  rcases List.mem_cons.mp hw with rfl | hw
  · exact ⟨h, sT_good h⟩
  · exact ⟨hw, sT_good hw⟩
theorem sPc_blind (E : sE) (avs : List sV) (μ : sM) : FrameBlind (sPc E avs μ) := fun _ _ _ _ h => h
def scat : List sV → Nat
  | [] => 0
  | v :: vs => (if ct2 v = true then 2 else 1) + scat vs
theorem scat_gm (E : sE) : ∀ vs : List sV, ((vs.map (gm E)).map fun v => v.category).sum = scat vs
  | [] => rfl
  | v :: vs => by
    rw [List.map_cons, List.map_cons, List.sum_cons, scat_gm E vs]
    show _ = (if ct2 v = true then 2 else 1) + scat vs
    by_cases e : ct2 v = true
    · rw [if_pos e, (cat_2 E v).mpr e]
    · rw [if_neg e, ct1 (by simpa using e)]
section C10
variable {own : Nat} {cc : ByteArray} {nL d : Nat} {bl : Bool} {pc : Nat} {lo : sL} {st rest : List sV} {μ : sM} {o : Option (Option sV × sM)}
variable {y : MethodName} {cc' : ByteArray} {nL' d' n idx : Nat} {ret : Option FieldType} {avs : List sV} {r' : Option sV} {ρ' : sM}
/-- behind a call -/
theorem sBh {E : sE} {p : Program} {l : Launch} {e : Env} {R : Room} {s : State} {m : MethodId} {args : Array Value} {below : List Frame} {meth : Method} {c : Code} {cells slots : Nat} {Q : State → Prop} {H : Heap} {locs : List Loc} {ls : Array Slot} {a : Array Value} {stk : List Value}
    (C : sCx E p s m args c own cc nL) (A : sAt E nL s lo st μ H locs ls) (hrest : ∀ v ∈ rest, slv v) (hr : va_Run p l e R s m args below meth c H locs cells slots 0 0 (F0 m pc ls stk) (rest.map (gm E)) (sQc E r' ρ' a) (sA E))
    (K : ∀ (H : Heap) (locs : List Loc) (ls : Array Slot), sAt E nL s lo (r'.toList ++ rest) ρ' H locs ls → W p l e R s m args below meth c H locs cells slots Q (F0 m (pc + 3) ls ((r'.toList ++ rest).map (gm E)))) :
    W p l e R s m args below meth c H locs cells slots Q (F0 m pc ls stk) := by
  obtain ⟨hx, hcc, hml, hown, hts, hwm, hlow, hsz⟩ := C
  obtain ⟨hW, hS, hst, hlo, hls⟩ := A
  intro T hT X
  obtain ⟨v, u₀, t, T', L, h0, X', hL, e1, e2, ⟨hv, hw1, hW1, hz1, hsv⟩, go⟩ := hr T hT X
  cases hv
  rw [h0] at hz1
  have hS1 : va_S (sA E) s.heap T'.heap (locs ++ L) := by
    refine ⟨Nat.le_trans hS.1 (by rw [e1]; exact hz1), fun q h1 h2 => ?_, fun q hq => ?_⟩
    · have hq : q < (eS E).heap.size := Nat.not_le.mp h2
      rw [e1, hW1.2.2.1 q hq, hlow q hq]
    · rcases List.mem_append.mp hq with h | h
      · exact hS.2.2 q h
      · exact hL q h
  have hst1 : ∀ v ∈ r'.toList ++ rest, slv v := fun v hv => (List.mem_append.mp hv).elim (fun h => hsv v (by simpa using h)) (hrest v)
  obtain ⟨t2, a1, b1⟩ := K T'.heap (locs ++ L) ls ⟨by rw [e1]; exact hW1, hS1, hst1, hlo, hls⟩ T' rfl X'
  refine ⟨t2, go t2 ?_, b1⟩
  have e3 : (r'.map (gm E)).toList ++ rest.map (gm E) = (r'.toList ++ rest).map (gm E) := by cases r' <;> simp
  rw [e3]
  exact a1
theorem sCvb {q : Nat × Nat} {ci : Nat} (hM : sMt y cc' nL' ret d' (.inr (.inr q) :: avs) μ (some (r', ρ'))) (hd' : d' + 1 ≤ d) (hdec : decode cc pc = .ok (.invokevirtual idx, 3)) (hlink : Cond.methodLink (kRn own) idx y ∈ sT) (hy : yV y cc' nL' ret n) (hn : avs.length = n) (hci : ci < 13) (hq : q.1 = ci + 1) (hyc : kRn ci = y.cls)
    (hst : st = avs.reverse ++ .inr (.inr q) :: rest) (hrm : scat rest ≤ 8) (k : sOk own cc nL d bl (pc + 3) lo (r'.toList ++ rest) ρ' o) : sOk own cc nL d bl pc lo st μ o := by
  subst hst
  intro r ρ ho E p l e R s m args below meth c cells slots Q G H locs ls A
  have K := k r ρ ho E p l e R s m args below meth c cells slots Q G
  obtain ⟨hE, C, hR, -⟩ := G
  have hsl : ∀ v ∈ (Sum.inr (Sum.inr q) : sV) :: avs, slv v := fun v hv => A.2.2.1 v (by
    rcases List.mem_cons.mp hv with h | h
    · exact List.mem_append_right _ (h ▸ List.mem_cons_self)
    · exact List.mem_append_left _ (List.mem_reverse.mpr h))
  have hrest : ∀ v ∈ rest, slv v := fun v hv => A.2.2.1 v (List.mem_append_right _ (List.mem_cons_of_mem _ hv))
  have hl : q.2 < kni q.1 := sl_ref (sl_head hsl) (by omega)
  refine sBh (a := (Value.ref (sad E q) :: avs.map (gm E)).toArray) C A hrest ?_ K
  obtain ⟨hx, hcc, hml, hown, hts, hwm, hlow, hsz⟩ := C
  obtain ⟨⟨w1, w2, w3, w4⟩, w5, w6⟩ := hy
  have hM' := hM r' ρ' rfl l E hE hsl
  have hcb := callB_of (R := R) (s := s) (args := args) (own := kRn own) (index := idx) (maxL := nL') n hts (sT_GoodIn y cc' nL' ret w1) rfl (rm := sRm d') rfl rfl (hts _ w2) (hts _ hlink) w3 ⟨by show d' + 1 ≤ _; omega, by show 8 + (nL' + 11) + 64 * d' ≤ _; omega⟩
  have hPw := va_recv (sK_at hE hwm) A.1.1 (kcl ci hci) (cell_o hci hq hl)
  refine va_runV (C := y.cls) (b := sad E q) (As := avs.map (gm E)) (nL := nL) (Ts := sT) (own := kRn own) (cc := cc) ⟨hx, hcc, hml, hown, hts⟩ hM' ⟨hcb, hts _ w5, hts _ w6⟩ ⟨sPc_blind E _ μ, ?_, fun U hU hw => ⟨by rw [List.map_cons]; rfl, hwm.trans hw, by rw [hU]; exact A.1, by rw [hU]; exact Nat.le_trans hsz A.2.1.1⟩⟩ rfl (by rw [List.length_map]; exact hn) A.2.2.2.2.1 ?_ ?_ hdec ⟨hR.2.2.1, hR.2.2.2⟩
  · obtain ⟨cell, g1, g2, g3⟩ := hPw
    exact ⟨cell, g1, g2, by rw [← hyc]; exact g3⟩
  · show ((avs.reverse ++ _).map (gm E)) = _
    rw [List.map_append, List.map_reverse, List.map_cons]
    rfl
  · refine lv_room ?_
    rw [scat_gm]
    exact hrm
theorem sCsb (hM : sMt y cc' nL' ret d' avs μ (some (r', ρ'))) (hd' : d' + 1 ≤ d) (hdec : decode cc pc = .ok (.invokestatic idx, 3)) (hlink : Cond.methodLink (kRn own) idx y ∈ sT) (hy : yS y cc' nL' ret n) (hn : avs.length = n)
    (hst : st = avs.reverse ++ rest) (hrm : scat rest ≤ 8) (k : sOk own cc nL d bl (pc + 3) lo (r'.toList ++ rest) ρ' o) : sOk own cc nL d bl pc lo st μ o := by
  subst hst
  intro r ρ ho E p l e R s m args below meth c cells slots Q G H locs ls A
  have K := k r ρ ho E p l e R s m args below meth c cells slots Q G
  obtain ⟨hE, C, hR, -⟩ := G
  have hsl : ∀ v ∈ avs, slv v := fun v hv => A.2.2.1 v (List.mem_append_left _ (List.mem_reverse.mpr hv))
  have hrest : ∀ v ∈ rest, slv v := fun v hv => A.2.2.1 v (List.mem_append_right _ hv)
  refine sBh (a := (avs.map (gm E)).toArray) C A hrest ?_ K
  obtain ⟨hx, hcc, hml, hown, hts, hwm, hlow, hsz⟩ := C
  obtain ⟨⟨w1, w2, w3, w4⟩, w5⟩ := hy
  have hM' := hM r' ρ' rfl l E hE hsl
  have hcb := callB_of (R := R) (s := s) (args := args) (own := kRn own) (index := idx) (maxL := nL') n hts (sT_GoodIn y cc' nL' ret w1) rfl (rm := sRm d') rfl rfl (hts _ w2) (hts _ hlink) w3 ⟨by show d' + 1 ≤ _; omega, by show 8 + (nL' + 11) + 64 * d' ≤ _; omega⟩
  refine va_runS (As := avs.map (gm E)) (nL := nL) (Ts := sT) (own := kRn own) (cc := cc) ⟨hx, hcc, hml, hown, hts⟩ hM' ⟨hcb, hts _ w5⟩ ⟨sPc_blind E _ μ, fun U hU hw => ⟨rfl, hwm.trans hw, by rw [hU]; exact A.1, by rw [hU]; exact Nat.le_trans hsz A.2.1.1⟩⟩ rfl (by rw [List.length_map]; exact hn) A.2.2.2.2.1 ?_ ?_ hdec ⟨hR.2.2.1, hR.2.2.2⟩
  · show ((avs.reverse ++ rest).map (gm E)) = _
    rw [List.map_append, List.map_reverse]
  · refine lv_room ?_
    rw [scat_gm]
    exact hrm
end C10
end
section
/-! 11: calls by what they answer; references that change; copies; the script -/
def bI {β : Type} (f : Option (Int32 × sM)) (k : Int32 → sM → Option β) : Option β := match f with
  | some (x, ρ) => k x ρ
  | none => none
def bL {β : Type} (f : Option (Int64 × sM)) (k : Int64 → sM → Option β) : Option β := match f with
  | some (x, ρ) => k x ρ
  | none => none
def bA {β : Type} (f : Option (Nat × sM)) (k : Nat → sM → Option β) : Option β := match f with
  | some (x, ρ) => k x ρ
  | none => none
def bV {β : Type} (f : Option sM) (k : sM → Option β) : Option β := match f with
  | some ρ => k ρ
  | none => none
section M11
variable {own : Nat} {cc : ByteArray} {nL d : Nat} {bl : Bool} {pc : Nat} {lo : sL} {st rest : List sV} {μ : sM} {o : Option (Option sV × sM)}
variable {y : MethodName} {cc' : ByteArray} {nL' d' n idx : Nat} {ret : Option FieldType} {avs : List sV} {β : Type}
variable {q : Nat × Nat} {ci : Nat}
theorem sCvI (g : Option β → Option (Option sV × sM)) (hg : g none = none) {f : Option (Int32 × sM)} {kk : Int32 → sM → Option β} (hM : sMt y cc' nL' ret d' (.inr (.inr q) :: avs) μ (oI f)) (hd' : d' + 1 ≤ d) (hdec : decode cc pc = .ok (.invokevirtual idx, 3)) (hlink : Cond.methodLink (kRn own) idx y ∈ sT) (hy : yV y cc' nL' ret n) (hn : avs.length = n) (hci : ci < 13) (hq : q.1 = ci + 1) (hyc : kRn ci = y.cls) (hst : st = avs.reverse ++ .inr (.inr q) :: rest) (hrm : scat rest ≤ 8)
    (k : ∀ (x : Int32) (ρ : sM), sOk own cc nL d bl (pc + 3) lo (.inl x :: rest) ρ (g (kk x ρ))) : sOk own cc nL d bl pc lo st μ (g (bI f kk)) := by
  cases f with
  | none =>
    show sOk own cc nL d bl pc lo st μ (g none)
    rw [hg]
    exact sNo
  | some z =>
    obtain ⟨x, ρ⟩ := z
    exact sCvb (r' := some (.inl x)) (ρ' := ρ) hM hd' hdec hlink hy hn hci hq hyc hst hrm (k x ρ)
theorem sCvL (g : Option β → Option (Option sV × sM)) (hg : g none = none) {f : Option (Int64 × sM)} {kk : Int64 → sM → Option β} (hM : sMt y cc' nL' ret d' (.inr (.inr q) :: avs) μ (oL f)) (hd' : d' + 1 ≤ d) (hdec : decode cc pc = .ok (.invokevirtual idx, 3)) (hlink : Cond.methodLink (kRn own) idx y ∈ sT) (hy : yV y cc' nL' ret n) (hn : avs.length = n) (hci : ci < 13) (hq : q.1 = ci + 1) (hyc : kRn ci = y.cls) (hst : st = avs.reverse ++ .inr (.inr q) :: rest) (hrm : scat rest ≤ 8)
    (k : ∀ (x : Int64) (ρ : sM), sOk own cc nL d bl (pc + 3) lo (.inr (.inl x) :: rest) ρ (g (kk x ρ))) : sOk own cc nL d bl pc lo st μ (g (bL f kk)) := by
  cases f with
  | none =>
    show sOk own cc nL d bl pc lo st μ (g none)
    rw [hg]
    exact sNo
  | some z =>
    obtain ⟨x, ρ⟩ := z
    exact sCvb (r' := some (.inr (.inl x))) (ρ' := ρ) hM hd' hdec hlink hy hn hci hq hyc hst hrm (k x ρ)
theorem sCvV (g : Option β → Option (Option sV × sM)) (hg : g none = none) {f : Option sM} {kk : sM → Option β} (hM : sMt y cc' nL' ret d' (.inr (.inr q) :: avs) μ (oV f)) (hd' : d' + 1 ≤ d) (hdec : decode cc pc = .ok (.invokevirtual idx, 3)) (hlink : Cond.methodLink (kRn own) idx y ∈ sT) (hy : yV y cc' nL' ret n) (hn : avs.length = n) (hci : ci < 13) (hq : q.1 = ci + 1) (hyc : kRn ci = y.cls) (hst : st = avs.reverse ++ .inr (.inr q) :: rest) (hrm : scat rest ≤ 8)
    (k : ∀ (ρ : sM), sOk own cc nL d bl (pc + 3) lo (rest) ρ (g (kk ρ))) : sOk own cc nL d bl pc lo st μ (g (bV f kk)) := by
  cases f with
  | none =>
    show sOk own cc nL d bl pc lo st μ (g none)
    rw [hg]
    exact sNo
  | some z =>
    exact sCvb (r' := none) (ρ' := z) hM hd' hdec hlink hy hn hci hq hyc hst hrm (k z)
theorem sCvA {kd : Nat} (g : Option β → Option (Option sV × sM)) (hg : g none = none) {f : Option (Nat × sM)} {kk : Nat → sM → Option β} (hM : sMt y cc' nL' ret d' (.inr (.inr q) :: avs) μ (oA kd f)) (hd' : d' + 1 ≤ d) (hdec : decode cc pc = .ok (.invokevirtual idx, 3)) (hlink : Cond.methodLink (kRn own) idx y ∈ sT) (hy : yV y cc' nL' ret n) (hn : avs.length = n) (hci : ci < 13) (hq : q.1 = ci + 1) (hyc : kRn ci = y.cls) (hst : st = avs.reverse ++ .inr (.inr q) :: rest) (hrm : scat rest ≤ 8)
    (k : ∀ (x : Nat) (ρ : sM), sOk own cc nL d bl (pc + 3) lo (.inr (.inr (kd, x)) :: rest) ρ (g (kk x ρ))) : sOk own cc nL d bl pc lo st μ (g (bA f kk)) := by
  cases f with
  | none =>
    show sOk own cc nL d bl pc lo st μ (g none)
    rw [hg]
    exact sNo
  | some z =>
    obtain ⟨x, ρ⟩ := z
    exact sCvb (r' := some (.inr (.inr (kd, x)))) (ρ' := ρ) hM hd' hdec hlink hy hn hci hq hyc hst hrm (k x ρ)
theorem sCsI (g : Option β → Option (Option sV × sM)) (hg : g none = none) {f : Option (Int32 × sM)} {kk : Int32 → sM → Option β} (hM : sMt y cc' nL' ret d' avs μ (oI f)) (hd' : d' + 1 ≤ d) (hdec : decode cc pc = .ok (.invokestatic idx, 3)) (hlink : Cond.methodLink (kRn own) idx y ∈ sT) (hy : yS y cc' nL' ret n) (hn : avs.length = n) (hst : st = avs.reverse ++ rest) (hrm : scat rest ≤ 8)
    (k : ∀ (x : Int32) (ρ : sM), sOk own cc nL d bl (pc + 3) lo (.inl x :: rest) ρ (g (kk x ρ))) : sOk own cc nL d bl pc lo st μ (g (bI f kk)) := by
  cases f with
  | none =>
    show sOk own cc nL d bl pc lo st μ (g none)
    rw [hg]
    exact sNo
  | some z =>
    obtain ⟨x, ρ⟩ := z
    exact sCsb (r' := some (.inl x)) (ρ' := ρ) hM hd' hdec hlink hy hn hst hrm (k x ρ)
theorem sCsL (g : Option β → Option (Option sV × sM)) (hg : g none = none) {f : Option (Int64 × sM)} {kk : Int64 → sM → Option β} (hM : sMt y cc' nL' ret d' avs μ (oL f)) (hd' : d' + 1 ≤ d) (hdec : decode cc pc = .ok (.invokestatic idx, 3)) (hlink : Cond.methodLink (kRn own) idx y ∈ sT) (hy : yS y cc' nL' ret n) (hn : avs.length = n) (hst : st = avs.reverse ++ rest) (hrm : scat rest ≤ 8)
    (k : ∀ (x : Int64) (ρ : sM), sOk own cc nL d bl (pc + 3) lo (.inr (.inl x) :: rest) ρ (g (kk x ρ))) : sOk own cc nL d bl pc lo st μ (g (bL f kk)) := by
  cases f with
  | none =>
    show sOk own cc nL d bl pc lo st μ (g none)
    rw [hg]
    exact sNo
  | some z =>
    obtain ⟨x, ρ⟩ := z
    exact sCsb (r' := some (.inr (.inl x))) (ρ' := ρ) hM hd' hdec hlink hy hn hst hrm (k x ρ)
theorem sCsV (g : Option β → Option (Option sV × sM)) (hg : g none = none) {f : Option sM} {kk : sM → Option β} (hM : sMt y cc' nL' ret d' avs μ (oV f)) (hd' : d' + 1 ≤ d) (hdec : decode cc pc = .ok (.invokestatic idx, 3)) (hlink : Cond.methodLink (kRn own) idx y ∈ sT) (hy : yS y cc' nL' ret n) (hn : avs.length = n) (hst : st = avs.reverse ++ rest) (hrm : scat rest ≤ 8)
    (k : ∀ (ρ : sM), sOk own cc nL d bl (pc + 3) lo (rest) ρ (g (kk ρ))) : sOk own cc nL d bl pc lo st μ (g (bV f kk)) := by
  cases f with
  | none =>
    show sOk own cc nL d bl pc lo st μ (g none)
    rw [hg]
    exact sNo
  | some z =>
    exact sCsb (r' := none) (ρ' := z) hM hd' hdec hlink hy hn hst hrm (k z)
theorem sCsA {kd : Nat} (g : Option β → Option (Option sV × sM)) (hg : g none = none) {f : Option (Nat × sM)} {kk : Nat → sM → Option β} (hM : sMt y cc' nL' ret d' avs μ (oA kd f)) (hd' : d' + 1 ≤ d) (hdec : decode cc pc = .ok (.invokestatic idx, 3)) (hlink : Cond.methodLink (kRn own) idx y ∈ sT) (hy : yS y cc' nL' ret n) (hn : avs.length = n) (hst : st = avs.reverse ++ rest) (hrm : scat rest ≤ 8)
    (k : ∀ (x : Nat) (ρ : sM), sOk own cc nL d bl (pc + 3) lo (.inr (.inr (kd, x)) :: rest) ρ (g (kk x ρ))) : sOk own cc nL d bl pc lo st μ (g (bA f kk)) := by
  cases f with
  | none =>
    show sOk own cc nL d bl pc lo st μ (g none)
    rw [hg]
    exact sNo
  | some z =>
    obtain ⟨x, ρ⟩ := z
    exact sCsb (r' := some (.inr (.inr (kd, x)))) (ρ' := ρ) hM hd' hdec hlink hy hn hst hrm (k x ρ)
/-- a reference that may change -/
theorem sGr {sl n : Nat} {t : List sV} (hb : bk1 cc own pc (.getfield idx, ci, sl, 0, 0) = true) (hq : q.1 = ci + 1) (hk : kft q.1 sl = 3) (hr : rR μ q.1 q.2 sl = n + 1) (k : sOk own cc nL d bl (pc + 3) lo (.inr (.inr ((kfr q.1 sl).1, n)) :: t) μ o) : sOk own cc nL d bl pc lo (.inr (.inr q) :: t) μ o := by
  intro r ρ ho E p l e R s m args below meth c cells slots Q G H locs ls A
  have K := k r ρ ho E p l e R s m args below meth c cells slots Q G
  obtain ⟨hE, ⟨hx, hcc, hml, hown, hts, hwm, hlow, hsz⟩, hR, -⟩ := G
  obtain ⟨hW, hS, hst, hlo, hls⟩ := A
  unfold bk1 at hb
  rw [Bool.and_eq_true] at hb
  obtain ⟨hd, ha⟩ := hb
  have hd := of_decide_eq_true hd
  obtain ⟨hlink, hn, hsl⟩ := kFL_any ha
  have hl : q.2 < kni q.1 := sl_ref (sl_head hst) (by omega)
  have hg : Value.ref (sad E ((kfr q.1 sl).1, n)) = fval E μ q.1 q.2 sl := by
    unfold fval
    rw [hk, hr]
    rfl
  have Kf := K H locs ls ⟨hW, hS, sl_cons (Or.inl (hW.2.2.2 q.1 q.2 sl n hk hr)) (sl_tail hst), hlo, hls⟩
  rw [List.map_cons, show gm E (.inr (.inr ((kfr q.1 sl).1, n))) = fval E μ q.1 q.2 sl from hg] at Kf
  exact va_get hx hcc hts (kU ci hn) hown (sK_at hE hwm) hW.1 (kof q.1 q.2) (cell_o hn hq hl) (kcl ci hn) sl hsl (hts _ hlink) (fun x h => by rw [(kfc ci hn sl hsl).1] at h; exact h) (rng_at hsl) hd Kf
/-! copies -/
def cpo (sp dp n : Int32) (l0 l1 : Nat) : Bool := decide (¬ sp < 0 ∧ ¬ dp < 0 ∧ ¬ n < 0 ∧ sp.toNatClampNeg + n.toNatClampNeg ≤ l0 ∧ dp.toNatClampNeg + n.toNatClampNeg ≤ l1)
def cpw (cc : ByteArray) (own pc idx p1 : Nat) : Bool := decide (decode cc pc = .ok (.invokestatic idx, 3)) && decide (lw_tbl[p1]? = some (Cond.methodLink (kRn own) idx arraycopyName))
theorem cp_nat : Cond.native arraycopyName ∈ sT := sT_in (n := 736) (by decide +kernel) rfl
theorem cp_sta : Cond.static arraycopyName ∈ sT := sT_in (n := 735) (by decide +kernel) rfl
theorem cp_ini : Cond.initialized "java/lang/System" ∈ sT := sT_in (n := 150) (by decide +kernel) rfl
theorem sCpI {q0 q1 : Nat × Nat} {sp dp n : Int32} {p1 : Nat} (hw : cpw cc own pc idx p1 = true) (h0 : kar q0.1 = 1) (h1 : kar q1.1 = 1) (hd1 : 1 ≤ d) (hc : cpo sp dp n (kln q0.1) (kln q1.1) = true) (k : sOk own cc nL d bl (pc + 3) lo [] (cI μ q0.1 q0.2 sp.toNatClampNeg q1.1 q1.2 dp.toNatClampNeg n.toNatClampNeg) o) :
    sOk own cc nL d bl pc lo [.inl n, .inl dp, .inr (.inr q1), .inl sp, .inr (.inr q0)] μ o := by
  intro r ρ ho E p l e R s m args below meth c cells slots Q G H locs ls A
  have K := k r ρ ho E p l e R s m args below meth c cells slots Q G
  obtain ⟨hE, ⟨hx, hcc, hml, hown, hts, hwm, hlow, hsz⟩, hR, -⟩ := G
  obtain ⟨hW, hS, hst, hlo, hls⟩ := A
  unfold cpw at hw
  rw [Bool.and_eq_true, decide_eq_true_eq, decide_eq_true_eq] at hw
  obtain ⟨hd, hp⟩ := hw
  unfold cpo at hc
  rw [decide_eq_true_eq] at hc
  obtain ⟨c1, c2, c3, c4, c5⟩ := hc
  have hk0 := kar_0 h0 (by decide)
  have hk1 := kar_0 h1 (by decide)
  have hl0 : q0.2 < kni q0.1 := sl_ref (hst (.inr (.inr q0)) (by simp)) hk0
  have hl1 : q1.2 < kni q1.1 := sl_ref (hst (.inr (.inr q1)) (by simp)) hk1
  refine va_copyi (rest := []) (f := rI μ q0.1 q0.2) (g := rI μ q1.1 q1.2) (ty := .int) hx hcc (hml.trans hls.1.symm) hown (hts _ (sT_in hp rfl)) (hts _ cp_nat) (hts _ cp_sta) (hts _ cp_ini) (sK_at hE hwm) hW.1 (wld_D E μ) hS (kof q0.1 q0.2) (kof q1.1 q1.2) 0 0 (c0 := eT E 0) (c1 := eT E 0) (n0 := kln q0.1) (n1 := kln q1.1) ?_ ?_ rfl rfl rfl c1 c2 c3 c4 c5 (fun _ _ => rfl) (by omega) ?_ hd ?_
  · rw [wld_at E μ hl0, ent_i h0, sad_ne hk0]
  · rw [wld_at E μ hl1, ent_i h1, sad_ne hk1]
  · have e1 : nativeFrameWords "java/lang/System" "arraycopy" 5 = 7 := by decide +kernel
    rw [e1]
    show 0 + (7 + 11) ≤ _
    omega
  · intro H1 locs1 hP1 _ hS1
    rw [sad_ne hk1] at hP1
    refine K H1 locs1 ls ⟨?_, hS1, (fun v h => by cases h), hlo, hls⟩
    refine sW_put hW hl1 hP1 ?_ (fun a b z h => by rw [rI_cI, if_neg (fun w => pair_ne h ⟨w.1, w.2.1⟩)]) (fun _ _ _ _ => rfl) (fun _ _ _ _ => rfl) (low_of hlow hsz hS1) (fun k i j n a b => hW.2.2.2 k i j n a b)
    rw [ent_i h1]
    have e2 : rI (cI μ q0.1 q0.2 sp.toNatClampNeg q1.1 q1.2 dp.toNatClampNeg n.toNatClampNeg) q1.1 q1.2 = va_cpy (rI μ q0.1 q0.2) (rI μ q1.1 q1.2) sp.toNatClampNeg dp.toNatClampNeg n.toNatClampNeg := by
      funext z
      unfold va_cpy
      rw [rI_cI]
      by_cases hz : dp.toNatClampNeg ≤ z ∧ z < dp.toNatClampNeg + n.toNatClampNeg
      · rw [if_pos ⟨rfl, rfl, hz⟩, if_pos hz]
      · rw [if_neg (fun w => hz w.2.2), if_neg hz]
    rw [e2]
theorem sCpL {q0 q1 : Nat × Nat} {sp dp n : Int32} {p1 : Nat} (hw : cpw cc own pc idx p1 = true) (h0 : kar q0.1 = 2) (h1 : kar q1.1 = 2) (hd1 : 1 ≤ d) (hc : cpo sp dp n (kln q0.1) (kln q1.1) = true) (k : sOk own cc nL d bl (pc + 3) lo [] (cL μ q0.1 q0.2 sp.toNatClampNeg q1.1 q1.2 dp.toNatClampNeg n.toNatClampNeg) o) :
    sOk own cc nL d bl pc lo [.inl n, .inl dp, .inr (.inr q1), .inl sp, .inr (.inr q0)] μ o := by
  intro r ρ ho E p l e R s m args below meth c cells slots Q G H locs ls A
  have K := k r ρ ho E p l e R s m args below meth c cells slots Q G
  obtain ⟨hE, ⟨hx, hcc, hml, hown, hts, hwm, hlow, hsz⟩, hR, -⟩ := G
  obtain ⟨hW, hS, hst, hlo, hls⟩ := A
  unfold cpw at hw
  rw [Bool.and_eq_true, decide_eq_true_eq, decide_eq_true_eq] at hw
  obtain ⟨hd, hp⟩ := hw
  unfold cpo at hc
  rw [decide_eq_true_eq] at hc
  obtain ⟨c1, c2, c3, c4, c5⟩ := hc
  have hk0 := kar_0 h0 (by decide)
  have hk1 := kar_0 h1 (by decide)
  have hl0 : q0.2 < kni q0.1 := sl_ref (hst (.inr (.inr q0)) (by simp)) hk0
  have hl1 : q1.2 < kni q1.1 := sl_ref (hst (.inr (.inr q1)) (by simp)) hk1
  refine va_copyl (rest := []) (f := rL μ q0.1 q0.2) (g := rL μ q1.1 q1.2) (ty := .long) hx hcc (hml.trans hls.1.symm) hown (hts _ (sT_in hp rfl)) (hts _ cp_nat) (hts _ cp_sta) (hts _ cp_ini) (sK_at hE hwm) hW.1 (wld_D E μ) hS (kof q0.1 q0.2) (kof q1.1 q1.2) 1 1 (c0 := eT E 1) (c1 := eT E 1) (n0 := kln q0.1) (n1 := kln q1.1) ?_ ?_ rfl rfl rfl c1 c2 c3 c4 c5 (fun _ _ => rfl) (by omega) ?_ hd ?_
  · rw [wld_at E μ hl0, ent_l h0, sad_ne hk0]
  · rw [wld_at E μ hl1, ent_l h1, sad_ne hk1]
  · have e1 : nativeFrameWords "java/lang/System" "arraycopy" 5 = 7 := by decide +kernel
    rw [e1]
    show 0 + (7 + 11) ≤ _
    omega
  · intro H1 locs1 hP1 _ hS1
    rw [sad_ne hk1] at hP1
    refine K H1 locs1 ls ⟨?_, hS1, (fun v h => by cases h), hlo, hls⟩
    refine sW_put hW hl1 hP1 ?_ (fun _ _ _ _ => rfl) (fun a b z h => by rw [rL_cL, if_neg (fun w => pair_ne h ⟨w.1, w.2.1⟩)]) (fun _ _ _ _ => rfl) (low_of hlow hsz hS1) (fun k i j n a b => hW.2.2.2 k i j n a b)
    rw [ent_l h1]
    have e2 : rL (cL μ q0.1 q0.2 sp.toNatClampNeg q1.1 q1.2 dp.toNatClampNeg n.toNatClampNeg) q1.1 q1.2 = va_cpy (rL μ q0.1 q0.2) (rL μ q1.1 q1.2) sp.toNatClampNeg dp.toNatClampNeg n.toNatClampNeg := by
      funext z
      unfold va_cpy
      rw [rL_cL]
      by_cases hz : dp.toNatClampNeg ≤ z ∧ z < dp.toNatClampNeg + n.toNatClampNeg
      · rw [if_pos ⟨rfl, rfl, hz⟩, if_pos hz]
      · rw [if_neg (fun w => hz w.2.2), if_neg hz]
    rw [e2]
/-! the script -/
theorem sX_at {E : sE} {s : State} (hE : sEn E) (hwm : (eS E).WarmedH s.vm) (hlow : ∀ q : Nat, q < (eS E).heap.size → s.heap[q]? = (eS E).heap[q]?) {H : Heap} (hW : sW E μ H) : va_X (eB E) (eL E) (rI μ 0 0) s s.heap := (hW.2.1.1.moved hwm.alike).kept (hlow _ hE.2.1)
theorem sSl {i : Int32} {t : List sV} (hd : decode cc pc = .ok (.iaload, 1)) (hi : inb i (rI μ 0 1 0).toNatClampNeg = true) (k : sOk own cc nL d bl (pc + 1) lo (.inl (rI μ 0 0 i.toNatClampNeg) :: t) μ o) : sOk own cc nL d bl pc lo (.inl i :: .inr (.inr (0, 0)) :: t) μ o := by
  intro r ρ ho E p l e R s m args below meth c cells slots Q G H locs ls A
  have K := k r ρ ho E p l e R s m args below meth c cells slots Q G H locs ls ⟨A.1, A.2.1, sl_cons trivial (sl_tail (sl_tail A.2.2.1)), A.2.2.2⟩
  obtain ⟨hE, ⟨hx, hcc, hml, hown, hts, hwm, hlow, hsz⟩, hR, -⟩ := G
  have e1 : (rI μ 0 1 0).toNatClampNeg = eL E := by
    rw [A.1.2.1.2]
    exact nI_clamp (by have := hE.2.2.1; omega)
  rw [e1] at hi
  exact va_sld hx hcc (sX_at hE hwm hlow A.1) (Nat.lt_of_lt_of_le hE.2.1 hsz) (Nat.not_le.mpr hE.2.1) A.2.1 (inb_in hi) hd K
theorem sSn {t : List sV} (hd : decode cc pc = .ok (.arraylength, 1)) (k : sOk own cc nL d bl (pc + 1) lo (.inl (rI μ 0 1 0) :: t) μ o) : sOk own cc nL d bl pc lo (.inr (.inr (0, 0)) :: t) μ o := by
  intro r ρ ho E p l e R s m args below meth c cells slots Q G H locs ls A
  have K := k r ρ ho E p l e R s m args below meth c cells slots Q G H locs ls ⟨A.1, A.2.1, sl_cons trivial (sl_tail A.2.2.1), A.2.2.2⟩
  obtain ⟨hE, ⟨hx, hcc, hml, hown, hts, hwm, hlow, hsz⟩, hR, -⟩ := G
  rw [A.1.2.1.2] at K
  exact va_slen hx hcc (sX_at hE hwm hlow A.1) (Nat.lt_of_lt_of_le hE.2.1 hsz) (Nat.not_le.mpr hE.2.1) A.2.1 hd K
end M11
end
section
/-! 12: steps under a test -/
abbrev irm (x y : Int32) : Int32 := x - x / y * y
abbrev lrm (x y : Int64) : Int64 := x - x / y * y
abbrev isr (x y : Int32) : Int32 := x >>> (y &&& 31)
abbrev isl (x y : Int32) : Int32 := x <<< (y &&& 31)
abbrev lsl (x : Int64) (y : Int32) : Int64 := x <<< (y.toInt64 &&& 63)
def fuN : Nat := 4000000
section K12
variable {own : Nat} {cc : ByteArray} {nL d : Nat} {bl : Bool} {pc : Nat} {lo : sL} {t : List sV} {μ : sM} {o : Option (Option sV × sM)} {β : Type} {k a n j : Nat} {i : Int32}
theorem bk_of {ins : Instr} (hd : decode cc pc = .ok (ins, iln ins)) (ha : aux own (ins, 0, 0, 0, 0) = true) : bk1 cc own pc (ins, 0, 0, 0, 0) = true := by
  unfold bk1
  rw [Bool.and_eq_true]
  exact ⟨decide_eq_true hd, ha⟩
theorem h_ial (hi : inb i n = true) (hk : kar k = 1) (hn : kln k = n) (hj : i.toNatClampNeg = j) : e_iald 1 lo (.inl i :: .inr (.inr (k, a)) :: t) μ = some (lo, .inl (rI μ k a j) :: t, μ) := by
  subst hj
  subst hn
  unfold e_iald
  simp only []
  rw [if_pos hk, if_pos hi]
theorem sC_ial (hd : decode cc pc = .ok (.iaload, 1)) (hi : inb i n = true) (hk : kar k = 1) (hn : kln k = n) (hj : i.toNatClampNeg = j) (K : sOk own cc nL d bl (pc + 1) lo (.inl (rI μ k a j) :: t) μ o) : sOk own cc nL d bl pc lo (.inl i :: .inr (.inr (k, a)) :: t) μ o :=
  s1 (q := (.iaload, 0, 0, 0, 0)) (bk_of hd rfl) (h_ial hi hk hn hj) K
theorem sS_ial (g : Option β → Option (Option sV × sM)) (hg : g none = none) {z : Option β} (hd : decode cc pc = .ok (.iaload, 1)) (hk : kar k = 1) (hn : kln k = n) (hj : i.toNatClampNeg = j) (K : inb i n = true → sOk own cc nL d bl (pc + 1) lo (.inl (rI μ k a j) :: t) μ (g z)) : sOk own cc nL d bl pc lo (.inl i :: .inr (.inr (k, a)) :: t) μ (g (if inb i n = true then z else none)) :=
  sCk g hg (fun hi => sC_ial hd hi hk hn hj (K hi))
theorem h_bal (hi : inb i n = true) (hk : kar k = 3) (hn : kln k = n) (hj : i.toNatClampNeg = j) : e_iald 3 lo (.inl i :: .inr (.inr (k, a)) :: t) μ = some (lo, .inl (rI μ k a j) :: t, μ) := by
  subst hj
  subst hn
  unfold e_iald
  simp only []
  rw [if_pos hk, if_pos hi]
theorem sC_bal (hd : decode cc pc = .ok (.baload, 1)) (hi : inb i n = true) (hk : kar k = 3) (hn : kln k = n) (hj : i.toNatClampNeg = j) (K : sOk own cc nL d bl (pc + 1) lo (.inl (rI μ k a j) :: t) μ o) : sOk own cc nL d bl pc lo (.inl i :: .inr (.inr (k, a)) :: t) μ o :=
  s1 (q := (.baload, 0, 0, 0, 0)) (bk_of hd rfl) (h_bal hi hk hn hj) K
theorem sS_bal (g : Option β → Option (Option sV × sM)) (hg : g none = none) {z : Option β} (hd : decode cc pc = .ok (.baload, 1)) (hk : kar k = 3) (hn : kln k = n) (hj : i.toNatClampNeg = j) (K : inb i n = true → sOk own cc nL d bl (pc + 1) lo (.inl (rI μ k a j) :: t) μ (g z)) : sOk own cc nL d bl pc lo (.inl i :: .inr (.inr (k, a)) :: t) μ (g (if inb i n = true then z else none)) :=
  sCk g hg (fun hi => sC_bal hd hi hk hn hj (K hi))
theorem h_lal (hi : inb i n = true) (hk : kar k = 2) (hn : kln k = n) (hj : i.toNatClampNeg = j) : e_lald lo (.inl i :: .inr (.inr (k, a)) :: t) μ = some (lo, .inr (.inl (rL μ k a j)) :: t, μ) := by
  subst hj
  subst hn
  unfold e_lald
  simp only []
  rw [if_pos hk, if_pos hi]
theorem sC_lal (hd : decode cc pc = .ok (.laload, 1)) (hi : inb i n = true) (hk : kar k = 2) (hn : kln k = n) (hj : i.toNatClampNeg = j) (K : sOk own cc nL d bl (pc + 1) lo (.inr (.inl (rL μ k a j)) :: t) μ o) : sOk own cc nL d bl pc lo (.inl i :: .inr (.inr (k, a)) :: t) μ o :=
  s1 (q := (.laload, 0, 0, 0, 0)) (bk_of hd rfl) (h_lal hi hk hn hj) K
theorem sS_lal (g : Option β → Option (Option sV × sM)) (hg : g none = none) {z : Option β} (hd : decode cc pc = .ok (.laload, 1)) (hk : kar k = 2) (hn : kln k = n) (hj : i.toNatClampNeg = j) (K : inb i n = true → sOk own cc nL d bl (pc + 1) lo (.inr (.inl (rL μ k a j)) :: t) μ (g z)) : sOk own cc nL d bl pc lo (.inl i :: .inr (.inr (k, a)) :: t) μ (g (if inb i n = true then z else none)) :=
  sCk g hg (fun hi => sC_lal hd hi hk hn hj (K hi))
theorem h_aal (hi : inb i n = true) (hk : kar k = 4) (hn : kln k = n) (hj : i.toNatClampNeg = j) : e_aald lo (.inl i :: .inr (.inr (k, a)) :: t) μ = some (lo, .inr (.inr ((kae k).1, (kae k).2 + j)) :: t, μ) := by
  subst hj
  subst hn
  unfold e_aald
  simp only []
  rw [if_pos hk, if_pos hi]
theorem sC_aal (hd : decode cc pc = .ok (.aaload, 1)) (hi : inb i n = true) (hk : kar k = 4) (hn : kln k = n) (hj : i.toNatClampNeg = j) (K : sOk own cc nL d bl (pc + 1) lo (.inr (.inr ((kae k).1, (kae k).2 + j)) :: t) μ o) : sOk own cc nL d bl pc lo (.inl i :: .inr (.inr (k, a)) :: t) μ o :=
  s1 (q := (.aaload, 0, 0, 0, 0)) (bk_of hd rfl) (h_aal hi hk hn hj) K
theorem sS_aal (g : Option β → Option (Option sV × sM)) (hg : g none = none) {z : Option β} (hd : decode cc pc = .ok (.aaload, 1)) (hk : kar k = 4) (hn : kln k = n) (hj : i.toNatClampNeg = j) (K : inb i n = true → sOk own cc nL d bl (pc + 1) lo (.inr (.inr ((kae k).1, (kae k).2 + j)) :: t) μ (g z)) : sOk own cc nL d bl pc lo (.inl i :: .inr (.inr (k, a)) :: t) μ (g (if inb i n = true then z else none)) :=
  sCk g hg (fun hi => sC_aal hd hi hk hn hj (K hi))
theorem h_ias {x : Int32} (hi : inb i n = true) (hk : kar k = 1) (hn : kln k = n) (hj : i.toNatClampNeg = j) : e_iast 1 (fun x => x) lo (.inl x :: .inl i :: .inr (.inr (k, a)) :: t) μ = some (lo, t, (wI μ k a j x)) := by
  subst hj
  subst hn
  unfold e_iast
  simp only []
  rw [if_pos hk, if_pos hi]
theorem sC_ias {x : Int32} (hd : decode cc pc = .ok (.iastore, 1)) (hi : inb i n = true) (hk : kar k = 1) (hn : kln k = n) (hj : i.toNatClampNeg = j) (K : sOk own cc nL d bl (pc + 1) lo (t) (wI μ k a j x) o) : sOk own cc nL d bl pc lo (.inl x :: .inl i :: .inr (.inr (k, a)) :: t) μ o :=
  s1 (q := (.iastore, 0, 0, 0, 0)) (bk_of hd rfl) (h_ias hi hk hn hj) K
theorem sS_ias {x : Int32} (g : Option β → Option (Option sV × sM)) (hg : g none = none) {z : Option β} (hd : decode cc pc = .ok (.iastore, 1)) (hk : kar k = 1) (hn : kln k = n) (hj : i.toNatClampNeg = j) (K : inb i n = true → sOk own cc nL d bl (pc + 1) lo (t) (wI μ k a j x) (g z)) : sOk own cc nL d bl pc lo (.inl x :: .inl i :: .inr (.inr (k, a)) :: t) μ (g (if inb i n = true then z else none)) :=
  sCk g hg (fun hi => sC_ias hd hi hk hn hj (K hi))
theorem h_bas {x : Int32} (hi : inb i n = true) (hk : kar k = 3) (hn : kln k = n) (hj : i.toNatClampNeg = j) : e_iast 3 (fun x => x.toInt8.toInt32) lo (.inl x :: .inl i :: .inr (.inr (k, a)) :: t) μ = some (lo, t, (wI μ k a j x.toInt8.toInt32)) := by
  subst hj
  subst hn
  unfold e_iast
  simp only []
  rw [if_pos hk, if_pos hi]
theorem sC_bas {x : Int32} (hd : decode cc pc = .ok (.bastore, 1)) (hi : inb i n = true) (hk : kar k = 3) (hn : kln k = n) (hj : i.toNatClampNeg = j) (K : sOk own cc nL d bl (pc + 1) lo (t) (wI μ k a j x.toInt8.toInt32) o) : sOk own cc nL d bl pc lo (.inl x :: .inl i :: .inr (.inr (k, a)) :: t) μ o :=
  s1 (q := (.bastore, 0, 0, 0, 0)) (bk_of hd rfl) (h_bas hi hk hn hj) K
theorem sS_bas {x : Int32} (g : Option β → Option (Option sV × sM)) (hg : g none = none) {z : Option β} (hd : decode cc pc = .ok (.bastore, 1)) (hk : kar k = 3) (hn : kln k = n) (hj : i.toNatClampNeg = j) (K : inb i n = true → sOk own cc nL d bl (pc + 1) lo (t) (wI μ k a j x.toInt8.toInt32) (g z)) : sOk own cc nL d bl pc lo (.inl x :: .inl i :: .inr (.inr (k, a)) :: t) μ (g (if inb i n = true then z else none)) :=
  sCk g hg (fun hi => sC_bas hd hi hk hn hj (K hi))
theorem h_las {x : Int64} (hi : inb i n = true) (hk : kar k = 2) (hn : kln k = n) (hj : i.toNatClampNeg = j) : e_last lo (.inr (.inl x) :: .inl i :: .inr (.inr (k, a)) :: t) μ = some (lo, t, (wL μ k a j x)) := by
  subst hj
  subst hn
  unfold e_last
  simp only []
  rw [if_pos hk, if_pos hi]
theorem sC_las {x : Int64} (hd : decode cc pc = .ok (.lastore, 1)) (hi : inb i n = true) (hk : kar k = 2) (hn : kln k = n) (hj : i.toNatClampNeg = j) (K : sOk own cc nL d bl (pc + 1) lo (t) (wL μ k a j x) o) : sOk own cc nL d bl pc lo (.inr (.inl x) :: .inl i :: .inr (.inr (k, a)) :: t) μ o :=
  s1 (q := (.lastore, 0, 0, 0, 0)) (bk_of hd rfl) (h_las hi hk hn hj) K
theorem sS_las {x : Int64} (g : Option β → Option (Option sV × sM)) (hg : g none = none) {z : Option β} (hd : decode cc pc = .ok (.lastore, 1)) (hk : kar k = 2) (hn : kln k = n) (hj : i.toNatClampNeg = j) (K : inb i n = true → sOk own cc nL d bl (pc + 1) lo (t) (wL μ k a j x) (g z)) : sOk own cc nL d bl pc lo (.inr (.inl x) :: .inl i :: .inr (.inr (k, a)) :: t) μ (g (if inb i n = true then z else none)) :=
  sCk g hg (fun hi => sC_las hd hi hk hn hj (K hi))
theorem sC_idv {x y : Int32} (hd : decode cc pc = .ok (.idiv, 1)) (hy : ¬ y = 0) (K : sOk own cc nL d bl (pc + 1) lo (.inl (x / y) :: t) μ o) : sOk own cc nL d bl pc lo (.inl y :: .inl x :: t) μ o :=
  s1 (q := (.idiv, 0, 0, 0, 0)) (bk_of hd rfl) (if_neg hy) K
theorem sS_idv {x y : Int32} (g : Option β → Option (Option sV × sM)) (hg : g none = none) {z : Option β} (hd : decode cc pc = .ok (.idiv, 1)) (K : ¬ y = 0 → sOk own cc nL d bl (pc + 1) lo (.inl (x / y) :: t) μ (g z)) : sOk own cc nL d bl pc lo (.inl y :: .inl x :: t) μ (g (if y = 0 then none else z)) :=
  sCn g hg (fun hy => sC_idv hd hy (K hy))
theorem sC_irm {x y : Int32} (hd : decode cc pc = .ok (.irem, 1)) (hy : ¬ y = 0) (K : sOk own cc nL d bl (pc + 1) lo (.inl (irm x y) :: t) μ o) : sOk own cc nL d bl pc lo (.inl y :: .inl x :: t) μ o :=
  s1 (q := (.irem, 0, 0, 0, 0)) (bk_of hd rfl) (if_neg hy) K
theorem sS_irm {x y : Int32} (g : Option β → Option (Option sV × sM)) (hg : g none = none) {z : Option β} (hd : decode cc pc = .ok (.irem, 1)) (K : ¬ y = 0 → sOk own cc nL d bl (pc + 1) lo (.inl (irm x y) :: t) μ (g z)) : sOk own cc nL d bl pc lo (.inl y :: .inl x :: t) μ (g (if y = 0 then none else z)) :=
  sCn g hg (fun hy => sC_irm hd hy (K hy))
theorem sC_ldv {x y : Int64} (hd : decode cc pc = .ok (.ldiv, 1)) (hy : ¬ y = 0) (K : sOk own cc nL d bl (pc + 1) lo (.inr (.inl (x / y)) :: t) μ o) : sOk own cc nL d bl pc lo (.inr (.inl y) :: .inr (.inl x) :: t) μ o :=
  s1 (q := (.ldiv, 0, 0, 0, 0)) (bk_of hd rfl) (if_neg hy) K
theorem sS_ldv {x y : Int64} (g : Option β → Option (Option sV × sM)) (hg : g none = none) {z : Option β} (hd : decode cc pc = .ok (.ldiv, 1)) (K : ¬ y = 0 → sOk own cc nL d bl (pc + 1) lo (.inr (.inl (x / y)) :: t) μ (g z)) : sOk own cc nL d bl pc lo (.inr (.inl y) :: .inr (.inl x) :: t) μ (g (if y = 0 then none else z)) :=
  sCn g hg (fun hy => sC_ldv hd hy (K hy))
theorem sC_lrm {x y : Int64} (hd : decode cc pc = .ok (.lrem, 1)) (hy : ¬ y = 0) (K : sOk own cc nL d bl (pc + 1) lo (.inr (.inl (lrm x y)) :: t) μ o) : sOk own cc nL d bl pc lo (.inr (.inl y) :: .inr (.inl x) :: t) μ o :=
  s1 (q := (.lrem, 0, 0, 0, 0)) (bk_of hd rfl) (if_neg hy) K
theorem sS_lrm {x y : Int64} (g : Option β → Option (Option sV × sM)) (hg : g none = none) {z : Option β} (hd : decode cc pc = .ok (.lrem, 1)) (K : ¬ y = 0 → sOk own cc nL d bl (pc + 1) lo (.inr (.inl (lrm x y)) :: t) μ (g z)) : sOk own cc nL d bl pc lo (.inr (.inl y) :: .inr (.inl x) :: t) μ (g (if y = 0 then none else z)) :=
  sCn g hg (fun hy => sC_lrm hd hy (K hy))
/-- a truth value put into a field -/
theorem sS_pz {x : Int32} {idx ci sl : Nat} (g : Option β → Option (Option sV × sM)) (hg : g none = none) {z : Option β} (hb : bk1 cc own pc (.putfield idx, ci, sl, 0, 0) = true) (hk : k = ci + 1) (hf : kft k sl = 4) (K : x = 0 ∨ x = 1 → sOk own cc nL d bl (pc + 3) lo t (wI μ k a sl x) (g z)) : sOk own cc nL d bl pc lo (.inl x :: .inr (.inr (k, a)) :: t) μ (g (if x = 0 ∨ x = 1 then z else none)) :=
  sCk g hg (fun h => s1 (q := (.putfield idx, ci, sl, 0, 0)) hb (by
    show e_put ci sl lo (.inl x :: .inr (.inr (k, a)) :: t) μ = some (lo, t, wI μ k a sl x)
    unfold e_put
    simp only []
    rw [if_pos hk, hf]
    exact if_pos h) (K h))
end K12
end
section
/-! 13: Math, as one step each -/
abbrev imn (x y : Int32) : Int32 := if y < x then y else x
abbrev imx (x y : Int32) : Int32 := if x < y then y else x
abbrev lmx (x y : Int64) : Int64 := if y < x then x else y
abbrev lab (x : Int64) : Int64 := if 0 < x then x else -x
theorem ma_ini : Cond.initialized "java/lang/Math" ∈ sT := sT_in (n := 151) (by decide +kernel) rfl
section M13
variable {own : Nat} {cc : ByteArray} {nL d : Nat} {bl : Bool} {pc : Nat} {lo : sL} {t : List sV} {μ : sM} {o : Option (Option sV × sM)} {idx p1 : Nat}
theorem sMin_st : Cond.static Lib.Math.min.name ∈ sT := sT_in (n := 754) (by decide +kernel) rfl
theorem sMin_cd : Cond.code Lib.Math.min.name Lib.Math.min.code 2 (some .int) ∈ sT := sT_in (n := 755) (by decide +kernel) rfl
def sMin_w (cc : ByteArray) (own pc idx p1 : Nat) : Bool := decide (decode cc pc = .ok (.invokestatic idx, 3)) && decide (lw_tbl[p1]? = some (Cond.methodLink (kRn own) idx Lib.Math.min.name))
theorem sMin {x y : Int32} (hw : sMin_w cc own pc idx p1 = true) (hd1 : 1 ≤ d) (hrm : scat t ≤ 8) (k : sOk own cc nL d bl (pc + 3) lo (.inl (imn x y) :: t) μ o) : sOk own cc nL d bl pc lo (.inl y :: .inl x :: t) μ o := by
  intro r ρ ho E p l e R s m args below meth c cells slots Q G H locs ls A
  have K := k r ρ ho E p l e R s m args below meth c cells slots Q G
  obtain ⟨hE, ⟨hx, hcc, hml, hown, hts, hwm, hlow, hsz⟩, hR, -⟩ := G
  unfold sMin_w at hw
  rw [Bool.and_eq_true, decide_eq_true_eq, decide_eq_true_eq] at hw
  refine va_mmin hx hcc (hml.trans A.2.2.2.2.1.symm) hown (hts _ (sT_in hw.2 rfl)) (hts _ sMin_st) (hts _ ma_ini) (hts _ sMin_cd) (by omega) ?_ hR.2.2.1 hR.2.2.2 hw.1 (K H locs ls ⟨A.1, A.2.1, sl_cons trivial (sl_tail (sl_tail A.2.2.1)), A.2.2.2⟩)
  show ((t.map (gm E)).map _).sum + 13 ≤ _
  rw [scat_gm]
  omega
theorem sMax_st : Cond.static Lib.Math.max.name ∈ sT := sT_in (n := 1118) (by decide +kernel) rfl
theorem sMax_cd : Cond.code Lib.Math.max.name Lib.Math.max.code 2 (some .int) ∈ sT := sT_in (n := 1119) (by decide +kernel) rfl
def sMax_w (cc : ByteArray) (own pc idx p1 : Nat) : Bool := decide (decode cc pc = .ok (.invokestatic idx, 3)) && decide (lw_tbl[p1]? = some (Cond.methodLink (kRn own) idx Lib.Math.max.name))
theorem sMax {x y : Int32} (hw : sMax_w cc own pc idx p1 = true) (hd1 : 1 ≤ d) (hrm : scat t ≤ 8) (k : sOk own cc nL d bl (pc + 3) lo (.inl (imx x y) :: t) μ o) : sOk own cc nL d bl pc lo (.inl y :: .inl x :: t) μ o := by
  intro r ρ ho E p l e R s m args below meth c cells slots Q G H locs ls A
  have K := k r ρ ho E p l e R s m args below meth c cells slots Q G
  obtain ⟨hE, ⟨hx, hcc, hml, hown, hts, hwm, hlow, hsz⟩, hR, -⟩ := G
  unfold sMax_w at hw
  rw [Bool.and_eq_true, decide_eq_true_eq, decide_eq_true_eq] at hw
  refine va_mmax hx hcc (hml.trans A.2.2.2.2.1.symm) hown (hts _ (sT_in hw.2 rfl)) (hts _ sMax_st) (hts _ ma_ini) (hts _ sMax_cd) (by omega) ?_ hR.2.2.1 hR.2.2.2 hw.1 (K H locs ls ⟨A.1, A.2.1, sl_cons trivial (sl_tail (sl_tail A.2.2.1)), A.2.2.2⟩)
  show ((t.map (gm E)).map _).sum + 13 ≤ _
  rw [scat_gm]
  omega
theorem sMaxL_st : Cond.static Lib.MathLoose.max_long.x ∈ sT := sT_in (n := 1351) (by decide +kernel) rfl
theorem sMaxL_cd : Cond.code Lib.MathLoose.max_long.x Lib.MathLoose.max_long.code 4 (some .long) ∈ sT := sT_in (n := 1352) (by decide +kernel) rfl
def sMaxL_w (cc : ByteArray) (own pc idx p1 : Nat) : Bool := decide (decode cc pc = .ok (.invokestatic idx, 3)) && decide (lw_tbl[p1]? = some (Cond.methodLink (kRn own) idx Lib.MathLoose.max_long.x))
theorem sMaxL {x y : Int64} (hw : sMaxL_w cc own pc idx p1 = true) (hd1 : 1 ≤ d) (hrm : scat t ≤ 8) (k : sOk own cc nL d bl (pc + 3) lo (.inr (.inl (lmx x y)) :: t) μ o) : sOk own cc nL d bl pc lo (.inr (.inl y) :: .inr (.inl x) :: t) μ o := by
  intro r ρ ho E p l e R s m args below meth c cells slots Q G H locs ls A
  have K := k r ρ ho E p l e R s m args below meth c cells slots Q G
  obtain ⟨hE, ⟨hx, hcc, hml, hown, hts, hwm, hlow, hsz⟩, hR, -⟩ := G
  unfold sMaxL_w at hw
  rw [Bool.and_eq_true, decide_eq_true_eq, decide_eq_true_eq] at hw
  refine va_mmax_long hx hcc (hml.trans A.2.2.2.2.1.symm) hown (hts _ (sT_in hw.2 rfl)) (hts _ sMaxL_st) (hts _ ma_ini) (hts _ sMaxL_cd) (by omega) ?_ hR.2.2.1 hR.2.2.2 hw.1 (K H locs ls ⟨A.1, A.2.1, sl_cons trivial (sl_tail (sl_tail A.2.2.1)), A.2.2.2⟩)
  show ((t.map (gm E)).map _).sum + 15 ≤ _
  rw [scat_gm]
  omega
theorem sAbsL_st : Cond.static Lib.MathLoose.abs_long.x ∈ sT := sT_in (n := 2167) (by decide +kernel) rfl
theorem sAbsL_cd : Cond.code Lib.MathLoose.abs_long.x Lib.MathLoose.abs_long.code 2 (some .long) ∈ sT := sT_in (n := 2168) (by decide +kernel) rfl
def sAbsL_w (cc : ByteArray) (own pc idx p1 : Nat) : Bool := decide (decode cc pc = .ok (.invokestatic idx, 3)) && decide (lw_tbl[p1]? = some (Cond.methodLink (kRn own) idx Lib.MathLoose.abs_long.x))
theorem sAbsL {x : Int64} (hw : sAbsL_w cc own pc idx p1 = true) (hd1 : 1 ≤ d) (hrm : scat t ≤ 8) (k : sOk own cc nL d bl (pc + 3) lo (.inr (.inl (lab x)) :: t) μ o) : sOk own cc nL d bl pc lo (.inr (.inl x) :: t) μ o := by
  intro r ρ ho E p l e R s m args below meth c cells slots Q G H locs ls A
  have K := k r ρ ho E p l e R s m args below meth c cells slots Q G
  obtain ⟨hE, ⟨hx, hcc, hml, hown, hts, hwm, hlow, hsz⟩, hR, -⟩ := G
  unfold sAbsL_w at hw
  rw [Bool.and_eq_true, decide_eq_true_eq, decide_eq_true_eq] at hw
  refine va_mabs_long hx hcc (hml.trans A.2.2.2.2.1.symm) hown (hts _ (sT_in hw.2 rfl)) (hts _ sAbsL_st) (hts _ ma_ini) (hts _ sAbsL_cd) (by omega) ?_ hR.2.2.1 hR.2.2.2 hw.1 (K H locs ls ⟨A.1, A.2.1, sl_cons trivial (sl_tail A.2.2.1), A.2.2.2⟩)
  show ((t.map (gm E)).map _).sum + 13 ≤ _
  rw [scat_gm]
  omega
end M13
/-! the words' String: to be proved -/
section W13
variable {own : Nat} {cc : ByteArray} {nL d : Nat} {bl : Bool} {pc : Nat} {lo : sL} {t : List sV} {μ : sM} {o : Option (Option sV × sM)} {x : Int32} {n : Nat}
theorem sSd {df : Nat} {st : List sV} (k : sOk own cc nL d bl df lo st μ o) : sOk own cc nL d bl (swl [] df x) lo st μ o := k
end W13
end
section
/-! ClockRiver$Reaches.add -/
def X3_add (a0 : Nat) (a1 : Int64) (a3 : Int32) (a4 : Int32) (a5 : Int32) (μ : sM) : Option sM :=
  if 6 ≤ (rI μ 4 a0 0) then
    some μ
  else
    if inb (rI μ 4 a0 0) 6 = true then
      if inb (rI μ 4 a0 0) 6 = true then
        if inb (rI μ 4 a0 0) 6 = true then
          if inb (rI μ 4 a0 0) 6 = true then
            some (wI (wI (wI (wI (wL μ 28 a0 (ix (rI μ 4 a0 0)) a1) 29 a0 (ix (rI μ 4 a0 0)) a3) 30 a0 (ix (rI μ 4 a0 0)) a4) 31 a0 (ix (rI μ 4 a0 0)) a5) 4 a0 0 ((rI μ 4 a0 0) + 1))
          else none
        else none
      else none
    else none
theorem tX3_add (a0 : Nat) (a1 : Int64) (a3 : Int32) (a4 : Int32) (a5 : Int32) (μ : sM) : sMt yX3_add cX3_add 6 none 1 [vr 4 a0, vl a1, vi a3, vi a4, vi a5] μ (oV (X3_add a0 a1 a3 a4 a5 μ)) := by
  refine sMt_of (own := 3) (bl := false) (by decide +kernel) rfl (Nat.le_of_ble_eq_true rfl) (fun r ρ h => ?_) ?_
  · obtain ⟨q, -, hq⟩ := Option.map_eq_some_iff.mp h
    cases hq
    exact rfl
  · unfold X3_add
    show sOk 3 cX3_add 6 1 false 0 [(0, vr 4 a0), (1, vl a1), (3, vi a3), (4, vi a4), (5, vi a5)] [] μ _
    refine sBk (lo' := [(0, vr 4 a0), (1, vl a1), (3, vi a3), (4, vi a4), (5, vi a5)]) (st' := [vi 6, vi (rI μ 4 a0 0)]) (μ' := μ) (pc' := 6) [(.aload_n 0, 0, 0, 0, 0), (.getfield 31, 3, 0, 0, 0), (.bipush 6, 0, 0, 6, 0)] (by decide +kernel) rfl rfl ?_
    refine sIc_ge oV (off := 55) (tgt := 61) (by decide +kernel) (by decide) (fun _ => ?_) (fun _ => ?_)
    · exact sRv (by decide +kernel)
    · refine sBk (lo' := [(0, vr 4 a0), (1, vl a1), (3, vi a3), (4, vi a4), (5, vi a5)]) (st' := [vl a1, vi (rI μ 4 a0 0), vr 28 a0]) (μ' := μ) (pc' := 18) [(.aload_n 0, 0, 0, 0, 0), (.getfield 9, 3, 1, 0, 0), (.aload_n 0, 0, 0, 0, 0), (.getfield 31, 3, 0, 0, 0), (.lload_n 1, 0, 0, 0, 0)] (by decide +kernel) rfl rfl ?_
      refine sS_las oV rfl (n := 6) (j := (ix (rI μ 4 a0 0))) (by decide +kernel) rfl rfl rfl (fun _ => ?_)
      refine sBk (lo' := [(0, vr 4 a0), (1, vl a1), (3, vi a3), (4, vi a4), (5, vi a5)]) (st' := [vi a3, vi (rI μ 4 a0 0), vr 29 a0]) (μ' := wL μ 28 a0 (ix (rI μ 4 a0 0)) a1) (pc' := 28) [(.aload_n 0, 0, 0, 0, 0), (.getfield 15, 3, 2, 0, 0), (.aload_n 0, 0, 0, 0, 0), (.getfield 31, 3, 0, 0, 0), (.iload_n 3, 0, 0, 0, 0)] (by decide +kernel) rfl rfl ?_
      refine sS_ias oV rfl (n := 6) (j := (ix (rI μ 4 a0 0))) (by decide +kernel) rfl rfl rfl (fun _ => ?_)
      refine sBk (lo' := [(0, vr 4 a0), (1, vl a1), (3, vi a3), (4, vi a4), (5, vi a5)]) (st' := [vi a4, vi (rI μ 4 a0 0), vr 30 a0]) (μ' := wI (wL μ 28 a0 (ix (rI μ 4 a0 0)) a1) 29 a0 (ix (rI μ 4 a0 0)) a3) (pc' := 39) [(.aload_n 0, 0, 0, 0, 0), (.getfield 19, 3, 3, 0, 0), (.aload_n 0, 0, 0, 0, 0), (.getfield 31, 3, 0, 0, 0), (.iload 4, 0, 0, 0, 0)] (by decide +kernel) rfl rfl ?_
      refine sS_ias oV rfl (n := 6) (j := (ix (rI μ 4 a0 0))) (by decide +kernel) rfl rfl rfl (fun _ => ?_)
      refine sBk (lo' := [(0, vr 4 a0), (1, vl a1), (3, vi a3), (4, vi a4), (5, vi a5)]) (st' := [vi a5, vi (rI μ 4 a0 0), vr 31 a0]) (μ' := wI (wI (wL μ 28 a0 (ix (rI μ 4 a0 0)) a1) 29 a0 (ix (rI μ 4 a0 0)) a3) 30 a0 (ix (rI μ 4 a0 0)) a4) (pc' := 50) [(.aload_n 0, 0, 0, 0, 0), (.getfield 22, 3, 4, 0, 0), (.aload_n 0, 0, 0, 0, 0), (.getfield 31, 3, 0, 0, 0), (.iload 5, 0, 0, 0, 0)] (by decide +kernel) rfl rfl ?_
      refine sS_ias oV rfl (n := 6) (j := (ix (rI μ 4 a0 0))) (by decide +kernel) rfl rfl rfl (fun _ => ?_)
      refine sBk (lo' := [(0, vr 4 a0), (1, vl a1), (3, vi a3), (4, vi a4), (5, vi a5)]) (st' := []) (μ' := wI (wI (wI (wI (wL μ 28 a0 (ix (rI μ 4 a0 0)) a1) 29 a0 (ix (rI μ 4 a0 0)) a3) 30 a0 (ix (rI μ 4 a0 0)) a4) 31 a0 (ix (rI μ 4 a0 0)) a5) 4 a0 0 ((rI μ 4 a0 0) + 1)) (pc' := 61) [(.aload_n 0, 0, 0, 0, 0), (.dup, 0, 0, 0, 0), (.getfield 31, 3, 0, 0, 0), (.iconst 1, 0, 0, 1, 0), (.iadd, 0, 0, 0, 0), (.putfield 31, 3, 0, 0, 0)] (by decide +kernel) rfl rfl ?_
      exact sRv (by decide +kernel)
/-! ClockRiver$Reaches.copyFrom -/
def X3_copyFrom (a0 : Nat) (a1 : Nat) (μ : sM) : Option sM :=
  if cpo 0 0 (rI (wI μ 4 a0 0 (rI μ 4 a1 0)) 4 a0 0) 6 6 = true then
    if cpo 0 0 (rI (wI μ 4 a0 0 (rI μ 4 a1 0)) 4 a0 0) 6 6 = true then
      if cpo 0 0 (rI (wI μ 4 a0 0 (rI μ 4 a1 0)) 4 a0 0) 6 6 = true then
        if cpo 0 0 (rI (wI μ 4 a0 0 (rI μ 4 a1 0)) 4 a0 0) 6 6 = true then
          some (cI (cI (cI (cL (wI μ 4 a0 0 (rI μ 4 a1 0)) 28 a1 (ix 0) 28 a0 (ix 0) (ix (rI (wI μ 4 a0 0 (rI μ 4 a1 0)) 4 a0 0))) 29 a1 (ix 0) 29 a0 (ix 0) (ix (rI (wI μ 4 a0 0 (rI μ 4 a1 0)) 4 a0 0))) 30 a1 (ix 0) 30 a0 (ix 0) (ix (rI (wI μ 4 a0 0 (rI μ 4 a1 0)) 4 a0 0))) 31 a1 (ix 0) 31 a0 (ix 0) (ix (rI (wI μ 4 a0 0 (rI μ 4 a1 0)) 4 a0 0)))
        else none
      else none
    else none
  else none
theorem tX3_copyFrom (a0 : Nat) (a1 : Nat) (μ : sM) : sMt yX3_copyFrom cX3_copyFrom 2 none 1 [vr 4 a0, vr 4 a1] μ (oV (X3_copyFrom a0 a1 μ)) := by
  refine sMt_of (own := 3) (bl := false) (by decide +kernel) rfl (Nat.le_of_ble_eq_true rfl) (fun r ρ h => ?_) ?_
  · obtain ⟨q, -, hq⟩ := Option.map_eq_some_iff.mp h
    cases hq
    exact rfl
  · unfold X3_copyFrom
    show sOk 3 cX3_copyFrom 2 1 false 0 [(0, vr 4 a0), (1, vr 4 a1)] [] μ _
    refine sBk (lo' := [(0, vr 4 a0), (1, vr 4 a1)]) (st' := [vi (rI (wI μ 4 a0 0 (rI μ 4 a1 0)) 4 a0 0), vi 0, vr 28 a0, vi 0, vr 28 a1]) (μ' := wI μ 4 a0 0 (rI μ 4 a1 0)) (pc' := 22) [(.aload_n 0, 0, 0, 0, 0), (.aload_n 1, 0, 0, 0, 0), (.getfield 31, 3, 0, 0, 0), (.putfield 31, 3, 0, 0, 0), (.aload_n 1, 0, 0, 0, 0), (.getfield 9, 3, 1, 0, 0), (.iconst 0, 0, 0, 0, 0), (.aload_n 0, 0, 0, 0, 0), (.getfield 9, 3, 1, 0, 0), (.iconst 0, 0, 0, 0, 0), (.aload_n 0, 0, 0, 0, 0), (.getfield 31, 3, 0, 0, 0)] (by decide +kernel) rfl rfl ?_
    refine sCk oV rfl (fun h => ?_)
    refine sCpL (q0 := (28, a1)) (q1 := (28, a0)) (idx := 35) (p1 := 934) (by decide +kernel) rfl rfl (by decide) h ?_
    refine sBk (lo' := [(0, vr 4 a0), (1, vr 4 a1)]) (st' := [vi (rI (wI μ 4 a0 0 (rI μ 4 a1 0)) 4 a0 0), vi 0, vr 29 a0, vi 0, vr 29 a1]) (μ' := cL (wI μ 4 a0 0 (rI μ 4 a1 0)) 28 a1 (ix 0) 28 a0 (ix 0) (ix (rI (wI μ 4 a0 0 (rI μ 4 a1 0)) 4 a0 0))) (pc' := 39) [(.aload_n 1, 0, 0, 0, 0), (.getfield 15, 3, 2, 0, 0), (.iconst 0, 0, 0, 0, 0), (.aload_n 0, 0, 0, 0, 0), (.getfield 15, 3, 2, 0, 0), (.iconst 0, 0, 0, 0, 0), (.aload_n 0, 0, 0, 0, 0), (.getfield 31, 3, 0, 0, 0)] (by decide +kernel) rfl rfl ?_
    refine sCk oV rfl (fun h => ?_)
    refine sCpI (q0 := (29, a1)) (q1 := (29, a0)) (idx := 35) (p1 := 934) (by decide +kernel) rfl rfl (by decide) h ?_
    refine sBk (lo' := [(0, vr 4 a0), (1, vr 4 a1)]) (st' := [vi (rI (wI μ 4 a0 0 (rI μ 4 a1 0)) 4 a0 0), vi 0, vr 30 a0, vi 0, vr 30 a1]) (μ' := cI (cL (wI μ 4 a0 0 (rI μ 4 a1 0)) 28 a1 (ix 0) 28 a0 (ix 0) (ix (rI (wI μ 4 a0 0 (rI μ 4 a1 0)) 4 a0 0))) 29 a1 (ix 0) 29 a0 (ix 0) (ix (rI (wI μ 4 a0 0 (rI μ 4 a1 0)) 4 a0 0))) (pc' := 56) [(.aload_n 1, 0, 0, 0, 0), (.getfield 19, 3, 3, 0, 0), (.iconst 0, 0, 0, 0, 0), (.aload_n 0, 0, 0, 0, 0), (.getfield 19, 3, 3, 0, 0), (.iconst 0, 0, 0, 0, 0), (.aload_n 0, 0, 0, 0, 0), (.getfield 31, 3, 0, 0, 0)] (by decide +kernel) rfl rfl ?_
    refine sCk oV rfl (fun h => ?_)
    refine sCpI (q0 := (30, a1)) (q1 := (30, a0)) (idx := 35) (p1 := 934) (by decide +kernel) rfl rfl (by decide) h ?_
    refine sBk (lo' := [(0, vr 4 a0), (1, vr 4 a1)]) (st' := [vi (rI (wI μ 4 a0 0 (rI μ 4 a1 0)) 4 a0 0), vi 0, vr 31 a0, vi 0, vr 31 a1]) (μ' := cI (cI (cL (wI μ 4 a0 0 (rI μ 4 a1 0)) 28 a1 (ix 0) 28 a0 (ix 0) (ix (rI (wI μ 4 a0 0 (rI μ 4 a1 0)) 4 a0 0))) 29 a1 (ix 0) 29 a0 (ix 0) (ix (rI (wI μ 4 a0 0 (rI μ 4 a1 0)) 4 a0 0))) 30 a1 (ix 0) 30 a0 (ix 0) (ix (rI (wI μ 4 a0 0 (rI μ 4 a1 0)) 4 a0 0))) (pc' := 73) [(.aload_n 1, 0, 0, 0, 0), (.getfield 22, 3, 4, 0, 0), (.iconst 0, 0, 0, 0, 0), (.aload_n 0, 0, 0, 0, 0), (.getfield 22, 3, 4, 0, 0), (.iconst 0, 0, 0, 0, 0), (.aload_n 0, 0, 0, 0, 0), (.getfield 31, 3, 0, 0, 0)] (by decide +kernel) rfl rfl ?_
    refine sCk oV rfl (fun h => ?_)
    refine sCpI (q0 := (31, a1)) (q1 := (31, a0)) (idx := 35) (p1 := 934) (by decide +kernel) rfl rfl (by decide) h ?_
    exact sRv (by decide +kernel)
/-! ClockRiver$Reaches.allHeld -/
def X3_allHeld_L4 : Nat → Nat → Int32 → Int32 → sM → Option (Int32 × sM)
  | 0, _, _, _, _ => none
  | n + 1, v0, v1, v2, μ =>
    if (rI μ 4 v0 0) ≤ v2 then
      some (v1, μ)
    else
      if inb v2 6 = true then
        X3_allHeld_L4 n v0 (v1 + (rI μ 31 v0 (ix v2))) (v2 + 1) μ
      else none
theorem X3_allHeld_L4_ok : ∀ (n : Nat) (v0 : Nat) (v1 : Int32) (v2 : Int32) (μ : sM), sOk 3 cX3_allHeld 3 1 false 4 [(0, vr 4 v0), (1, vi v1), (2, vi v2)] [] μ (oI (X3_allHeld_L4 n v0 v1 v2 μ)) := by
  intro n
  induction n with
  | zero =>
    intros
    exact sNo
  | succ n ih =>
    intro v0 v1 v2 μ
    unfold X3_allHeld_L4
    refine sBk (lo' := [(0, vr 4 v0), (1, vi v1), (2, vi v2)]) (st' := [vi (rI μ 4 v0 0), vi v2]) (μ' := μ) (pc' := 9) [(.iload_n 2, 0, 0, 0, 0), (.aload_n 0, 0, 0, 0, 0), (.getfield 31, 3, 0, 0, 0)] (by decide +kernel) rfl rfl ?_
    refine sIc_ge oI (off := 18) (tgt := 27) (by decide +kernel) (by decide) (fun _ => ?_) (fun _ => ?_)
    · refine sBk (lo' := [(0, vr 4 v0), (1, vi v1), (2, vi v2)]) (st' := [vi v1]) (μ' := μ) (pc' := 28) [(.iload_n 1, 0, 0, 0, 0)] (by decide +kernel) rfl rfl ?_
      exact sRi (by decide +kernel) (fun h => by cases h)
    · refine sBk (lo' := [(0, vr 4 v0), (1, vi v1), (2, vi v2)]) (st' := [vi v2, vr 31 v0, vi v1]) (μ' := μ) (pc' := 18) [(.iload_n 1, 0, 0, 0, 0), (.aload_n 0, 0, 0, 0, 0), (.getfield 22, 3, 4, 0, 0), (.iload_n 2, 0, 0, 0, 0)] (by decide +kernel) rfl rfl ?_
      refine sS_ial oI rfl (n := 6) (j := (ix v2)) (by decide +kernel) rfl rfl rfl (fun _ => ?_)
      refine sBk (lo' := [(2, vi (v2 + 1)), (1, vi (v1 + (rI μ 31 v0 (ix v2)))), (0, vr 4 v0)]) (st' := []) (μ' := μ) (pc' := 24) [(.iadd, 0, 0, 0, 0), (.istore_n 1, 0, 0, 0, 0), (.iinc 2 1, 0, 0, 1, 0)] (by decide +kernel) rfl rfl ?_
      refine sGt (off := (-20)) (tgt := 4) (by decide +kernel) (by decide) ?_
      refine sWk (lo' := [(0, vr 4 v0), (1, vi (v1 + (rI μ 31 v0 (ix v2)))), (2, vi (v2 + 1))]) [2, 1, 0] rfl ?_
      exact ih v0 (v1 + (rI μ 31 v0 (ix v2))) (v2 + 1) μ
def X3_allHeld (a0 : Nat) (μ : sM) : Option (Int32 × sM) :=
  X3_allHeld_L4 fuN a0 0 0 μ
theorem tX3_allHeld (a0 : Nat) (μ : sM) : sMt yX3_allHeld cX3_allHeld 3 (some .int) 1 [vr 4 a0] μ (oI (X3_allHeld a0 μ)) := by
  refine sMt_of (own := 3) (bl := false) (by decide +kernel) rfl (Nat.le_of_ble_eq_true rfl) (fun r ρ h => ?_) ?_
  · obtain ⟨q, -, hq⟩ := Option.map_eq_some_iff.mp h
    cases hq
    exact Or.inl rfl
  · unfold X3_allHeld
    show sOk 3 cX3_allHeld 3 1 false 0 [(0, vr 4 a0)] [] μ _
    refine sBk (lo' := [(2, vi 0), (1, vi 0), (0, vr 4 a0)]) (st' := []) (μ' := μ) (pc' := 4) [(.iconst 0, 0, 0, 0, 0), (.istore_n 1, 0, 0, 0, 0), (.iconst 0, 0, 0, 0, 0), (.istore_n 2, 0, 0, 0, 0)] (by decide +kernel) rfl rfl ?_
    refine sWk (lo' := [(0, vr 4 a0), (1, vi 0), (2, vi 0)]) [2, 1, 0] rfl ?_
    exact X3_allHeld_L4_ok fuN a0 0 0 μ
/-! ClockRiver$Reaches.letPass -/
def X3_letPass_L2 : Nat → Nat → Int32 → sM → Option sM
  | 0, _, _, _ => none
  | n + 1, v0, v1, μ =>
    if (rI μ 4 v0 0) ≤ v1 then
      some μ
    else
      if inb v1 6 = true then
        if inb v1 6 = true then
          if inb v1 6 = true then
            X3_letPass_L2 n v0 (v1 + 1) (wI μ 32 v0 (ix v1) (imn (rI μ 31 v0 (ix v1)) (rI μ 30 v0 (ix v1))))
          else none
        else none
      else none
theorem X3_letPass_L2_ok : ∀ (n : Nat) (v0 : Nat) (v1 : Int32) (μ : sM), sOk 3 cX3_letPass 2 1 false 2 [(0, vr 4 v0), (1, vi v1)] [] μ (oV (X3_letPass_L2 n v0 v1 μ)) := by
  intro n
  induction n with
  | zero =>
    intros
    exact sNo
  | succ n ih =>
    intro v0 v1 μ
    unfold X3_letPass_L2
    refine sBk (lo' := [(0, vr 4 v0), (1, vi v1)]) (st' := [vi (rI μ 4 v0 0), vi v1]) (μ' := μ) (pc' := 7) [(.iload_n 1, 0, 0, 0, 0), (.aload_n 0, 0, 0, 0, 0), (.getfield 31, 3, 0, 0, 0)] (by decide +kernel) rfl rfl ?_
    refine sIc_ge oV (off := 30) (tgt := 37) (by decide +kernel) (by decide) (fun _ => ?_) (fun _ => ?_)
    · exact sRv (by decide +kernel)
    · refine sBk (lo' := [(0, vr 4 v0), (1, vi v1)]) (st' := [vi v1, vr 31 v0, vi v1, vr 32 v0]) (μ' := μ) (pc' := 20) [(.aload_n 0, 0, 0, 0, 0), (.getfield 25, 3, 5, 0, 0), (.iload_n 1, 0, 0, 0, 0), (.aload_n 0, 0, 0, 0, 0), (.getfield 22, 3, 4, 0, 0), (.iload_n 1, 0, 0, 0, 0)] (by decide +kernel) rfl rfl ?_
      refine sS_ial oV rfl (n := 6) (j := (ix v1)) (by decide +kernel) rfl rfl rfl (fun _ => ?_)
      refine sBk (lo' := [(0, vr 4 v0), (1, vi v1)]) (st' := [vi v1, vr 30 v0, vi (rI μ 31 v0 (ix v1)), vi v1, vr 32 v0]) (μ' := μ) (pc' := 26) [(.aload_n 0, 0, 0, 0, 0), (.getfield 19, 3, 3, 0, 0), (.iload_n 1, 0, 0, 0, 0)] (by decide +kernel) rfl rfl ?_
      refine sS_ial oV rfl (n := 6) (j := (ix v1)) (by decide +kernel) rfl rfl rfl (fun _ => ?_)
      refine sMin (idx := 41) (p1 := 1100) (by decide +kernel) (by decide) (Nat.le_of_ble_eq_true rfl) ?_
      refine sS_ias oV rfl (n := 6) (j := (ix v1)) (by decide +kernel) rfl rfl rfl (fun _ => ?_)
      refine sBk (lo' := [(1, vi (v1 + 1)), (0, vr 4 v0)]) (st' := []) (μ' := wI μ 32 v0 (ix v1) (imn (rI μ 31 v0 (ix v1)) (rI μ 30 v0 (ix v1)))) (pc' := 34) [(.iinc 1 1, 0, 0, 1, 0)] (by decide +kernel) rfl rfl ?_
      refine sGt (off := (-32)) (tgt := 2) (by decide +kernel) (by decide) ?_
      refine sWk (lo' := [(0, vr 4 v0), (1, vi (v1 + 1))]) [1, 0] rfl ?_
      exact ih v0 (v1 + 1) (wI μ 32 v0 (ix v1) (imn (rI μ 31 v0 (ix v1)) (rI μ 30 v0 (ix v1))))
def X3_letPass (a0 : Nat) (μ : sM) : Option sM :=
  X3_letPass_L2 fuN a0 0 μ
theorem tX3_letPass (a0 : Nat) (μ : sM) : sMt yX3_letPass cX3_letPass 2 none 1 [vr 4 a0] μ (oV (X3_letPass a0 μ)) := by
  refine sMt_of (own := 3) (bl := false) (by decide +kernel) rfl (Nat.le_of_ble_eq_true rfl) (fun r ρ h => ?_) ?_
  · obtain ⟨q, -, hq⟩ := Option.map_eq_some_iff.mp h
    cases hq
    exact rfl
  · unfold X3_letPass
    show sOk 3 cX3_letPass 2 1 false 0 [(0, vr 4 a0)] [] μ _
    refine sBk (lo' := [(1, vi 0), (0, vr 4 a0)]) (st' := []) (μ' := μ) (pc' := 2) [(.iconst 0, 0, 0, 0, 0), (.istore_n 1, 0, 0, 0, 0)] (by decide +kernel) rfl rfl ?_
    refine sWk (lo' := [(0, vr 4 a0), (1, vi 0)]) [1, 0] rfl ?_
    exact X3_letPass_L2_ok fuN a0 0 μ
/-! ClockRiver$Reaches.addEach -/
def X3_addEach_L2 : Nat → Nat → Int32 → Int32 → sM → Option sM
  | 0, _, _, _, _ => none
  | n + 1, v0, v1, v2, μ =>
    if (rI μ 4 v0 0) ≤ v2 then
      some μ
    else
      if inb v2 6 = true then
        if inb v2 6 = true then
          X3_addEach_L2 n v0 v1 (v2 + 1) (wI μ 31 v0 (ix v2) ((rI μ 31 v0 (ix v2)) + v1))
        else none
      else none
theorem X3_addEach_L2_ok : ∀ (n : Nat) (v0 : Nat) (v1 : Int32) (v2 : Int32) (μ : sM), sOk 3 cX3_addEach 3 1 false 2 [(0, vr 4 v0), (1, vi v1), (2, vi v2)] [] μ (oV (X3_addEach_L2 n v0 v1 v2 μ)) := by
  intro n
  induction n with
  | zero =>
    intros
    exact sNo
  | succ n ih =>
    intro v0 v1 v2 μ
    unfold X3_addEach_L2
    refine sBk (lo' := [(0, vr 4 v0), (1, vi v1), (2, vi v2)]) (st' := [vi (rI μ 4 v0 0), vi v2]) (μ' := μ) (pc' := 7) [(.iload_n 2, 0, 0, 0, 0), (.aload_n 0, 0, 0, 0, 0), (.getfield 31, 3, 0, 0, 0)] (by decide +kernel) rfl rfl ?_
    refine sIc_ge oV (off := 19) (tgt := 26) (by decide +kernel) (by decide) (fun _ => ?_) (fun _ => ?_)
    · exact sRv (by decide +kernel)
    · refine sBk (lo' := [(0, vr 4 v0), (1, vi v1), (2, vi v2)]) (st' := [vi v2, vr 31 v0, vi v2, vr 31 v0]) (μ' := μ) (pc' := 16) [(.aload_n 0, 0, 0, 0, 0), (.getfield 22, 3, 4, 0, 0), (.iload_n 2, 0, 0, 0, 0), (.dup2, 0, 0, 0, 0)] (by decide +kernel) rfl rfl ?_
      refine sS_ial oV rfl (n := 6) (j := (ix v2)) (by decide +kernel) rfl rfl rfl (fun _ => ?_)
      refine sBk (lo' := [(0, vr 4 v0), (1, vi v1), (2, vi v2)]) (st' := [vi ((rI μ 31 v0 (ix v2)) + v1), vi v2, vr 31 v0]) (μ' := μ) (pc' := 19) [(.iload_n 1, 0, 0, 0, 0), (.iadd, 0, 0, 0, 0)] (by decide +kernel) rfl rfl ?_
      refine sS_ias oV rfl (n := 6) (j := (ix v2)) (by decide +kernel) rfl rfl rfl (fun _ => ?_)
      refine sBk (lo' := [(2, vi (v2 + 1)), (0, vr 4 v0), (1, vi v1)]) (st' := []) (μ' := wI μ 31 v0 (ix v2) ((rI μ 31 v0 (ix v2)) + v1)) (pc' := 23) [(.iinc 2 1, 0, 0, 1, 0)] (by decide +kernel) rfl rfl ?_
      refine sGt (off := (-21)) (tgt := 2) (by decide +kernel) (by decide) ?_
      refine sWk (lo' := [(0, vr 4 v0), (1, vi v1), (2, vi (v2 + 1))]) [1, 2, 0] rfl ?_
      exact ih v0 v1 (v2 + 1) (wI μ 31 v0 (ix v2) ((rI μ 31 v0 (ix v2)) + v1))
def X3_addEach (a0 : Nat) (a1 : Int32) (μ : sM) : Option sM :=
  X3_addEach_L2 fuN a0 a1 0 μ
theorem tX3_addEach (a0 : Nat) (a1 : Int32) (μ : sM) : sMt yX3_addEach cX3_addEach 3 none 1 [vr 4 a0, vi a1] μ (oV (X3_addEach a0 a1 μ)) := by
  refine sMt_of (own := 3) (bl := false) (by decide +kernel) rfl (Nat.le_of_ble_eq_true rfl) (fun r ρ h => ?_) ?_
  · obtain ⟨q, -, hq⟩ := Option.map_eq_some_iff.mp h
    cases hq
    exact rfl
  · unfold X3_addEach
    show sOk 3 cX3_addEach 3 1 false 0 [(0, vr 4 a0), (1, vi a1)] [] μ _
    refine sBk (lo' := [(2, vi 0), (0, vr 4 a0), (1, vi a1)]) (st' := []) (μ' := μ) (pc' := 2) [(.iconst 0, 0, 0, 0, 0), (.istore_n 2, 0, 0, 0, 0)] (by decide +kernel) rfl rfl ?_
    refine sWk (lo' := [(0, vr 4 a0), (1, vi a1), (2, vi 0)]) [1, 2, 0] rfl ?_
    exact X3_addEach_L2_ok fuN a0 a1 0 μ
/-! ClockRiver$Reaches.spill -/
def X3_spill_L4 : Nat → Nat → Int32 → Int32 → sM → Option (Int32 × sM)
  | 0, _, _, _, _ => none
  | n + 1, v0, v1, v2, μ =>
    if (rI μ 4 v0 0) ≤ v2 then
      some (v1, μ)
    else
      if inb v2 6 = true then
        if inb v2 6 = true then
          if inb v2 6 = true then
            if inb v2 6 = true then
              if inb v2 6 = true then
                if inb v2 6 = true then
                  if inb v2 6 = true then
                    X3_spill_L4 n v0 (v1 + (rI (wI μ 33 v0 (ix v2) (imx 0 ((rI μ 31 v0 (ix v2)) - (rI μ 29 v0 (ix v2))))) 33 v0 (ix v2))) (v2 + 1) (wI (wI μ 33 v0 (ix v2) (imx 0 ((rI μ 31 v0 (ix v2)) - (rI μ 29 v0 (ix v2))))) 31 v0 (ix v2) ((rI μ 31 v0 (ix v2)) - (rI (wI μ 33 v0 (ix v2) (imx 0 ((rI μ 31 v0 (ix v2)) - (rI μ 29 v0 (ix v2))))) 33 v0 (ix v2))))
                  else none
                else none
              else none
            else none
          else none
        else none
      else none
theorem X3_spill_L4_ok : ∀ (n : Nat) (v0 : Nat) (v1 : Int32) (v2 : Int32) (μ : sM), sOk 3 cX3_spill 3 1 false 4 [(0, vr 4 v0), (1, vi v1), (2, vi v2)] [] μ (oI (X3_spill_L4 n v0 v1 v2 μ)) := by
  intro n
  induction n with
  | zero =>
    intros
    exact sNo
  | succ n ih =>
    intro v0 v1 v2 μ
    unfold X3_spill_L4
    refine sBk (lo' := [(0, vr 4 v0), (1, vi v1), (2, vi v2)]) (st' := [vi (rI μ 4 v0 0), vi v2]) (μ' := μ) (pc' := 9) [(.iload_n 2, 0, 0, 0, 0), (.aload_n 0, 0, 0, 0, 0), (.getfield 31, 3, 0, 0, 0)] (by decide +kernel) rfl rfl ?_
    refine sIc_ge oI (off := 56) (tgt := 65) (by decide +kernel) (by decide) (fun _ => ?_) (fun _ => ?_)
    · refine sBk (lo' := [(0, vr 4 v0), (1, vi v1), (2, vi v2)]) (st' := [vi v1]) (μ' := μ) (pc' := 66) [(.iload_n 1, 0, 0, 0, 0)] (by decide +kernel) rfl rfl ?_
      exact sRi (by decide +kernel) (fun h => by cases h)
    · refine sBk (lo' := [(0, vr 4 v0), (1, vi v1), (2, vi v2)]) (st' := [vi v2, vr 31 v0, vi 0, vi v2, vr 33 v0]) (μ' := μ) (pc' := 23) [(.aload_n 0, 0, 0, 0, 0), (.getfield 28, 3, 6, 0, 0), (.iload_n 2, 0, 0, 0, 0), (.iconst 0, 0, 0, 0, 0), (.aload_n 0, 0, 0, 0, 0), (.getfield 22, 3, 4, 0, 0), (.iload_n 2, 0, 0, 0, 0)] (by decide +kernel) rfl rfl ?_
      refine sS_ial oI rfl (n := 6) (j := (ix v2)) (by decide +kernel) rfl rfl rfl (fun _ => ?_)
      refine sBk (lo' := [(0, vr 4 v0), (1, vi v1), (2, vi v2)]) (st' := [vi v2, vr 29 v0, vi (rI μ 31 v0 (ix v2)), vi 0, vi v2, vr 33 v0]) (μ' := μ) (pc' := 29) [(.aload_n 0, 0, 0, 0, 0), (.getfield 15, 3, 2, 0, 0), (.iload_n 2, 0, 0, 0, 0)] (by decide +kernel) rfl rfl ?_
      refine sS_ial oI rfl (n := 6) (j := (ix v2)) (by decide +kernel) rfl rfl rfl (fun _ => ?_)
      refine sBk (lo' := [(0, vr 4 v0), (1, vi v1), (2, vi v2)]) (st' := [vi ((rI μ 31 v0 (ix v2)) - (rI μ 29 v0 (ix v2))), vi 0, vi v2, vr 33 v0]) (μ' := μ) (pc' := 31) [(.isub, 0, 0, 0, 0)] (by decide +kernel) rfl rfl ?_
      refine sMax (idx := 47) (p1 := 1117) (by decide +kernel) (by decide) (Nat.le_of_ble_eq_true rfl) ?_
      refine sS_ias oI rfl (n := 6) (j := (ix v2)) (by decide +kernel) rfl rfl rfl (fun _ => ?_)
      refine sBk (lo' := [(0, vr 4 v0), (1, vi v1), (2, vi v2)]) (st' := [vi v2, vr 31 v0, vi v2, vr 31 v0]) (μ' := wI μ 33 v0 (ix v2) (imx 0 ((rI μ 31 v0 (ix v2)) - (rI μ 29 v0 (ix v2))))) (pc' := 41) [(.aload_n 0, 0, 0, 0, 0), (.getfield 22, 3, 4, 0, 0), (.iload_n 2, 0, 0, 0, 0), (.dup2, 0, 0, 0, 0)] (by decide +kernel) rfl rfl ?_
      refine sS_ial oI rfl (n := 6) (j := (ix v2)) (by decide +kernel) rfl rfl rfl (fun _ => ?_)
      refine sBk (lo' := [(0, vr 4 v0), (1, vi v1), (2, vi v2)]) (st' := [vi v2, vr 33 v0, vi (rI μ 31 v0 (ix v2)), vi v2, vr 31 v0]) (μ' := wI μ 33 v0 (ix v2) (imx 0 ((rI μ 31 v0 (ix v2)) - (rI μ 29 v0 (ix v2))))) (pc' := 47) [(.aload_n 0, 0, 0, 0, 0), (.getfield 28, 3, 6, 0, 0), (.iload_n 2, 0, 0, 0, 0)] (by decide +kernel) rfl rfl ?_
      refine sS_ial oI rfl (n := 6) (j := (ix v2)) (by decide +kernel) rfl rfl rfl (fun _ => ?_)
      refine sBk (lo' := [(0, vr 4 v0), (1, vi v1), (2, vi v2)]) (st' := [vi ((rI μ 31 v0 (ix v2)) - (rI (wI μ 33 v0 (ix v2) (imx 0 ((rI μ 31 v0 (ix v2)) - (rI μ 29 v0 (ix v2))))) 33 v0 (ix v2))), vi v2, vr 31 v0]) (μ' := wI μ 33 v0 (ix v2) (imx 0 ((rI μ 31 v0 (ix v2)) - (rI μ 29 v0 (ix v2))))) (pc' := 49) [(.isub, 0, 0, 0, 0)] (by decide +kernel) rfl rfl ?_
      refine sS_ias oI rfl (n := 6) (j := (ix v2)) (by decide +kernel) rfl rfl rfl (fun _ => ?_)
      refine sBk (lo' := [(0, vr 4 v0), (1, vi v1), (2, vi v2)]) (st' := [vi v2, vr 33 v0, vi v1]) (μ' := wI (wI μ 33 v0 (ix v2) (imx 0 ((rI μ 31 v0 (ix v2)) - (rI μ 29 v0 (ix v2))))) 31 v0 (ix v2) ((rI μ 31 v0 (ix v2)) - (rI (wI μ 33 v0 (ix v2) (imx 0 ((rI μ 31 v0 (ix v2)) - (rI μ 29 v0 (ix v2))))) 33 v0 (ix v2)))) (pc' := 56) [(.iload_n 1, 0, 0, 0, 0), (.aload_n 0, 0, 0, 0, 0), (.getfield 28, 3, 6, 0, 0), (.iload_n 2, 0, 0, 0, 0)] (by decide +kernel) rfl rfl ?_
      refine sS_ial oI rfl (n := 6) (j := (ix v2)) (by decide +kernel) rfl rfl rfl (fun _ => ?_)
      refine sBk (lo' := [(2, vi (v2 + 1)), (1, vi (v1 + (rI (wI μ 33 v0 (ix v2) (imx 0 ((rI μ 31 v0 (ix v2)) - (rI μ 29 v0 (ix v2))))) 33 v0 (ix v2)))), (0, vr 4 v0)]) (st' := []) (μ' := wI (wI μ 33 v0 (ix v2) (imx 0 ((rI μ 31 v0 (ix v2)) - (rI μ 29 v0 (ix v2))))) 31 v0 (ix v2) ((rI μ 31 v0 (ix v2)) - (rI (wI μ 33 v0 (ix v2) (imx 0 ((rI μ 31 v0 (ix v2)) - (rI μ 29 v0 (ix v2))))) 33 v0 (ix v2)))) (pc' := 62) [(.iadd, 0, 0, 0, 0), (.istore_n 1, 0, 0, 0, 0), (.iinc 2 1, 0, 0, 1, 0)] (by decide +kernel) rfl rfl ?_
      refine sGt (off := (-58)) (tgt := 4) (by decide +kernel) (by decide) ?_
      refine sWk (lo' := [(0, vr 4 v0), (1, vi (v1 + (rI (wI μ 33 v0 (ix v2) (imx 0 ((rI μ 31 v0 (ix v2)) - (rI μ 29 v0 (ix v2))))) 33 v0 (ix v2)))), (2, vi (v2 + 1))]) [2, 1, 0] rfl ?_
      exact ih v0 (v1 + (rI (wI μ 33 v0 (ix v2) (imx 0 ((rI μ 31 v0 (ix v2)) - (rI μ 29 v0 (ix v2))))) 33 v0 (ix v2))) (v2 + 1) (wI (wI μ 33 v0 (ix v2) (imx 0 ((rI μ 31 v0 (ix v2)) - (rI μ 29 v0 (ix v2))))) 31 v0 (ix v2) ((rI μ 31 v0 (ix v2)) - (rI (wI μ 33 v0 (ix v2) (imx 0 ((rI μ 31 v0 (ix v2)) - (rI μ 29 v0 (ix v2))))) 33 v0 (ix v2))))
def X3_spill (a0 : Nat) (μ : sM) : Option (Int32 × sM) :=
  X3_spill_L4 fuN a0 0 0 μ
theorem tX3_spill (a0 : Nat) (μ : sM) : sMt yX3_spill cX3_spill 3 (some .int) 1 [vr 4 a0] μ (oI (X3_spill a0 μ)) := by
  refine sMt_of (own := 3) (bl := false) (by decide +kernel) rfl (Nat.le_of_ble_eq_true rfl) (fun r ρ h => ?_) ?_
  · obtain ⟨q, -, hq⟩ := Option.map_eq_some_iff.mp h
    cases hq
    exact Or.inl rfl
  · unfold X3_spill
    show sOk 3 cX3_spill 3 1 false 0 [(0, vr 4 a0)] [] μ _
    refine sBk (lo' := [(2, vi 0), (1, vi 0), (0, vr 4 a0)]) (st' := []) (μ' := μ) (pc' := 4) [(.iconst 0, 0, 0, 0, 0), (.istore_n 1, 0, 0, 0, 0), (.iconst 0, 0, 0, 0, 0), (.istore_n 2, 0, 0, 0, 0)] (by decide +kernel) rfl rfl ?_
    refine sWk (lo' := [(0, vr 4 a0), (1, vi 0), (2, vi 0)]) [2, 1, 0] rfl ?_
    exact X3_spill_L4_ok fuN a0 0 0 μ
end
section
theorem i_vc : Claimed_1_1 ∧ Claimed_1_2 := sorry
end
