section
/-- a private method of a class that the tables say can be made, by its rows of tables_1 -/
def lw_okq (q : MethodName × Nat) : Prop := (q.1.cls ≠ "java/lang/invoke/MethodHandle" ∧ q.1.cls ≠ "java/lang/invoke/VarHandle") ∧ Cond.instantiable q.1.cls q.2 ∈ tables_1 ∧ Cond.privateMethod q.1 ∈ tables_1 ∧ Cond.instanceMethod q.1 ∈ tables_1
theorem lw_p0 : lw_okq (⟨"OneTurned$Tape", "scan", "()V"⟩, 8) := ⟨⟨by decide +kernel, by decide +kernel⟩, List.mem_of_getElem? (i := 94) (by decide +kernel), List.mem_of_getElem? (i := 209) (by decide +kernel), List.mem_of_getElem? (i := 210) (by decide +kernel)⟩
theorem lw_p1 : lw_okq (⟨"OneTurned$Tape", "skipBlanks", "()V"⟩, 8) := ⟨⟨by decide +kernel, by decide +kernel⟩, List.mem_of_getElem? (i := 94) (by decide +kernel), List.mem_of_getElem? (i := 213) (by decide +kernel), List.mem_of_getElem? (i := 214) (by decide +kernel)⟩
theorem lw_p2 : lw_okq (⟨"OneTurned$Tape", "byteAt", "(I)I"⟩, 8) := ⟨⟨by decide +kernel, by decide +kernel⟩, List.mem_of_getElem? (i := 94) (by decide +kernel), List.mem_of_getElem? (i := 217) (by decide +kernel), List.mem_of_getElem? (i := 218) (by decide +kernel)⟩
theorem lw_p3 : lw_okq (⟨"OneTurned$Tape", "takeToken", "()I"⟩, 8) := ⟨⟨by decide +kernel, by decide +kernel⟩, List.mem_of_getElem? (i := 94) (by decide +kernel), List.mem_of_getElem? (i := 221) (by decide +kernel), List.mem_of_getElem? (i := 222) (by decide +kernel)⟩
theorem lw_p4 : lw_okq (⟨"OneTurned$Tape", "takeWord", "(I)I"⟩, 8) := ⟨⟨by decide +kernel, by decide +kernel⟩, List.mem_of_getElem? (i := 94) (by decide +kernel), List.mem_of_getElem? (i := 228) (by decide +kernel), List.mem_of_getElem? (i := 229) (by decide +kernel)⟩
theorem lw_p5 : lw_okq (⟨"OneTurned$Tape", "isSpelt", "(III)Z"⟩, 8) := ⟨⟨by decide +kernel, by decide +kernel⟩, List.mem_of_getElem? (i := 94) (by decide +kernel), List.mem_of_getElem? (i := 235) (by decide +kernel), List.mem_of_getElem? (i := 236) (by decide +kernel)⟩
theorem lw_p6 : lw_okq (⟨"OneTurned$Tape", "takeNumber", "(I)I"⟩, 8) := ⟨⟨by decide +kernel, by decide +kernel⟩, List.mem_of_getElem? (i := 94) (by decide +kernel), List.mem_of_getElem? (i := 242) (by decide +kernel), List.mem_of_getElem? (i := 243) (by decide +kernel)⟩
theorem lw_p7 : lw_okq (⟨"OneTurned$Tape", "readPart", "(I)Z"⟩, 8) := ⟨⟨by decide +kernel, by decide +kernel⟩, List.mem_of_getElem? (i := 94) (by decide +kernel), List.mem_of_getElem? (i := 249) (by decide +kernel), List.mem_of_getElem? (i := 250) (by decide +kernel)⟩
theorem lw_p8 : lw_okq (⟨"OneTurned$Tape", "readToken", "(I)Z"⟩, 8) := ⟨⟨by decide +kernel, by decide +kernel⟩, List.mem_of_getElem? (i := 94) (by decide +kernel), List.mem_of_getElem? (i := 253) (by decide +kernel), List.mem_of_getElem? (i := 254) (by decide +kernel)⟩
theorem lw_p9 : lw_okq (⟨"OneTurned$Tape", "token", "()I"⟩, 8) := ⟨⟨by decide +kernel, by decide +kernel⟩, List.mem_of_getElem? (i := 94) (by decide +kernel), List.mem_of_getElem? (i := 257) (by decide +kernel), List.mem_of_getElem? (i := 258) (by decide +kernel)⟩
theorem lw_p10 : lw_okq (⟨"OneTurned$Tape", "readJoined", "(II)Z"⟩, 8) := ⟨⟨by decide +kernel, by decide +kernel⟩, List.mem_of_getElem? (i := 94) (by decide +kernel), List.mem_of_getElem? (i := 261) (by decide +kernel), List.mem_of_getElem? (i := 262) (by decide +kernel)⟩
theorem lw_p11 : lw_okq (⟨"OneTurned$Tape", "readOperand", "(II)Z"⟩, 8) := ⟨⟨by decide +kernel, by decide +kernel⟩, List.mem_of_getElem? (i := 94) (by decide +kernel), List.mem_of_getElem? (i := 265) (by decide +kernel), List.mem_of_getElem? (i := 266) (by decide +kernel)⟩
theorem lw_p12 : lw_okq (⟨"OneTurned$Tape", "readNot", "(I)Z"⟩, 8) := ⟨⟨by decide +kernel, by decide +kernel⟩, List.mem_of_getElem? (i := 94) (by decide +kernel), List.mem_of_getElem? (i := 269) (by decide +kernel), List.mem_of_getElem? (i := 270) (by decide +kernel)⟩
theorem lw_p13 : lw_okq (⟨"OneTurned$Tape", "putItem", "(I)V"⟩, 8) := ⟨⟨by decide +kernel, by decide +kernel⟩, List.mem_of_getElem? (i := 94) (by decide +kernel), List.mem_of_getElem? (i := 273) (by decide +kernel), List.mem_of_getElem? (i := 274) (by decide +kernel)⟩
theorem lw_p14 : lw_okq (⟨"OneTurned$Tape", "readComparison", "(I)Z"⟩, 8) := ⟨⟨by decide +kernel, by decide +kernel⟩, List.mem_of_getElem? (i := 94) (by decide +kernel), List.mem_of_getElem? (i := 277) (by decide +kernel), List.mem_of_getElem? (i := 278) (by decide +kernel)⟩
theorem lw_p15 : lw_okq (⟨"OneTurned$Tape", "readOne", "(I)Z"⟩, 8) := ⟨⟨by decide +kernel, by decide +kernel⟩, List.mem_of_getElem? (i := 94) (by decide +kernel), List.mem_of_getElem? (i := 281) (by decide +kernel), List.mem_of_getElem? (i := 282) (by decide +kernel)⟩
def lw_privs_1 : List (MethodName × Nat) := [(⟨"OneTurned$Tape", "scan", "()V"⟩, 8), (⟨"OneTurned$Tape", "skipBlanks", "()V"⟩, 8), (⟨"OneTurned$Tape", "byteAt", "(I)I"⟩, 8), (⟨"OneTurned$Tape", "takeToken", "()I"⟩, 8), (⟨"OneTurned$Tape", "takeWord", "(I)I"⟩, 8), (⟨"OneTurned$Tape", "isSpelt", "(III)Z"⟩, 8), (⟨"OneTurned$Tape", "takeNumber", "(I)I"⟩, 8), (⟨"OneTurned$Tape", "readPart", "(I)Z"⟩, 8), (⟨"OneTurned$Tape", "readToken", "(I)Z"⟩, 8), (⟨"OneTurned$Tape", "token", "()I"⟩, 8), (⟨"OneTurned$Tape", "readJoined", "(II)Z"⟩, 8), (⟨"OneTurned$Tape", "readOperand", "(II)Z"⟩, 8), (⟨"OneTurned$Tape", "readNot", "(I)Z"⟩, 8), (⟨"OneTurned$Tape", "putItem", "(I)V"⟩, 8), (⟨"OneTurned$Tape", "readComparison", "(I)Z"⟩, 8), (⟨"OneTurned$Tape", "readOne", "(I)Z"⟩, 8)]
theorem lw_r1 : ∀ q ∈ lw_privs_1, lw_okq q := List.forall_mem_cons.mpr ⟨lw_p0, List.forall_mem_cons.mpr ⟨lw_p1, List.forall_mem_cons.mpr ⟨lw_p2, List.forall_mem_cons.mpr ⟨lw_p3, List.forall_mem_cons.mpr ⟨lw_p4, List.forall_mem_cons.mpr ⟨lw_p5, List.forall_mem_cons.mpr ⟨lw_p6, List.forall_mem_cons.mpr ⟨lw_p7, List.forall_mem_cons.mpr ⟨lw_p8, List.forall_mem_cons.mpr ⟨lw_p9, List.forall_mem_cons.mpr ⟨lw_p10, List.forall_mem_cons.mpr ⟨lw_p11, List.forall_mem_cons.mpr ⟨lw_p12, List.forall_mem_cons.mpr ⟨lw_p13, List.forall_mem_cons.mpr ⟨lw_p14, List.forall_mem_cons.mpr ⟨lw_p15, fun _ h => absurd h List.not_mem_nil⟩⟩⟩⟩⟩⟩⟩⟩⟩⟩⟩⟩⟩⟩⟩⟩
theorem lw_p16 : lw_okq (⟨"OneTurned$Tape", "readNegative", "(I)Z"⟩, 8) := ⟨⟨by decide +kernel, by decide +kernel⟩, List.mem_of_getElem? (i := 94) (by decide +kernel), List.mem_of_getElem? (i := 285) (by decide +kernel), List.mem_of_getElem? (i := 286) (by decide +kernel)⟩
theorem lw_p17 : lw_okq (⟨"OneTurned$Tape", "joinsAt", "(I)Z"⟩, 8) := ⟨⟨by decide +kernel, by decide +kernel⟩, List.mem_of_getElem? (i := 94) (by decide +kernel), List.mem_of_getElem? (i := 289) (by decide +kernel), List.mem_of_getElem? (i := 290) (by decide +kernel)⟩
theorem lw_p18 : lw_okq (⟨"OneTurned", "lawSays", "(III)I"⟩, 11) := ⟨⟨by decide +kernel, by decide +kernel⟩, List.mem_of_getElem? (i := 23) (by decide +kernel), List.mem_of_getElem? (i := 519) (by decide +kernel), List.mem_of_getElem? (i := 520) (by decide +kernel)⟩
theorem lw_p19 : lw_okq (⟨"OneTurned", "menders", "(I)I"⟩, 11) := ⟨⟨by decide +kernel, by decide +kernel⟩, List.mem_of_getElem? (i := 23) (by decide +kernel), List.mem_of_getElem? (i := 694) (by decide +kernel), List.mem_of_getElem? (i := 695) (by decide +kernel)⟩
theorem lw_p20 : lw_okq (⟨"OneTurned", "fewest", "(III)I"⟩, 11) := ⟨⟨by decide +kernel, by decide +kernel⟩, List.mem_of_getElem? (i := 23) (by decide +kernel), List.mem_of_getElem? (i := 724) (by decide +kernel), List.mem_of_getElem? (i := 725) (by decide +kernel)⟩
theorem lw_p21 : lw_okq (⟨"OneTurned", "unlikeByOne", "()I"⟩, 11) := ⟨⟨by decide +kernel, by decide +kernel⟩, List.mem_of_getElem? (i := 23) (by decide +kernel), List.mem_of_getElem? (i := 735) (by decide +kernel), List.mem_of_getElem? (i := 736) (by decide +kernel)⟩
theorem lw_p22 : lw_okq (⟨"OneTurned", "noteSigns", "(II)I"⟩, 11) := ⟨⟨by decide +kernel, by decide +kernel⟩, List.mem_of_getElem? (i := 23) (by decide +kernel), List.mem_of_getElem? (i := 739) (by decide +kernel), List.mem_of_getElem? (i := 740) (by decide +kernel)⟩
theorem lw_p23 : lw_okq (⟨"OneTurned", "firstAlike", "()I"⟩, 11) := ⟨⟨by decide +kernel, by decide +kernel⟩, List.mem_of_getElem? (i := 23) (by decide +kernel), List.mem_of_getElem? (i := 743) (by decide +kernel), List.mem_of_getElem? (i := 744) (by decide +kernel)⟩
theorem lw_p24 : lw_okq (⟨"OneTurned", "areTwos", "()Z"⟩, 11) := ⟨⟨by decide +kernel, by decide +kernel⟩, List.mem_of_getElem? (i := 23) (by decide +kernel), List.mem_of_getElem? (i := 772) (by decide +kernel), List.mem_of_getElem? (i := 773) (by decide +kernel)⟩
theorem lw_p25 : lw_okq (⟨"OneTurned", "numbersTogether", "()I"⟩, 11) := ⟨⟨by decide +kernel, by decide +kernel⟩, List.mem_of_getElem? (i := 23) (by decide +kernel), List.mem_of_getElem? (i := 776) (by decide +kernel), List.mem_of_getElem? (i := 777) (by decide +kernel)⟩
theorem lw_p26 : lw_okq (⟨"OneTurned", "weighWays", "()V"⟩, 11) := ⟨⟨by decide +kernel, by decide +kernel⟩, List.mem_of_getElem? (i := 23) (by decide +kernel), List.mem_of_getElem? (i := 825) (by decide +kernel), List.mem_of_getElem? (i := 826) (by decide +kernel)⟩
theorem lw_p27 : lw_okq (⟨"OneTurned", "likeliest", "()I"⟩, 11) := ⟨⟨by decide +kernel, by decide +kernel⟩, List.mem_of_getElem? (i := 23) (by decide +kernel), List.mem_of_getElem? (i := 832) (by decide +kernel), List.mem_of_getElem? (i := 833) (by decide +kernel)⟩
theorem lw_p28 : lw_okq (⟨"OneTurned", "weightOfWay", "(I)I"⟩, 11) := ⟨⟨by decide +kernel, by decide +kernel⟩, List.mem_of_getElem? (i := 23) (by decide +kernel), List.mem_of_getElem? (i := 836) (by decide +kernel), List.mem_of_getElem? (i := 837) (by decide +kernel)⟩
theorem lw_p29 : lw_okq (⟨"OneTurned", "weightOfAllWays", "()I"⟩, 11) := ⟨⟨by decide +kernel, by decide +kernel⟩, List.mem_of_getElem? (i := 23) (by decide +kernel), List.mem_of_getElem? (i := 840) (by decide +kernel), List.mem_of_getElem? (i := 841) (by decide +kernel)⟩
theorem lw_p30 : lw_okq (⟨"OneTurned", "onlyFailing", "(I)I"⟩, 11) := ⟨⟨by decide +kernel, by decide +kernel⟩, List.mem_of_getElem? (i := 23) (by decide +kernel), List.mem_of_getElem? (i := 860) (by decide +kernel), List.mem_of_getElem? (i := 861) (by decide +kernel)⟩
theorem lw_p31 : lw_okq (⟨"OneTurned", "refusalOfTold", "(I)I"⟩, 11) := ⟨⟨by decide +kernel, by decide +kernel⟩, List.mem_of_getElem? (i := 23) (by decide +kernel), List.mem_of_getElem? (i := 877) (by decide +kernel), List.mem_of_getElem? (i := 878) (by decide +kernel)⟩
def lw_privs_2 : List (MethodName × Nat) := [(⟨"OneTurned$Tape", "readNegative", "(I)Z"⟩, 8), (⟨"OneTurned$Tape", "joinsAt", "(I)Z"⟩, 8), (⟨"OneTurned", "lawSays", "(III)I"⟩, 11), (⟨"OneTurned", "menders", "(I)I"⟩, 11), (⟨"OneTurned", "fewest", "(III)I"⟩, 11), (⟨"OneTurned", "unlikeByOne", "()I"⟩, 11), (⟨"OneTurned", "noteSigns", "(II)I"⟩, 11), (⟨"OneTurned", "firstAlike", "()I"⟩, 11), (⟨"OneTurned", "areTwos", "()Z"⟩, 11), (⟨"OneTurned", "numbersTogether", "()I"⟩, 11), (⟨"OneTurned", "weighWays", "()V"⟩, 11), (⟨"OneTurned", "likeliest", "()I"⟩, 11), (⟨"OneTurned", "weightOfWay", "(I)I"⟩, 11), (⟨"OneTurned", "weightOfAllWays", "()I"⟩, 11), (⟨"OneTurned", "onlyFailing", "(I)I"⟩, 11), (⟨"OneTurned", "refusalOfTold", "(I)I"⟩, 11)]
theorem lw_r2 : ∀ q ∈ lw_privs_2, lw_okq q := List.forall_mem_cons.mpr ⟨lw_p16, List.forall_mem_cons.mpr ⟨lw_p17, List.forall_mem_cons.mpr ⟨lw_p18, List.forall_mem_cons.mpr ⟨lw_p19, List.forall_mem_cons.mpr ⟨lw_p20, List.forall_mem_cons.mpr ⟨lw_p21, List.forall_mem_cons.mpr ⟨lw_p22, List.forall_mem_cons.mpr ⟨lw_p23, List.forall_mem_cons.mpr ⟨lw_p24, List.forall_mem_cons.mpr ⟨lw_p25, List.forall_mem_cons.mpr ⟨lw_p26, List.forall_mem_cons.mpr ⟨lw_p27, List.forall_mem_cons.mpr ⟨lw_p28, List.forall_mem_cons.mpr ⟨lw_p29, List.forall_mem_cons.mpr ⟨lw_p30, List.forall_mem_cons.mpr ⟨lw_p31, fun _ h => absurd h List.not_mem_nil⟩⟩⟩⟩⟩⟩⟩⟩⟩⟩⟩⟩⟩⟩⟩⟩
theorem lw_p32 : lw_okq (⟨"OneTurned", "sheetAt", "(I)LOneTurned$Sheet;"⟩, 11) := ⟨⟨by decide +kernel, by decide +kernel⟩, List.mem_of_getElem? (i := 23) (by decide +kernel), List.mem_of_getElem? (i := 881) (by decide +kernel), List.mem_of_getElem? (i := 882) (by decide +kernel)⟩
theorem lw_p33 : lw_okq (⟨"OneTurned", "toldSigns", "(I)I"⟩, 11) := ⟨⟨by decide +kernel, by decide +kernel⟩, List.mem_of_getElem? (i := 23) (by decide +kernel), List.mem_of_getElem? (i := 889) (by decide +kernel), List.mem_of_getElem? (i := 890) (by decide +kernel)⟩
theorem lw_p34 : lw_okq (⟨"OneTurned", "cardBy", "(I)I"⟩, 11) := ⟨⟨by decide +kernel, by decide +kernel⟩, List.mem_of_getElem? (i := 23) (by decide +kernel), List.mem_of_getElem? (i := 928) (by decide +kernel), List.mem_of_getElem? (i := 929) (by decide +kernel)⟩
theorem lw_p35 : lw_okq (⟨"OneTurned", "isFound", "(I)Z"⟩, 11) := ⟨⟨by decide +kernel, by decide +kernel⟩, List.mem_of_getElem? (i := 23) (by decide +kernel), List.mem_of_getElem? (i := 934) (by decide +kernel), List.mem_of_getElem? (i := 935) (by decide +kernel)⟩
theorem lw_p36 : lw_okq (⟨"OneTurned", "takenCard", "(II)I"⟩, 11) := ⟨⟨by decide +kernel, by decide +kernel⟩, List.mem_of_getElem? (i := 23) (by decide +kernel), List.mem_of_getElem? (i := 980) (by decide +kernel), List.mem_of_getElem? (i := 981) (by decide +kernel)⟩
theorem lw_p37 : lw_okq (⟨"OneTurned", "takenHeap", "(II)I"⟩, 11) := ⟨⟨by decide +kernel, by decide +kernel⟩, List.mem_of_getElem? (i := 23) (by decide +kernel), List.mem_of_getElem? (i := 984) (by decide +kernel), List.mem_of_getElem? (i := 985) (by decide +kernel)⟩
theorem lw_p38 : lw_okq (⟨"OneTurnedModel", "next", "()V"⟩, 39) := ⟨⟨by decide +kernel, by decide +kernel⟩, List.mem_of_getElem? (i := 991) (by decide +kernel), List.mem_of_getElem? (i := 1001) (by decide +kernel), List.mem_of_getElem? (i := 1002) (by decide +kernel)⟩
theorem lw_p39 : lw_okq (⟨"OneTurnedModel", "wordFrom", "(II)I"⟩, 39) := ⟨⟨by decide +kernel, by decide +kernel⟩, List.mem_of_getElem? (i := 991) (by decide +kernel), List.mem_of_getElem? (i := 1008) (by decide +kernel), List.mem_of_getElem? (i := 1009) (by decide +kernel)⟩
theorem lw_p40 : lw_okq (⟨"OneTurnedModel", "eRead", "()Z"⟩, 39) := ⟨⟨by decide +kernel, by decide +kernel⟩, List.mem_of_getElem? (i := 991) (by decide +kernel), List.mem_of_getElem? (i := 1012) (by decide +kernel), List.mem_of_getElem? (i := 1013) (by decide +kernel)⟩
theorem lw_p41 : lw_okq (⟨"OneTurnedModel", "puts", "(I)V"⟩, 39) := ⟨⟨by decide +kernel, by decide +kernel⟩, List.mem_of_getElem? (i := 991) (by decide +kernel), List.mem_of_getElem? (i := 1017) (by decide +kernel), List.mem_of_getElem? (i := 1018) (by decide +kernel)⟩
theorem lw_p42 : lw_okq (⟨"OneTurnedModel", "unwinds", "(I)V"⟩, 39) := ⟨⟨by decide +kernel, by decide +kernel⟩, List.mem_of_getElem? (i := 991) (by decide +kernel), List.mem_of_getElem? (i := 1021) (by decide +kernel), List.mem_of_getElem? (i := 1022) (by decide +kernel)⟩
theorem lw_p43 : lw_okq (⟨"OneTurnedModel", "opensOne", "(I)Z"⟩, 39) := ⟨⟨by decide +kernel, by decide +kernel⟩, List.mem_of_getElem? (i := 991) (by decide +kernel), List.mem_of_getElem? (i := 1028) (by decide +kernel), List.mem_of_getElem? (i := 1029) (by decide +kernel)⟩
theorem lw_p44 : lw_okq (⟨"OneTurnedModel", "holds", "(I)V"⟩, 39) := ⟨⟨by decide +kernel, by decide +kernel⟩, List.mem_of_getElem? (i := 991) (by decide +kernel), List.mem_of_getElem? (i := 1032) (by decide +kernel), List.mem_of_getElem? (i := 1033) (by decide +kernel)⟩
theorem lw_p45 : lw_okq (⟨"OneTurnedModel", "signOf", "()I"⟩, 39) := ⟨⟨by decide +kernel, by decide +kernel⟩, List.mem_of_getElem? (i := 991) (by decide +kernel), List.mem_of_getElem? (i := 1036) (by decide +kernel), List.mem_of_getElem? (i := 1037) (by decide +kernel)⟩
theorem lw_p46 : lw_okq (⟨"OneTurnedModel", "between", "(I)Z"⟩, 39) := ⟨⟨by decide +kernel, by decide +kernel⟩, List.mem_of_getElem? (i := 991) (by decide +kernel), List.mem_of_getElem? (i := 1040) (by decide +kernel), List.mem_of_getElem? (i := 1041) (by decide +kernel)⟩
theorem lw_p47 : lw_okq (⟨"OneTurnedModel", "isSet", "(I)Z"⟩, 39) := ⟨⟨by decide +kernel, by decide +kernel⟩, List.mem_of_getElem? (i := 991) (by decide +kernel), List.mem_of_getElem? (i := 1170) (by decide +kernel), List.mem_of_getElem? (i := 1171) (by decide +kernel)⟩
def lw_privs_3 : List (MethodName × Nat) := [(⟨"OneTurned", "sheetAt", "(I)LOneTurned$Sheet;"⟩, 11), (⟨"OneTurned", "toldSigns", "(I)I"⟩, 11), (⟨"OneTurned", "cardBy", "(I)I"⟩, 11), (⟨"OneTurned", "isFound", "(I)Z"⟩, 11), (⟨"OneTurned", "takenCard", "(II)I"⟩, 11), (⟨"OneTurned", "takenHeap", "(II)I"⟩, 11), (⟨"OneTurnedModel", "next", "()V"⟩, 39), (⟨"OneTurnedModel", "wordFrom", "(II)I"⟩, 39), (⟨"OneTurnedModel", "eRead", "()Z"⟩, 39), (⟨"OneTurnedModel", "puts", "(I)V"⟩, 39), (⟨"OneTurnedModel", "unwinds", "(I)V"⟩, 39), (⟨"OneTurnedModel", "opensOne", "(I)Z"⟩, 39), (⟨"OneTurnedModel", "holds", "(I)V"⟩, 39), (⟨"OneTurnedModel", "signOf", "()I"⟩, 39), (⟨"OneTurnedModel", "between", "(I)Z"⟩, 39), (⟨"OneTurnedModel", "isSet", "(I)Z"⟩, 39)]
theorem lw_r3 : ∀ q ∈ lw_privs_3, lw_okq q := List.forall_mem_cons.mpr ⟨lw_p32, List.forall_mem_cons.mpr ⟨lw_p33, List.forall_mem_cons.mpr ⟨lw_p34, List.forall_mem_cons.mpr ⟨lw_p35, List.forall_mem_cons.mpr ⟨lw_p36, List.forall_mem_cons.mpr ⟨lw_p37, List.forall_mem_cons.mpr ⟨lw_p38, List.forall_mem_cons.mpr ⟨lw_p39, List.forall_mem_cons.mpr ⟨lw_p40, List.forall_mem_cons.mpr ⟨lw_p41, List.forall_mem_cons.mpr ⟨lw_p42, List.forall_mem_cons.mpr ⟨lw_p43, List.forall_mem_cons.mpr ⟨lw_p44, List.forall_mem_cons.mpr ⟨lw_p45, List.forall_mem_cons.mpr ⟨lw_p46, List.forall_mem_cons.mpr ⟨lw_p47, fun _ h => absurd h List.not_mem_nil⟩⟩⟩⟩⟩⟩⟩⟩⟩⟩⟩⟩⟩⟩⟩⟩
theorem lw_p48 : lw_okq (⟨"OneTurnedModel", "allCards", "()I"⟩, 39) := ⟨⟨by decide +kernel, by decide +kernel⟩, List.mem_of_getElem? (i := 991) (by decide +kernel), List.mem_of_getElem? (i := 1174) (by decide +kernel), List.mem_of_getElem? (i := 1175) (by decide +kernel)⟩
theorem lw_p49 : lw_okq (⟨"OneTurnedModel", "isCard", "(I)Z"⟩, 39) := ⟨⟨by decide +kernel, by decide +kernel⟩, List.mem_of_getElem? (i := 991) (by decide +kernel), List.mem_of_getElem? (i := 1182) (by decide +kernel), List.mem_of_getElem? (i := 1183) (by decide +kernel)⟩
theorem lw_p50 : lw_okq (⟨"OneTurnedModel", "asksOf", "(II)I"⟩, 39) := ⟨⟨by decide +kernel, by decide +kernel⟩, List.mem_of_getElem? (i := 991) (by decide +kernel), List.mem_of_getElem? (i := 1209) (by decide +kernel), List.mem_of_getElem? (i := 1210) (by decide +kernel)⟩
theorem lw_p51 : lw_okq (⟨"OneTurnedModel", "signsOf", "(I)I"⟩, 39) := ⟨⟨by decide +kernel, by decide +kernel⟩, List.mem_of_getElem? (i := 991) (by decide +kernel), List.mem_of_getElem? (i := 1213) (by decide +kernel), List.mem_of_getElem? (i := 1214) (by decide +kernel)⟩
theorem lw_p52 : lw_okq (⟨"OneTurnedModel", "cardsIn", "(I)I"⟩, 39) := ⟨⟨by decide +kernel, by decide +kernel⟩, List.mem_of_getElem? (i := 991) (by decide +kernel), List.mem_of_getElem? (i := 1217) (by decide +kernel), List.mem_of_getElem? (i := 1218) (by decide +kernel)⟩
theorem lw_p53 : lw_okq (⟨"OneTurnedModel", "isIn", "(II)Z"⟩, 39) := ⟨⟨by decide +kernel, by decide +kernel⟩, List.mem_of_getElem? (i := 991) (by decide +kernel), List.mem_of_getElem? (i := 1221) (by decide +kernel), List.mem_of_getElem? (i := 1222) (by decide +kernel)⟩
theorem lw_p54 : lw_okq (⟨"OneTurnedModel", "signOf", "(III)I"⟩, 39) := ⟨⟨by decide +kernel, by decide +kernel⟩, List.mem_of_getElem? (i := 991) (by decide +kernel), List.mem_of_getElem? (i := 1225) (by decide +kernel), List.mem_of_getElem? (i := 1226) (by decide +kernel)⟩
theorem lw_p55 : lw_okq (⟨"OneTurnedModel", "failing", "(I)I"⟩, 39) := ⟨⟨by decide +kernel, by decide +kernel⟩, List.mem_of_getElem? (i := 991) (by decide +kernel), List.mem_of_getElem? (i := 1229) (by decide +kernel), List.mem_of_getElem? (i := 1230) (by decide +kernel)⟩
theorem lw_p56 : lw_okq (⟨"OneTurnedModel", "worth", "(I)I"⟩, 39) := ⟨⟨by decide +kernel, by decide +kernel⟩, List.mem_of_getElem? (i := 991) (by decide +kernel), List.mem_of_getElem? (i := 1233) (by decide +kernel), List.mem_of_getElem? (i := 1234) (by decide +kernel)⟩
theorem lw_p57 : lw_okq (⟨"OneTurnedModel", "isHeap", "(I)Z"⟩, 39) := ⟨⟨by decide +kernel, by decide +kernel⟩, List.mem_of_getElem? (i := 991) (by decide +kernel), List.mem_of_getElem? (i := 1258) (by decide +kernel), List.mem_of_getElem? (i := 1259) (by decide +kernel)⟩
theorem lw_p58 : lw_okq (⟨"OneTurnedModel", "looksAt", "()V"⟩, 39) := ⟨⟨by decide +kernel, by decide +kernel⟩, List.mem_of_getElem? (i := 991) (by decide +kernel), List.mem_of_getElem? (i := 1274) (by decide +kernel), List.mem_of_getElem? (i := 1275) (by decide +kernel)⟩
theorem lw_p59 : lw_okq (⟨"OneTurnedModel", "oneBy", "(I)I"⟩, 39) := ⟨⟨by decide +kernel, by decide +kernel⟩, List.mem_of_getElem? (i := 991) (by decide +kernel), List.mem_of_getElem? (i := 1278) (by decide +kernel), List.mem_of_getElem? (i := 1279) (by decide +kernel)⟩
theorem lw_p60 : lw_okq (⟨"OneTurnedModel", "holdsBy", "(I)Z"⟩, 39) := ⟨⟨by decide +kernel, by decide +kernel⟩, List.mem_of_getElem? (i := 991) (by decide +kernel), List.mem_of_getElem? (i := 1282) (by decide +kernel), List.mem_of_getElem? (i := 1283) (by decide +kernel)⟩
theorem lw_p61 : lw_okq (⟨"OneTurnedModel", "quick", "(I)I"⟩, 39) := ⟨⟨by decide +kernel, by decide +kernel⟩, List.mem_of_getElem? (i := 991) (by decide +kernel), List.mem_of_getElem? (i := 1286) (by decide +kernel), List.mem_of_getElem? (i := 1287) (by decide +kernel)⟩
theorem lw_p62 : lw_okq (⟨"OneTurnedModel", "fewestBy", "(II)I"⟩, 39) := ⟨⟨by decide +kernel, by decide +kernel⟩, List.mem_of_getElem? (i := 991) (by decide +kernel), List.mem_of_getElem? (i := 1317) (by decide +kernel), List.mem_of_getElem? (i := 1318) (by decide +kernel)⟩
theorem lw_p63 : lw_okq (⟨"OneTurnedModel", "readNow", "()I"⟩, 39) := ⟨⟨by decide +kernel, by decide +kernel⟩, List.mem_of_getElem? (i := 991) (by decide +kernel), List.mem_of_getElem? (i := 1341) (by decide +kernel), List.mem_of_getElem? (i := 1342) (by decide +kernel)⟩
def lw_privs_4 : List (MethodName × Nat) := [(⟨"OneTurnedModel", "allCards", "()I"⟩, 39), (⟨"OneTurnedModel", "isCard", "(I)Z"⟩, 39), (⟨"OneTurnedModel", "asksOf", "(II)I"⟩, 39), (⟨"OneTurnedModel", "signsOf", "(I)I"⟩, 39), (⟨"OneTurnedModel", "cardsIn", "(I)I"⟩, 39), (⟨"OneTurnedModel", "isIn", "(II)Z"⟩, 39), (⟨"OneTurnedModel", "signOf", "(III)I"⟩, 39), (⟨"OneTurnedModel", "failing", "(I)I"⟩, 39), (⟨"OneTurnedModel", "worth", "(I)I"⟩, 39), (⟨"OneTurnedModel", "isHeap", "(I)Z"⟩, 39), (⟨"OneTurnedModel", "looksAt", "()V"⟩, 39), (⟨"OneTurnedModel", "oneBy", "(I)I"⟩, 39), (⟨"OneTurnedModel", "holdsBy", "(I)Z"⟩, 39), (⟨"OneTurnedModel", "quick", "(I)I"⟩, 39), (⟨"OneTurnedModel", "fewestBy", "(II)I"⟩, 39), (⟨"OneTurnedModel", "readNow", "()I"⟩, 39)]
theorem lw_r4 : ∀ q ∈ lw_privs_4, lw_okq q := List.forall_mem_cons.mpr ⟨lw_p48, List.forall_mem_cons.mpr ⟨lw_p49, List.forall_mem_cons.mpr ⟨lw_p50, List.forall_mem_cons.mpr ⟨lw_p51, List.forall_mem_cons.mpr ⟨lw_p52, List.forall_mem_cons.mpr ⟨lw_p53, List.forall_mem_cons.mpr ⟨lw_p54, List.forall_mem_cons.mpr ⟨lw_p55, List.forall_mem_cons.mpr ⟨lw_p56, List.forall_mem_cons.mpr ⟨lw_p57, List.forall_mem_cons.mpr ⟨lw_p58, List.forall_mem_cons.mpr ⟨lw_p59, List.forall_mem_cons.mpr ⟨lw_p60, List.forall_mem_cons.mpr ⟨lw_p61, List.forall_mem_cons.mpr ⟨lw_p62, List.forall_mem_cons.mpr ⟨lw_p63, fun _ h => absurd h List.not_mem_nil⟩⟩⟩⟩⟩⟩⟩⟩⟩⟩⟩⟩⟩⟩⟩⟩
theorem lw_p64 : lw_okq (⟨"OneTurnedModel", "cutBy", "(I)I"⟩, 39) := ⟨⟨by decide +kernel, by decide +kernel⟩, List.mem_of_getElem? (i := 991) (by decide +kernel), List.mem_of_getElem? (i := 1361) (by decide +kernel), List.mem_of_getElem? (i := 1362) (by decide +kernel)⟩
theorem lw_p65 : lw_okq (⟨"OneTurnedModel", "movedBy", "(II)I"⟩, 39) := ⟨⟨by decide +kernel, by decide +kernel⟩, List.mem_of_getElem? (i := 991) (by decide +kernel), List.mem_of_getElem? (i := 1373) (by decide +kernel), List.mem_of_getElem? (i := 1374) (by decide +kernel)⟩
theorem lw_p66 : lw_okq (⟨"OneTurnedModel", "findsWays", "()V"⟩, 39) := ⟨⟨by decide +kernel, by decide +kernel⟩, List.mem_of_getElem? (i := 991) (by decide +kernel), List.mem_of_getElem? (i := 1385) (by decide +kernel), List.mem_of_getElem? (i := 1386) (by decide +kernel)⟩
theorem lw_p67 : lw_okq (⟨"OneTurnedModel", "weighs", "(III)V"⟩, 39) := ⟨⟨by decide +kernel, by decide +kernel⟩, List.mem_of_getElem? (i := 991) (by decide +kernel), List.mem_of_getElem? (i := 1389) (by decide +kernel), List.mem_of_getElem? (i := 1390) (by decide +kernel)⟩
theorem lw_p68 : lw_okq (⟨"OneTurnedModel", "sheetWrong", "(I)I"⟩, 39) := ⟨⟨by decide +kernel, by decide +kernel⟩, List.mem_of_getElem? (i := 991) (by decide +kernel), List.mem_of_getElem? (i := 1418) (by decide +kernel), List.mem_of_getElem? (i := 1419) (by decide +kernel)⟩
theorem lw_p69 : lw_okq (⟨"OneTurnedModel", "toldSigns", "(I)I"⟩, 39) := ⟨⟨by decide +kernel, by decide +kernel⟩, List.mem_of_getElem? (i := 991) (by decide +kernel), List.mem_of_getElem? (i := 1426) (by decide +kernel), List.mem_of_getElem? (i := 1427) (by decide +kernel)⟩
theorem lw_p70 : lw_okq (⟨"OneTurnedModel", "cardOf", "(I)I"⟩, 39) := ⟨⟨by decide +kernel, by decide +kernel⟩, List.mem_of_getElem? (i := 991) (by decide +kernel), List.mem_of_getElem? (i := 1442) (by decide +kernel), List.mem_of_getElem? (i := 1443) (by decide +kernel)⟩
theorem lw_p71 : lw_okq (⟨"OneTurnedModel", "isFound", "(I)Z"⟩, 39) := ⟨⟨by decide +kernel, by decide +kernel⟩, List.mem_of_getElem? (i := 991) (by decide +kernel), List.mem_of_getElem? (i := 1448) (by decide +kernel), List.mem_of_getElem? (i := 1449) (by decide +kernel)⟩
def lw_privs_5 : List (MethodName × Nat) := [(⟨"OneTurnedModel", "cutBy", "(I)I"⟩, 39), (⟨"OneTurnedModel", "movedBy", "(II)I"⟩, 39), (⟨"OneTurnedModel", "findsWays", "()V"⟩, 39), (⟨"OneTurnedModel", "weighs", "(III)V"⟩, 39), (⟨"OneTurnedModel", "sheetWrong", "(I)I"⟩, 39), (⟨"OneTurnedModel", "toldSigns", "(I)I"⟩, 39), (⟨"OneTurnedModel", "cardOf", "(I)I"⟩, 39), (⟨"OneTurnedModel", "isFound", "(I)Z"⟩, 39)]
theorem lw_r5 : ∀ q ∈ lw_privs_5, lw_okq q := List.forall_mem_cons.mpr ⟨lw_p64, List.forall_mem_cons.mpr ⟨lw_p65, List.forall_mem_cons.mpr ⟨lw_p66, List.forall_mem_cons.mpr ⟨lw_p67, List.forall_mem_cons.mpr ⟨lw_p68, List.forall_mem_cons.mpr ⟨lw_p69, List.forall_mem_cons.mpr ⟨lw_p70, List.forall_mem_cons.mpr ⟨lw_p71, fun _ h => absurd h List.not_mem_nil⟩⟩⟩⟩⟩⟩⟩⟩
def lw_privs : List (MethodName × Nat) := lw_privs_1 ++ (lw_privs_2 ++ (lw_privs_3 ++ (lw_privs_4 ++ (lw_privs_5))))
def lw_tbl : List Cond := k2_sels lw_privs ++ tables_1
theorem lw_privs_ok : ∀ q ∈ lw_privs, lw_okq q := by
  show ∀ q ∈ lw_privs_1 ++ (lw_privs_2 ++ (lw_privs_3 ++ (lw_privs_4 ++ (lw_privs_5)))), lw_okq q
  exact List.forall_mem_append.mpr ⟨lw_r1, List.forall_mem_append.mpr ⟨lw_r2, List.forall_mem_append.mpr ⟨lw_r3, List.forall_mem_append.mpr ⟨lw_r4, lw_r5⟩⟩⟩⟩
end
section
/-! A SMALL MACHINE OVER A PURE HEAP: cells by their numbers; steps as a function with handlers; its fixed point 'ex'; what 'unr' unrolls is 'ex'. -/
abbrev MCell : Type := Nat × List Value
abbrev MHeap : Type := List MCell
abbrev MSl : Type := Option (Value ⊕ Int64)
abbrev MLoc : Type := List MSl
abbrev MIns : Type := Nat × Instr × List Nat × List Value
abbrev MRes : Type := Option (Option Value × MHeap)
abbrev sv (v : Value) : MSl := some (.inl v)
abbrev sy (y : Int64) : MSl := some (.inr y)
def mlg : MLoc → Nat → MSl
  | [], _ => none
  | x :: _, 0 => x
  | _ :: r, n + 1 => mlg r n
def clr (s : MSl) : MSl := match s with
  | some (.inr _) => none
  | s => s
def mst : MLoc → Nat → Value → MLoc
  | [], _, _ => []
  | _ :: r, 0, v => sv v :: r
  | x :: r, n + 1, v => (match n with
    | 0 => clr x
    | _ + 1 => x) :: mst r n v
def mhd : MLoc → MLoc
  | [] => []
  | _ :: r => none :: r
def mstL : MLoc → Nat → Int64 → MLoc
  | [], _, _ => []
  | _ :: r, 0, y => sy y :: mhd r
  | x :: r, n + 1, y => (match n with
    | 0 => clr x
    | _ + 1 => x) :: mstL r n y
section CMB
variable {α : Type}
def dI (no : α) (v : Value) (k : Int32 → α) : α := match v with
  | .int x => k x
  | _ => no
def dL (no : α) (v : Value) (k : Int64 → α) : α := match v with
  | .long x => k x
  | _ => no
def dR (no : α) (v : Value) (k : Nat → α) : α := match v with
  | .ref a => k a
  | _ => no
def dA (no : α) (v : Value) (k : α) : α := match v with
  | .null => k
  | .ref _ => k
  | _ => no
def dN (no : α) (v : Value) (kn kr : α) : α := match v with
  | .null => kn
  | .ref _ => kr
  | _ => no
def dD (no : α) (v : Value) (k : α) : α := match v with
  | .long _ => no
  | .double _ => no
  | _ => k
def dv (no : α) (y : Int32) (k : α) : α := if y = 0 then no else k
def dvL (no : α) (y : Int64) (k : α) : α := if y = 0 then no else k
def zr (no : α) (x : Int32) (k : α) : α := if x = 0 ∨ x = 1 then k else no
def gS (no : α) (s : MSl) (k : Value → α) : α := match s with
  | some (.inl v) => k v
  | _ => no
def gSL (no : α) (s : MSl) (k : Int64 → α) : α := match s with
  | some (.inr y) => k y
  | _ => no
def gfI (no : α) (h : MHeap) (o : Nat) (ts : List Nat) (j : Nat) (k : Int32 → α) : α := match h[o]? with
  | some (t, fs) => if ts.contains t then (match fs[j]? with
    | some (.int x) => k x
    | _ => no) else no
  | none => no
def gfV (no : α) (h : MHeap) (o : Nat) (ts : List Nat) (j : Nat) (k : Value → α) : α := match h[o]? with
  | some (t, fs) => if ts.contains t then (match fs[j]? with
    | some v => dA no v (k v)
    | _ => no) else no
  | none => no
/-- a field is set: of ints, of truths, of references -/
def pfI (no : α) (h : MHeap) (o : Nat) (ts : List Nat) (j : Nat) (x : Int32) (k : MHeap → α) : α := match h[o]? with
  | some (t, fs) => if ts.contains t ∧ j < fs.length then k (h.set o (t, fs.set j (.int x))) else no
  | none => no
def pfV (no : α) (h : MHeap) (o : Nat) (ts : List Nat) (j : Nat) (v : Value) (k : MHeap → α) : α := match h[o]? with
  | some (t, fs) => if ts.contains t ∧ j < fs.length then dA no v (k (h.set o (t, fs.set j v))) else no
  | none => no
def aln (no : α) (h : MHeap) (o : Nat) (k : Int32 → α) : α := match h[o]? with
  | some (t, vs) => if (t = 99 ∧ o = 0) ∨ (100 ≤ t ∧ t ≤ 103) then k (nI vs.length) else no
  | none => no
def alI (no : α) (h : MHeap) (o : Nat) (i : Int32) (k : Int32 → α) : α := match h[o]? with
  | some (t, vs) => if ((t = 99 ∧ o = 0) ∨ t = 100) ∧ ¬ i < 0 then (match vs[i.toNatClampNeg]? with
    | some (.int x) => k x
    | _ => no) else no
  | none => no
def asI (no : α) (h : MHeap) (o : Nat) (i : Int32) (x : Int32) (k : MHeap → α) : α := match h[o]? with
  | some (t, vs) => if t = 100 ∧ ¬ i < 0 ∧ i.toNatClampNeg < vs.length then k (h.set o (t, vs.set i.toNatClampNeg (.int x))) else no
  | none => no
def alV (no : α) (h : MHeap) (o : Nat) (i : Int32) (k : Value → α) : α := match h[o]? with
  | some (t, vs) => if (101 ≤ t ∧ t ≤ 103) ∧ ¬ i < 0 then (match vs[i.toNatClampNeg]? with
    | some v => dA no v (k v)
    | _ => no) else no
  | none => no
/-- which objects an array of references takes -/
def mok (t t2 : Nat) : Bool := match t with
  | 101 => [1, 2, 3, 6, 8, 10].contains t2
  | 102 => Nat.beq t2 5
  | 103 => Nat.beq t2 7
  | _ => false
def asV (no : α) (h : MHeap) (o : Nat) (i : Int32) (v : Value) (k : MHeap → α) : α := match h[o]? with
  | some (t, vs) => if (101 ≤ t ∧ t ≤ 103) ∧ ¬ i < 0 ∧ i.toNatClampNeg < vs.length then (match v with
    | .null => k (h.set o (t, vs.set i.toNatClampNeg .null))
    | .ref o2 => (match h[o2]? with
      | some (t2, _) => if mok t t2 then k (h.set o (t, vs.set i.toNatClampNeg (.ref o2))) else no
      | none => no)
    | _ => no) else no
  | none => no
def nwA (no : α) (h : MHeap) (t : Nat) (n : Int32) (v : Value) (k : Nat → MHeap → α) : α := if n < 0 ∨ 100000 < n.toNatClampNeg then no else k h.length (h ++ [(t, List.replicate n.toNatClampNeg v)])
def nwO (h : MHeap) (t : Nat) (cs : List Value) (k : Nat → MHeap → α) : α := k h.length (h ++ [(t, cs)])
def inO (no : α) (h : MHeap) (o : Nat) (ts nts : List Nat) (k : Int32 → α) : α := match h[o]? with
  | some (t, _) => if ts.contains t then k 1 else if nts.contains t then k 0 else no
  | none => no
def vdP : List Nat → Nat → Option Nat
  | t :: m :: r, x => bif Nat.beq t x then some m else vdP r x
  | _, _ => none
def vd (no : α) (h : MHeap) (o : Nat) (ps : List Nat) (k : Nat → α) : α := match h[o]? with
  | some (t, _) => (match vdP ps t with
    | some m => k m
    | none => no)
  | none => no
def slen (no : α) (h : MHeap) (o : Nat) (k : Int32 → α) : α := match h[o]? with
  | some (t, vs) => if t = 98 ∧ (o = 1 ∨ o = 2) then k (nI vs.length) else no
  | none => no
def sch (no : α) (h : MHeap) (o : Nat) (i : Int32) (k : Int32 → α) : α := match h[o]? with
  | some (t, vs) => if (t = 98 ∧ (o = 1 ∨ o = 2)) ∧ ¬ i < 0 then (match vs[i.toNatClampNeg]? with
    | some (.int x) => k x
    | _ => no) else no
  | none => no
def cpyL (vs ws : List Value) (sp dp n : Nat) : List Value := ws.take dp ++ ((vs.drop sp).take n ++ ws.drop (dp + n))
def acp (no : α) (h : MHeap) (o1 : Nat) (sp : Int32) (o2 : Nat) (dp n : Int32) (k : MHeap → α) : α := match h[o1]?, h[o2]? with
  | some (t1, vs), some (t2, ws) => if t1 = 100 ∧ t2 = 100 ∧ ¬ sp < 0 ∧ ¬ dp < 0 ∧ ¬ n < 0 ∧ sp.toNatClampNeg + n.toNatClampNeg ≤ vs.length ∧ dp.toNatClampNeg + n.toNatClampNeg ≤ ws.length then k (h.set o2 (100, cpyL vs ws sp.toNatClampNeg dp.toNatClampNeg n.toNatClampNeg)) else no
  | _, _ => no
def swc (x : Int32) (kd : α) (k : Nat → α) : List Value → List Nat → α
  | .int y :: ys, t :: ts => if x = y then k t else swc x kd k ys ts
  | _, _ => kd
end CMB
def pops : Nat → List Value → List Value → Option (List Value × List Value)
  | 0, acc, S => some (acc, S)
  | n + 1, acc, v :: S => pops n (v :: acc) S
  | _ + 1, _, [] => none
section STEP
variable {α : Type}
/-- one instruction: 'no' stuck, 'rt' a return, 'kn' on to the next, 'kj' a jump, 'cl' a call (method, values, kind of answer, the stack below) -/
def stK (no : α) (rt : Option Value → MHeap → α) (kn : MLoc → List Value → MHeap → α) (kj : Nat → MLoc → List Value → MHeap → α) (cl : Nat → List Value → Nat → List Value → MHeap → α) (i : Instr) (rs : List Nat) (cs : List Value) (L : MLoc) (S : List Value) (h : MHeap) : α :=
  match i with
  | .aconst_null => kn L (.null :: S) h
  | .iconst _ | .bipush _ | .sipush _ | .lconst _ | .ldc _ | .ldc_w _ | .ldc2_w _ => (match cs with
    | v :: _ => kn L (v :: S) h
    | [] => no)
  | .iload n => gS no (mlg L n) fun v => dI no v fun x => kn L (.int x :: S) h
  | .iload_n n => gS no (mlg L n.val) fun v => dI no v fun x => kn L (.int x :: S) h
  | .aload n => gS no (mlg L n) fun v => dA no v (kn L (v :: S) h)
  | .aload_n n => gS no (mlg L n.val) fun v => dA no v (kn L (v :: S) h)
  | .lload n => gSL no (mlg L n) fun y => kn L (.long y :: S) h
  | .lload_n n => gSL no (mlg L n.val) fun y => kn L (.long y :: S) h
  | .istore n => (match S with
    | v :: S => dI no v fun x => kn (mst L n (.int x)) S h
    | _ => no)
  | .istore_n n => (match S with
    | v :: S => dI no v fun x => kn (mst L n.val (.int x)) S h
    | _ => no)
  | .astore n => (match S with
    | v :: S => dA no v (kn (mst L n v) S h)
    | _ => no)
  | .astore_n n => (match S with
    | v :: S => dA no v (kn (mst L n.val v) S h)
    | _ => no)
  | .lstore n => (match S with
    | v :: S => dL no v fun x => kn (mstL L n x) S h
    | _ => no)
  | .lstore_n n => (match S with
    | v :: S => dL no v fun x => kn (mstL L n.val x) S h
    | _ => no)
  | .iinc n _ => (match cs with
    | .int z :: _ => gS no (mlg L n) fun v => dI no v fun x => kn (mst L n (.int (x + z))) S h
    | _ => no)
  | .dup => (match S with
    | v :: S => dD no v (kn L (v :: v :: S) h)
    | _ => no)
  | .pop => (match S with
    | v :: S => dI no v fun _ => kn L S h
    | _ => no)
  | .iadd => (match S with
    | v :: w :: S => dI no v fun y => dI no w fun x => kn L (.int (x + y) :: S) h
    | _ => no)
  | .isub => (match S with
    | v :: w :: S => dI no v fun y => dI no w fun x => kn L (.int (x - y) :: S) h
    | _ => no)
  | .imul => (match S with
    | v :: w :: S => dI no v fun y => dI no w fun x => kn L (.int (x * y) :: S) h
    | _ => no)
  | .iand => (match S with
    | v :: w :: S => dI no v fun y => dI no w fun x => kn L (.int (x &&& y) :: S) h
    | _ => no)
  | .ior => (match S with
    | v :: w :: S => dI no v fun y => dI no w fun x => kn L (.int (x ||| y) :: S) h
    | _ => no)
  | .ixor => (match S with
    | v :: w :: S => dI no v fun y => dI no w fun x => kn L (.int (x ^^^ y) :: S) h
    | _ => no)
  | .ishl => (match S with
    | v :: w :: S => dI no v fun y => dI no w fun x => kn L (.int (x <<< (y &&& 31)) :: S) h
    | _ => no)
  | .ishr => (match S with
    | v :: w :: S => dI no v fun y => dI no w fun x => kn L (.int (x >>> (y &&& 31)) :: S) h
    | _ => no)
  | .iushr => (match S with
    | v :: w :: S => dI no v fun y => dI no w fun x => kn L (.int (x.toUInt32 >>> (y.toUInt32 &&& Int32.toUInt32 31)).toInt32 :: S) h
    | _ => no)
  | .idiv => (match S with
    | v :: w :: S => dI no v fun y => dI no w fun x => dv no y (kn L (.int (x / y) :: S) h)
    | _ => no)
  | .irem => (match S with
    | v :: w :: S => dI no v fun y => dI no w fun x => dv no y (kn L (.int (x - x / y * y) :: S) h)
    | _ => no)
  | .ineg => (match S with
    | v :: S => dI no v fun x => kn L (.int (-x) :: S) h
    | _ => no)
  | .i2l => (match S with
    | v :: S => dI no v fun x => kn L (.long x.toInt64 :: S) h
    | _ => no)
  | .i2b => (match S with
    | v :: S => dI no v fun x => kn L (.int x.toInt8.toInt32 :: S) h
    | _ => no)
  | .i2s => (match S with
    | v :: S => dI no v fun x => kn L (.int x.toInt16.toInt32 :: S) h
    | _ => no)
  | .l2i => (match S with
    | v :: S => dL no v fun x => kn L (.int x.toInt32 :: S) h
    | _ => no)
  | .ladd => (match S with
    | v :: w :: S => dL no v fun y => dL no w fun x => kn L (.long (x + y) :: S) h
    | _ => no)
  | .lmul => (match S with
    | v :: w :: S => dL no v fun y => dL no w fun x => kn L (.long (x * y) :: S) h
    | _ => no)
  | .ldiv => (match S with
    | v :: w :: S => dL no v fun y => dL no w fun x => dvL no y (kn L (.long (x / y) :: S) h)
    | _ => no)
  | .lrem => (match S with
    | v :: w :: S => dL no v fun y => dL no w fun x => dvL no y (kn L (.long (x - x / y * y) :: S) h)
    | _ => no)
  | .lcmp => (match S with
    | v :: w :: S => dL no v fun y => dL no w fun x => kn L (.int (if x = y then 0 else if x < y then -1 else 1) :: S) h
    | _ => no)
  | .ifCond c _ => (match S, rs with
    | v :: S, t :: _ => dI no v fun x => (match c with
      | .eq => if x = 0 then kj t L S h else kn L S h
      | .ne => if x = 0 then kn L S h else kj t L S h
      | .lt => if x < 0 then kj t L S h else kn L S h
      | .ge => if x < 0 then kn L S h else kj t L S h
      | .gt => if 0 < x then kj t L S h else kn L S h
      | .le => if 0 < x then kn L S h else kj t L S h)
    | _, _ => no)
  | .if_icmp c _ => (match S, rs with
    | v :: w :: S, t :: _ => dI no v fun y => dI no w fun x => (match c with
      | .eq => if x = y then kj t L S h else kn L S h
      | .ne => if x = y then kn L S h else kj t L S h
      | .lt => if x < y then kj t L S h else kn L S h
      | .ge => if x < y then kn L S h else kj t L S h
      | .gt => if y < x then kj t L S h else kn L S h
      | .le => if y < x then kn L S h else kj t L S h)
    | _, _ => no)
  | .ifnull _ => (match S, rs with
    | v :: S, t :: _ => dN no v (kj t L S h) (kn L S h)
    | _, _ => no)
  | .ifnonnull _ => (match S, rs with
    | v :: S, t :: _ => dN no v (kn L S h) (kj t L S h)
    | _, _ => no)
  | .goto _ => (match rs with
    | t :: _ => kj t L S h
    | _ => no)
  | .tableswitch _ _ _ _ | .lookupswitch _ _ => (match S, rs with
    | v :: S, t :: ts => dI no v fun x => swc x (kj t L S h) (fun t => kj t L S h) cs ts
    | _, _ => no)
  | .ireturn => (match S, rs with
    | [v], 0 :: _ => dI no v fun x => rt (some (.int x)) h
    | [v], _ => dI no v fun x => zr no x (rt (some (.int x)) h)
    | _, _ => no)
  | .lreturn => (match S with
    | [v] => dL no v fun x => rt (some (.long x)) h
    | _ => no)
  | .areturn => (match S with
    | [v] => dA no v (rt (some v) h)
    | _ => no)
  | .return_ => (match S with
    | [] => rt none h
    | _ => no)
  | .getfield _ => (match S, rs with
    | v :: S, 0 :: j :: ts => dR no v fun o => gfI no h o ts j fun x => kn L (.int x :: S) h
    | v :: S, _ :: j :: ts => dR no v fun o => gfV no h o ts j fun x => kn L (x :: S) h
    | _, _ => no)
  | .putfield _ => (match S, rs with
    | w :: v :: S, 0 :: j :: ts => dI no w fun x => dR no v fun o => pfI no h o ts j x fun h => kn L S h
    | w :: v :: S, 1 :: j :: ts => dI no w fun x => zr no x (dR no v fun o => pfI no h o ts j x fun h => kn L S h)
    | w :: v :: S, _ :: j :: ts => dR no v fun o => pfV no h o ts j w fun h => kn L S h
    | _, _ => no)
  | .arraylength => (match S with
    | v :: S => dR no v fun o => aln no h o fun x => kn L (.int x :: S) h
    | _ => no)
  | .iaload => (match S with
    | w :: v :: S => dI no w fun i => dR no v fun o => alI no h o i fun x => kn L (.int x :: S) h
    | _ => no)
  | .iastore => (match S with
    | u :: w :: v :: S => dI no u fun x => dI no w fun i => dR no v fun o => asI no h o i x fun h => kn L S h
    | _ => no)
  | .aaload => (match S with
    | w :: v :: S => dI no w fun i => dR no v fun o => alV no h o i fun x => kn L (x :: S) h
    | _ => no)
  | .aastore => (match S with
    | u :: w :: v :: S => dI no w fun i => dR no v fun o => asV no h o i u fun h => kn L S h
    | _ => no)
  | .newarray _ => (match S with
    | v :: S => dI no v fun n => nwA no h 100 n (.int 0) fun o h => kn L (.ref o :: S) h
    | _ => no)
  | .anewarray _ => (match S, rs with
    | v :: S, t :: _ => dI no v fun n => nwA no h t n .null fun o h => kn L (.ref o :: S) h
    | _, _ => no)
  | .new _ => (match rs with
    | t :: _ => nwO h t cs fun o h => kn L (.ref o :: S) h
    | _ => no)
  | .instanceof _ => (match S, rs with
    | v :: S, n :: ts => dN no v (kn L (.int 0 :: S) h) (dR no v fun o => inO no h o (ts.take n) (ts.drop n) fun x => kn L (.int x :: S) h)
    | _, _ => no)
  | .invokestatic _ => (match rs with
    | m :: n :: k :: _ => (match pops n [] S with
      | some (as, S) => bif Nat.ble S.length 4 then cl m as k S h else no
      | none => no)
    | _ => no)
  | .invokespecial _ => (match rs with
    | m :: n :: k :: _ => (match pops n [] S with
      | some (as, v :: S) => dR no v fun o => bif Nat.ble S.length 4 then cl m (.ref o :: as) k S h else no
      | _ => no)
    | _ => no)
  | .invokevirtual _ => (match rs with
    | n :: k :: ps => (match pops n [] S with
      | some (as, v :: S) => dR no v fun o => vd no h o ps fun m => bif Nat.ble S.length 4 then cl m (.ref o :: as) k S h else no
      | _ => no)
    | _ => no)
  | _ => no
end STEP
/-- what isn't walked here: max, min, arraycopy, Object's constructor, a text's length and chars -/
def prm (m : Nat) (as : List Value) (h : MHeap) : MRes := match m with
  | 0 => (match as with
    | [.int x, .int y] => some (some (.int (if x < y then y else x)), h)
    | _ => none)
  | 1 => (match as with
    | [.int x, .int y] => some (some (.int (if y < x then y else x)), h)
    | _ => none)
  | 2 => (match as with
    | [.ref o1, .int sp, .ref o2, .int dp, .int n] => acp none h o1 sp o2 dp n fun h => some (none, h)
    | _ => none)
  | 3 => (match as with
    | [.ref _] => some (none, h)
    | _ => none)
  | 4 => (match as with
    | [.ref o] => slen none h o fun x => some (some (.int x), h)
    | _ => none)
  | 5 => (match as with
    | [.ref o, .int i] => sch none h o i fun x => some (some (.int x), h)
    | _ => none)
  | _ => none
/-- how many calls stand open in them at once -/
def prd (m : Nat) : Nat := match m with
  | 4 => 3
  | 5 => 6
  | _ => 0
def prx (d m : Nat) (as : List Value) (h : MHeap) : MRes := bif Nat.ble (prd m) d then prm m as h else none
end
section
/-! the methods' instructions, with what they link, by their numbers -/
/-- 0: OneTurned$Board.<init>()V -/
def k_0 : List MIns := [(0, .aload_n 0, [], []), (1, .invokespecial 3, [1003, 0, 0], []), (4, .aload_n 0, [], []), (5, .bipush 9, [], [.int 9]), (7, .putfield 9, [0, 0, 0], []), (10, .aload_n 0, [], []), (11, .iconst 3, [], [.int 3]), (12, .putfield 15, [0, 1, 0], []), (15, .aload_n 0, [], []), (16, .iconst 0, [], [.int 0]), (17, .putfield 18, [0, 2, 0], []), (20, .aload_n 0, [], []), (21, .iconst 0, [], [.int 0]), (22, .putfield 21, [0, 3, 0], []), (25, .aload_n 0, [], []), (26, .bipush 7, [], [.int 7]), (28, .anewarray 24, [101], []), (31, .putfield 26, [2, 4, 0], []), (34, .return_, [], [])]
/-- 1: OneTurned$Board.rowOf(II)I -/
def k_1 : List MIns := [(0, .iload_n 1, [], []), (1, .ifCond .le 9, [10], []), (4, .iload_n 0, [], []), (5, .iload_n 1, [], []), (6, .idiv, [], []), (7, .goto 4, [11], []), (10, .iconst 0, [], [.int 0]), (11, .ireturn, [0], [])]
/-- 2: OneTurned$Board.columnOf(II)I -/
def k_2 : List MIns := [(0, .iload_n 1, [], []), (1, .ifCond .le 9, [10], []), (4, .iload_n 0, [], []), (5, .iload_n 1, [], []), (6, .irem, [], []), (7, .goto 4, [11], []), (10, .iconst 0, [], [.int 0]), (11, .ireturn, [0], [])]
/-- 3: OneTurned$Board.lieAnew(III)V -/
def k_3 : List MIns := [(0, .aload_n 0, [], []), (1, .iload_n 1, [], []), (2, .putfield 9, [0, 0, 0], []), (5, .aload_n 0, [], []), (6, .iload_n 2, [], []), (7, .putfield 15, [0, 1, 0], []), (10, .aload_n 0, [], []), (11, .iload_n 3, [], []), (12, .putfield 18, [0, 2, 0], []), (15, .aload_n 0, [], []), (16, .getfield 26, [2, 4, 0], []), (19, .astore 4, [], []), (21, .aload 4, [], []), (23, .arraylength, [], []), (24, .istore 5, [], []), (26, .iconst 0, [], [.int 0]), (27, .istore 6, [], []), (29, .iload 6, [], []), (31, .iload 5, [], []), (33, .if_icmp .ge 28, [61], []), (36, .aload 4, [], []), (38, .iload 6, [], []), (40, .aaload, [], []), (41, .astore 7, [], []), (43, .aload 7, [], []), (45, .ifnull 10, [55], []), (48, .aload 7, [], []), (50, .iload_n 1, [], []), (51, .iload_n 2, [], []), (52, .invokevirtual 30, [2, 0, 1, 32, 2, 32, 3, 32, 6, 32, 8, 32, 10, 32], []), (55, .iinc 6 1, [], [.int 1]), (58, .goto (-29), [29], []), (61, .return_, [], [])]
/-- 4: OneTurned$Board.allCards()I -/
def k_4 : List MIns := [(0, .aload_n 0, [], []), (1, .getfield 9, [0, 0, 0], []), (4, .invokestatic 34, [136, 1, 1], []), (7, .ireturn, [0], [])]
/-- 5: OneTurned$Board.hasCard(I)Z -/
def k_5 : List MIns := [(0, .iload_n 1, [], []), (1, .iconst 0, [], [.int 0]), (2, .aload_n 0, [], []), (3, .getfield 9, [0, 0, 0], []), (6, .iconst 1, [], [.int 1]), (7, .isub, [], []), (8, .invokestatic 38, [133, 3, 1], []), (11, .ireturn, [1], [])]
/-- 6: OneTurned$Board.hasCards(I)Z -/
def k_6 : List MIns := [(0, .iload_n 1, [], []), (1, .iconst 0, [], [.int 0]), (2, .aload_n 0, [], []), (3, .invokevirtual 42, [0, 1, 0, 4], []), (6, .invokestatic 38, [133, 3, 1], []), (9, .ireturn, [1], [])]
/-- 7: OneTurned$Board.areUnlike(II)Z -/
def k_7 : List MIns := [(0, .aload_n 0, [], []), (1, .getfield 18, [0, 2, 0], []), (4, .iload_n 1, [], []), (5, .invokestatic 46, [137, 2, 1], []), (8, .aload_n 0, [], []), (9, .getfield 18, [0, 2, 0], []), (12, .iload_n 2, [], []), (13, .invokestatic 46, [137, 2, 1], []), (16, .if_icmp .eq 7, [23], []), (19, .iconst 1, [], [.int 1]), (20, .goto 4, [24], []), (23, .iconst 0, [], [.int 0]), (24, .ireturn, [1], [])]
/-- 8: OneTurned$Board.rowCards(I)I -/
def k_8 : List MIns := [(0, .iconst 0, [], [.int 0]), (1, .istore_n 2, [], []), (2, .iconst 0, [], [.int 0]), (3, .istore_n 3, [], []), (4, .iload_n 3, [], []), (5, .aload_n 0, [], []), (6, .getfield 9, [0, 0, 0], []), (9, .if_icmp .ge 32, [41], []), (12, .iload_n 2, [], []), (13, .iload_n 3, [], []), (14, .aload_n 0, [], []), (15, .getfield 15, [0, 1, 0], []), (18, .invokestatic 50, [1, 2, 1], []), (21, .iload_n 1, [], []), (22, .if_icmp .ne 10, [32], []), (25, .iload_n 3, [], []), (26, .invokestatic 54, [135, 1, 1], []), (29, .goto 4, [33], []), (32, .iconst 0, [], [.int 0]), (33, .ior, [], []), (34, .istore_n 2, [], []), (35, .iinc 3 1, [], [.int 1]), (38, .goto (-34), [4], []), (41, .iload_n 2, [], []), (42, .ireturn, [0], [])]
/-- 9: OneTurned$Board.cutAt(I)I -/
def k_9 : List MIns := [(0, .aload_n 0, [], []), (1, .getfield 18, [0, 2, 0], []), (4, .iload_n 1, [], []), (5, .ishr, [], []), (6, .aload_n 0, [], []), (7, .getfield 18, [0, 2, 0], []), (10, .iload_n 1, [], []), (11, .invokestatic 34, [136, 1, 1], []), (14, .iand, [], []), (15, .aload_n 0, [], []), (16, .getfield 9, [0, 0, 0], []), (19, .iload_n 1, [], []), (20, .isub, [], []), (21, .ishl, [], []), (22, .ior, [], []), (23, .ireturn, [0], [])]
/-- 10: OneTurned$Board.movedTo(II)I -/
def k_10 : List MIns := [(0, .aload_n 0, [], []), (1, .getfield 18, [0, 2, 0], []), (4, .iload_n 1, [], []), (5, .ishr, [], []), (6, .iconst 1, [], [.int 1]), (7, .iand, [], []), (8, .istore_n 3, [], []), (9, .aload_n 0, [], []), (10, .getfield 18, [0, 2, 0], []), (13, .iload_n 1, [], []), (14, .invokestatic 34, [136, 1, 1], []), (17, .iand, [], []), (18, .aload_n 0, [], []), (19, .getfield 18, [0, 2, 0], []), (22, .iload_n 1, [], []), (23, .iconst 1, [], [.int 1]), (24, .iadd, [], []), (25, .ishr, [], []), (26, .iload_n 1, [], []), (27, .ishl, [], []), (28, .ior, [], []), (29, .istore 4, [], []), (31, .iload 4, [], []), (33, .iload_n 2, [], []), (34, .invokestatic 34, [136, 1, 1], []), (37, .iand, [], []), (38, .iload_n 3, [], []), (39, .iload_n 2, [], []), (40, .ishl, [], []), (41, .ior, [], []), (42, .iload 4, [], []), (44, .iload_n 2, [], []), (45, .ishr, [], []), (46, .iload_n 2, [], []), (47, .iconst 1, [], [.int 1]), (48, .iadd, [], []), (49, .ishl, [], []), (50, .ior, [], []), (51, .ireturn, [0], [])]
/-- 11: OneTurned$Board.hasRoom()Z -/
def k_11 : List MIns := [(0, .aload_n 0, [], []), (1, .getfield 21, [0, 3, 0], []), (4, .aload_n 0, [], []), (5, .getfield 26, [2, 4, 0], []), (8, .arraylength, [], []), (9, .if_icmp .ge 7, [16], []), (12, .iconst 1, [], [.int 1]), (13, .goto 4, [17], []), (16, .iconst 0, [], [.int 0]), (17, .ireturn, [1], [])]
/-- 12: OneTurned$Board.add(LOneTurned$Heap;)V -/
def k_12 : List MIns := [(0, .aload_n 1, [], []), (1, .ifnull 53, [54], []), (4, .aload_n 0, [], []), (5, .getfield 21, [0, 3, 0], []), (8, .iconst 0, [], [.int 0]), (9, .aload_n 0, [], []), (10, .getfield 26, [2, 4, 0], []), (13, .arraylength, [], []), (14, .iconst 1, [], [.int 1]), (15, .isub, [], []), (16, .invokestatic 38, [133, 3, 1], []), (19, .ifCond .eq 35, [54], []), (22, .aload_n 1, [], []), (23, .aload_n 0, [], []), (24, .getfield 9, [0, 0, 0], []), (27, .aload_n 0, [], []), (28, .getfield 15, [0, 1, 0], []), (31, .invokevirtual 30, [2, 0, 1, 32, 2, 32, 3, 32, 6, 32, 8, 32, 10, 32], []), (34, .aload_n 0, [], []), (35, .getfield 26, [2, 4, 0], []), (38, .aload_n 0, [], []), (39, .getfield 21, [0, 3, 0], []), (42, .aload_n 1, [], []), (43, .aastore, [], []), (44, .aload_n 0, [], []), (45, .dup, [], []), (46, .getfield 21, [0, 3, 0], []), (49, .iconst 1, [], [.int 1]), (50, .iadd, [], []), (51, .putfield 21, [0, 3, 0], []), (54, .return_, [], [])]
/-- 13: OneTurned$Board.keepHeaps(I)V -/
def k_13 : List MIns := [(0, .iconst 0, [], [.int 0]), (1, .iload_n 1, [], []), (2, .invokestatic 57, [1000, 2, 1], []), (5, .istore_n 2, [], []), (6, .iload_n 2, [], []), (7, .aload_n 0, [], []), (8, .getfield 26, [2, 4, 0], []), (11, .arraylength, [], []), (12, .if_icmp .ge 16, [28], []), (15, .aload_n 0, [], []), (16, .getfield 26, [2, 4, 0], []), (19, .iload_n 2, [], []), (20, .aconst_null, [], []), (21, .aastore, [], []), (22, .iinc 2 1, [], [.int 1]), (25, .goto (-19), [6], []), (28, .aload_n 0, [], []), (29, .aload_n 0, [], []), (30, .getfield 21, [0, 3, 0], []), (33, .iload_n 1, [], []), (34, .invokestatic 62, [1001, 2, 1], []), (37, .putfield 21, [0, 3, 0], []), (40, .return_, [], [])]
/-- 14: OneTurned$Board.heapAt(I)LOneTurned$Heap; -/
def k_14 : List MIns := [(0, .iload_n 1, [], []), (1, .ifCond .lt 29, [30], []), (4, .iload_n 1, [], []), (5, .aload_n 0, [], []), (6, .getfield 21, [0, 3, 0], []), (9, .if_icmp .ge 21, [30], []), (12, .iload_n 1, [], []), (13, .aload_n 0, [], []), (14, .getfield 26, [2, 4, 0], []), (17, .arraylength, [], []), (18, .if_icmp .ge 12, [30], []), (21, .aload_n 0, [], []), (22, .getfield 26, [2, 4, 0], []), (25, .iload_n 1, [], []), (26, .aaload, [], []), (27, .goto 4, [31], []), (30, .aconst_null, [], []), (31, .areturn, [], [])]
/-- 15: OneTurned$Board.allHeaps()I -/
def k_15 : List MIns := [(0, .aload_n 0, [], []), (1, .getfield 21, [0, 3, 0], []), (4, .invokestatic 34, [136, 1, 1], []), (7, .ireturn, [0], [])]
/-- 16: OneTurned$Board.signsAt(I)I -/
def k_16 : List MIns := [(0, .iconst 0, [], [.int 0]), (1, .istore_n 2, [], []), (2, .iconst 0, [], [.int 0]), (3, .istore_n 3, [], []), (4, .iload_n 3, [], []), (5, .aload_n 0, [], []), (6, .getfield 21, [0, 3, 0], []), (9, .if_icmp .ge 38, [47], []), (12, .aload_n 0, [], []), (13, .iload_n 3, [], []), (14, .invokevirtual 65, [1, 2, 0, 14], []), (17, .astore 4, [], []), (19, .iload_n 2, [], []), (20, .aload 4, [], []), (22, .ifnonnull 7, [29], []), (25, .iconst 0, [], [.int 0]), (26, .goto 13, [39], []), (29, .aload 4, [], []), (31, .iload_n 1, [], []), (32, .invokevirtual 69, [1, 1, 1, 31, 2, 31, 3, 31, 6, 31, 8, 52, 10, 82], []), (35, .iconst 4, [], [.int 4]), (36, .iload_n 3, [], []), (37, .imul, [], []), (38, .ishl, [], []), (39, .ior, [], []), (40, .istore_n 2, [], []), (41, .iinc 3 1, [], [.int 1]), (44, .goto (-40), [4], []), (47, .iload_n 2, [], []), (48, .ireturn, [0], [])]
/-- 17: OneTurned$Board.otherSignsAt(II)I -/
def k_17 : List MIns := [(0, .iconst 0, [], [.int 0]), (1, .istore_n 3, [], []), (2, .iconst 0, [], [.int 0]), (3, .istore 4, [], []), (5, .iload 4, [], []), (7, .aload_n 0, [], []), (8, .getfield 21, [0, 3, 0], []), (11, .if_icmp .ge 49, [60], []), (14, .aload_n 0, [], []), (15, .iload 4, [], []), (17, .invokevirtual 65, [1, 2, 0, 14], []), (20, .astore 5, [], []), (22, .iload_n 3, [], []), (23, .aload 5, [], []), (25, .ifnull 26, [51], []), (28, .aload 5, [], []), (30, .iload_n 1, [], []), (31, .invokevirtual 69, [1, 1, 1, 31, 2, 31, 3, 31, 6, 31, 8, 52, 10, 82], []), (34, .iload_n 2, [], []), (35, .iload 4, [], []), (37, .invokestatic 72, [140, 2, 1], []), (40, .if_icmp .eq 11, [51], []), (43, .iload 4, [], []), (45, .invokestatic 54, [135, 1, 1], []), (48, .goto 4, [52], []), (51, .iconst 0, [], [.int 0]), (52, .ior, [], []), (53, .istore_n 3, [], []), (54, .iinc 4 1, [], [.int 1]), (57, .goto (-52), [5], []), (60, .iload_n 3, [], []), (61, .ireturn, [0], [])]
/-- 18: OneTurned$Board.failingAt(I)I -/
def k_18 : List MIns := [(0, .aload_n 0, [], []), (1, .iload_n 1, [], []), (2, .iconst 0, [], [.int 0]), (3, .invokevirtual 75, [2, 1, 0, 17], []), (6, .ireturn, [0], [])]
/-- 19: OneTurned$Board.failsNow()I -/
def k_19 : List MIns := [(0, .aload_n 0, [], []), (1, .aload_n 0, [], []), (2, .getfield 18, [0, 2, 0], []), (5, .invokevirtual 78, [1, 1, 0, 18], []), (8, .invokestatic 81, [260, 1, 1], []), (11, .ireturn, [0], [])]
/-- 20: OneTurned$Board.hasSignsAt(II)Z -/
def k_20 : List MIns := [(0, .iconst 0, [], [.int 0]), (1, .istore_n 3, [], []), (2, .iload_n 3, [], []), (3, .aload_n 0, [], []), (4, .getfield 21, [0, 3, 0], []), (7, .if_icmp .ge 37, [44], []), (10, .aload_n 0, [], []), (11, .iload_n 3, [], []), (12, .invokevirtual 65, [1, 2, 0, 14], []), (15, .astore 4, [], []), (17, .aload 4, [], []), (19, .ifnull 19, [38], []), (22, .aload 4, [], []), (24, .iload_n 1, [], []), (25, .invokevirtual 69, [1, 1, 1, 31, 2, 31, 3, 31, 6, 31, 8, 52, 10, 82], []), (28, .iload_n 2, [], []), (29, .iload_n 3, [], []), (30, .invokestatic 72, [140, 2, 1], []), (33, .if_icmp .eq 5, [38], []), (36, .iconst 0, [], [.int 0]), (37, .ireturn, [1], []), (38, .iinc 3 1, [], [.int 1]), (41, .goto (-39), [2], []), (44, .iconst 1, [], [.int 1]), (45, .ireturn, [1], [])]
/-- 21: OneTurned$Board.allHoldAt(I)Z -/
def k_21 : List MIns := [(0, .aload_n 0, [], []), (1, .iload_n 1, [], []), (2, .iconst 0, [], [.int 0]), (3, .invokevirtual 86, [2, 1, 0, 20], []), (6, .ireturn, [1], [])]
/-- 22: OneTurned$Column.<init>(II)V -/
def k_22 : List MIns := [(0, .aload_n 0, [], []), (1, .iload_n 1, [], []), (2, .iload_n 2, [], []), (3, .invokespecial 3, [41, 2, 0], []), (6, .return_, [], [])]
/-- 23: OneTurned$Column.kind()I -/
def k_23 : List MIns := [(0, .iconst 3, [], [.int 3]), (1, .ireturn, [0], [])]
/-- 24: OneTurned$Column.hasInside(II)Z -/
def k_24 : List MIns := [(0, .iload_n 1, [], []), (1, .iload_n 2, [], []), (2, .invokestatic 9, [2, 2, 1], []), (5, .aload_n 0, [], []), (6, .getfield 15, [0, 1, 1], []), (9, .if_icmp .ne 7, [16], []), (12, .iconst 1, [], [.int 1]), (13, .goto 4, [17], []), (16, .iconst 0, [], [.int 0]), (17, .ireturn, [1], [])]
/-- 25: OneTurned$Figure.<init>(II)V -/
def k_25 : List MIns := [(0, .aload_n 0, [], []), (1, .iload_n 1, [], []), (2, .iload_n 2, [], []), (3, .invokespecial 3, [28, 2, 0], []), (6, .return_, [], [])]
/-- 26: OneTurned$Figure.kind()I -/
def k_26 : List MIns := [(0, .iconst 2, [], [.int 2]), (1, .ireturn, [0], [])]
/-- 27: OneTurned$Figure.hasInside(II)Z -/
def k_27 : List MIns := [(0, .iload_n 1, [], []), (1, .aload_n 0, [], []), (2, .getfield 9, [0, 1, 2, 10], []), (5, .iconst 3, [], [.int 3]), (6, .iand, [], []), (7, .invokestatic 15, [137, 2, 1], []), (10, .ireturn, [1], [])]
/-- 28: OneTurned$Heap.<init>(II)V -/
def k_28 : List MIns := [(0, .aload_n 0, [], []), (1, .invokespecial 3, [1003, 0, 0], []), (4, .aload_n 0, [], []), (5, .iload_n 1, [], []), (6, .putfield 9, [0, 0, 1, 2, 3, 6, 8, 10], []), (9, .aload_n 0, [], []), (10, .iload_n 2, [], []), (11, .putfield 15, [0, 1, 1, 2, 3, 6, 8, 10], []), (14, .return_, [], [])]
/-- 29: OneTurned$Heap.kind()I -/
def k_29 : List MIns := [(0, .iconst 0, [], [.int 0]), (1, .ireturn, [0], [])]
/-- 30: OneTurned$Heap.hasInside(II)Z -/
def k_30 : List MIns := [(0, .aload_n 0, [], []), (1, .getfield 9, [0, 0, 1, 2, 3, 6, 8, 10], []), (4, .iload_n 1, [], []), (5, .invokestatic 18, [137, 2, 1], []), (8, .ireturn, [1], [])]
/-- 31: OneTurned$Heap.signAt(I)I -/
def k_31 : List MIns := [(0, .iload_n 1, [], []), (1, .aload_n 0, [], []), (2, .getfield 22, [0, 2, 1, 2, 3, 6, 8, 10], []), (5, .iand, [], []), (6, .invokestatic 25, [260, 1, 1], []), (9, .iconst 1, [], [.int 1]), (10, .iand, [], []), (11, .ireturn, [0], [])]
/-- 32: OneTurned$Heap.lieAmong(II)V -/
def k_32 : List MIns := [(0, .aload_n 0, [], []), (1, .iconst 0, [], [.int 0]), (2, .putfield 22, [0, 2, 1, 2, 3, 6, 8, 10], []), (5, .iconst 0, [], [.int 0]), (6, .istore_n 3, [], []), (7, .iload_n 3, [], []), (8, .iload_n 1, [], []), (9, .if_icmp .ge 35, [44], []), (12, .aload_n 0, [], []), (13, .dup, [], []), (14, .getfield 22, [0, 2, 1, 2, 3, 6, 8, 10], []), (17, .aload_n 0, [], []), (18, .iload_n 3, [], []), (19, .iload_n 2, [], []), (20, .invokevirtual 31, [2, 1, 1, 24, 2, 27, 3, 30, 6, 43, 8, 30, 10, 81], []), (23, .ifCond .eq 10, [33], []), (26, .iload_n 3, [], []), (27, .invokestatic 34, [135, 1, 1], []), (30, .goto 4, [34], []), (33, .iconst 0, [], [.int 0]), (34, .ior, [], []), (35, .putfield 22, [0, 2, 1, 2, 3, 6, 8, 10], []), (38, .iinc 3 1, [], [.int 1]), (41, .goto (-34), [7], []), (44, .return_, [], [])]
/-- 33: OneTurned$Image.<init>()V -/
def k_33 : List MIns := [(0, .aload_n 0, [], []), (1, .invokespecial 1, [1003, 0, 0], []), (4, .aload_n 0, [], []), (5, .iconst 0, [], [.int 0]), (6, .putfield 7, [1, 0, 4], []), (9, .return_, [], [])]
/-- 34: OneTurned$Image.keep(LOneTurned$Board;I)V -/
def k_34 : List MIns := [(0, .aload_n 0, [], []), (1, .iconst 1, [], [.int 1]), (2, .putfield 7, [1, 0, 4], []), (5, .aload_n 0, [], []), (6, .aload_n 1, [], []), (7, .getfield 13, [0, 0, 0], []), (10, .putfield 19, [0, 1, 4], []), (13, .aload_n 0, [], []), (14, .aload_n 1, [], []), (15, .getfield 20, [0, 1, 0], []), (18, .putfield 23, [0, 2, 4], []), (21, .aload_n 0, [], []), (22, .aload_n 1, [], []), (23, .getfield 24, [0, 2, 0], []), (26, .putfield 27, [0, 3, 4], []), (29, .aload_n 0, [], []), (30, .aload_n 1, [], []), (31, .getfield 28, [0, 3, 0], []), (34, .putfield 31, [0, 4, 4], []), (37, .aload_n 0, [], []), (38, .iload_n 2, [], []), (39, .putfield 32, [0, 5, 4], []), (42, .return_, [], [])]
/-- 35: OneTurned$Law.<init>([III)V -/
def k_35 : List MIns := [(0, .aload_n 0, [], []), (1, .invokespecial 3, [1003, 0, 0], []), (4, .aload_n 0, [], []), (5, .aload_n 1, [], []), (6, .putfield 9, [2, 0, 5], []), (9, .aload_n 0, [], []), (10, .iload_n 2, [], []), (11, .putfield 15, [0, 1, 5], []), (14, .aload_n 0, [], []), (15, .iload_n 3, [], []), (16, .putfield 19, [0, 2, 5], []), (19, .return_, [], [])]
/-- 36: OneTurned$Law.says(I[I[I)I -/
def k_36 : List MIns := [(0, .iload_n 1, [], []), (1, .ifCond .ne 7, [8], []), (4, .iconst 0, [], [.int 0]), (5, .goto 19, [24], []), (8, .iload_n 1, [], []), (9, .iconst 1, [], [.int 1]), (10, .if_icmp .ne 10, [20], []), (13, .aload_n 0, [], []), (14, .getfield 15, [0, 1, 5], []), (17, .goto 7, [24], []), (20, .aload_n 0, [], []), (21, .getfield 19, [0, 2, 5], []), (24, .istore 4, [], []), (26, .iload_n 1, [], []), (27, .ifCond .ne 10, [37], []), (30, .aload_n 0, [], []), (31, .getfield 15, [0, 1, 5], []), (34, .goto 20, [54], []), (37, .iload_n 1, [], []), (38, .iconst 1, [], [.int 1]), (39, .if_icmp .ne 10, [49], []), (42, .aload_n 0, [], []), (43, .getfield 19, [0, 2, 5], []), (46, .goto 8, [54], []), (49, .aload_n 0, [], []), (50, .getfield 9, [2, 0, 5], []), (53, .arraylength, [], []), (54, .istore 5, [], []), (56, .iconst 0, [], [.int 0]), (57, .istore 6, [], []), (59, .iconst 0, [], [.int 0]), (60, .iload 4, [], []), (62, .invokestatic 22, [1000, 2, 1], []), (65, .istore 7, [], []), (67, .iload 7, [], []), (69, .iload 5, [], []), (71, .if_icmp .ge 35, [106], []), (74, .iload 7, [], []), (76, .aload_n 0, [], []), (77, .getfield 9, [2, 0, 5], []), (80, .arraylength, [], []), (81, .if_icmp .ge 25, [106], []), (84, .aload_n 0, [], []), (85, .getfield 9, [2, 0, 5], []), (88, .iload 7, [], []), (90, .iaload, [], []), (91, .aload_n 2, [], []), (92, .aload_n 3, [], []), (93, .iload 6, [], []), (95, .invokestatic 28, [37, 4, 1], []), (98, .istore 6, [], []), (100, .iinc 7 1, [], [.int 1]), (103, .goto (-36), [67], []), (106, .iload 6, [], []), (108, .ifCond .le 19, [127], []), (111, .iload 6, [], []), (113, .aload_n 3, [], []), (114, .arraylength, [], []), (115, .if_icmp .gt 12, [127], []), (118, .aload_n 3, [], []), (119, .iload 6, [], []), (121, .iconst 1, [], [.int 1]), (122, .isub, [], []), (123, .iaload, [], []), (124, .goto 4, [128], []), (127, .iconst 0, [], [.int 0]), (128, .ireturn, [0], [])]
/-- 37: OneTurned$Law.reckon(I[I[II)I -/
def k_37 : List MIns := [(0, .iload_n 0, [], []), (1, .bipush 6, [], [.int 6]), (3, .isub, [], []), (4, .istore 4, [], []), (6, .iload_n 0, [], []), (7, .sipush 1000, [], [.int 1000]), (10, .if_icmp .lt 14, [24], []), (13, .iload_n 0, [], []), (14, .sipush 1000, [], [.int 1000]), (17, .isub, [], []), (18, .aload_n 2, [], []), (19, .iload_n 3, [], []), (20, .invokestatic 34, [38, 3, 1], []), (23, .ireturn, [0], []), (24, .iload 4, [], []), (26, .ifCond .lt 20, [46], []), (29, .iload 4, [], []), (31, .aload_n 1, [], []), (32, .arraylength, [], []), (33, .if_icmp .ge 13, [46], []), (36, .aload_n 1, [], []), (37, .iload 4, [], []), (39, .iaload, [], []), (40, .aload_n 2, [], []), (41, .iload_n 3, [], []), (42, .invokestatic 34, [38, 3, 1], []), (45, .ireturn, [0], []), (46, .iload_n 3, [], []), (47, .iconst 1, [], [.int 1]), (48, .if_icmp .lt 9, [57], []), (51, .iload_n 3, [], []), (52, .aload_n 2, [], []), (53, .arraylength, [], []), (54, .if_icmp .le 5, [59], []), (57, .iload_n 3, [], []), (58, .ireturn, [0], []), (59, .aload_n 2, [], []), (60, .iload_n 3, [], []), (61, .iconst 1, [], [.int 1]), (62, .isub, [], []), (63, .iaload, [], []), (64, .istore 5, [], []), (66, .iload_n 0, [], []), (67, .iconst 5, [], [.int 5]), (68, .if_icmp .eq 9, [77], []), (71, .iload_n 0, [], []), (72, .bipush 12, [], [.int 12]), (74, .if_icmp .ne 35, [109], []), (77, .iload_n 0, [], []), (78, .iconst 5, [], [.int 5]), (79, .if_icmp .ne 19, [98], []), (82, .iload 5, [], []), (84, .ifCond .ne 7, [91], []), (87, .iconst 1, [], [.int 1]), (88, .goto 4, [92], []), (91, .iconst 0, [], [.int 0]), (92, .invokestatic 38, [40, 1, 1], []), (95, .goto 6, [101], []), (98, .iload 5, [], []), (100, .ineg, [], []), (101, .aload_n 2, [], []), (102, .iload_n 3, [], []), (103, .iconst 1, [], [.int 1]), (104, .isub, [], []), (105, .invokestatic 34, [38, 3, 1], []), (108, .ireturn, [0], []), (109, .iload_n 3, [], []), (110, .iconst 2, [], [.int 2]), (111, .if_icmp .ge 7, [118], []), (114, .iconst 0, [], [.int 0]), (115, .goto 8, [123], []), (118, .aload_n 2, [], []), (119, .iload_n 3, [], []), (120, .iconst 2, [], [.int 2]), (121, .isub, [], []), (122, .iaload, [], []), (123, .istore 6, [], []), (125, .iload_n 0, [], []), (126, .iload 6, [], []), (128, .iload 5, [], []), (130, .invokestatic 42, [39, 3, 1], []), (133, .aload_n 2, [], []), (134, .iload_n 3, [], []), (135, .iconst 2, [], [.int 2]), (136, .isub, [], []), (137, .invokestatic 34, [38, 3, 1], []), (140, .ireturn, [0], [])]
/-- 38: OneTurned$Law.push(I[II)I -/
def k_38 : List MIns := [(0, .iload_n 2, [], []), (1, .ifCond .lt 9, [10], []), (4, .iload_n 2, [], []), (5, .aload_n 1, [], []), (6, .arraylength, [], []), (7, .if_icmp .lt 5, [12], []), (10, .iload_n 2, [], []), (11, .ireturn, [0], []), (12, .aload_n 1, [], []), (13, .iload_n 2, [], []), (14, .iload_n 0, [], []), (15, .iastore, [], []), (16, .iload_n 2, [], []), (17, .iconst 1, [], [.int 1]), (18, .iadd, [], []), (19, .ireturn, [0], [])]
/-- 39: OneTurned$Law.joined(III)I -/
def k_39 : List MIns := [(0, .iload_n 0, [], []), (1, .lookupswitch 129 #[(3, 59), (4, 76), (43, 121), (45, 125), (60, 93), (61, 107)], [130, 60, 77, 122, 126, 94, 108], [.int 3, .int 4, .int 43, .int 45, .int 60, .int 61]), (60, .iload_n 1, [], []), (61, .ifCond .ne 7, [68], []), (64, .iload_n 2, [], []), (65, .ifCond .eq 7, [72], []), (68, .iconst 1, [], [.int 1]), (69, .goto 4, [73], []), (72, .iconst 0, [], [.int 0]), (73, .invokestatic 38, [40, 1, 1], []), (76, .ireturn, [0], []), (77, .iload_n 1, [], []), (78, .ifCond .eq 11, [89], []), (81, .iload_n 2, [], []), (82, .ifCond .eq 7, [89], []), (85, .iconst 1, [], [.int 1]), (86, .goto 4, [90], []), (89, .iconst 0, [], [.int 0]), (90, .invokestatic 38, [40, 1, 1], []), (93, .ireturn, [0], []), (94, .iload_n 1, [], []), (95, .iload_n 2, [], []), (96, .if_icmp .ge 7, [103], []), (99, .iconst 1, [], [.int 1]), (100, .goto 4, [104], []), (103, .iconst 0, [], [.int 0]), (104, .invokestatic 38, [40, 1, 1], []), (107, .ireturn, [0], []), (108, .iload_n 1, [], []), (109, .iload_n 2, [], []), (110, .if_icmp .ne 7, [117], []), (113, .iconst 1, [], [.int 1]), (114, .goto 4, [118], []), (117, .iconst 0, [], [.int 0]), (118, .invokestatic 38, [40, 1, 1], []), (121, .ireturn, [0], []), (122, .iload_n 1, [], []), (123, .iload_n 2, [], []), (124, .iadd, [], []), (125, .ireturn, [0], []), (126, .iload_n 1, [], []), (127, .iload_n 2, [], []), (128, .isub, [], []), (129, .ireturn, [0], []), (130, .iload_n 1, [], []), (131, .iload_n 2, [], []), (132, .imul, [], []), (133, .ireturn, [0], [])]
/-- 40: OneTurned$Law.asNumber(Z)I -/
def k_40 : List MIns := [(0, .iload_n 0, [], []), (1, .ifCond .eq 7, [8], []), (4, .iconst 1, [], [.int 1]), (5, .goto 4, [9], []), (8, .iconst 0, [], [.int 0]), (9, .ireturn, [0], [])]
/-- 41: OneTurned$Row.<init>(II)V -/
def k_41 : List MIns := [(0, .aload_n 0, [], []), (1, .iload_n 1, [], []), (2, .iload_n 2, [], []), (3, .invokespecial 3, [28, 2, 0], []), (6, .return_, [], [])]
/-- 42: OneTurned$Row.kind()I -/
def k_42 : List MIns := [(0, .iconst 1, [], [.int 1]), (1, .ireturn, [0], [])]
/-- 43: OneTurned$Row.hasInside(II)Z -/
def k_43 : List MIns := [(0, .iload_n 1, [], []), (1, .iload_n 2, [], []), (2, .invokestatic 9, [1, 2, 1], []), (5, .aload_n 0, [], []), (6, .getfield 15, [0, 1, 1, 6], []), (9, .if_icmp .ne 7, [16], []), (12, .iconst 1, [], [.int 1]), (13, .goto 4, [17], []), (16, .iconst 0, [], [.int 0]), (17, .ireturn, [1], [])]
/-- 44: OneTurned$Sheet.<init>()V -/
def k_44 : List MIns := [(0, .aload_n 0, [], []), (1, .invokespecial 3, [1003, 0, 0], []), (4, .aload_n 0, [], []), (5, .iconst (-1), [], [.int (-1)]), (6, .putfield 9, [0, 0, 7], []), (9, .aload_n 0, [], []), (10, .iconst 0, [], [.int 0]), (11, .putfield 15, [0, 1, 7], []), (14, .aload_n 0, [], []), (15, .bipush 40, [], [.int 40]), (17, .newarray .int, [], []), (19, .putfield 18, [2, 2, 7], []), (22, .return_, [], [])]
/-- 45: OneTurned$Sheet.isMissing()Z -/
def k_45 : List MIns := [(0, .aload_n 0, [], []), (1, .getfield 9, [0, 0, 7], []), (4, .iconst (-1), [], [.int (-1)]), (5, .if_icmp .ne 7, [12], []), (8, .iconst 1, [], [.int 1]), (9, .goto 4, [13], []), (12, .iconst 0, [], [.int 0]), (13, .ireturn, [1], [])]
/-- 46: OneTurned$Sheet.become(II)V -/
def k_46 : List MIns := [(0, .aload_n 0, [], []), (1, .iload_n 1, [], []), (2, .putfield 9, [0, 0, 7], []), (5, .aload_n 0, [], []), (6, .iconst 0, [], [.int 0]), (7, .iload_n 2, [], []), (8, .aload_n 0, [], []), (9, .getfield 18, [2, 2, 7], []), (12, .arraylength, [], []), (13, .invokestatic 22, [1001, 2, 1], []), (16, .invokestatic 28, [1000, 2, 1], []), (19, .putfield 15, [0, 1, 7], []), (22, .aload_n 0, [], []), (23, .getfield 18, [2, 2, 7], []), (26, .iconst 0, [], [.int 0]), (27, .invokestatic 31, [261, 2, 0], []), (30, .return_, [], [])]
/-- 47: OneTurned$Sheet.hasStretch(II)Z -/
def k_47 : List MIns := [(0, .iload_n 1, [], []), (1, .ifCond .lt 29, [30], []), (4, .iload_n 2, [], []), (5, .ifCond .lt 25, [30], []), (8, .iload_n 2, [], []), (9, .aload_n 0, [], []), (10, .getfield 15, [0, 1, 7], []), (13, .if_icmp .gt 17, [30], []), (16, .iload_n 1, [], []), (17, .aload_n 0, [], []), (18, .getfield 15, [0, 1, 7], []), (21, .iload_n 2, [], []), (22, .isub, [], []), (23, .if_icmp .gt 7, [30], []), (26, .iconst 1, [], [.int 1]), (27, .goto 4, [31], []), (30, .iconst 0, [], [.int 0]), (31, .ireturn, [1], [])]
/-- 48: OneTurned$Sheet.get(I)I -/
def k_48 : List MIns := [(0, .iload_n 1, [], []), (1, .ifCond .lt 29, [30], []), (4, .iload_n 1, [], []), (5, .aload_n 0, [], []), (6, .getfield 15, [0, 1, 7], []), (9, .if_icmp .ge 21, [30], []), (12, .iload_n 1, [], []), (13, .aload_n 0, [], []), (14, .getfield 18, [2, 2, 7], []), (17, .arraylength, [], []), (18, .if_icmp .ge 12, [30], []), (21, .aload_n 0, [], []), (22, .getfield 18, [2, 2, 7], []), (25, .iload_n 1, [], []), (26, .iaload, [], []), (27, .goto 4, [31], []), (30, .iconst 0, [], [.int 0]), (31, .ireturn, [0], [])]
/-- 49: OneTurned$Sheet.set(II)V -/
def k_49 : List MIns := [(0, .iload_n 1, [], []), (1, .ifCond .lt 52, [53], []), (4, .iload_n 1, [], []), (5, .aload_n 0, [], []), (6, .getfield 15, [0, 1, 7], []), (9, .if_icmp .ge 44, [53], []), (12, .iload_n 1, [], []), (13, .aload_n 0, [], []), (14, .getfield 18, [2, 2, 7], []), (17, .arraylength, [], []), (18, .if_icmp .ge 35, [53], []), (21, .aload_n 0, [], []), (22, .getfield 18, [2, 2, 7], []), (25, .iload_n 1, [], []), (26, .aload_n 0, [], []), (27, .getfield 9, [0, 0, 7], []), (30, .ifCond .ne 8, [38], []), (33, .iload_n 2, [], []), (34, .i2b, [], []), (35, .goto 17, [52], []), (38, .aload_n 0, [], []), (39, .getfield 9, [0, 0, 7], []), (42, .iconst 1, [], [.int 1]), (43, .if_icmp .ne 8, [51], []), (46, .iload_n 2, [], []), (47, .i2s, [], []), (48, .goto 4, [52], []), (51, .iload_n 2, [], []), (52, .iastore, [], []), (53, .return_, [], [])]
/-- 50: OneTurned$Sum.<init>(II)V -/
def k_50 : List MIns := [(0, .aload_n 0, [], []), (1, .iload_n 1, [], []), (2, .iload_n 2, [], []), (3, .invokespecial 3, [28, 2, 0], []), (6, .return_, [], [])]
/-- 51: OneTurned$Sum.kind()I -/
def k_51 : List MIns := [(0, .iconst 4, [], [.int 4]), (1, .ireturn, [0], [])]
/-- 52: OneTurned$Sum.signAt(I)I -/
def k_52 : List MIns := [(0, .iload_n 1, [], []), (1, .aload_n 0, [], []), (2, .getfield 9, [0, 2, 8], []), (5, .iand, [], []), (6, .istore_n 2, [], []), (7, .iconst 0, [], [.int 0]), (8, .istore_n 3, [], []), (9, .iconst 0, [], [.int 0]), (10, .istore 4, [], []), (12, .iload 4, [], []), (14, .bipush 12, [], [.int 12]), (16, .if_icmp .ge 23, [39], []), (19, .iload_n 3, [], []), (20, .iload_n 2, [], []), (21, .iload 4, [], []), (23, .ishr, [], []), (24, .iconst 1, [], [.int 1]), (25, .iand, [], []), (26, .iload 4, [], []), (28, .iconst 1, [], [.int 1]), (29, .iadd, [], []), (30, .imul, [], []), (31, .iadd, [], []), (32, .istore_n 3, [], []), (33, .iinc 4 1, [], [.int 1]), (36, .goto (-24), [12], []), (39, .aload_n 0, [], []), (40, .getfield 15, [0, 1, 8], []), (43, .iconst 2, [], [.int 2]), (44, .iadd, [], []), (45, .istore 4, [], []), (47, .iload 4, [], []), (49, .ifCond .le 10, [59], []), (52, .iload_n 3, [], []), (53, .iload 4, [], []), (55, .irem, [], []), (56, .goto 4, [60], []), (59, .iconst 0, [], [.int 0]), (60, .ireturn, [0], [])]
/-- 53: OneTurned$Tape.<init>()V -/
def k_53 : List MIns := [(0, .aload_n 0, [], []), (1, .invokespecial 3, [1003, 0, 0], []), (4, .aload_n 0, [], []), (5, .iconst 0, [], [.int 0]), (6, .putfield 9, [0, 0, 9], []), (9, .aload_n 0, [], []), (10, .sipush 160, [], [.int 160]), (13, .newarray .int, [], []), (15, .putfield 15, [2, 1, 9], []), (18, .aload_n 0, [], []), (19, .sipush 161, [], [.int 161]), (22, .newarray .int, [], []), (24, .putfield 19, [2, 2, 9], []), (27, .aload_n 0, [], []), (28, .sipush 161, [], [.int 161]), (31, .newarray .int, [], []), (33, .putfield 22, [2, 3, 9], []), (36, .aload_n 0, [], []), (37, .sipush 160, [], [.int 160]), (40, .newarray .int, [], []), (42, .putfield 25, [2, 4, 9], []), (45, .aload_n 0, [], []), (46, .iconst 0, [], [.int 0]), (47, .putfield 28, [0, 5, 9], []), (50, .aload_n 0, [], []), (51, .iconst 0, [], [.int 0]), (52, .putfield 31, [0, 6, 9], []), (55, .aload_n 0, [], []), (56, .iconst 0, [], [.int 0]), (57, .putfield 34, [0, 7, 9], []), (60, .return_, [], [])]
/-- 54: OneTurned$Tape.put(I)V -/
def k_54 : List MIns := [(0, .aload_n 0, [], []), (1, .getfield 9, [0, 0, 9], []), (4, .iconst 0, [], [.int 0]), (5, .aload_n 0, [], []), (6, .getfield 15, [2, 1, 9], []), (9, .arraylength, [], []), (10, .iconst 1, [], [.int 1]), (11, .isub, [], []), (12, .invokestatic 37, [133, 3, 1], []), (15, .ifCond .eq 23, [38], []), (18, .aload_n 0, [], []), (19, .getfield 15, [2, 1, 9], []), (22, .aload_n 0, [], []), (23, .getfield 9, [0, 0, 9], []), (26, .iload_n 1, [], []), (27, .iastore, [], []), (28, .aload_n 0, [], []), (29, .dup, [], []), (30, .getfield 9, [0, 0, 9], []), (33, .iconst 1, [], [.int 1]), (34, .iadd, [], []), (35, .putfield 9, [0, 0, 9], []), (38, .return_, [], [])]
/-- 55: OneTurned$Tape.clear()V -/
def k_55 : List MIns := [(0, .aload_n 0, [], []), (1, .iconst 0, [], [.int 0]), (2, .putfield 9, [0, 0, 9], []), (5, .return_, [], [])]
/-- 56: OneTurned$Tape.fault()I -/
def k_56 : List MIns := [(0, .aload_n 0, [], []), (1, .getfield 31, [0, 6, 9], []), (4, .iconst 0, [], [.int 0]), (5, .aload_n 0, [], []), (6, .getfield 22, [2, 3, 9], []), (9, .arraylength, [], []), (10, .iconst 1, [], [.int 1]), (11, .isub, [], []), (12, .invokestatic 37, [133, 3, 1], []), (15, .ifCond .eq 15, [30], []), (18, .aload_n 0, [], []), (19, .getfield 22, [2, 3, 9], []), (22, .aload_n 0, [], []), (23, .getfield 31, [0, 6, 9], []), (26, .iaload, [], []), (27, .goto 4, [31], []), (30, .iconst 0, [], [.int 0]), (31, .ireturn, [0], [])]
/-- 57: OneTurned$Tape.read()LOneTurned$Law; -/
def k_57 : List MIns := [(0, .aload_n 0, [], []), (1, .invokevirtual 41, [0, 0, 9, 69], []), (4, .aload_n 0, [], []), (5, .iconst 0, [], [.int 0]), (6, .putfield 31, [0, 6, 9], []), (9, .aload_n 0, [], []), (10, .iconst 0, [], [.int 0]), (11, .putfield 34, [0, 7, 9], []), (14, .aload_n 0, [], []), (15, .iconst 0, [], [.int 0]), (16, .invokevirtual 44, [1, 1, 9, 59], []), (19, .ifCond .ne 5, [24], []), (22, .aconst_null, [], []), (23, .areturn, [], []), (24, .aload_n 0, [], []), (25, .getfield 34, [0, 7, 9], []), (28, .istore_n 1, [], []), (29, .aload_n 0, [], []), (30, .iconst 1, [], [.int 1]), (31, .invokevirtual 44, [1, 1, 9, 59], []), (34, .ifCond .ne 5, [39], []), (37, .aconst_null, [], []), (38, .areturn, [], []), (39, .aload_n 0, [], []), (40, .getfield 34, [0, 7, 9], []), (43, .istore_n 2, [], []), (44, .aload_n 0, [], []), (45, .iconst 2, [], [.int 2]), (46, .invokevirtual 44, [1, 1, 9, 59], []), (49, .ifCond .eq 18, [67], []), (52, .aload_n 0, [], []), (53, .invokevirtual 48, [0, 1, 9, 58], []), (56, .iconst (-1), [], [.int (-1)]), (57, .if_icmp .ne 10, [67], []), (60, .aload_n 0, [], []), (61, .getfield 34, [0, 7, 9], []), (64, .ifCond .ge 5, [69], []), (67, .aconst_null, [], []), (68, .areturn, [], []), (69, .new 52, [5], [.null, .int 0, .int 0]), (72, .dup, [], []), (73, .aload_n 0, [], []), (74, .getfield 25, [2, 4, 9], []), (77, .aload_n 0, [], []), (78, .getfield 34, [0, 7, 9], []), (81, .invokestatic 54, [262, 2, 2], []), (84, .iload_n 1, [], []), (85, .iload_n 2, [], []), (86, .invokespecial 60, [35, 3, 0], []), (89, .areturn, [], [])]
/-- 58: OneTurned$Tape.token()I -/
def k_58 : List MIns := [(0, .aload_n 0, [], []), (1, .getfield 31, [0, 6, 9], []), (4, .iconst 0, [], [.int 0]), (5, .aload_n 0, [], []), (6, .getfield 19, [2, 2, 9], []), (9, .arraylength, [], []), (10, .iconst 1, [], [.int 1]), (11, .isub, [], []), (12, .invokestatic 37, [133, 3, 1], []), (15, .ifCond .eq 15, [30], []), (18, .aload_n 0, [], []), (19, .getfield 19, [2, 2, 9], []), (22, .aload_n 0, [], []), (23, .getfield 31, [0, 6, 9], []), (26, .iaload, [], []), (27, .goto 4, [31], []), (30, .iconst (-1), [], [.int (-1)]), (31, .ireturn, [0], [])]
/-- 59: OneTurned$Tape.readPart(I)Z -/
def k_59 : List MIns := [(0, .aload_n 0, [], []), (1, .iload_n 1, [], []), (2, .invokevirtual 63, [1, 1, 9, 60], []), (5, .ifCond .eq 25, [30], []), (8, .aload_n 0, [], []), (9, .iconst 0, [], [.int 0]), (10, .iconst 0, [], [.int 0]), (11, .invokevirtual 66, [2, 1, 9, 61], []), (14, .ifCond .eq 16, [30], []), (17, .aload_n 0, [], []), (18, .bipush 59, [], [.int 59]), (20, .invokevirtual 63, [1, 1, 9, 60], []), (23, .ifCond .eq 7, [30], []), (26, .iconst 1, [], [.int 1]), (27, .goto 4, [31], []), (30, .iconst 0, [], [.int 0]), (31, .ireturn, [1], [])]
/-- 60: OneTurned$Tape.readToken(I)Z -/
def k_60 : List MIns := [(0, .aload_n 0, [], []), (1, .invokevirtual 48, [0, 1, 9, 58], []), (4, .iload_n 1, [], []), (5, .if_icmp .eq 5, [10], []), (8, .iconst 0, [], [.int 0]), (9, .ireturn, [1], []), (10, .aload_n 0, [], []), (11, .dup, [], []), (12, .getfield 31, [0, 6, 9], []), (15, .iconst 1, [], [.int 1]), (16, .iadd, [], []), (17, .putfield 31, [0, 6, 9], []), (20, .iconst 1, [], [.int 1]), (21, .ireturn, [1], [])]
/-- 61: OneTurned$Tape.readJoined(II)Z -/
def k_61 : List MIns := [(0, .aload_n 0, [], []), (1, .iload_n 1, [], []), (2, .iload_n 2, [], []), (3, .invokevirtual 70, [2, 1, 9, 63], []), (6, .ifCond .ne 5, [11], []), (9, .iconst 0, [], [.int 0]), (10, .ireturn, [1], []), (11, .iconst 0, [], [.int 0]), (12, .istore_n 3, [], []), (13, .iload_n 3, [], []), (14, .sipush 160, [], [.int 160]), (17, .if_icmp .ge 50, [67], []), (20, .aload_n 0, [], []), (21, .iload_n 1, [], []), (22, .invokevirtual 73, [1, 1, 9, 62], []), (25, .ifCond .eq 42, [67], []), (28, .aload_n 0, [], []), (29, .invokevirtual 48, [0, 1, 9, 58], []), (32, .istore 4, [], []), (34, .aload_n 0, [], []), (35, .dup, [], []), (36, .getfield 31, [0, 6, 9], []), (39, .iconst 1, [], [.int 1]), (40, .iadd, [], []), (41, .putfield 31, [0, 6, 9], []), (44, .aload_n 0, [], []), (45, .iload_n 1, [], []), (46, .iload_n 2, [], []), (47, .invokevirtual 70, [2, 1, 9, 63], []), (50, .ifCond .ne 5, [55], []), (53, .iconst 0, [], [.int 0]), (54, .ireturn, [1], []), (55, .aload_n 0, [], []), (56, .iload 4, [], []), (58, .invokevirtual 76, [1, 0, 9, 68], []), (61, .iinc 3 1, [], [.int 1]), (64, .goto (-51), [13], []), (67, .iconst 1, [], [.int 1]), (68, .ireturn, [1], [])]
/-- 62: OneTurned$Tape.joinsAt(I)Z -/
def k_62 : List MIns := [(0, .aload_n 0, [], []), (1, .invokevirtual 48, [0, 1, 9, 58], []), (4, .istore_n 2, [], []), (5, .iload_n 1, [], []), (6, .tableswitch 66 0 2 #[26, 37, 48], [72, 32, 43, 54], [.int 0, .int 1, .int 2]), (32, .iload_n 2, [], []), (33, .iconst 3, [], [.int 3]), (34, .if_icmp .ne 7, [41], []), (37, .iconst 1, [], [.int 1]), (38, .goto 4, [42], []), (41, .iconst 0, [], [.int 0]), (42, .ireturn, [1], []), (43, .iload_n 2, [], []), (44, .iconst 4, [], [.int 4]), (45, .if_icmp .ne 7, [52], []), (48, .iconst 1, [], [.int 1]), (49, .goto 4, [53], []), (52, .iconst 0, [], [.int 0]), (53, .ireturn, [1], []), (54, .iload_n 2, [], []), (55, .bipush 43, [], [.int 43]), (57, .if_icmp .eq 9, [66], []), (60, .iload_n 2, [], []), (61, .bipush 45, [], [.int 45]), (63, .if_icmp .ne 7, [70], []), (66, .iconst 1, [], [.int 1]), (67, .goto 4, [71], []), (70, .iconst 0, [], [.int 0]), (71, .ireturn, [1], []), (72, .iload_n 2, [], []), (73, .bipush 42, [], [.int 42]), (75, .if_icmp .ne 7, [82], []), (78, .iconst 1, [], [.int 1]), (79, .goto 4, [83], []), (82, .iconst 0, [], [.int 0]), (83, .ireturn, [1], [])]
/-- 63: OneTurned$Tape.readOperand(II)Z -/
def k_63 : List MIns := [(0, .iload_n 1, [], []), (1, .tableswitch 63 0 2 #[27, 34, 56], [64, 28, 35, 57], [.int 0, .int 1, .int 2]), (28, .aload_n 0, [], []), (29, .iconst 1, [], [.int 1]), (30, .iload_n 2, [], []), (31, .invokevirtual 66, [2, 1, 9, 61], []), (34, .ireturn, [1], []), (35, .aload_n 0, [], []), (36, .invokevirtual 48, [0, 1, 9, 58], []), (39, .iconst 5, [], [.int 5]), (40, .if_icmp .ne 11, [51], []), (43, .aload_n 0, [], []), (44, .iload_n 2, [], []), (45, .invokevirtual 80, [1, 1, 9, 64], []), (48, .goto 8, [56], []), (51, .aload_n 0, [], []), (52, .iload_n 2, [], []), (53, .invokevirtual 83, [1, 1, 9, 65], []), (56, .ireturn, [1], []), (57, .aload_n 0, [], []), (58, .iconst 3, [], [.int 3]), (59, .iload_n 2, [], []), (60, .invokevirtual 66, [2, 1, 9, 61], []), (63, .ireturn, [1], []), (64, .aload_n 0, [], []), (65, .iload_n 2, [], []), (66, .invokevirtual 86, [1, 1, 9, 66], []), (69, .ireturn, [1], [])]
/-- 64: OneTurned$Tape.readNot(I)Z -/
def k_64 : List MIns := [(0, .iload_n 1, [], []), (1, .iconst 5, [], [.int 5]), (2, .if_icmp .lt 5, [7], []), (5, .iconst 0, [], [.int 0]), (6, .ireturn, [1], []), (7, .aload_n 0, [], []), (8, .dup, [], []), (9, .getfield 31, [0, 6, 9], []), (12, .iconst 1, [], [.int 1]), (13, .iadd, [], []), (14, .putfield 31, [0, 6, 9], []), (17, .aload_n 0, [], []), (18, .iconst 1, [], [.int 1]), (19, .iload_n 1, [], []), (20, .iconst 1, [], [.int 1]), (21, .iadd, [], []), (22, .invokevirtual 70, [2, 1, 9, 63], []), (25, .ifCond .ne 5, [30], []), (28, .iconst 0, [], [.int 0]), (29, .ireturn, [1], []), (30, .aload_n 0, [], []), (31, .iconst 5, [], [.int 5]), (32, .invokevirtual 76, [1, 0, 9, 68], []), (35, .iconst 1, [], [.int 1]), (36, .ireturn, [1], [])]
/-- 65: OneTurned$Tape.readComparison(I)Z -/
def k_65 : List MIns := [(0, .aload_n 0, [], []), (1, .iconst 2, [], [.int 2]), (2, .iload_n 1, [], []), (3, .invokevirtual 66, [2, 1, 9, 61], []), (6, .ifCond .ne 5, [11], []), (9, .iconst 0, [], [.int 0]), (10, .ireturn, [1], []), (11, .aload_n 0, [], []), (12, .invokevirtual 48, [0, 1, 9, 58], []), (15, .istore_n 2, [], []), (16, .iload_n 2, [], []), (17, .bipush 60, [], [.int 60]), (19, .if_icmp .eq 11, [30], []), (22, .iload_n 2, [], []), (23, .bipush 61, [], [.int 61]), (25, .if_icmp .eq 5, [30], []), (28, .iconst 1, [], [.int 1]), (29, .ireturn, [1], []), (30, .aload_n 0, [], []), (31, .dup, [], []), (32, .getfield 31, [0, 6, 9], []), (35, .iconst 1, [], [.int 1]), (36, .iadd, [], []), (37, .putfield 31, [0, 6, 9], []), (40, .aload_n 0, [], []), (41, .iconst 2, [], [.int 2]), (42, .iload_n 1, [], []), (43, .invokevirtual 66, [2, 1, 9, 61], []), (46, .ifCond .ne 5, [51], []), (49, .iconst 0, [], [.int 0]), (50, .ireturn, [1], []), (51, .aload_n 0, [], []), (52, .iload_n 2, [], []), (53, .invokevirtual 76, [1, 0, 9, 68], []), (56, .iconst 1, [], [.int 1]), (57, .ireturn, [1], [])]
/-- 66: OneTurned$Tape.readOne(I)Z -/
def k_66 : List MIns := [(0, .aload_n 0, [], []), (1, .invokevirtual 48, [0, 1, 9, 58], []), (4, .istore_n 2, [], []), (5, .iload_n 2, [], []), (6, .sipush 1000, [], [.int 1000]), (9, .if_icmp .ge 14, [23], []), (12, .iload_n 2, [], []), (13, .bipush 6, [], [.int 6]), (15, .bipush 11, [], [.int 11]), (17, .invokestatic 37, [133, 3, 1], []), (20, .ifCond .eq 20, [40], []), (23, .aload_n 0, [], []), (24, .iload_n 2, [], []), (25, .invokevirtual 76, [1, 0, 9, 68], []), (28, .aload_n 0, [], []), (29, .dup, [], []), (30, .getfield 31, [0, 6, 9], []), (33, .iconst 1, [], [.int 1]), (34, .iadd, [], []), (35, .putfield 31, [0, 6, 9], []), (38, .iconst 1, [], [.int 1]), (39, .ireturn, [1], []), (40, .iload_n 2, [], []), (41, .bipush 45, [], [.int 45]), (43, .if_icmp .eq 9, [52], []), (46, .iload_n 2, [], []), (47, .bipush 40, [], [.int 40]), (49, .if_icmp .ne 8, [57], []), (52, .iload_n 1, [], []), (53, .iconst 5, [], [.int 5]), (54, .if_icmp .lt 5, [59], []), (57, .iconst 0, [], [.int 0]), (58, .ireturn, [1], []), (59, .aload_n 0, [], []), (60, .dup, [], []), (61, .getfield 31, [0, 6, 9], []), (64, .iconst 1, [], [.int 1]), (65, .iadd, [], []), (66, .putfield 31, [0, 6, 9], []), (69, .iload_n 2, [], []), (70, .bipush 45, [], [.int 45]), (72, .if_icmp .ne 11, [83], []), (75, .aload_n 0, [], []), (76, .iload_n 1, [], []), (77, .iconst 1, [], [.int 1]), (78, .iadd, [], []), (79, .invokevirtual 89, [1, 1, 9, 67], []), (82, .ireturn, [1], []), (83, .aload_n 0, [], []), (84, .iconst 0, [], [.int 0]), (85, .iload_n 1, [], []), (86, .iconst 1, [], [.int 1]), (87, .iadd, [], []), (88, .invokevirtual 66, [2, 1, 9, 61], []), (91, .ifCond .eq 16, [107], []), (94, .aload_n 0, [], []), (95, .bipush 41, [], [.int 41]), (97, .invokevirtual 63, [1, 1, 9, 60], []), (100, .ifCond .eq 7, [107], []), (103, .iconst 1, [], [.int 1]), (104, .goto 4, [108], []), (107, .iconst 0, [], [.int 0]), (108, .ireturn, [1], [])]
/-- 67: OneTurned$Tape.readNegative(I)Z -/
def k_67 : List MIns := [(0, .aload_n 0, [], []), (1, .iload_n 1, [], []), (2, .invokevirtual 86, [1, 1, 9, 66], []), (5, .ifCond .ne 5, [10], []), (8, .iconst 0, [], [.int 0]), (9, .ireturn, [1], []), (10, .aload_n 0, [], []), (11, .bipush 12, [], [.int 12]), (13, .invokevirtual 76, [1, 0, 9, 68], []), (16, .iconst 1, [], [.int 1]), (17, .ireturn, [1], [])]
/-- 68: OneTurned$Tape.putItem(I)V -/
def k_68 : List MIns := [(0, .aload_n 0, [], []), (1, .getfield 34, [0, 7, 9], []), (4, .iconst 0, [], [.int 0]), (5, .aload_n 0, [], []), (6, .getfield 25, [2, 4, 9], []), (9, .arraylength, [], []), (10, .iconst 1, [], [.int 1]), (11, .isub, [], []), (12, .invokestatic 37, [133, 3, 1], []), (15, .ifCond .eq 23, [38], []), (18, .aload_n 0, [], []), (19, .getfield 25, [2, 4, 9], []), (22, .aload_n 0, [], []), (23, .getfield 34, [0, 7, 9], []), (26, .iload_n 1, [], []), (27, .iastore, [], []), (28, .aload_n 0, [], []), (29, .dup, [], []), (30, .getfield 34, [0, 7, 9], []), (33, .iconst 1, [], [.int 1]), (34, .iadd, [], []), (35, .putfield 34, [0, 7, 9], []), (38, .return_, [], [])]
/-- 69: OneTurned$Tape.scan()V -/
def k_69 : List MIns := [(0, .aload_n 0, [], []), (1, .iconst 0, [], [.int 0]), (2, .putfield 28, [0, 5, 9], []), (5, .iconst 1, [], [.int 1]), (6, .istore_n 1, [], []), (7, .iconst 0, [], [.int 0]), (8, .istore_n 2, [], []), (9, .iload_n 1, [], []), (10, .ifCond .eq 78, [88], []), (13, .iload_n 2, [], []), (14, .aload_n 0, [], []), (15, .getfield 19, [2, 2, 9], []), (18, .arraylength, [], []), (19, .if_icmp .ge 69, [88], []), (22, .iload_n 2, [], []), (23, .aload_n 0, [], []), (24, .getfield 22, [2, 3, 9], []), (27, .arraylength, [], []), (28, .if_icmp .ge 60, [88], []), (31, .aload_n 0, [], []), (32, .invokevirtual 92, [0, 0, 9, 70], []), (35, .aload_n 0, [], []), (36, .getfield 22, [2, 3, 9], []), (39, .iload_n 2, [], []), (40, .aload_n 0, [], []), (41, .getfield 28, [0, 5, 9], []), (44, .iastore, [], []), (45, .aload_n 0, [], []), (46, .getfield 19, [2, 2, 9], []), (49, .iload_n 2, [], []), (50, .aload_n 0, [], []), (51, .invokevirtual 95, [0, 1, 9, 71], []), (54, .iastore, [], []), (55, .aload_n 0, [], []), (56, .getfield 19, [2, 2, 9], []), (59, .iload_n 2, [], []), (60, .iaload, [], []), (61, .iconst (-1), [], [.int (-1)]), (62, .if_icmp .eq 18, [80], []), (65, .aload_n 0, [], []), (66, .getfield 19, [2, 2, 9], []), (69, .iload_n 2, [], []), (70, .iaload, [], []), (71, .bipush (-2), [], [.int (-2)]), (73, .if_icmp .eq 7, [80], []), (76, .iconst 1, [], [.int 1]), (77, .goto 4, [81], []), (80, .iconst 0, [], [.int 0]), (81, .istore_n 1, [], []), (82, .iinc 2 1, [], [.int 1]), (85, .goto (-76), [9], []), (88, .return_, [], [])]
/-- 70: OneTurned$Tape.skipBlanks()V -/
def k_70 : List MIns := [(0, .aload_n 0, [], []), (1, .getfield 28, [0, 5, 9], []), (4, .aload_n 0, [], []), (5, .getfield 9, [0, 0, 9], []), (8, .if_icmp .ge 42, [50], []), (11, .aload_n 0, [], []), (12, .aload_n 0, [], []), (13, .getfield 28, [0, 5, 9], []), (16, .invokevirtual 98, [1, 1, 9, 75], []), (19, .bipush 32, [], [.int 32]), (21, .if_icmp .eq 16, [37], []), (24, .aload_n 0, [], []), (25, .aload_n 0, [], []), (26, .getfield 28, [0, 5, 9], []), (29, .invokevirtual 98, [1, 1, 9, 75], []), (32, .bipush 10, [], [.int 10]), (34, .if_icmp .ne 16, [50], []), (37, .aload_n 0, [], []), (38, .dup, [], []), (39, .getfield 28, [0, 5, 9], []), (42, .iconst 1, [], [.int 1]), (43, .iadd, [], []), (44, .putfield 28, [0, 5, 9], []), (47, .goto (-47), [0], []), (50, .return_, [], [])]
/-- 71: OneTurned$Tape.takeToken()I -/
def k_71 : List MIns := [(0, .aload_n 0, [], []), (1, .getfield 28, [0, 5, 9], []), (4, .istore_n 1, [], []), (5, .iload_n 1, [], []), (6, .aload_n 0, [], []), (7, .getfield 9, [0, 0, 9], []), (10, .if_icmp .lt 5, [15], []), (13, .iconst (-1), [], [.int (-1)]), (14, .ireturn, [0], []), (15, .aload_n 0, [], []), (16, .iload_n 1, [], []), (17, .invokevirtual 98, [1, 1, 9, 75], []), (20, .istore_n 2, [], []), (21, .aload_n 0, [], []), (22, .dup, [], []), (23, .getfield 28, [0, 5, 9], []), (26, .iconst 1, [], [.int 1]), (27, .iadd, [], []), (28, .putfield 28, [0, 5, 9], []), (31, .iload_n 2, [], []), (32, .invokestatic 102, [76, 1, 1], []), (35, .ifCond .eq 9, [44], []), (38, .aload_n 0, [], []), (39, .iload_n 1, [], []), (40, .invokevirtual 105, [1, 1, 9, 72], []), (43, .ireturn, [0], []), (44, .iload_n 2, [], []), (45, .invokestatic 108, [77, 1, 1], []), (48, .ifCond .eq 9, [57], []), (51, .aload_n 0, [], []), (52, .iload_n 1, [], []), (53, .invokevirtual 111, [1, 1, 9, 74], []), (56, .ireturn, [0], []), (57, .iload_n 2, [], []), (58, .invokestatic 114, [78, 1, 1], []), (61, .ifCond .eq 7, [68], []), (64, .iload_n 2, [], []), (65, .goto 5, [70], []), (68, .bipush (-2), [], [.int (-2)]), (70, .ireturn, [0], [])]
/-- 72: OneTurned$Tape.takeWord(I)I -/
def k_72 : List MIns := [(0, .aload_n 0, [], []), (1, .getfield 28, [0, 5, 9], []), (4, .aload_n 0, [], []), (5, .getfield 9, [0, 0, 9], []), (8, .if_icmp .ge 30, [38], []), (11, .aload_n 0, [], []), (12, .aload_n 0, [], []), (13, .getfield 28, [0, 5, 9], []), (16, .invokevirtual 98, [1, 1, 9, 75], []), (19, .invokestatic 102, [76, 1, 1], []), (22, .ifCond .eq 16, [38], []), (25, .aload_n 0, [], []), (26, .dup, [], []), (27, .getfield 28, [0, 5, 9], []), (30, .iconst 1, [], [.int 1]), (31, .iadd, [], []), (32, .putfield 28, [0, 5, 9], []), (35, .goto (-35), [0], []), (38, .iconst 0, [], [.int 0]), (39, .istore_n 2, [], []), (40, .iconst 0, [], [.int 0]), (41, .istore_n 3, [], []), (42, .iconst 0, [], [.int 0]), (43, .istore 4, [], []), (45, .iload 4, [], []), (47, .ldc 117, [], [.ref 2]), (49, .invokevirtual 119, [0, 1, 98, 1004], []), (52, .if_icmp .ge 55, [107], []), (55, .ldc 117, [], [.ref 2]), (57, .iload 4, [], []), (59, .invokevirtual 124, [1, 1, 98, 1005], []), (62, .bipush 32, [], [.int 32]), (64, .if_icmp .ne 37, [101], []), (67, .iload 4, [], []), (69, .iload_n 3, [], []), (70, .isub, [], []), (71, .aload_n 0, [], []), (72, .getfield 28, [0, 5, 9], []), (75, .iload_n 1, [], []), (76, .isub, [], []), (77, .if_icmp .ne 16, [93], []), (80, .aload_n 0, [], []), (81, .iload_n 1, [], []), (82, .iload_n 3, [], []), (83, .iload 4, [], []), (85, .invokevirtual 128, [3, 1, 9, 73], []), (88, .ifCond .eq 5, [93], []), (91, .iload_n 2, [], []), (92, .ireturn, [0], []), (93, .iinc 2 1, [], [.int 1]), (96, .iload 4, [], []), (98, .iconst 1, [], [.int 1]), (99, .iadd, [], []), (100, .istore_n 3, [], []), (101, .iinc 4 1, [], [.int 1]), (104, .goto (-59), [45], []), (107, .bipush (-2), [], [.int (-2)]), (109, .ireturn, [0], [])]
/-- 73: OneTurned$Tape.isSpelt(III)Z -/
def k_73 : List MIns := [(0, .iload_n 2, [], []), (1, .istore 4, [], []), (3, .iload 4, [], []), (5, .ifCond .lt 47, [52], []), (8, .iload 4, [], []), (10, .iload_n 3, [], []), (11, .if_icmp .ge 41, [52], []), (14, .iload 4, [], []), (16, .ldc 117, [], [.ref 2]), (18, .invokevirtual 119, [0, 1, 98, 1004], []), (21, .if_icmp .ge 31, [52], []), (24, .ldc 117, [], [.ref 2]), (26, .iload 4, [], []), (28, .invokevirtual 124, [1, 1, 98, 1005], []), (31, .aload_n 0, [], []), (32, .iload_n 1, [], []), (33, .iload 4, [], []), (35, .iadd, [], []), (36, .iload_n 2, [], []), (37, .isub, [], []), (38, .invokevirtual 98, [1, 1, 9, 75], []), (41, .if_icmp .eq 5, [46], []), (44, .iconst 0, [], [.int 0]), (45, .ireturn, [1], []), (46, .iinc 4 1, [], [.int 1]), (49, .goto (-46), [3], []), (52, .iconst 1, [], [.int 1]), (53, .ireturn, [1], [])]
/-- 74: OneTurned$Tape.takeNumber(I)I -/
def k_74 : List MIns := [(0, .aload_n 0, [], []), (1, .getfield 28, [0, 5, 9], []), (4, .aload_n 0, [], []), (5, .getfield 9, [0, 0, 9], []), (8, .if_icmp .ge 30, [38], []), (11, .aload_n 0, [], []), (12, .aload_n 0, [], []), (13, .getfield 28, [0, 5, 9], []), (16, .invokevirtual 98, [1, 1, 9, 75], []), (19, .invokestatic 108, [77, 1, 1], []), (22, .ifCond .eq 16, [38], []), (25, .aload_n 0, [], []), (26, .dup, [], []), (27, .getfield 28, [0, 5, 9], []), (30, .iconst 1, [], [.int 1]), (31, .iadd, [], []), (32, .putfield 28, [0, 5, 9], []), (35, .goto (-35), [0], []), (38, .aload_n 0, [], []), (39, .getfield 28, [0, 5, 9], []), (42, .iload_n 1, [], []), (43, .isub, [], []), (44, .iconst 4, [], [.int 4]), (45, .if_icmp .le 6, [51], []), (48, .bipush (-2), [], [.int (-2)]), (50, .ireturn, [0], []), (51, .iconst 0, [], [.int 0]), (52, .istore_n 2, [], []), (53, .iload_n 1, [], []), (54, .istore_n 3, [], []), (55, .iload_n 3, [], []), (56, .aload_n 0, [], []), (57, .getfield 28, [0, 5, 9], []), (60, .if_icmp .ge 23, [83], []), (63, .bipush 10, [], [.int 10]), (65, .iload_n 2, [], []), (66, .imul, [], []), (67, .aload_n 0, [], []), (68, .iload_n 3, [], []), (69, .invokevirtual 98, [1, 1, 9, 75], []), (72, .iadd, [], []), (73, .bipush 48, [], [.int 48]), (75, .isub, [], []), (76, .istore_n 2, [], []), (77, .iinc 3 1, [], [.int 1]), (80, .goto (-25), [55], []), (83, .sipush 1000, [], [.int 1000]), (86, .iload_n 2, [], []), (87, .iadd, [], []), (88, .ireturn, [0], [])]
/-- 75: OneTurned$Tape.byteAt(I)I -/
def k_75 : List MIns := [(0, .iload_n 1, [], []), (1, .ifCond .lt 29, [30], []), (4, .iload_n 1, [], []), (5, .aload_n 0, [], []), (6, .getfield 9, [0, 0, 9], []), (9, .if_icmp .ge 21, [30], []), (12, .iload_n 1, [], []), (13, .aload_n 0, [], []), (14, .getfield 15, [2, 1, 9], []), (17, .arraylength, [], []), (18, .if_icmp .ge 12, [30], []), (21, .aload_n 0, [], []), (22, .getfield 15, [2, 1, 9], []), (25, .iload_n 1, [], []), (26, .iaload, [], []), (27, .goto 4, [31], []), (30, .iconst 0, [], [.int 0]), (31, .ireturn, [0], [])]
/-- 76: OneTurned$Tape.isLetter(I)Z -/
def k_76 : List MIns := [(0, .iload_n 0, [], []), (1, .bipush 97, [], [.int 97]), (3, .if_icmp .lt 13, [16], []), (6, .iload_n 0, [], []), (7, .bipush 122, [], [.int 122]), (9, .if_icmp .gt 7, [16], []), (12, .iconst 1, [], [.int 1]), (13, .goto 4, [17], []), (16, .iconst 0, [], [.int 0]), (17, .ireturn, [1], [])]
/-- 77: OneTurned$Tape.isDigit(I)Z -/
def k_77 : List MIns := [(0, .iload_n 0, [], []), (1, .bipush 48, [], [.int 48]), (3, .if_icmp .lt 13, [16], []), (6, .iload_n 0, [], []), (7, .bipush 57, [], [.int 57]), (9, .if_icmp .gt 7, [16], []), (12, .iconst 1, [], [.int 1]), (13, .goto 4, [17], []), (16, .iconst 0, [], [.int 0]), (17, .ireturn, [1], [])]
/-- 78: OneTurned$Tape.isMark(I)Z -/
def k_78 : List MIns := [(0, .iload_n 0, [], []), (1, .tableswitch 105 40 61 #[103, 103, 103, 103, 105, 103, 105, 105, 105, 105, 105, 105, 105, 105, 105, 105, 105, 105, 105, 103, 103, 103], [106, 104, 104, 104, 104, 106, 104, 106, 106, 106, 106, 106, 106, 106, 106, 106, 106, 106, 106, 106, 104, 104, 104], [.int 40, .int 41, .int 42, .int 43, .int 44, .int 45, .int 46, .int 47, .int 48, .int 49, .int 50, .int 51, .int 52, .int 53, .int 54, .int 55, .int 56, .int 57, .int 58, .int 59, .int 60, .int 61]), (104, .iconst 1, [], [.int 1]), (105, .ireturn, [1], []), (106, .iconst 0, [], [.int 0]), (107, .ireturn, [1], [])]
/-- 79: OneTurned$Uneven.<init>(II)V -/
def k_79 : List MIns := [(0, .aload_n 0, [], []), (1, .iload_n 1, [], []), (2, .iload_n 2, [], []), (3, .invokespecial 3, [25, 2, 0], []), (6, .return_, [], [])]
/-- 80: OneTurned$Uneven.kind()I -/
def k_80 : List MIns := [(0, .iconst 5, [], [.int 5]), (1, .ireturn, [0], [])]
/-- 81: OneTurned$Uneven.hasInside(II)Z -/
def k_81 : List MIns := [(0, .aload_n 0, [], []), (1, .iload_n 1, [], []), (2, .iload_n 2, [], []), (3, .invokespecial 9, [27, 2, 1], []), (6, .aload_n 0, [], []), (7, .getfield 13, [0, 0, 10], []), (10, .iload_n 1, [], []), (11, .invokestatic 19, [137, 2, 1], []), (14, .if_icmp .eq 7, [21], []), (17, .iconst 1, [], [.int 1]), (18, .goto 4, [22], []), (21, .iconst 0, [], [.int 0]), (22, .ireturn, [1], [])]
/-- 82: OneTurned$Uneven.signAt(I)I -/
def k_82 : List MIns := [(0, .iconst 1, [], [.int 1]), (1, .aload_n 0, [], []), (2, .iload_n 1, [], []), (3, .invokespecial 22, [31, 1, 1], []), (6, .isub, [], []), (7, .ireturn, [0], [])]
/-- 83: OneTurned.<init>()V -/
def k_83 : List MIns := [(0, .aload_n 0, [], []), (1, .invokespecial 3, [1003, 0, 0], []), (4, .aload_n 0, [], []), (5, .new 9, [0], [.int 0, .int 0, .int 0, .int 0, .null]), (8, .dup, [], []), (9, .invokespecial 11, [0, 0, 0], []), (12, .putfield 12, [2, 0, 11], []), (15, .aload_n 0, [], []), (16, .new 16, [4], [.int 0, .int 0, .int 0, .int 0, .int 0, .int 0]), (19, .dup, [], []), (20, .invokespecial 18, [33, 0, 0], []), (23, .putfield 19, [2, 1, 11], []), (26, .aload_n 0, [], []), (27, .new 23, [9], [.int 0, .null, .null, .null, .null, .int 0, .int 0, .int 0]), (30, .dup, [], []), (31, .invokespecial 25, [53, 0, 0], []), (34, .putfield 26, [2, 2, 11], []), (37, .aload_n 0, [], []), (38, .bipush 6, [], [.int 6]), (40, .anewarray 30, [102], []), (43, .putfield 32, [2, 3, 11], []), (46, .aload_n 0, [], []), (47, .iconst 4, [], [.int 4]), (48, .anewarray 36, [103], []), (51, .putfield 38, [2, 6, 11], []), (54, .iconst 0, [], [.int 0]), (55, .istore_n 1, [], []), (56, .iload_n 1, [], []), (57, .aload_n 0, [], []), (58, .getfield 38, [2, 6, 11], []), (61, .arraylength, [], []), (62, .if_icmp .ge 22, [84], []), (65, .aload_n 0, [], []), (66, .getfield 38, [2, 6, 11], []), (69, .iload_n 1, [], []), (70, .new 36, [7], [.int 0, .int 0, .null]), (73, .dup, [], []), (74, .invokespecial 42, [44, 0, 0], []), (77, .aastore, [], []), (78, .iinc 1 1, [], [.int 1]), (81, .goto (-25), [56], []), (84, .aload_n 0, [], []), (85, .sipush 299, [], [.int 299]), (88, .newarray .int, [], []), (90, .putfield 43, [2, 7, 11], []), (93, .aload_n 0, [], []), (94, .bipush 33, [], [.int 33]), (96, .newarray .int, [], []), (98, .putfield 47, [2, 8, 11], []), (101, .aload_n 0, [], []), (102, .bipush 6, [], [.int 6]), (104, .newarray .int, [], []), (106, .putfield 50, [2, 9, 11], []), (109, .aload_n 0, [], []), (110, .sipush 160, [], [.int 160]), (113, .newarray .int, [], []), (115, .putfield 53, [2, 10, 11], []), (118, .iconst 0, [], [.int 0]), (119, .istore_n 1, [], []), (120, .iload_n 1, [], []), (121, .ldc 56, [], [.ref 1]), (123, .invokevirtual 58, [0, 1, 98, 1004], []), (126, .if_icmp .ge 22, [148], []), (129, .aload_n 0, [], []), (130, .getfield 26, [2, 2, 11], []), (133, .ldc 56, [], [.ref 1]), (135, .iload_n 1, [], []), (136, .invokevirtual 64, [1, 1, 98, 1005], []), (139, .invokevirtual 68, [1, 0, 9, 54], []), (142, .iinc 1 1, [], [.int 1]), (145, .goto (-25), [120], []), (148, .aload_n 0, [], []), (149, .getfield 32, [2, 3, 11], []), (152, .iconst 0, [], [.int 0]), (153, .aload_n 0, [], []), (154, .getfield 26, [2, 2, 11], []), (157, .invokevirtual 72, [0, 2, 9, 57], []), (160, .aastore, [], []), (161, .aload_n 0, [], []), (162, .getfield 26, [2, 2, 11], []), (165, .invokevirtual 76, [0, 0, 9, 55], []), (168, .aload_n 0, [], []), (169, .iconst 1, [], [.int 1]), (170, .putfield 79, [0, 4, 11], []), (173, .aload_n 0, [], []), (174, .iconst 0, [], [.int 0]), (175, .putfield 83, [0, 5, 11], []), (178, .return_, [], [])]
/-- 84: OneTurned.table(II)I -/
def k_84 : List MIns := [(0, .iload_n 1, [], []), (1, .iconst 1, [], [.int 1]), (2, .bipush 12, [], [.int 12]), (4, .invokestatic 86, [133, 3, 1], []), (7, .ifCond .eq 13, [20], []), (10, .iload_n 2, [], []), (11, .iconst 1, [], [.int 1]), (12, .bipush 12, [], [.int 12]), (14, .invokestatic 86, [133, 3, 1], []), (17, .ifCond .ne 6, [23], []), (20, .bipush (-2), [], [.int (-2)]), (22, .ireturn, [0], []), (23, .aload_n 0, [], []), (24, .getfield 12, [2, 0, 11], []), (27, .getfield 90, [0, 0, 0], []), (30, .istore_n 3, [], []), (31, .aload_n 0, [], []), (32, .getfield 12, [2, 0, 11], []), (35, .iload_n 1, [], []), (36, .iload_n 2, [], []), (37, .iconst 0, [], [.int 0]), (38, .invokevirtual 93, [3, 0, 0, 3], []), (41, .iload_n 3, [], []), (42, .ireturn, [0], [])]
/-- 85: OneTurned.turn(I)I -/
def k_85 : List MIns := [(0, .aload_n 0, [], []), (1, .getfield 12, [2, 0, 11], []), (4, .iload_n 1, [], []), (5, .invokevirtual 97, [1, 1, 0, 6], []), (8, .ifCond .ne 6, [14], []), (11, .bipush (-2), [], [.int (-2)]), (13, .ireturn, [0], []), (14, .aload_n 0, [], []), (15, .getfield 12, [2, 0, 11], []), (18, .dup, [], []), (19, .getfield 101, [0, 2, 0], []), (22, .iload_n 1, [], []), (23, .ixor, [], []), (24, .putfield 101, [0, 2, 0], []), (27, .aload_n 0, [], []), (28, .getfield 12, [2, 0, 11], []), (31, .getfield 101, [0, 2, 0], []), (34, .ireturn, [0], [])]
/-- 86: OneTurned.swap(II)I -/
def k_86 : List MIns := [(0, .aload_n 0, [], []), (1, .getfield 12, [2, 0, 11], []), (4, .iload_n 1, [], []), (5, .invokevirtual 104, [1, 1, 0, 5], []), (8, .ifCond .eq 19, [27], []), (11, .aload_n 0, [], []), (12, .getfield 12, [2, 0, 11], []), (15, .iload_n 2, [], []), (16, .invokevirtual 104, [1, 1, 0, 5], []), (19, .ifCond .eq 8, [27], []), (22, .iload_n 1, [], []), (23, .iload_n 2, [], []), (24, .if_icmp .ne 6, [30], []), (27, .bipush (-5), [], [.int (-5)]), (29, .ireturn, [0], []), (30, .aload_n 0, [], []), (31, .getfield 12, [2, 0, 11], []), (34, .iload_n 1, [], []), (35, .iload_n 2, [], []), (36, .invokevirtual 107, [2, 1, 0, 7], []), (39, .ifCond .ne 5, [44], []), (42, .iconst 0, [], [.int 0]), (43, .ireturn, [0], []), (44, .aload_n 0, [], []), (45, .getfield 12, [2, 0, 11], []), (48, .dup, [], []), (49, .getfield 101, [0, 2, 0], []), (52, .iload_n 1, [], []), (53, .invokestatic 111, [135, 1, 1], []), (56, .iload_n 2, [], []), (57, .invokestatic 111, [135, 1, 1], []), (60, .ior, [], []), (61, .ixor, [], []), (62, .putfield 101, [0, 2, 0], []), (65, .iconst 1, [], [.int 1]), (66, .ireturn, [0], [])]
/-- 87: OneTurned.count(I)I -/
def k_87 : List MIns := [(0, .iload_n 1, [], []), (1, .tableswitch 93 0 6 #[43, 51, 59, 67, 75, 80, 85], [94, 44, 52, 60, 68, 76, 81, 86], [.int 0, .int 1, .int 2, .int 3, .int 4, .int 5, .int 6]), (44, .aload_n 0, [], []), (45, .getfield 12, [2, 0, 11], []), (48, .getfield 90, [0, 0, 0], []), (51, .ireturn, [0], []), (52, .aload_n 0, [], []), (53, .getfield 12, [2, 0, 11], []), (56, .getfield 115, [0, 1, 0], []), (59, .ireturn, [0], []), (60, .aload_n 0, [], []), (61, .getfield 12, [2, 0, 11], []), (64, .getfield 101, [0, 2, 0], []), (67, .ireturn, [0], []), (68, .aload_n 0, [], []), (69, .getfield 12, [2, 0, 11], []), (72, .getfield 118, [0, 3, 0], []), (75, .ireturn, [0], []), (76, .aload_n 0, [], []), (77, .getfield 79, [0, 4, 11], []), (80, .ireturn, [0], []), (81, .aload_n 0, [], []), (82, .getfield 83, [0, 5, 11], []), (85, .ireturn, [0], []), (86, .aload_n 0, [], []), (87, .getfield 26, [2, 2, 11], []), (90, .getfield 121, [0, 0, 9], []), (93, .ireturn, [0], []), (94, .bipush (-2), [], [.int (-2)]), (96, .ireturn, [0], [])]
/-- 88: OneTurned.feed(IIIIII)I -/
def k_88 : List MIns := [(0, .iload_n 1, [], []), (1, .iconst 1, [], [.int 1]), (2, .iconst 5, [], [.int 5]), (3, .invokestatic 86, [133, 3, 1], []), (6, .ifCond .eq 41, [47], []), (9, .iload_n 2, [], []), (10, .invokestatic 124, [134, 1, 1], []), (13, .ifCond .eq 34, [47], []), (16, .iload_n 3, [], []), (17, .invokestatic 124, [134, 1, 1], []), (20, .ifCond .eq 27, [47], []), (23, .iload 4, [], []), (25, .invokestatic 124, [134, 1, 1], []), (28, .ifCond .eq 19, [47], []), (31, .iload 5, [], []), (33, .invokestatic 124, [134, 1, 1], []), (36, .ifCond .eq 11, [47], []), (39, .iload 6, [], []), (41, .invokestatic 124, [134, 1, 1], []), (44, .ifCond .ne 6, [50], []), (47, .bipush (-2), [], [.int (-2)]), (49, .ireturn, [0], []), (50, .iload_n 1, [], []), (51, .sipush 160, [], [.int 160]), (54, .aload_n 0, [], []), (55, .getfield 26, [2, 2, 11], []), (58, .getfield 121, [0, 0, 9], []), (61, .isub, [], []), (62, .if_icmp .le 6, [68], []), (65, .bipush (-4), [], [.int (-4)]), (67, .ireturn, [0], []), (68, .aload_n 0, [], []), (69, .getfield 26, [2, 2, 11], []), (72, .iload_n 2, [], []), (73, .invokevirtual 68, [1, 0, 9, 54], []), (76, .iload_n 1, [], []), (77, .iconst 1, [], [.int 1]), (78, .if_icmp .le 11, [89], []), (81, .aload_n 0, [], []), (82, .getfield 26, [2, 2, 11], []), (85, .iload_n 3, [], []), (86, .invokevirtual 68, [1, 0, 9, 54], []), (89, .iload_n 1, [], []), (90, .iconst 2, [], [.int 2]), (91, .if_icmp .le 12, [103], []), (94, .aload_n 0, [], []), (95, .getfield 26, [2, 2, 11], []), (98, .iload 4, [], []), (100, .invokevirtual 68, [1, 0, 9, 54], []), (103, .iload_n 1, [], []), (104, .iconst 3, [], [.int 3]), (105, .if_icmp .le 12, [117], []), (108, .aload_n 0, [], []), (109, .getfield 26, [2, 2, 11], []), (112, .iload 5, [], []), (114, .invokevirtual 68, [1, 0, 9, 54], []), (117, .iload_n 1, [], []), (118, .iconst 4, [], [.int 4]), (119, .if_icmp .le 12, [131], []), (122, .aload_n 0, [], []), (123, .getfield 26, [2, 2, 11], []), (126, .iload 6, [], []), (128, .invokevirtual 68, [1, 0, 9, 54], []), (131, .aload_n 0, [], []), (132, .getfield 26, [2, 2, 11], []), (135, .getfield 121, [0, 0, 9], []), (138, .ireturn, [0], [])]
/-- 89: OneTurned.text()I -/
def k_89 : List MIns := [(0, .aload_n 0, [], []), (1, .getfield 79, [0, 4, 11], []), (4, .ifCond .lt 15, [19], []), (7, .aload_n 0, [], []), (8, .getfield 79, [0, 4, 11], []), (11, .aload_n 0, [], []), (12, .getfield 32, [2, 3, 11], []), (15, .arraylength, [], []), (16, .if_icmp .lt 6, [22], []), (19, .bipush (-4), [], [.int (-4)]), (21, .ireturn, [0], []), (22, .aload_n 0, [], []), (23, .getfield 26, [2, 2, 11], []), (26, .invokevirtual 72, [0, 2, 9, 57], []), (29, .astore_n 1, [], []), (30, .aload_n 0, [], []), (31, .getfield 26, [2, 2, 11], []), (34, .invokevirtual 76, [0, 0, 9, 55], []), (37, .aload_n 1, [], []), (38, .ifnonnull 14, [52], []), (41, .bipush (-100), [], [.int (-100)]), (43, .aload_n 0, [], []), (44, .getfield 26, [2, 2, 11], []), (47, .invokevirtual 127, [0, 1, 9, 56], []), (50, .isub, [], []), (51, .ireturn, [0], []), (52, .aload_n 0, [], []), (53, .getfield 32, [2, 3, 11], []), (56, .aload_n 0, [], []), (57, .getfield 79, [0, 4, 11], []), (60, .aload_n 1, [], []), (61, .aastore, [], []), (62, .aload_n 0, [], []), (63, .dup, [], []), (64, .getfield 79, [0, 4, 11], []), (67, .iconst 1, [], [.int 1]), (68, .iadd, [], []), (69, .putfield 79, [0, 4, 11], []), (72, .aload_n 0, [], []), (73, .getfield 79, [0, 4, 11], []), (76, .iconst 1, [], [.int 1]), (77, .isub, [], []), (78, .ireturn, [0], [])]
/-- 90: OneTurned.force(I)I -/
def k_90 : List MIns := [(0, .iload_n 1, [], []), (1, .iconst 0, [], [.int 0]), (2, .aload_n 0, [], []), (3, .getfield 79, [0, 4, 11], []), (6, .iconst 1, [], [.int 1]), (7, .isub, [], []), (8, .invokestatic 86, [133, 3, 1], []), (11, .ifCond .ne 6, [17], []), (14, .bipush (-2), [], [.int (-2)]), (16, .ireturn, [0], []), (17, .aload_n 0, [], []), (18, .getfield 83, [0, 5, 11], []), (21, .istore_n 2, [], []), (22, .aload_n 0, [], []), (23, .iload_n 1, [], []), (24, .putfield 83, [0, 5, 11], []), (27, .iload_n 2, [], []), (28, .ireturn, [0], [])]
/-- 91: OneTurned.asks(II)I -/
def k_91 : List MIns := [(0, .aload_n 0, [], []), (1, .getfield 12, [2, 0, 11], []), (4, .iload_n 2, [], []), (5, .invokevirtual 104, [1, 1, 0, 5], []), (8, .ifCond .ne 6, [14], []), (11, .bipush (-5), [], [.int (-5)]), (13, .ireturn, [0], []), (14, .iload_n 1, [], []), (15, .iconst 0, [], [.int 0]), (16, .iconst 2, [], [.int 2]), (17, .invokestatic 86, [133, 3, 1], []), (20, .ifCond .ne 6, [26], []), (23, .bipush (-7), [], [.int (-7)]), (25, .ireturn, [0], []), (26, .aload_n 0, [], []), (27, .iload_n 1, [], []), (28, .iload_n 2, [], []), (29, .aload_n 0, [], []), (30, .getfield 12, [2, 0, 11], []), (33, .invokevirtual 130, [0, 1, 0, 19], []), (36, .invokevirtual 133, [3, 1, 11, 143], []), (39, .ireturn, [0], [])]
/-- 92: OneTurned.heap(III)I -/
def k_92 : List MIns := [(0, .iload_n 1, [], []), (1, .iconst 0, [], [.int 0]), (2, .iconst 5, [], [.int 5]), (3, .invokestatic 86, [133, 3, 1], []), (6, .ifCond .eq 24, [30], []), (9, .iload_n 2, [], []), (10, .iconst 0, [], [.int 0]), (11, .sipush 4095, [], [.int 4095]), (14, .invokestatic 86, [133, 3, 1], []), (17, .ifCond .eq 13, [30], []), (20, .iload_n 3, [], []), (21, .iconst 0, [], [.int 0]), (22, .bipush 9, [], [.int 9]), (24, .invokestatic 86, [133, 3, 1], []), (27, .ifCond .ne 6, [33], []), (30, .bipush (-2), [], [.int (-2)]), (32, .ireturn, [0], []), (33, .aload_n 0, [], []), (34, .getfield 12, [2, 0, 11], []), (37, .invokevirtual 137, [0, 1, 0, 11], []), (40, .ifCond .ne 6, [46], []), (43, .bipush (-4), [], [.int (-4)]), (45, .ireturn, [0], []), (46, .aload_n 0, [], []), (47, .getfield 12, [2, 0, 11], []), (50, .iload_n 1, [], []), (51, .iload_n 2, [], []), (52, .iload_n 3, [], []), (53, .invokestatic 141, [161, 3, 2], []), (56, .invokevirtual 145, [1, 0, 0, 12], []), (59, .aload_n 0, [], []), (60, .getfield 12, [2, 0, 11], []), (63, .getfield 118, [0, 3, 0], []), (66, .iconst 1, [], [.int 1]), (67, .isub, [], []), (68, .ireturn, [0], [])]
/-- 93: OneTurned.drop()I -/
def k_93 : List MIns := [(0, .aload_n 0, [], []), (1, .getfield 12, [2, 0, 11], []), (4, .getfield 118, [0, 3, 0], []), (7, .iconst 1, [], [.int 1]), (8, .if_icmp .ge 6, [14], []), (11, .bipush (-3), [], [.int (-3)]), (13, .ireturn, [0], []), (14, .aload_n 0, [], []), (15, .getfield 12, [2, 0, 11], []), (18, .aload_n 0, [], []), (19, .getfield 12, [2, 0, 11], []), (22, .getfield 118, [0, 3, 0], []), (25, .iconst 1, [], [.int 1]), (26, .isub, [], []), (27, .invokevirtual 149, [1, 0, 0, 13], []), (30, .aload_n 0, [], []), (31, .getfield 19, [2, 1, 11], []), (34, .getfield 152, [0, 4, 4], []), (37, .aload_n 0, [], []), (38, .getfield 12, [2, 0, 11], []), (41, .getfield 118, [0, 3, 0], []), (44, .if_icmp .le 11, [55], []), (47, .aload_n 0, [], []), (48, .getfield 19, [2, 1, 11], []), (51, .iconst 0, [], [.int 0]), (52, .putfield 153, [1, 0, 4], []), (55, .aload_n 0, [], []), (56, .getfield 12, [2, 0, 11], []), (59, .getfield 118, [0, 3, 0], []), (62, .ireturn, [0], [])]
/-- 94: OneTurned.told(II)I -/
def k_94 : List MIns := [(0, .aload_n 0, [], []), (1, .getfield 12, [2, 0, 11], []), (4, .iload_n 1, [], []), (5, .invokevirtual 157, [1, 2, 0, 14], []), (8, .astore_n 3, [], []), (9, .aload_n 3, [], []), (10, .ifnonnull 6, [16], []), (13, .bipush (-5), [], [.int (-5)]), (15, .ireturn, [0], []), (16, .iload_n 2, [], []), (17, .tableswitch 67 0 4 #[35, 40, 45, 50, 55], [84, 52, 57, 62, 67, 72], [.int 0, .int 1, .int 2, .int 3, .int 4]), (52, .aload_n 3, [], []), (53, .invokevirtual 161, [0, 1, 1, 23, 2, 26, 3, 29, 6, 42, 8, 51, 10, 80], []), (56, .ireturn, [0], []), (57, .aload_n 3, [], []), (58, .getfield 166, [0, 0, 1, 2, 3, 6, 8, 10], []), (61, .ireturn, [0], []), (62, .aload_n 3, [], []), (63, .getfield 169, [0, 1, 1, 2, 3, 6, 8, 10], []), (66, .ireturn, [0], []), (67, .aload_n 3, [], []), (68, .getfield 172, [0, 2, 1, 2, 3, 6, 8, 10], []), (71, .ireturn, [0], []), (72, .aload_n 3, [], []), (73, .aload_n 0, [], []), (74, .getfield 12, [2, 0, 11], []), (77, .getfield 101, [0, 2, 0], []), (80, .invokevirtual 175, [1, 1, 1, 31, 2, 31, 3, 31, 6, 31, 8, 52, 10, 82], []), (83, .ireturn, [0], []), (84, .bipush (-7), [], [.int (-7)]), (86, .ireturn, [0], [])]
/-- 95: OneTurned.signs(I)I -/
def k_95 : List MIns := [(0, .iload_n 1, [], []), (1, .tableswitch 65 0 2 #[27, 42, 57], [66, 28, 43, 58], [.int 0, .int 1, .int 2]), (28, .aload_n 0, [], []), (29, .getfield 12, [2, 0, 11], []), (32, .aload_n 0, [], []), (33, .getfield 12, [2, 0, 11], []), (36, .getfield 101, [0, 2, 0], []), (39, .invokevirtual 178, [1, 1, 0, 16], []), (42, .ireturn, [0], []), (43, .aload_n 0, [], []), (44, .getfield 12, [2, 0, 11], []), (47, .aload_n 0, [], []), (48, .getfield 12, [2, 0, 11], []), (51, .getfield 101, [0, 2, 0], []), (54, .invokevirtual 181, [1, 1, 0, 18], []), (57, .ireturn, [0], []), (58, .aload_n 0, [], []), (59, .getfield 12, [2, 0, 11], []), (62, .invokevirtual 130, [0, 1, 0, 19], []), (65, .ireturn, [0], []), (66, .bipush (-2), [], [.int (-2)]), (68, .ireturn, [0], [])]
/-- 96: OneTurned.look(I)I -/
def k_96 : List MIns := [(0, .aload_n 0, [], []), (1, .getfield 12, [2, 0, 11], []), (4, .iload_n 1, [], []), (5, .invokevirtual 97, [1, 1, 0, 6], []), (8, .ifCond .ne 6, [14], []), (11, .bipush (-2), [], [.int (-2)]), (13, .ireturn, [0], []), (14, .aload_n 0, [], []), (15, .getfield 12, [2, 0, 11], []), (18, .aload_n 0, [], []), (19, .getfield 12, [2, 0, 11], []), (22, .getfield 101, [0, 2, 0], []), (25, .iload_n 1, [], []), (26, .ixor, [], []), (27, .invokevirtual 178, [1, 1, 0, 16], []), (30, .ireturn, [0], [])]
/-- 97: OneTurned.one()I -/
def k_97 : List MIns := [(0, .aload_n 0, [], []), (1, .aload_n 0, [], []), (2, .getfield 12, [2, 0, 11], []), (5, .getfield 101, [0, 2, 0], []), (8, .invokevirtual 184, [1, 1, 11, 144], []), (11, .ireturn, [0], [])]
/-- 98: OneTurned.two(I)I -/
def k_98 : List MIns := [(0, .iload_n 1, [], []), (1, .iconst 0, [], [.int 0]), (2, .iconst 1, [], [.int 1]), (3, .invokestatic 86, [133, 3, 1], []), (6, .ifCond .ne 6, [12], []), (9, .bipush (-2), [], [.int (-2)]), (11, .ireturn, [0], []), (12, .iconst 0, [], [.int 0]), (13, .istore_n 2, [], []), (14, .iconst 0, [], [.int 0]), (15, .istore_n 3, [], []), (16, .iload_n 3, [], []), (17, .aload_n 0, [], []), (18, .getfield 12, [2, 0, 11], []), (21, .getfield 90, [0, 0, 0], []), (24, .if_icmp .ge 75, [99], []), (27, .iload_n 3, [], []), (28, .iconst 1, [], [.int 1]), (29, .iadd, [], []), (30, .istore 4, [], []), (32, .iload 4, [], []), (34, .aload_n 0, [], []), (35, .getfield 12, [2, 0, 11], []), (38, .getfield 90, [0, 0, 0], []), (41, .if_icmp .ge 52, [93], []), (44, .aload_n 0, [], []), (45, .getfield 12, [2, 0, 11], []), (48, .aload_n 0, [], []), (49, .getfield 12, [2, 0, 11], []), (52, .getfield 101, [0, 2, 0], []), (55, .iload_n 3, [], []), (56, .invokestatic 111, [135, 1, 1], []), (59, .ixor, [], []), (60, .iload 4, [], []), (62, .invokestatic 111, [135, 1, 1], []), (65, .ixor, [], []), (66, .invokevirtual 187, [1, 1, 0, 21], []), (69, .ifCond .eq 18, [87], []), (72, .iload_n 1, [], []), (73, .iconst 1, [], [.int 1]), (74, .if_icmp .ne 10, [84], []), (77, .iload_n 3, [], []), (78, .iload 4, [], []), (80, .invokestatic 190, [141, 2, 1], []), (83, .ireturn, [0], []), (84, .iinc 2 1, [], [.int 1]), (87, .iinc 4 1, [], [.int 1]), (90, .goto (-58), [32], []), (93, .iinc 3 1, [], [.int 1]), (96, .goto (-80), [16], []), (99, .iload_n 1, [], []), (100, .ifCond .ne 7, [107], []), (103, .iload_n 2, [], []), (104, .goto 4, [108], []), (107, .iconst (-1), [], [.int (-1)]), (108, .ireturn, [0], [])]
/-- 99: OneTurned.counts(I)I -/
def k_99 : List MIns := [(0, .iload_n 1, [], []), (1, .iconst 0, [], [.int 0]), (2, .bipush 12, [], [.int 12]), (4, .invokestatic 86, [133, 3, 1], []), (7, .ifCond .ne 6, [13], []), (10, .bipush (-2), [], [.int (-2)]), (12, .ireturn, [0], []), (13, .aload_n 0, [], []), (14, .getfield 12, [2, 0, 11], []), (17, .aload_n 0, [], []), (18, .getfield 12, [2, 0, 11], []), (21, .getfield 101, [0, 2, 0], []), (24, .invokevirtual 178, [1, 1, 0, 16], []), (27, .istore_n 2, [], []), (28, .iconst 0, [], [.int 0]), (29, .istore_n 3, [], []), (30, .iconst 0, [], [.int 0]), (31, .istore 4, [], []), (33, .iload 4, [], []), (35, .aload_n 0, [], []), (36, .getfield 12, [2, 0, 11], []), (39, .invokevirtual 194, [0, 1, 0, 4], []), (42, .if_icmp .gt 42, [84], []), (45, .iload 4, [], []), (47, .invokestatic 197, [260, 1, 1], []), (50, .iload_n 1, [], []), (51, .if_icmp .ne 27, [78], []), (54, .aload_n 0, [], []), (55, .getfield 12, [2, 0, 11], []), (58, .aload_n 0, [], []), (59, .getfield 12, [2, 0, 11], []), (62, .getfield 101, [0, 2, 0], []), (65, .iload 4, [], []), (67, .ixor, [], []), (68, .iload_n 2, [], []), (69, .invokevirtual 202, [2, 1, 0, 20], []), (72, .ifCond .eq 6, [78], []), (75, .iinc 3 1, [], [.int 1]), (78, .iinc 4 1, [], [.int 1]), (81, .goto (-48), [33], []), (84, .iload_n 3, [], []), (85, .ireturn, [0], [])]
/-- 100: OneTurned.unseen(I)I -/
def k_100 : List MIns := [(0, .iload_n 1, [], []), (1, .iconst 0, [], [.int 0]), (2, .iconst 1, [], [.int 1]), (3, .invokestatic 86, [133, 3, 1], []), (6, .ifCond .ne 6, [12], []), (9, .bipush (-2), [], [.int (-2)]), (11, .ireturn, [0], []), (12, .aload_n 0, [], []), (13, .iconst 1, [], [.int 1]), (14, .aload_n 0, [], []), (15, .getfield 12, [2, 0, 11], []), (18, .invokevirtual 194, [0, 1, 0, 4], []), (21, .aload_n 0, [], []), (22, .getfield 12, [2, 0, 11], []), (25, .aload_n 0, [], []), (26, .getfield 12, [2, 0, 11], []), (29, .getfield 101, [0, 2, 0], []), (32, .invokevirtual 178, [1, 1, 0, 16], []), (35, .invokevirtual 205, [3, 1, 11, 145], []), (38, .istore_n 2, [], []), (39, .iload_n 1, [], []), (40, .ifCond .ne 10, [50], []), (43, .iload_n 2, [], []), (44, .invokestatic 208, [138, 1, 1], []), (47, .goto 4, [51], []), (50, .iload_n 2, [], []), (51, .ireturn, [0], [])]
/-- 101: OneTurned.apart(I)I -/
def k_101 : List MIns := [(0, .iload_n 1, [], []), (1, .lookupswitch 37 #[(0, 27), (1, 32)], [38, 28, 33], [.int 0, .int 1]), (28, .aload_n 0, [], []), (29, .invokevirtual 211, [0, 1, 11, 146], []), (32, .ireturn, [0], []), (33, .aload_n 0, [], []), (34, .invokevirtual 214, [0, 1, 11, 147], []), (37, .ireturn, [0], []), (38, .bipush (-2), [], [.int (-2)]), (40, .ireturn, [0], [])]
/-- 102: OneTurned.reach(I)I -/
def k_102 : List MIns := [(0, .iload_n 1, [], []), (1, .iconst 0, [], [.int 0]), (2, .iconst 3, [], [.int 3]), (3, .invokestatic 86, [133, 3, 1], []), (6, .ifCond .ne 6, [12], []), (9, .bipush (-2), [], [.int (-2)]), (11, .ireturn, [0], []), (12, .iconst 0, [], [.int 0]), (13, .istore_n 2, [], []), (14, .iconst 0, [], [.int 0]), (15, .istore_n 3, [], []), (16, .iload_n 3, [], []), (17, .aload_n 0, [], []), (18, .getfield 12, [2, 0, 11], []), (21, .invokevirtual 194, [0, 1, 0, 4], []), (24, .if_icmp .gt 39, [63], []), (27, .iload_n 3, [], []), (28, .invokestatic 197, [260, 1, 1], []), (31, .iload_n 1, [], []), (32, .if_icmp .gt 25, [57], []), (35, .aload_n 0, [], []), (36, .iload_n 2, [], []), (37, .aload_n 0, [], []), (38, .getfield 12, [2, 0, 11], []), (41, .aload_n 0, [], []), (42, .getfield 12, [2, 0, 11], []), (45, .getfield 101, [0, 2, 0], []), (48, .iload_n 3, [], []), (49, .ixor, [], []), (50, .invokevirtual 178, [1, 1, 0, 16], []), (53, .invokevirtual 217, [2, 1, 11, 148], []), (56, .istore_n 2, [], []), (57, .iinc 3 1, [], [.int 1]), (60, .goto (-44), [16], []), (63, .iload_n 2, [], []), (64, .ireturn, [0], [])]
/-- 103: OneTurned.lay(II)I -/
def k_103 : List MIns := [(0, .aload_n 0, [], []), (1, .getfield 12, [2, 0, 11], []), (4, .iload_n 1, [], []), (5, .invokevirtual 97, [1, 1, 0, 6], []), (8, .ifCond .ne 6, [14], []), (11, .bipush (-2), [], [.int (-2)]), (13, .ireturn, [0], []), (14, .iload_n 2, [], []), (15, .iconst 0, [], [.int 0]), (16, .iconst 1, [], [.int 1]), (17, .invokestatic 86, [133, 3, 1], []), (20, .ifCond .ne 6, [26], []), (23, .bipush (-7), [], [.int (-7)]), (25, .ireturn, [0], []), (26, .aload_n 0, [], []), (27, .iconst 0, [], [.int 0]), (28, .iload_n 1, [], []), (29, .iconst 0, [], [.int 0]), (30, .invokevirtual 205, [3, 1, 11, 145], []), (33, .istore_n 3, [], []), (34, .iload_n 2, [], []), (35, .ifCond .ne 10, [45], []), (38, .iload_n 3, [], []), (39, .invokestatic 208, [138, 1, 1], []), (42, .goto 4, [46], []), (45, .iload_n 3, [], []), (46, .ireturn, [0], [])]
/-- 104: OneTurned.even(I)I -/
def k_104 : List MIns := [(0, .aload_n 0, [], []), (1, .getfield 12, [2, 0, 11], []), (4, .iload_n 1, [], []), (5, .invokevirtual 97, [1, 1, 0, 6], []), (8, .ifCond .ne 6, [14], []), (11, .bipush (-2), [], [.int (-2)]), (13, .ireturn, [0], []), (14, .aload_n 0, [], []), (15, .iconst 0, [], [.int 0]), (16, .iload_n 1, [], []), (17, .iconst 0, [], [.int 0]), (18, .invokevirtual 205, [3, 1, 11, 145], []), (21, .istore_n 2, [], []), (22, .iload_n 2, [], []), (23, .iconst (-1), [], [.int (-1)]), (24, .if_icmp .ne 5, [29], []), (27, .iconst (-1), [], [.int (-1)]), (28, .ireturn, [0], []), (29, .aload_n 0, [], []), (30, .getfield 12, [2, 0, 11], []), (33, .dup, [], []), (34, .getfield 101, [0, 2, 0], []), (37, .iload_n 2, [], []), (38, .ixor, [], []), (39, .putfield 101, [0, 2, 0], []), (42, .iload_n 2, [], []), (43, .invokestatic 208, [138, 1, 1], []), (46, .ireturn, [0], [])]
/-- 105: OneTurned.needs(I)I -/
def k_105 : List MIns := [(0, .iload_n 1, [], []), (1, .iconst 0, [], [.int 0]), (2, .sipush 9999, [], [.int 9999]), (5, .invokestatic 86, [133, 3, 1], []), (8, .ifCond .ne 6, [14], []), (11, .bipush (-2), [], [.int (-2)]), (13, .ireturn, [0], []), (14, .iconst 0, [], [.int 0]), (15, .istore_n 2, [], []), (16, .iload_n 2, [], []), (17, .bipush 31, [], [.int 31]), (19, .if_icmp .ge 20, [39], []), (22, .iconst 1, [], [.int 1]), (23, .iload_n 2, [], []), (24, .ishl, [], []), (25, .iload_n 1, [], []), (26, .iload_n 2, [], []), (27, .iadd, [], []), (28, .iconst 1, [], [.int 1]), (29, .iadd, [], []), (30, .if_icmp .ge 9, [39], []), (33, .iinc 2 1, [], [.int 1]), (36, .goto (-20), [16], []), (39, .iload_n 2, [], []), (40, .ireturn, [0], [])]
/-- 106: OneTurned.can(I)I -/
def k_106 : List MIns := [(0, .iload_n 1, [], []), (1, .iconst 1, [], [.int 1]), (2, .ldc 220, [], [.int 99999]), (4, .invokestatic 86, [133, 3, 1], []), (7, .ifCond .ne 6, [13], []), (10, .bipush (-2), [], [.int (-2)]), (12, .ireturn, [0], []), (13, .iload_n 1, [], []), (14, .invokestatic 197, [260, 1, 1], []), (17, .iconst 1, [], [.int 1]), (18, .if_icmp .ne 7, [25], []), (21, .iconst 1, [], [.int 1]), (22, .goto 4, [26], []), (25, .iconst 0, [], [.int 0]), (26, .ireturn, [0], [])]
/-- 107: OneTurned.reads()I -/
def k_107 : List MIns := [(0, .aload_n 0, [], []), (1, .invokevirtual 221, [0, 1, 11, 150], []), (4, .ifCond .ne 6, [10], []), (7, .bipush (-3), [], [.int (-3)]), (9, .ireturn, [0], []), (10, .aload_n 0, [], []), (11, .invokevirtual 224, [0, 1, 11, 151], []), (14, .ireturn, [0], [])]
/-- 108: OneTurned.coin(I)I -/
def k_108 : List MIns := [(0, .aload_n 0, [], []), (1, .getfield 12, [2, 0, 11], []), (4, .iload_n 1, [], []), (5, .invokevirtual 104, [1, 1, 0, 5], []), (8, .ifCond .ne 6, [14], []), (11, .bipush (-2), [], [.int (-2)]), (13, .ireturn, [0], []), (14, .aload_n 0, [], []), (15, .invokevirtual 221, [0, 1, 11, 150], []), (18, .ifCond .ne 6, [24], []), (21, .bipush (-3), [], [.int (-3)]), (23, .ireturn, [0], []), (24, .aload_n 0, [], []), (25, .invokevirtual 224, [0, 1, 11, 151], []), (28, .iload_n 1, [], []), (29, .ixor, [], []), (30, .ireturn, [0], [])]
/-- 109: OneTurned.swaps(I)I -/
def k_109 : List MIns := [(0, .iload_n 1, [], []), (1, .iconst 0, [], [.int 0]), (2, .iconst 2, [], [.int 2]), (3, .invokestatic 86, [133, 3, 1], []), (6, .ifCond .ne 6, [12], []), (9, .bipush (-2), [], [.int (-2)]), (11, .ireturn, [0], []), (12, .aload_n 0, [], []), (13, .getfield 12, [2, 0, 11], []), (16, .aload_n 0, [], []), (17, .getfield 12, [2, 0, 11], []), (20, .getfield 101, [0, 2, 0], []), (23, .invokevirtual 178, [1, 1, 0, 16], []), (26, .istore_n 2, [], []), (27, .iconst 0, [], [.int 0]), (28, .istore_n 3, [], []), (29, .iconst 0, [], [.int 0]), (30, .istore 4, [], []), (32, .iload 4, [], []), (34, .aload_n 0, [], []), (35, .getfield 12, [2, 0, 11], []), (38, .getfield 90, [0, 0, 0], []), (41, .iconst 1, [], [.int 1]), (42, .isub, [], []), (43, .if_icmp .ge 111, [154], []), (46, .aload_n 0, [], []), (47, .getfield 12, [2, 0, 11], []), (50, .iload 4, [], []), (52, .iload 4, [], []), (54, .iconst 1, [], [.int 1]), (55, .iadd, [], []), (56, .invokevirtual 107, [2, 1, 0, 7], []), (59, .ifCond .eq 89, [148], []), (62, .aload_n 0, [], []), (63, .getfield 12, [2, 0, 11], []), (66, .getfield 101, [0, 2, 0], []), (69, .iload 4, [], []), (71, .invokestatic 111, [135, 1, 1], []), (74, .ixor, [], []), (75, .iload 4, [], []), (77, .iconst 1, [], [.int 1]), (78, .iadd, [], []), (79, .invokestatic 111, [135, 1, 1], []), (82, .ixor, [], []), (83, .istore 5, [], []), (85, .iload_n 1, [], []), (86, .iconst 2, [], [.int 2]), (87, .if_icmp .ne 15, [102], []), (90, .aload_n 0, [], []), (91, .getfield 12, [2, 0, 11], []), (94, .iload 5, [], []), (96, .invokevirtual 187, [1, 1, 0, 21], []), (99, .goto 30, [129], []), (102, .aload_n 0, [], []), (103, .getfield 12, [2, 0, 11], []), (106, .iload 5, [], []), (108, .iload_n 2, [], []), (109, .invokevirtual 202, [2, 1, 0, 20], []), (112, .iload_n 1, [], []), (113, .ifCond .ne 7, [120], []), (116, .iconst 1, [], [.int 1]), (117, .goto 4, [121], []), (120, .iconst 0, [], [.int 0]), (121, .if_icmp .ne 7, [128], []), (124, .iconst 1, [], [.int 1]), (125, .goto 4, [129], []), (128, .iconst 0, [], [.int 0]), (129, .istore 6, [], []), (131, .iload_n 3, [], []), (132, .iload 6, [], []), (134, .ifCond .eq 11, [145], []), (137, .iload 4, [], []), (139, .invokestatic 111, [135, 1, 1], []), (142, .goto 4, [146], []), (145, .iconst 0, [], [.int 0]), (146, .ior, [], []), (147, .istore_n 3, [], []), (148, .iinc 4 1, [], [.int 1]), (151, .goto (-119), [32], []), (154, .iload_n 3, [], []), (155, .ireturn, [0], [])]
/-- 110: OneTurned.swept(II)I -/
def k_110 : List MIns := [(0, .aload_n 0, [], []), (1, .getfield 12, [2, 0, 11], []), (4, .iload_n 1, [], []), (5, .invokevirtual 227, [1, 1, 0, 8], []), (8, .istore_n 3, [], []), (9, .iload_n 3, [], []), (10, .ifCond .ne 6, [16], []), (13, .bipush (-5), [], [.int (-5)]), (15, .ireturn, [0], []), (16, .iload_n 2, [], []), (17, .iconst 0, [], [.int 0]), (18, .iconst 2, [], [.int 2]), (19, .invokestatic 86, [133, 3, 1], []), (22, .ifCond .ne 6, [28], []), (25, .bipush (-7), [], [.int (-7)]), (27, .ireturn, [0], []), (28, .aload_n 0, [], []), (29, .getfield 12, [2, 0, 11], []), (32, .getfield 101, [0, 2, 0], []), (35, .iload_n 3, [], []), (36, .iconst (-1), [], [.int (-1)]), (37, .ixor, [], []), (38, .iand, [], []), (39, .istore 4, [], []), (41, .iconst 0, [], [.int 0]), (42, .istore 5, [], []), (44, .iconst (-1), [], [.int (-1)]), (45, .istore 6, [], []), (47, .iconst 0, [], [.int 0]), (48, .istore 7, [], []), (50, .iload 7, [], []), (52, .iload_n 3, [], []), (53, .if_icmp .gt 50, [103], []), (56, .iload 7, [], []), (58, .iload_n 3, [], []), (59, .iconst (-1), [], [.int (-1)]), (60, .ixor, [], []), (61, .iand, [], []), (62, .ifCond .ne 35, [97], []), (65, .aload_n 0, [], []), (66, .getfield 12, [2, 0, 11], []), (69, .iload 4, [], []), (71, .iload 7, [], []), (73, .ior, [], []), (74, .invokevirtual 187, [1, 1, 0, 21], []), (77, .ifCond .eq 20, [97], []), (80, .iload 5, [], []), (82, .ifCond .ne 8, [90], []), (85, .iload 7, [], []), (87, .goto 5, [92], []), (90, .iload 6, [], []), (92, .istore 6, [], []), (94, .iinc 5 1, [], [.int 1]), (97, .iinc 7 1, [], [.int 1]), (100, .goto (-50), [50], []), (103, .iload_n 2, [], []), (104, .iconst 2, [], [.int 2]), (105, .if_icmp .ne 29, [134], []), (108, .iload 5, [], []), (110, .iconst 1, [], [.int 1]), (111, .if_icmp .ne 21, [132], []), (114, .iload 6, [], []), (116, .aload_n 0, [], []), (117, .getfield 12, [2, 0, 11], []), (120, .getfield 101, [0, 2, 0], []), (123, .iload_n 3, [], []), (124, .iand, [], []), (125, .if_icmp .ne 7, [132], []), (128, .iconst 1, [], [.int 1]), (129, .goto 4, [133], []), (132, .iconst 0, [], [.int 0]), (133, .ireturn, [0], []), (134, .iload_n 2, [], []), (135, .ifCond .ne 8, [143], []), (138, .iload 5, [], []), (140, .goto 5, [145], []), (143, .iload 6, [], []), (145, .ireturn, [0], [])]
/-- 111: OneTurned.cut(I)I -/
def k_111 : List MIns := [(0, .iload_n 1, [], []), (1, .iconst 0, [], [.int 0]), (2, .aload_n 0, [], []), (3, .getfield 12, [2, 0, 11], []), (6, .getfield 90, [0, 0, 0], []), (9, .iconst 1, [], [.int 1]), (10, .isub, [], []), (11, .invokestatic 86, [133, 3, 1], []), (14, .ifCond .ne 6, [20], []), (17, .bipush (-2), [], [.int (-2)]), (19, .ireturn, [0], []), (20, .aload_n 0, [], []), (21, .getfield 12, [2, 0, 11], []), (24, .aload_n 0, [], []), (25, .getfield 12, [2, 0, 11], []), (28, .iload_n 1, [], []), (29, .invokevirtual 230, [1, 1, 0, 9], []), (32, .putfield 101, [0, 2, 0], []), (35, .aload_n 0, [], []), (36, .getfield 12, [2, 0, 11], []), (39, .getfield 101, [0, 2, 0], []), (42, .ireturn, [0], [])]
/-- 112: OneTurned.cuts(I)I -/
def k_112 : List MIns := [(0, .iload_n 1, [], []), (1, .iconst 0, [], [.int 0]), (2, .iconst 2, [], [.int 2]), (3, .invokestatic 86, [133, 3, 1], []), (6, .ifCond .ne 6, [12], []), (9, .bipush (-2), [], [.int (-2)]), (11, .ireturn, [0], []), (12, .aload_n 0, [], []), (13, .getfield 12, [2, 0, 11], []), (16, .aload_n 0, [], []), (17, .getfield 12, [2, 0, 11], []), (20, .getfield 101, [0, 2, 0], []), (23, .invokevirtual 178, [1, 1, 0, 16], []), (26, .istore_n 2, [], []), (27, .iconst 0, [], [.int 0]), (28, .istore_n 3, [], []), (29, .iconst 1, [], [.int 1]), (30, .istore 4, [], []), (32, .iload 4, [], []), (34, .aload_n 0, [], []), (35, .getfield 12, [2, 0, 11], []), (38, .getfield 90, [0, 0, 0], []), (41, .if_icmp .ge 82, [123], []), (44, .aload_n 0, [], []), (45, .getfield 12, [2, 0, 11], []), (48, .iload 4, [], []), (50, .invokevirtual 230, [1, 1, 0, 9], []), (53, .istore 5, [], []), (55, .iload_n 1, [], []), (56, .iconst 2, [], [.int 2]), (57, .if_icmp .ne 23, [80], []), (60, .iload 5, [], []), (62, .aload_n 0, [], []), (63, .getfield 12, [2, 0, 11], []), (66, .getfield 101, [0, 2, 0], []), (69, .if_icmp .ne 7, [76], []), (72, .iconst 1, [], [.int 1]), (73, .goto 25, [98], []), (76, .iconst 0, [], [.int 0]), (77, .goto 21, [98], []), (80, .aload_n 0, [], []), (81, .getfield 12, [2, 0, 11], []), (84, .iload 5, [], []), (86, .iload_n 1, [], []), (87, .ifCond .ne 7, [94], []), (90, .iload_n 2, [], []), (91, .goto 4, [95], []), (94, .iconst 0, [], [.int 0]), (95, .invokevirtual 202, [2, 1, 0, 20], []), (98, .istore 6, [], []), (100, .iload_n 3, [], []), (101, .iload 6, [], []), (103, .ifCond .eq 11, [114], []), (106, .iload 4, [], []), (108, .invokestatic 111, [135, 1, 1], []), (111, .goto 4, [115], []), (114, .iconst 0, [], [.int 0]), (115, .ior, [], []), (116, .istore_n 3, [], []), (117, .iinc 4 1, [], [.int 1]), (120, .goto (-88), [32], []), (123, .iload_n 3, [], []), (124, .ireturn, [0], [])]
/-- 113: OneTurned.move(II)I -/
def k_113 : List MIns := [(0, .aload_n 0, [], []), (1, .getfield 12, [2, 0, 11], []), (4, .iload_n 1, [], []), (5, .invokevirtual 104, [1, 1, 0, 5], []), (8, .ifCond .eq 14, [22], []), (11, .aload_n 0, [], []), (12, .getfield 12, [2, 0, 11], []), (15, .iload_n 2, [], []), (16, .invokevirtual 104, [1, 1, 0, 5], []), (19, .ifCond .ne 6, [25], []), (22, .bipush (-5), [], [.int (-5)]), (24, .ireturn, [0], []), (25, .aload_n 0, [], []), (26, .getfield 12, [2, 0, 11], []), (29, .aload_n 0, [], []), (30, .getfield 12, [2, 0, 11], []), (33, .iload_n 1, [], []), (34, .iload_n 2, [], []), (35, .invokevirtual 233, [2, 1, 0, 10], []), (38, .putfield 101, [0, 2, 0], []), (41, .aload_n 0, [], []), (42, .getfield 12, [2, 0, 11], []), (45, .getfield 101, [0, 2, 0], []), (48, .ireturn, [0], [])]
/-- 114: OneTurned.moves(I)I -/
def k_114 : List MIns := [(0, .iload_n 1, [], []), (1, .iconst 0, [], [.int 0]), (2, .iconst 1, [], [.int 1]), (3, .invokestatic 86, [133, 3, 1], []), (6, .ifCond .ne 6, [12], []), (9, .bipush (-2), [], [.int (-2)]), (11, .ireturn, [0], []), (12, .aload_n 0, [], []), (13, .getfield 12, [2, 0, 11], []), (16, .aload_n 0, [], []), (17, .getfield 12, [2, 0, 11], []), (20, .getfield 101, [0, 2, 0], []), (23, .invokevirtual 178, [1, 1, 0, 16], []), (26, .istore_n 2, [], []), (27, .iconst 0, [], [.int 0]), (28, .istore_n 3, [], []), (29, .iconst 0, [], [.int 0]), (30, .istore 4, [], []), (32, .iload 4, [], []), (34, .aload_n 0, [], []), (35, .getfield 12, [2, 0, 11], []), (38, .getfield 90, [0, 0, 0], []), (41, .if_icmp .ge 81, [122], []), (44, .iconst 0, [], [.int 0]), (45, .istore 5, [], []), (47, .iload 5, [], []), (49, .aload_n 0, [], []), (50, .getfield 12, [2, 0, 11], []), (53, .getfield 90, [0, 0, 0], []), (56, .if_icmp .ge 60, [116], []), (59, .aload_n 0, [], []), (60, .getfield 12, [2, 0, 11], []), (63, .iload 4, [], []), (65, .iload 5, [], []), (67, .invokevirtual 233, [2, 1, 0, 10], []), (70, .istore 6, [], []), (72, .iload 6, [], []), (74, .aload_n 0, [], []), (75, .getfield 12, [2, 0, 11], []), (78, .getfield 101, [0, 2, 0], []), (81, .if_icmp .eq 29, [110], []), (84, .aload_n 0, [], []), (85, .getfield 12, [2, 0, 11], []), (88, .iload 6, [], []), (90, .iload_n 2, [], []), (91, .invokevirtual 202, [2, 1, 0, 20], []), (94, .iload_n 1, [], []), (95, .iconst 1, [], [.int 1]), (96, .if_icmp .ne 7, [103], []), (99, .iconst 1, [], [.int 1]), (100, .goto 4, [104], []), (103, .iconst 0, [], [.int 0]), (104, .if_icmp .ne 6, [110], []), (107, .iinc 3 1, [], [.int 1]), (110, .iinc 5 1, [], [.int 1]), (113, .goto (-66), [47], []), (116, .iinc 4 1, [], [.int 1]), (119, .goto (-87), [32], []), (122, .iload_n 3, [], []), (123, .ireturn, [0], [])]
/-- 115: OneTurned.likely(I)I -/
def k_115 : List MIns := [(0, .aload_n 0, [], []), (1, .invokevirtual 236, [0, 0, 11, 152], []), (4, .iload_n 1, [], []), (5, .tableswitch 46 0 2 #[27, 32, 41], [51, 32, 37, 46], [.int 0, .int 1, .int 2]), (32, .aload_n 0, [], []), (33, .invokevirtual 239, [0, 1, 11, 153], []), (36, .ireturn, [0], []), (37, .aload_n 0, [], []), (38, .aload_n 0, [], []), (39, .invokevirtual 239, [0, 1, 11, 153], []), (42, .invokevirtual 242, [1, 1, 11, 154], []), (45, .ireturn, [0], []), (46, .aload_n 0, [], []), (47, .invokevirtual 245, [0, 1, 11, 155], []), (50, .ireturn, [0], []), (51, .bipush (-2), [], [.int (-2)]), (53, .ireturn, [0], [])]
/-- 116: OneTurned.right(I)J -/
def k_116 : List MIns := [(0, .aload_n 0, [], []), (1, .invokevirtual 236, [0, 0, 11, 152], []), (4, .aload_n 0, [], []), (5, .invokevirtual 239, [0, 1, 11, 153], []), (8, .istore_n 2, [], []), (9, .iload_n 1, [], []), (10, .iconst 0, [], [.int 0]), (11, .iconst 1, [], [.int 1]), (12, .invokestatic 86, [133, 3, 1], []), (15, .ifCond .eq 8, [23], []), (18, .iload_n 2, [], []), (19, .iconst (-1), [], [.int (-1)]), (20, .if_icmp .ne 7, [27], []), (23, .ldc2_w 248, [], [.long (-4611686018427387904)]), (26, .lreturn, [], []), (27, .aload_n 0, [], []), (28, .iload_n 2, [], []), (29, .invokevirtual 242, [1, 1, 11, 154], []), (32, .aload_n 0, [], []), (33, .invokevirtual 245, [0, 1, 11, 155], []), (36, .iload_n 1, [], []), (37, .invokestatic 250, [142, 3, 3], []), (40, .lreturn, [], [])]
/-- 117: OneTurned.cheapest(I)I -/
def k_117 : List MIns := [(0, .iload_n 1, [], []), (1, .iconst 0, [], [.int 0]), (2, .iconst 1, [], [.int 1]), (3, .invokestatic 86, [133, 3, 1], []), (6, .ifCond .ne 6, [12], []), (9, .bipush (-2), [], [.int (-2)]), (11, .ireturn, [0], []), (12, .aload_n 0, [], []), (13, .aload_n 0, [], []), (14, .getfield 12, [2, 0, 11], []), (17, .getfield 101, [0, 2, 0], []), (20, .invokevirtual 184, [1, 1, 11, 144], []), (23, .istore_n 2, [], []), (24, .aload_n 0, [], []), (25, .getfield 12, [2, 0, 11], []), (28, .invokevirtual 130, [0, 1, 0, 19], []), (31, .istore_n 3, [], []), (32, .iconst (-1), [], [.int (-1)]), (33, .istore 4, [], []), (35, .iconst 0, [], [.int 0]), (36, .istore 5, [], []), (38, .iconst 0, [], [.int 0]), (39, .istore 6, [], []), (41, .iconst 0, [], [.int 0]), (42, .istore 7, [], []), (44, .iload 7, [], []), (46, .aload_n 0, [], []), (47, .getfield 12, [2, 0, 11], []), (50, .getfield 90, [0, 0, 0], []), (53, .if_icmp .ge 56, [109], []), (56, .iload_n 2, [], []), (57, .iload 7, [], []), (59, .invokestatic 254, [137, 2, 1], []), (62, .ifCond .eq 41, [103], []), (65, .aload_n 0, [], []), (66, .iconst 2, [], [.int 2]), (67, .iload 7, [], []), (69, .iload_n 3, [], []), (70, .invokevirtual 133, [3, 1, 11, 143], []), (73, .istore 8, [], []), (75, .iload 6, [], []), (77, .iload 8, [], []), (79, .iadd, [], []), (80, .istore 6, [], []), (82, .iload 4, [], []), (84, .iconst (-1), [], [.int (-1)]), (85, .if_icmp .eq 10, [95], []), (88, .iload 8, [], []), (90, .iload 5, [], []), (92, .if_icmp .ge 11, [103], []), (95, .iload 7, [], []), (97, .istore 4, [], []), (99, .iload 8, [], []), (101, .istore 5, [], []), (103, .iinc 7 1, [], [.int 1]), (106, .goto (-62), [44], []), (109, .iload_n 1, [], []), (110, .ifCond .ne 8, [118], []), (113, .iload 4, [], []), (115, .goto 5, [120], []), (118, .iload 6, [], []), (120, .ireturn, [0], [])]
/-- 118: OneTurned.lies()I -/
def k_118 : List MIns := [(0, .aload_n 0, [], []), (1, .aload_n 0, [], []), (2, .getfield 12, [2, 0, 11], []), (5, .getfield 101, [0, 2, 0], []), (8, .invokevirtual 257, [1, 1, 11, 149], []), (11, .istore_n 1, [], []), (12, .iconst 0, [], [.int 0]), (13, .istore_n 2, [], []), (14, .iload_n 2, [], []), (15, .aload_n 0, [], []), (16, .getfield 12, [2, 0, 11], []), (19, .getfield 90, [0, 0, 0], []), (22, .if_icmp .ge 28, [50], []), (25, .iload_n 1, [], []), (26, .aload_n 0, [], []), (27, .aload_n 0, [], []), (28, .getfield 12, [2, 0, 11], []), (31, .getfield 101, [0, 2, 0], []), (34, .iload_n 2, [], []), (35, .invokestatic 111, [135, 1, 1], []), (38, .ixor, [], []), (39, .invokevirtual 257, [1, 1, 11, 149], []), (42, .ior, [], []), (43, .istore_n 1, [], []), (44, .iinc 2 1, [], [.int 1]), (47, .goto (-33), [14], []), (50, .iload_n 1, [], []), (51, .ireturn, [0], [])]
/-- 119: OneTurned.idle()I -/
def k_119 : List MIns := [(0, .aload_n 0, [], []), (1, .getfield 12, [2, 0, 11], []), (4, .aload_n 0, [], []), (5, .getfield 12, [2, 0, 11], []), (8, .getfield 101, [0, 2, 0], []), (11, .invokevirtual 178, [1, 1, 0, 16], []), (14, .istore_n 1, [], []), (15, .aload_n 0, [], []), (16, .getfield 12, [2, 0, 11], []), (19, .invokevirtual 260, [0, 1, 0, 15], []), (22, .istore_n 2, [], []), (23, .iconst 0, [], [.int 0]), (24, .istore_n 3, [], []), (25, .iload_n 3, [], []), (26, .aload_n 0, [], []), (27, .getfield 12, [2, 0, 11], []), (30, .invokevirtual 194, [0, 1, 0, 4], []), (33, .if_icmp .gt 36, [69], []), (36, .aload_n 0, [], []), (37, .getfield 12, [2, 0, 11], []), (40, .iload_n 3, [], []), (41, .iload_n 1, [], []), (42, .invokevirtual 263, [2, 1, 0, 17], []), (45, .istore 4, [], []), (47, .iload 4, [], []), (49, .invokestatic 197, [260, 1, 1], []), (52, .iconst 1, [], [.int 1]), (53, .if_icmp .ne 10, [63], []), (56, .iload_n 2, [], []), (57, .iload 4, [], []), (59, .iconst (-1), [], [.int (-1)]), (60, .ixor, [], []), (61, .iand, [], []), (62, .istore_n 2, [], []), (63, .iinc 3 1, [], [.int 1]), (66, .goto (-41), [25], []), (69, .iload_n 2, [], []), (70, .ireturn, [0], [])]
/-- 120: OneTurned.judge(I)I -/
def k_120 : List MIns := [(0, .aload_n 0, [], []), (1, .iload_n 1, [], []), (2, .invokevirtual 266, [1, 1, 11, 157], []), (5, .istore_n 2, [], []), (6, .iload_n 2, [], []), (7, .ifCond .eq 5, [12], []), (10, .iload_n 2, [], []), (11, .ireturn, [0], []), (12, .aload_n 0, [], []), (13, .getfield 12, [2, 0, 11], []), (16, .aload_n 0, [], []), (17, .getfield 12, [2, 0, 11], []), (20, .getfield 101, [0, 2, 0], []), (23, .aload_n 0, [], []), (24, .iload_n 1, [], []), (25, .invokevirtual 269, [1, 1, 11, 158], []), (28, .invokevirtual 263, [2, 1, 0, 17], []), (31, .invokestatic 272, [139, 1, 1], []), (34, .ireturn, [0], [])]
/-- 121: OneTurned.match(II)I -/
def k_121 : List MIns := [(0, .aload_n 0, [], []), (1, .iload_n 1, [], []), (2, .invokevirtual 266, [1, 1, 11, 157], []), (5, .istore_n 3, [], []), (6, .iload_n 3, [], []), (7, .ifCond .eq 5, [12], []), (10, .iload_n 3, [], []), (11, .ireturn, [0], []), (12, .iload_n 2, [], []), (13, .iconst 0, [], [.int 0]), (14, .iconst 3, [], [.int 3]), (15, .invokestatic 86, [133, 3, 1], []), (18, .ifCond .ne 6, [24], []), (21, .bipush (-7), [], [.int (-7)]), (23, .ireturn, [0], []), (24, .aload_n 0, [], []), (25, .iload_n 1, [], []), (26, .invokevirtual 269, [1, 1, 11, 158], []), (29, .istore 4, [], []), (31, .iconst 0, [], [.int 0]), (32, .istore 5, [], []), (34, .iconst (-1), [], [.int (-1)]), (35, .istore 6, [], []), (37, .aload_n 0, [], []), (38, .getfield 12, [2, 0, 11], []), (41, .invokevirtual 194, [0, 1, 0, 4], []), (44, .istore 7, [], []), (46, .iconst 0, [], [.int 0]), (47, .istore 8, [], []), (49, .iconst 0, [], [.int 0]), (50, .istore 9, [], []), (52, .iload 9, [], []), (54, .aload_n 0, [], []), (55, .getfield 12, [2, 0, 11], []), (58, .invokevirtual 194, [0, 1, 0, 4], []), (61, .if_icmp .gt 54, [115], []), (64, .aload_n 0, [], []), (65, .getfield 12, [2, 0, 11], []), (68, .iload 9, [], []), (70, .iload 4, [], []), (72, .invokevirtual 202, [2, 1, 0, 20], []), (75, .ifCond .eq 34, [109], []), (78, .iload 5, [], []), (80, .ifCond .ne 8, [88], []), (83, .iload 9, [], []), (85, .goto 5, [90], []), (88, .iload 6, [], []), (90, .istore 6, [], []), (92, .iinc 5 1, [], [.int 1]), (95, .iload 7, [], []), (97, .iload 9, [], []), (99, .iand, [], []), (100, .istore 7, [], []), (102, .iload 8, [], []), (104, .iload 9, [], []), (106, .ior, [], []), (107, .istore 8, [], []), (109, .iinc 9 1, [], [.int 1]), (112, .goto (-60), [52], []), (115, .iload_n 2, [], []), (116, .tableswitch 46 0 2 #[28, 31, 34], [162, 144, 147, 150], [.int 0, .int 1, .int 2]), (144, .iload 5, [], []), (146, .ireturn, [0], []), (147, .iload 6, [], []), (149, .ireturn, [0], []), (150, .iload 5, [], []), (152, .ifCond .ne 7, [159], []), (155, .iconst 0, [], [.int 0]), (156, .goto 5, [161], []), (159, .iload 7, [], []), (161, .ireturn, [0], []), (162, .iload 8, [], []), (164, .ireturn, [0], [])]
/-- 122: OneTurned.tells(III)I -/
def k_122 : List MIns := [(0, .aload_n 0, [], []), (1, .iload_n 1, [], []), (2, .invokevirtual 266, [1, 1, 11, 157], []), (5, .istore 4, [], []), (7, .iload 4, [], []), (9, .ifCond .eq 6, [15], []), (12, .iload 4, [], []), (14, .ireturn, [0], []), (15, .aload_n 0, [], []), (16, .getfield 12, [2, 0, 11], []), (19, .iload_n 2, [], []), (20, .invokevirtual 97, [1, 1, 0, 6], []), (23, .ifCond .eq 12, [35], []), (26, .iload_n 3, [], []), (27, .iconst 0, [], [.int 0]), (28, .iconst 1, [], [.int 1]), (29, .invokestatic 86, [133, 3, 1], []), (32, .ifCond .ne 6, [38], []), (35, .bipush (-7), [], [.int (-7)]), (37, .ireturn, [0], []), (38, .aload_n 0, [], []), (39, .iconst 0, [], [.int 0]), (40, .iload_n 2, [], []), (41, .aload_n 0, [], []), (42, .iload_n 1, [], []), (43, .invokevirtual 269, [1, 1, 11, 158], []), (46, .invokevirtual 205, [3, 1, 11, 145], []), (49, .istore 5, [], []), (51, .iload_n 3, [], []), (52, .ifCond .ne 11, [63], []), (55, .iload 5, [], []), (57, .invokestatic 208, [138, 1, 1], []), (60, .goto 5, [65], []), (63, .iload 5, [], []), (65, .ireturn, [0], [])]
/-- 123: OneTurned.film(I)I -/
def k_123 : List MIns := [(0, .aload_n 0, [], []), (1, .iload_n 1, [], []), (2, .invokevirtual 275, [1, 2, 11, 156], []), (5, .astore_n 2, [], []), (6, .aload_n 2, [], []), (7, .ifnonnull 6, [13], []), (10, .bipush (-2), [], [.int (-2)]), (12, .ireturn, [0], []), (13, .aload_n 2, [], []), (14, .iconst 2, [], [.int 2]), (15, .aload_n 0, [], []), (16, .getfield 12, [2, 0, 11], []), (19, .getfield 118, [0, 3, 0], []), (22, .invokevirtual 279, [2, 0, 7, 46], []), (25, .aload_n 0, [], []), (26, .getfield 12, [2, 0, 11], []), (29, .aload_n 0, [], []), (30, .getfield 12, [2, 0, 11], []), (33, .getfield 101, [0, 2, 0], []), (36, .invokevirtual 178, [1, 1, 0, 16], []), (39, .istore_n 3, [], []), (40, .iconst 0, [], [.int 0]), (41, .istore 4, [], []), (43, .iload 4, [], []), (45, .aload_n 0, [], []), (46, .getfield 12, [2, 0, 11], []), (49, .getfield 118, [0, 3, 0], []), (52, .if_icmp .ge 21, [73], []), (55, .aload_n 2, [], []), (56, .iload 4, [], []), (58, .iload_n 3, [], []), (59, .iload 4, [], []), (61, .invokestatic 283, [140, 2, 1], []), (64, .invokevirtual 286, [2, 0, 7, 49], []), (67, .iinc 4 1, [], [.int 1]), (70, .goto (-27), [43], []), (73, .aload_n 0, [], []), (74, .getfield 12, [2, 0, 11], []), (77, .getfield 118, [0, 3, 0], []), (80, .ireturn, [0], [])]
/-- 124: OneTurned.evening(II)I -/
def k_124 : List MIns := [(0, .iload_n 1, [], []), (1, .iconst 0, [], [.int 0]), (2, .ldc 220, [], [.int 99999]), (4, .invokestatic 86, [133, 3, 1], []), (7, .ifCond .eq 12, [19], []), (10, .iload_n 2, [], []), (11, .iconst 0, [], [.int 0]), (12, .iconst 1, [], [.int 1]), (13, .invokestatic 86, [133, 3, 1], []), (16, .ifCond .ne 6, [22], []), (19, .bipush (-2), [], [.int (-2)]), (21, .ireturn, [0], []), (22, .aload_n 0, [], []), (23, .iload_n 1, [], []), (24, .invokevirtual 289, [1, 1, 11, 159], []), (27, .istore_n 3, [], []), (28, .iload_n 2, [], []), (29, .ifCond .ne 5, [34], []), (32, .iload_n 3, [], []), (33, .ireturn, [0], []), (34, .aload_n 0, [], []), (35, .iload_n 3, [], []), (36, .invokevirtual 292, [1, 1, 11, 160], []), (39, .ifCond .eq 7, [46], []), (42, .iconst 1, [], [.int 1]), (43, .goto 4, [47], []), (46, .iconst 0, [], [.int 0]), (47, .ireturn, [0], [])]
/-- 125: OneTurned.odds(III)J -/
def k_125 : List MIns := [(0, .iload_n 1, [], []), (1, .iconst 0, [], [.int 0]), (2, .ldc 220, [], [.int 99999]), (4, .invokestatic 86, [133, 3, 1], []), (7, .ifCond .eq 22, [29], []), (10, .iload_n 2, [], []), (11, .iconst 1, [], [.int 1]), (12, .bipush 50, [], [.int 50]), (14, .invokestatic 86, [133, 3, 1], []), (17, .ifCond .eq 12, [29], []), (20, .iload_n 3, [], []), (21, .iconst 0, [], [.int 0]), (22, .iconst 1, [], [.int 1]), (23, .invokestatic 86, [133, 3, 1], []), (26, .ifCond .ne 7, [33], []), (29, .ldc2_w 248, [], [.long (-4611686018427387904)]), (32, .lreturn, [], []), (33, .iconst 0, [], [.int 0]), (34, .istore 4, [], []), (36, .iconst 0, [], [.int 0]), (37, .istore 5, [], []), (39, .iload 5, [], []), (41, .iload_n 2, [], []), (42, .if_icmp .ge 27, [69], []), (45, .aload_n 0, [], []), (46, .aload_n 0, [], []), (47, .iload_n 1, [], []), (48, .iload 5, [], []), (50, .iadd, [], []), (51, .invokevirtual 289, [1, 1, 11, 159], []), (54, .invokevirtual 292, [1, 1, 11, 160], []), (57, .ifCond .eq 6, [63], []), (60, .iinc 4 1, [], [.int 1]), (63, .iinc 5 1, [], [.int 1]), (66, .goto (-27), [39], []), (69, .iload 4, [], []), (71, .iload_n 2, [], []), (72, .iload_n 3, [], []), (73, .invokestatic 250, [142, 3, 3], []), (76, .lreturn, [], [])]
/-- 126: OneTurned.image()I -/
def k_126 : List MIns := [(0, .aload_n 0, [], []), (1, .getfield 19, [2, 1, 11], []), (4, .aload_n 0, [], []), (5, .getfield 12, [2, 0, 11], []), (8, .aload_n 0, [], []), (9, .getfield 83, [0, 5, 11], []), (12, .invokevirtual 295, [2, 0, 4, 34], []), (15, .aload_n 0, [], []), (16, .getfield 12, [2, 0, 11], []), (19, .getfield 101, [0, 2, 0], []), (22, .ireturn, [0], [])]
/-- 127: OneTurned.back()I -/
def k_127 : List MIns := [(0, .aload_n 0, [], []), (1, .getfield 19, [2, 1, 11], []), (4, .getfield 153, [0, 0, 4], []), (7, .ifCond .ne 6, [13], []), (10, .bipush (-3), [], [.int (-3)]), (12, .ireturn, [0], []), (13, .aload_n 0, [], []), (14, .getfield 12, [2, 0, 11], []), (17, .aload_n 0, [], []), (18, .getfield 19, [2, 1, 11], []), (21, .getfield 152, [0, 4, 4], []), (24, .invokevirtual 149, [1, 0, 0, 13], []), (27, .aload_n 0, [], []), (28, .getfield 12, [2, 0, 11], []), (31, .aload_n 0, [], []), (32, .getfield 19, [2, 1, 11], []), (35, .getfield 299, [0, 1, 4], []), (38, .aload_n 0, [], []), (39, .getfield 19, [2, 1, 11], []), (42, .getfield 300, [0, 2, 4], []), (45, .aload_n 0, [], []), (46, .getfield 19, [2, 1, 11], []), (49, .getfield 301, [0, 3, 4], []), (52, .invokevirtual 93, [3, 0, 0, 3], []), (55, .aload_n 0, [], []), (56, .aload_n 0, [], []), (57, .getfield 19, [2, 1, 11], []), (60, .getfield 302, [0, 5, 4], []), (63, .putfield 83, [0, 5, 11], []), (66, .aload_n 0, [], []), (67, .getfield 12, [2, 0, 11], []), (70, .getfield 101, [0, 2, 0], []), (73, .ireturn, [0], [])]
/-- 128: OneTurned.sheet(III)I -/
def k_128 : List MIns := [(0, .aload_n 0, [], []), (1, .iload_n 1, [], []), (2, .invokevirtual 275, [1, 2, 11, 156], []), (5, .astore 4, [], []), (7, .aload 4, [], []), (9, .ifnull 12, [21], []), (12, .iload_n 2, [], []), (13, .iconst (-1), [], [.int (-1)]), (14, .iconst 2, [], [.int 2]), (15, .invokestatic 86, [133, 3, 1], []), (18, .ifCond .ne 6, [24], []), (21, .bipush (-2), [], [.int (-2)]), (23, .ireturn, [0], []), (24, .iload_n 2, [], []), (25, .iconst (-1), [], [.int (-1)]), (26, .if_icmp .ne 12, [38], []), (29, .aload 4, [], []), (31, .iconst (-1), [], [.int (-1)]), (32, .iconst 0, [], [.int 0]), (33, .invokevirtual 279, [2, 0, 7, 46], []), (36, .iconst 1, [], [.int 1]), (37, .ireturn, [0], []), (38, .iload_n 3, [], []), (39, .bipush 40, [], [.int 40]), (41, .if_icmp .le 6, [47], []), (44, .bipush (-2), [], [.int (-2)]), (46, .ireturn, [0], []), (47, .iload_n 3, [], []), (48, .ifCond .ge 6, [54], []), (51, .bipush (-14), [], [.int (-14)]), (53, .ireturn, [0], []), (54, .aload 4, [], []), (56, .iload_n 2, [], []), (57, .iload_n 3, [], []), (58, .invokevirtual 279, [2, 0, 7, 46], []), (61, .iconst 1, [], [.int 1]), (62, .ireturn, [0], [])]
/-- 129: OneTurned.cell(III)I -/
def k_129 : List MIns := [(0, .aload_n 0, [], []), (1, .iload_n 1, [], []), (2, .invokevirtual 275, [1, 2, 11, 156], []), (5, .astore 4, [], []), (7, .aload 4, [], []), (9, .ifnonnull 6, [15], []), (12, .bipush (-2), [], [.int (-2)]), (14, .ireturn, [0], []), (15, .aload 4, [], []), (17, .invokevirtual 303, [0, 1, 7, 45], []), (20, .ifCond .eq 6, [26], []), (23, .bipush (-11), [], [.int (-11)]), (25, .ireturn, [0], []), (26, .iload_n 2, [], []), (27, .iconst 0, [], [.int 0]), (28, .aload 4, [], []), (30, .getfield 306, [0, 1, 7], []), (33, .iconst 1, [], [.int 1]), (34, .isub, [], []), (35, .invokestatic 86, [133, 3, 1], []), (38, .ifCond .ne 6, [44], []), (41, .bipush (-12), [], [.int (-12)]), (43, .ireturn, [0], []), (44, .aload 4, [], []), (46, .iload_n 2, [], []), (47, .iload_n 3, [], []), (48, .invokevirtual 286, [2, 0, 7, 49], []), (51, .iconst 1, [], [.int 1]), (52, .ireturn, [0], [])]
/-- 130: OneTurned.copy(IIIII)I -/
def k_130 : List MIns := [(0, .aload_n 0, [], []), (1, .iload_n 1, [], []), (2, .invokevirtual 275, [1, 2, 11, 156], []), (5, .astore 6, [], []), (7, .aload_n 0, [], []), (8, .iload_n 3, [], []), (9, .invokevirtual 275, [1, 2, 11, 156], []), (12, .astore 7, [], []), (14, .aload 6, [], []), (16, .ifnull 8, [24], []), (19, .aload 7, [], []), (21, .ifnonnull 6, [27], []), (24, .bipush (-2), [], [.int (-2)]), (26, .ireturn, [0], []), (27, .aload 6, [], []), (29, .invokevirtual 303, [0, 1, 7, 45], []), (32, .ifCond .ne 11, [43], []), (35, .aload 7, [], []), (37, .invokevirtual 303, [0, 1, 7, 45], []), (40, .ifCond .eq 6, [46], []), (43, .bipush (-11), [], [.int (-11)]), (45, .ireturn, [0], []), (46, .aload 6, [], []), (48, .getfield 307, [0, 0, 7], []), (51, .aload 7, [], []), (53, .getfield 307, [0, 0, 7], []), (56, .if_icmp .eq 6, [62], []), (59, .bipush (-13), [], [.int (-13)]), (61, .ireturn, [0], []), (62, .aload 6, [], []), (64, .iload_n 2, [], []), (65, .iload 5, [], []), (67, .invokevirtual 310, [2, 1, 7, 47], []), (70, .ifCond .eq 15, [85], []), (73, .aload 7, [], []), (75, .iload 4, [], []), (77, .iload 5, [], []), (79, .invokevirtual 310, [2, 1, 7, 47], []), (82, .ifCond .ne 6, [88], []), (85, .bipush (-12), [], [.int (-12)]), (87, .ireturn, [0], []), (88, .aload 6, [], []), (90, .getfield 313, [2, 2, 7], []), (93, .iload_n 2, [], []), (94, .aload 7, [], []), (96, .getfield 313, [2, 2, 7], []), (99, .iload 4, [], []), (101, .iload 5, [], []), (103, .invokestatic 316, [1002, 5, 0], []), (106, .iload 5, [], []), (108, .ireturn, [0], [])]
/-- 131: OneTurned.heapsBy(IIII)I -/
def k_131 : List MIns := [(0, .aload_n 0, [], []), (1, .iload_n 1, [], []), (2, .invokevirtual 275, [1, 2, 11, 156], []), (5, .astore 5, [], []), (7, .aload 5, [], []), (9, .ifnull 23, [32], []), (12, .iload_n 2, [], []), (13, .iconst 0, [], [.int 0]), (14, .iconst 2, [], [.int 2]), (15, .invokestatic 86, [133, 3, 1], []), (18, .ifCond .eq 14, [32], []), (21, .iload 4, [], []), (23, .iconst 0, [], [.int 0]), (24, .bipush 7, [], [.int 7]), (26, .invokestatic 86, [133, 3, 1], []), (29, .ifCond .ne 6, [35], []), (32, .bipush (-2), [], [.int (-2)]), (34, .ireturn, [0], []), (35, .aload 5, [], []), (37, .invokevirtual 303, [0, 1, 7, 45], []), (40, .ifCond .eq 6, [46], []), (43, .bipush (-11), [], [.int (-11)]), (45, .ireturn, [0], []), (46, .aload 5, [], []), (48, .getfield 307, [0, 0, 7], []), (51, .iload_n 2, [], []), (52, .if_icmp .eq 6, [58], []), (55, .bipush (-13), [], [.int (-13)]), (57, .ireturn, [0], []), (58, .iconst 0, [], [.int 0]), (59, .istore 6, [], []), (61, .iload_n 3, [], []), (62, .istore 7, [], []), (64, .iconst 0, [], [.int 0]), (65, .istore 8, [], []), (67, .iload 8, [], []), (69, .iload 4, [], []), (71, .if_icmp .ge 61, [132], []), (74, .aload 5, [], []), (76, .iload 7, [], []), (78, .iconst 3, [], [.int 3]), (79, .invokevirtual 310, [2, 1, 7, 47], []), (82, .ifCond .ne 6, [88], []), (85, .bipush (-12), [], [.int (-12)]), (87, .ireturn, [0], []), (88, .aload_n 0, [], []), (89, .aload 5, [], []), (91, .iload 7, [], []), (93, .invokevirtual 322, [1, 1, 7, 48], []), (96, .aload 5, [], []), (98, .iload 7, [], []), (100, .iconst 1, [], [.int 1]), (101, .iadd, [], []), (102, .invokevirtual 322, [1, 1, 7, 48], []), (105, .aload 5, [], []), (107, .iload 7, [], []), (109, .iconst 2, [], [.int 2]), (110, .iadd, [], []), (111, .invokevirtual 322, [1, 1, 7, 48], []), (114, .invokevirtual 325, [3, 1, 11, 92], []), (117, .ifCond .lt 6, [123], []), (120, .iinc 6 1, [], [.int 1]), (123, .iinc 7 3, [], [.int 3]), (126, .iinc 8 1, [], [.int 1]), (129, .goto (-62), [67], []), (132, .iload 6, [], []), (134, .ireturn, [0], [])]
/-- 132: OneTurned.taken(II)I -/
def k_132 : List MIns := [(0, .iload_n 2, [], []), (1, .iconst 0, [], [.int 0]), (2, .bipush 6, [], [.int 6]), (4, .invokestatic 86, [133, 3, 1], []), (7, .ifCond .ne 6, [13], []), (10, .bipush (-2), [], [.int (-2)]), (12, .ireturn, [0], []), (13, .iload_n 1, [], []), (14, .iconst 0, [], [.int 0]), (15, .bipush 18, [], [.int 18]), (17, .invokestatic 86, [133, 3, 1], []), (20, .ifCond .ne 6, [26], []), (23, .bipush (-12), [], [.int (-12)]), (25, .ireturn, [0], []), (26, .iload_n 1, [], []), (27, .bipush 12, [], [.int 12]), (29, .if_icmp .ge 12, [41], []), (32, .aload_n 0, [], []), (33, .iload_n 1, [], []), (34, .iload_n 2, [], []), (35, .invokevirtual 328, [2, 1, 11, 163], []), (38, .goto 12, [50], []), (41, .aload_n 0, [], []), (42, .iload_n 1, [], []), (43, .bipush 12, [], [.int 12]), (45, .isub, [], []), (46, .iload_n 2, [], []), (47, .invokevirtual 331, [2, 1, 11, 164], []), (50, .ireturn, [0], [])]
/-- 133: OneTurned.isWithin(III)Z -/
def k_133 : List MIns := [(0, .iload_n 0, [], []), (1, .iload_n 1, [], []), (2, .if_icmp .lt 12, [14], []), (5, .iload_n 0, [], []), (6, .iload_n 2, [], []), (7, .if_icmp .gt 7, [14], []), (10, .iconst 1, [], [.int 1]), (11, .goto 4, [15], []), (14, .iconst 0, [], [.int 0]), (15, .ireturn, [1], [])]
/-- 134: OneTurned.isByte(I)Z -/
def k_134 : List MIns := [(0, .iload_n 0, [], []), (1, .iconst 0, [], [.int 0]), (2, .sipush 255, [], [.int 255]), (5, .invokestatic 86, [133, 3, 1], []), (8, .ireturn, [1], [])]
/-- 135: OneTurned.bit(I)I -/
def k_135 : List MIns := [(0, .iconst 1, [], [.int 1]), (1, .iload_n 0, [], []), (2, .ishl, [], []), (3, .ireturn, [0], [])]
/-- 136: OneTurned.bitsBelow(I)I -/
def k_136 : List MIns := [(0, .iconst 1, [], [.int 1]), (1, .iload_n 0, [], []), (2, .ishl, [], []), (3, .iconst 1, [], [.int 1]), (4, .isub, [], []), (5, .ireturn, [0], [])]
/-- 137: OneTurned.hasBit(II)Z -/
def k_137 : List MIns := [(0, .iload_n 0, [], []), (1, .iload_n 1, [], []), (2, .ishr, [], []), (3, .iconst 1, [], [.int 1]), (4, .iand, [], []), (5, .ifCond .eq 7, [12], []), (8, .iconst 1, [], [.int 1]), (9, .goto 4, [13], []), (12, .iconst 0, [], [.int 0]), (13, .ireturn, [1], [])]
/-- 138: OneTurned.sizeOf(I)I -/
def k_138 : List MIns := [(0, .iload_n 0, [], []), (1, .iconst (-1), [], [.int (-1)]), (2, .if_icmp .ne 7, [9], []), (5, .iconst (-1), [], [.int (-1)]), (6, .goto 7, [13], []), (9, .iload_n 0, [], []), (10, .invokestatic 197, [260, 1, 1], []), (13, .ireturn, [0], [])]
/-- 139: OneTurned.lowestBit(I)I -/
def k_139 : List MIns := [(0, .iconst 0, [], [.int 0]), (1, .istore_n 1, [], []), (2, .iload_n 1, [], []), (3, .bipush 32, [], [.int 32]), (5, .if_icmp .ge 19, [24], []), (8, .iload_n 0, [], []), (9, .iload_n 1, [], []), (10, .invokestatic 254, [137, 2, 1], []), (13, .ifCond .eq 5, [18], []), (16, .iload_n 1, [], []), (17, .ireturn, [0], []), (18, .iinc 1 1, [], [.int 1]), (21, .goto (-19), [2], []), (24, .iconst (-1), [], [.int (-1)]), (25, .ireturn, [0], [])]
/-- 140: OneTurned.signIn(II)I -/
def k_140 : List MIns := [(0, .iload_n 0, [], []), (1, .iconst 4, [], [.int 4]), (2, .iload_n 1, [], []), (3, .imul, [], []), (4, .ishr, [], []), (5, .bipush 15, [], [.int 15]), (7, .iand, [], []), (8, .ireturn, [0], [])]
/-- 141: OneTurned.asTwo(II)I -/
def k_141 : List MIns := [(0, .bipush 100, [], [.int 100]), (2, .iload_n 0, [], []), (3, .imul, [], []), (4, .iload_n 1, [], []), (5, .iadd, [], []), (6, .ireturn, [0], [])]
/-- 142: OneTurned.inLowestTerms(III)J -/
def k_142 : List MIns := [(0, .iload_n 1, [], []), (1, .istore_n 3, [], []), (2, .iload_n 0, [], []), (3, .istore 4, [], []), (5, .iconst 0, [], [.int 0]), (6, .istore 5, [], []), (8, .iload 5, [], []), (10, .bipush 64, [], [.int 64]), (12, .if_icmp .ge 27, [39], []), (15, .iload 4, [], []), (17, .ifCond .eq 22, [39], []), (20, .iload_n 3, [], []), (21, .iload 4, [], []), (23, .irem, [], []), (24, .istore 6, [], []), (26, .iload 4, [], []), (28, .istore_n 3, [], []), (29, .iload 6, [], []), (31, .istore 4, [], []), (33, .iinc 5 1, [], [.int 1]), (36, .goto (-28), [8], []), (39, .iload_n 2, [], []), (40, .ifCond .ne 7, [47], []), (43, .iload_n 0, [], []), (44, .goto 4, [48], []), (47, .iload_n 1, [], []), (48, .istore 5, [], []), (50, .iload_n 3, [], []), (51, .ifCond .ne 9, [60], []), (54, .iload 5, [], []), (56, .i2l, [], []), (57, .goto 8, [65], []), (60, .iload 5, [], []), (62, .iload_n 3, [], []), (63, .idiv, [], []), (64, .i2l, [], []), (65, .lreturn, [], [])]
/-- 143: OneTurned.lawSays(III)I -/
def k_143 : List MIns := [(0, .aload_n 0, [], []), (1, .getfield 83, [0, 5, 11], []), (4, .iconst 0, [], [.int 0]), (5, .aload_n 0, [], []), (6, .getfield 32, [2, 3, 11], []), (9, .arraylength, [], []), (10, .iconst 1, [], [.int 1]), (11, .isub, [], []), (12, .invokestatic 86, [133, 3, 1], []), (15, .ifCond .eq 15, [30], []), (18, .aload_n 0, [], []), (19, .getfield 32, [2, 3, 11], []), (22, .aload_n 0, [], []), (23, .getfield 83, [0, 5, 11], []), (26, .aaload, [], []), (27, .goto 4, [31], []), (30, .aconst_null, [], []), (31, .astore 4, [], []), (33, .aload 4, [], []), (35, .ifnonnull 5, [40], []), (38, .iconst 0, [], [.int 0]), (39, .ireturn, [0], []), (40, .aload_n 0, [], []), (41, .getfield 50, [2, 9, 11], []), (44, .iconst 0, [], [.int 0]), (45, .iload_n 2, [], []), (46, .iastore, [], []), (47, .aload_n 0, [], []), (48, .getfield 50, [2, 9, 11], []), (51, .iconst 1, [], [.int 1]), (52, .iload_n 2, [], []), (53, .aload_n 0, [], []), (54, .getfield 12, [2, 0, 11], []), (57, .getfield 115, [0, 1, 0], []), (60, .invokestatic 334, [1, 2, 1], []), (63, .iastore, [], []), (64, .aload_n 0, [], []), (65, .getfield 50, [2, 9, 11], []), (68, .iconst 2, [], [.int 2]), (69, .iload_n 2, [], []), (70, .aload_n 0, [], []), (71, .getfield 12, [2, 0, 11], []), (74, .getfield 115, [0, 1, 0], []), (77, .invokestatic 337, [2, 2, 1], []), (80, .iastore, [], []), (81, .aload_n 0, [], []), (82, .getfield 50, [2, 9, 11], []), (85, .iconst 3, [], [.int 3]), (86, .aload_n 0, [], []), (87, .getfield 12, [2, 0, 11], []), (90, .getfield 101, [0, 2, 0], []), (93, .iload_n 2, [], []), (94, .invokestatic 254, [137, 2, 1], []), (97, .ifCond .eq 7, [104], []), (100, .iconst 1, [], [.int 1]), (101, .goto 4, [105], []), (104, .iconst 0, [], [.int 0]), (105, .iastore, [], []), (106, .aload_n 0, [], []), (107, .getfield 50, [2, 9, 11], []), (110, .iconst 4, [], [.int 4]), (111, .aload_n 0, [], []), (112, .getfield 12, [2, 0, 11], []), (115, .getfield 90, [0, 0, 0], []), (118, .iastore, [], []), (119, .aload_n 0, [], []), (120, .getfield 50, [2, 9, 11], []), (123, .iconst 5, [], [.int 5]), (124, .iload_n 3, [], []), (125, .iastore, [], []), (126, .iconst 0, [], [.int 0]), (127, .bipush 99, [], [.int 99]), (129, .aload 4, [], []), (131, .iload_n 1, [], []), (132, .aload_n 0, [], []), (133, .getfield 50, [2, 9, 11], []), (136, .aload_n 0, [], []), (137, .getfield 53, [2, 10, 11], []), (140, .invokevirtual 340, [3, 1, 5, 36], []), (143, .invokestatic 344, [1001, 2, 1], []), (146, .invokestatic 349, [1000, 2, 1], []), (149, .ireturn, [0], [])]
/-- 144: OneTurned.menders(I)I -/
def k_144 : List MIns := [(0, .iconst 0, [], [.int 0]), (1, .istore_n 2, [], []), (2, .iconst 0, [], [.int 0]), (3, .istore_n 3, [], []), (4, .iload_n 3, [], []), (5, .aload_n 0, [], []), (6, .getfield 12, [2, 0, 11], []), (9, .getfield 90, [0, 0, 0], []), (12, .if_icmp .ge 36, [48], []), (15, .iload_n 2, [], []), (16, .aload_n 0, [], []), (17, .getfield 12, [2, 0, 11], []), (20, .iload_n 1, [], []), (21, .iload_n 3, [], []), (22, .invokestatic 111, [135, 1, 1], []), (25, .ixor, [], []), (26, .invokevirtual 187, [1, 1, 0, 21], []), (29, .ifCond .eq 10, [39], []), (32, .iload_n 3, [], []), (33, .invokestatic 111, [135, 1, 1], []), (36, .goto 4, [40], []), (39, .iconst 0, [], [.int 0]), (40, .ior, [], []), (41, .istore_n 2, [], []), (42, .iinc 3 1, [], [.int 1]), (45, .goto (-41), [4], []), (48, .iload_n 2, [], []), (49, .ireturn, [0], [])]
/-- 145: OneTurned.fewest(III)I -/
def k_145 : List MIns := [(0, .iconst (-1), [], [.int (-1)]), (1, .istore 4, [], []), (3, .iload_n 1, [], []), (4, .istore 5, [], []), (6, .iload 5, [], []), (8, .iload_n 2, [], []), (9, .if_icmp .gt 74, [83], []), (12, .iload 4, [], []), (14, .iconst (-1), [], [.int (-1)]), (15, .if_icmp .eq 16, [31], []), (18, .iload 5, [], []), (20, .invokestatic 197, [260, 1, 1], []), (23, .iload 4, [], []), (25, .invokestatic 197, [260, 1, 1], []), (28, .if_icmp .ge 7, [35], []), (31, .iconst 1, [], [.int 1]), (32, .goto 4, [36], []), (35, .iconst 0, [], [.int 0]), (36, .istore 6, [], []), (38, .iload 5, [], []), (40, .iload_n 2, [], []), (41, .iconst (-1), [], [.int (-1)]), (42, .ixor, [], []), (43, .iand, [], []), (44, .ifCond .ne 33, [77], []), (47, .iload 6, [], []), (49, .ifCond .eq 28, [77], []), (52, .aload_n 0, [], []), (53, .getfield 12, [2, 0, 11], []), (56, .aload_n 0, [], []), (57, .getfield 12, [2, 0, 11], []), (60, .getfield 101, [0, 2, 0], []), (63, .iload 5, [], []), (65, .ixor, [], []), (66, .iload_n 3, [], []), (67, .invokevirtual 202, [2, 1, 0, 20], []), (70, .ifCond .eq 7, [77], []), (73, .iload 5, [], []), (75, .istore 4, [], []), (77, .iinc 5 1, [], [.int 1]), (80, .goto (-74), [6], []), (83, .iload 4, [], []), (85, .ireturn, [0], [])]
/-- 146: OneTurned.unlikeByOne()I -/
def k_146 : List MIns := [(0, .iconst 0, [], [.int 0]), (1, .istore_n 1, [], []), (2, .iconst 0, [], [.int 0]), (3, .istore_n 2, [], []), (4, .iload_n 2, [], []), (5, .aload_n 0, [], []), (6, .getfield 12, [2, 0, 11], []), (9, .getfield 90, [0, 0, 0], []), (12, .if_icmp .ge 34, [46], []), (15, .aload_n 0, [], []), (16, .iload_n 1, [], []), (17, .aload_n 0, [], []), (18, .getfield 12, [2, 0, 11], []), (21, .aload_n 0, [], []), (22, .getfield 12, [2, 0, 11], []), (25, .getfield 101, [0, 2, 0], []), (28, .iload_n 2, [], []), (29, .invokestatic 111, [135, 1, 1], []), (32, .ixor, [], []), (33, .invokevirtual 178, [1, 1, 0, 16], []), (36, .invokevirtual 217, [2, 1, 11, 148], []), (39, .istore_n 1, [], []), (40, .iinc 2 1, [], [.int 1]), (43, .goto (-39), [4], []), (46, .iload_n 1, [], []), (47, .ireturn, [0], [])]
/-- 147: OneTurned.firstAlike()I -/
def k_147 : List MIns := [(0, .iconst 0, [], [.int 0]), (1, .istore_n 1, [], []), (2, .iload_n 1, [], []), (3, .aload_n 0, [], []), (4, .getfield 12, [2, 0, 11], []), (7, .getfield 90, [0, 0, 0], []), (10, .if_icmp .ge 79, [89], []), (13, .aload_n 0, [], []), (14, .getfield 12, [2, 0, 11], []), (17, .aload_n 0, [], []), (18, .getfield 12, [2, 0, 11], []), (21, .getfield 101, [0, 2, 0], []), (24, .iload_n 1, [], []), (25, .invokestatic 111, [135, 1, 1], []), (28, .ixor, [], []), (29, .invokevirtual 178, [1, 1, 0, 16], []), (32, .istore_n 2, [], []), (33, .iload_n 1, [], []), (34, .iconst 1, [], [.int 1]), (35, .iadd, [], []), (36, .istore_n 3, [], []), (37, .iload_n 3, [], []), (38, .aload_n 0, [], []), (39, .getfield 12, [2, 0, 11], []), (42, .getfield 90, [0, 0, 0], []), (45, .if_icmp .ge 38, [83], []), (48, .aload_n 0, [], []), (49, .getfield 12, [2, 0, 11], []), (52, .aload_n 0, [], []), (53, .getfield 12, [2, 0, 11], []), (56, .getfield 101, [0, 2, 0], []), (59, .iload_n 3, [], []), (60, .invokestatic 111, [135, 1, 1], []), (63, .ixor, [], []), (64, .iload_n 2, [], []), (65, .invokevirtual 202, [2, 1, 0, 20], []), (68, .ifCond .eq 9, [77], []), (71, .iload_n 1, [], []), (72, .iload_n 3, [], []), (73, .invokestatic 190, [141, 2, 1], []), (76, .ireturn, [0], []), (77, .iinc 3 1, [], [.int 1]), (80, .goto (-43), [37], []), (83, .iinc 1 1, [], [.int 1]), (86, .goto (-84), [2], []), (89, .iconst (-1), [], [.int (-1)]), (90, .ireturn, [0], [])]
/-- 148: OneTurned.noteSigns(II)I -/
def k_148 : List MIns := [(0, .iconst 0, [], [.int 0]), (1, .istore_n 3, [], []), (2, .iload_n 3, [], []), (3, .iload_n 1, [], []), (4, .if_icmp .ge 30, [34], []), (7, .iload_n 3, [], []), (8, .aload_n 0, [], []), (9, .getfield 43, [2, 7, 11], []), (12, .arraylength, [], []), (13, .if_icmp .ge 21, [34], []), (16, .aload_n 0, [], []), (17, .getfield 43, [2, 7, 11], []), (20, .iload_n 3, [], []), (21, .iaload, [], []), (22, .iload_n 2, [], []), (23, .if_icmp .ne 5, [28], []), (26, .iload_n 1, [], []), (27, .ireturn, [0], []), (28, .iinc 3 1, [], [.int 1]), (31, .goto (-29), [2], []), (34, .iload_n 1, [], []), (35, .iconst 0, [], [.int 0]), (36, .aload_n 0, [], []), (37, .getfield 43, [2, 7, 11], []), (40, .arraylength, [], []), (41, .iconst 1, [], [.int 1]), (42, .isub, [], []), (43, .invokestatic 86, [133, 3, 1], []), (46, .ifCond .ne 5, [51], []), (49, .iload_n 1, [], []), (50, .ireturn, [0], []), (51, .aload_n 0, [], []), (52, .getfield 43, [2, 7, 11], []), (55, .iload_n 1, [], []), (56, .iload_n 2, [], []), (57, .iastore, [], []), (58, .iload_n 1, [], []), (59, .iconst 1, [], [.int 1]), (60, .iadd, [], []), (61, .ireturn, [0], [])]
/-- 149: OneTurned.onlyFailing(I)I -/
def k_149 : List MIns := [(0, .aload_n 0, [], []), (1, .getfield 12, [2, 0, 11], []), (4, .iload_n 1, [], []), (5, .invokevirtual 181, [1, 1, 0, 18], []), (8, .istore_n 2, [], []), (9, .iload_n 2, [], []), (10, .ifCond .ne 11, [21], []), (13, .aload_n 0, [], []), (14, .getfield 12, [2, 0, 11], []), (17, .invokevirtual 260, [0, 1, 0, 15], []), (20, .ireturn, [0], []), (21, .iload_n 2, [], []), (22, .invokestatic 197, [260, 1, 1], []), (25, .iconst 1, [], [.int 1]), (26, .if_icmp .ne 7, [33], []), (29, .iload_n 2, [], []), (30, .goto 4, [34], []), (33, .iconst 0, [], [.int 0]), (34, .ireturn, [0], [])]
/-- 150: OneTurned.areTwos()Z -/
def k_150 : List MIns := [(0, .aload_n 0, [], []), (1, .getfield 12, [2, 0, 11], []), (4, .getfield 90, [0, 0, 0], []), (7, .bipush 8, [], [.int 8]), (9, .if_icmp .gt 21, [30], []), (12, .aload_n 0, [], []), (13, .getfield 12, [2, 0, 11], []), (16, .getfield 90, [0, 0, 0], []), (19, .invokestatic 197, [260, 1, 1], []), (22, .iconst 1, [], [.int 1]), (23, .if_icmp .ne 7, [30], []), (26, .iconst 1, [], [.int 1]), (27, .goto 4, [31], []), (30, .iconst 0, [], [.int 0]), (31, .ireturn, [1], [])]
/-- 151: OneTurned.numbersTogether()I -/
def k_151 : List MIns := [(0, .iconst 0, [], [.int 0]), (1, .istore_n 1, [], []), (2, .iconst 0, [], [.int 0]), (3, .istore_n 2, [], []), (4, .iload_n 2, [], []), (5, .aload_n 0, [], []), (6, .getfield 12, [2, 0, 11], []), (9, .getfield 90, [0, 0, 0], []), (12, .if_icmp .ge 31, [43], []), (15, .iload_n 1, [], []), (16, .aload_n 0, [], []), (17, .getfield 12, [2, 0, 11], []), (20, .getfield 101, [0, 2, 0], []), (23, .iload_n 2, [], []), (24, .invokestatic 254, [137, 2, 1], []), (27, .ifCond .eq 7, [34], []), (30, .iload_n 2, [], []), (31, .goto 4, [35], []), (34, .iconst 0, [], [.int 0]), (35, .ixor, [], []), (36, .istore_n 1, [], []), (37, .iinc 2 1, [], [.int 1]), (40, .goto (-36), [4], []), (43, .iload_n 1, [], []), (44, .ireturn, [0], [])]
/-- 152: OneTurned.weighWays()V -/
def k_152 : List MIns := [(0, .aload_n 0, [], []), (1, .getfield 47, [2, 8, 11], []), (4, .iconst 0, [], [.int 0]), (5, .invokestatic 352, [261, 2, 0], []), (8, .aload_n 0, [], []), (9, .getfield 12, [2, 0, 11], []), (12, .invokevirtual 130, [0, 1, 0, 19], []), (15, .istore_n 1, [], []), (16, .aload_n 0, [], []), (17, .getfield 47, [2, 8, 11], []), (20, .iconst 0, [], [.int 0]), (21, .aload_n 0, [], []), (22, .getfield 12, [2, 0, 11], []), (25, .aload_n 0, [], []), (26, .getfield 12, [2, 0, 11], []), (29, .getfield 101, [0, 2, 0], []), (32, .invokevirtual 187, [1, 1, 0, 21], []), (35, .ifCond .eq 8, [43], []), (38, .bipush 100, [], [.int 100]), (40, .goto 4, [44], []), (43, .iconst 0, [], [.int 0]), (44, .iastore, [], []), (45, .iconst 0, [], [.int 0]), (46, .istore_n 2, [], []), (47, .iload_n 2, [], []), (48, .bipush 12, [], [.int 12]), (50, .if_icmp .ge 141, [191], []), (53, .aload_n 0, [], []), (54, .getfield 12, [2, 0, 11], []), (57, .iload_n 2, [], []), (58, .invokevirtual 104, [1, 1, 0, 5], []), (61, .ifCond .eq 46, [107], []), (64, .aload_n 0, [], []), (65, .getfield 12, [2, 0, 11], []), (68, .getfield 101, [0, 2, 0], []), (71, .iload_n 2, [], []), (72, .invokestatic 111, [135, 1, 1], []), (75, .ixor, [], []), (76, .istore_n 3, [], []), (77, .aload_n 0, [], []), (78, .getfield 47, [2, 8, 11], []), (81, .iconst 1, [], [.int 1]), (82, .iload_n 2, [], []), (83, .iadd, [], []), (84, .aload_n 0, [], []), (85, .getfield 12, [2, 0, 11], []), (88, .iload_n 3, [], []), (89, .invokevirtual 187, [1, 1, 0, 21], []), (92, .ifCond .eq 13, [105], []), (95, .aload_n 0, [], []), (96, .iconst 0, [], [.int 0]), (97, .iload_n 2, [], []), (98, .iload_n 1, [], []), (99, .invokevirtual 133, [3, 1, 11, 143], []), (102, .goto 4, [106], []), (105, .iconst 0, [], [.int 0]), (106, .iastore, [], []), (107, .aload_n 0, [], []), (108, .getfield 12, [2, 0, 11], []), (111, .iload_n 2, [], []), (112, .iconst 1, [], [.int 1]), (113, .iadd, [], []), (114, .invokevirtual 104, [1, 1, 0, 5], []), (117, .ifCond .eq 68, [185], []), (120, .aload_n 0, [], []), (121, .getfield 12, [2, 0, 11], []), (124, .iload_n 2, [], []), (125, .iload_n 2, [], []), (126, .iconst 1, [], [.int 1]), (127, .iadd, [], []), (128, .invokevirtual 107, [2, 1, 0, 7], []), (131, .ifCond .eq 54, [185], []), (134, .aload_n 0, [], []), (135, .getfield 12, [2, 0, 11], []), (138, .getfield 101, [0, 2, 0], []), (141, .iload_n 2, [], []), (142, .invokestatic 111, [135, 1, 1], []), (145, .ixor, [], []), (146, .iload_n 2, [], []), (147, .iconst 1, [], [.int 1]), (148, .iadd, [], []), (149, .invokestatic 111, [135, 1, 1], []), (152, .ixor, [], []), (153, .istore_n 3, [], []), (154, .aload_n 0, [], []), (155, .getfield 47, [2, 8, 11], []), (158, .bipush 21, [], [.int 21]), (160, .iload_n 2, [], []), (161, .iadd, [], []), (162, .aload_n 0, [], []), (163, .getfield 12, [2, 0, 11], []), (166, .iload_n 3, [], []), (167, .invokevirtual 187, [1, 1, 0, 21], []), (170, .ifCond .eq 13, [183], []), (173, .aload_n 0, [], []), (174, .iconst 1, [], [.int 1]), (175, .iload_n 2, [], []), (176, .iload_n 1, [], []), (177, .invokevirtual 133, [3, 1, 11, 143], []), (180, .goto 4, [184], []), (183, .iconst 0, [], [.int 0]), (184, .iastore, [], []), (185, .iinc 2 1, [], [.int 1]), (188, .goto (-141), [47], []), (191, .return_, [], [])]
/-- 153: OneTurned.likeliest()I -/
def k_153 : List MIns := [(0, .iconst (-1), [], [.int (-1)]), (1, .istore_n 1, [], []), (2, .iconst 0, [], [.int 0]), (3, .istore_n 2, [], []), (4, .iconst 0, [], [.int 0]), (5, .istore_n 3, [], []), (6, .iload_n 3, [], []), (7, .aload_n 0, [], []), (8, .getfield 47, [2, 8, 11], []), (11, .arraylength, [], []), (12, .if_icmp .ge 28, [40], []), (15, .aload_n 0, [], []), (16, .getfield 47, [2, 8, 11], []), (19, .iload_n 3, [], []), (20, .iaload, [], []), (21, .iload_n 2, [], []), (22, .if_icmp .le 12, [34], []), (25, .aload_n 0, [], []), (26, .getfield 47, [2, 8, 11], []), (29, .iload_n 3, [], []), (30, .iaload, [], []), (31, .istore_n 2, [], []), (32, .iload_n 3, [], []), (33, .istore_n 1, [], []), (34, .iinc 3 1, [], [.int 1]), (37, .goto (-31), [6], []), (40, .iload_n 1, [], []), (41, .ireturn, [0], [])]
/-- 154: OneTurned.weightOfWay(I)I -/
def k_154 : List MIns := [(0, .iload_n 1, [], []), (1, .iconst 0, [], [.int 0]), (2, .aload_n 0, [], []), (3, .getfield 47, [2, 8, 11], []), (6, .arraylength, [], []), (7, .iconst 1, [], [.int 1]), (8, .isub, [], []), (9, .invokestatic 86, [133, 3, 1], []), (12, .ifCond .eq 12, [24], []), (15, .aload_n 0, [], []), (16, .getfield 47, [2, 8, 11], []), (19, .iload_n 1, [], []), (20, .iaload, [], []), (21, .goto 4, [25], []), (24, .iconst 0, [], [.int 0]), (25, .ireturn, [0], [])]
/-- 155: OneTurned.weightOfAllWays()I -/
def k_155 : List MIns := [(0, .iconst 0, [], [.int 0]), (1, .istore_n 1, [], []), (2, .aload_n 0, [], []), (3, .getfield 47, [2, 8, 11], []), (6, .astore_n 2, [], []), (7, .aload_n 2, [], []), (8, .arraylength, [], []), (9, .istore_n 3, [], []), (10, .iconst 0, [], [.int 0]), (11, .istore 4, [], []), (13, .iload 4, [], []), (15, .iload_n 3, [], []), (16, .if_icmp .ge 20, [36], []), (19, .aload_n 2, [], []), (20, .iload 4, [], []), (22, .iaload, [], []), (23, .istore 5, [], []), (25, .iload_n 1, [], []), (26, .iload 5, [], []), (28, .iadd, [], []), (29, .istore_n 1, [], []), (30, .iinc 4 1, [], [.int 1]), (33, .goto (-20), [13], []), (36, .iload_n 1, [], []), (37, .ireturn, [0], [])]
/-- 156: OneTurned.sheetAt(I)LOneTurned$Sheet; -/
def k_156 : List MIns := [(0, .iload_n 1, [], []), (1, .iconst 0, [], [.int 0]), (2, .aload_n 0, [], []), (3, .getfield 38, [2, 6, 11], []), (6, .arraylength, [], []), (7, .iconst 1, [], [.int 1]), (8, .isub, [], []), (9, .invokestatic 86, [133, 3, 1], []), (12, .ifCond .eq 12, [24], []), (15, .aload_n 0, [], []), (16, .getfield 38, [2, 6, 11], []), (19, .iload_n 1, [], []), (20, .aaload, [], []), (21, .goto 4, [25], []), (24, .aconst_null, [], []), (25, .areturn, [], [])]
/-- 157: OneTurned.refusalOfTold(I)I -/
def k_157 : List MIns := [(0, .aload_n 0, [], []), (1, .iload_n 1, [], []), (2, .invokevirtual 275, [1, 2, 11, 156], []), (5, .astore_n 2, [], []), (6, .aload_n 2, [], []), (7, .ifnonnull 6, [13], []), (10, .bipush (-2), [], [.int (-2)]), (12, .ireturn, [0], []), (13, .aload_n 2, [], []), (14, .invokevirtual 303, [0, 1, 7, 45], []), (17, .ifCond .eq 6, [23], []), (20, .bipush (-11), [], [.int (-11)]), (22, .ireturn, [0], []), (23, .aload_n 2, [], []), (24, .getfield 306, [0, 1, 7], []), (27, .aload_n 0, [], []), (28, .getfield 12, [2, 0, 11], []), (31, .getfield 118, [0, 3, 0], []), (34, .if_icmp .ne 7, [41], []), (37, .iconst 0, [], [.int 0]), (38, .goto 5, [43], []), (41, .bipush (-2), [], [.int (-2)]), (43, .ireturn, [0], [])]
/-- 158: OneTurned.toldSigns(I)I -/
def k_158 : List MIns := [(0, .aload_n 0, [], []), (1, .iload_n 1, [], []), (2, .invokevirtual 275, [1, 2, 11, 156], []), (5, .astore_n 2, [], []), (6, .iconst 0, [], [.int 0]), (7, .istore_n 3, [], []), (8, .iconst 0, [], [.int 0]), (9, .istore 4, [], []), (11, .iload 4, [], []), (13, .aload_n 0, [], []), (14, .getfield 12, [2, 0, 11], []), (17, .getfield 118, [0, 3, 0], []), (20, .if_icmp .ge 52, [72], []), (23, .aload_n 2, [], []), (24, .ifnonnull 8, [32], []), (27, .bipush 15, [], [.int 15]), (29, .goto 9, [38], []), (32, .aload_n 2, [], []), (33, .iload 4, [], []), (35, .invokevirtual 322, [1, 1, 7, 48], []), (38, .istore 5, [], []), (40, .iload_n 3, [], []), (41, .iload 5, [], []), (43, .iconst 0, [], [.int 0]), (44, .bipush 15, [], [.int 15]), (46, .invokestatic 86, [133, 3, 1], []), (49, .ifCond .eq 8, [57], []), (52, .iload 5, [], []), (54, .goto 5, [59], []), (57, .bipush 15, [], [.int 15]), (59, .iconst 4, [], [.int 4]), (60, .iload 4, [], []), (62, .imul, [], []), (63, .ishl, [], []), (64, .ior, [], []), (65, .istore_n 3, [], []), (66, .iinc 4 1, [], [.int 1]), (69, .goto (-58), [11], []), (72, .iload_n 3, [], []), (73, .ireturn, [0], [])]
/-- 159: OneTurned.cardBy(I)I -/
def k_159 : List MIns := [(0, .iload_n 1, [], []), (1, .i2l, [], []), (2, .lconst 1, [], [.long 1]), (3, .ladd, [], []), (4, .ldc2_w 358, [], [.long 48271]), (7, .lmul, [], []), (8, .ldc2_w 360, [], [.long 2147483647]), (11, .lrem, [], []), (12, .lstore_n 2, [], []), (13, .aload_n 0, [], []), (14, .getfield 12, [2, 0, 11], []), (17, .getfield 90, [0, 0, 0], []), (20, .ifCond .le 17, [37], []), (23, .lload_n 2, [], []), (24, .aload_n 0, [], []), (25, .getfield 12, [2, 0, 11], []), (28, .getfield 90, [0, 0, 0], []), (31, .i2l, [], []), (32, .lrem, [], []), (33, .l2i, [], []), (34, .goto 4, [38], []), (37, .iconst 0, [], [.int 0]), (38, .ireturn, [0], [])]
/-- 160: OneTurned.isFound(I)Z -/
def k_160 : List MIns := [(0, .aload_n 0, [], []), (1, .aload_n 0, [], []), (2, .getfield 12, [2, 0, 11], []), (5, .getfield 101, [0, 2, 0], []), (8, .iload_n 1, [], []), (9, .invokestatic 111, [135, 1, 1], []), (12, .ixor, [], []), (13, .invokevirtual 184, [1, 1, 11, 144], []), (16, .iload_n 1, [], []), (17, .invokestatic 111, [135, 1, 1], []), (20, .if_icmp .ne 7, [27], []), (23, .iconst 1, [], [.int 1]), (24, .goto 4, [28], []), (27, .iconst 0, [], [.int 0]), (28, .ireturn, [1], [])]
/-- 161: OneTurned.newHeap(III)LOneTurned$Heap; -/
def k_161 : List MIns := [(0, .iload_n 0, [], []), (1, .tableswitch 85 1 5 #[35, 45, 55, 65, 75], [86, 36, 46, 56, 66, 76], [.int 1, .int 2, .int 3, .int 4, .int 5]), (36, .new 362, [6], [.int 0, .int 0, .int 0]), (39, .dup, [], []), (40, .iload_n 1, [], []), (41, .iload_n 2, [], []), (42, .invokespecial 364, [41, 2, 0], []), (45, .areturn, [], []), (46, .new 366, [2], [.int 0, .int 0, .int 0]), (49, .dup, [], []), (50, .iload_n 1, [], []), (51, .iload_n 2, [], []), (52, .invokespecial 368, [25, 2, 0], []), (55, .areturn, [], []), (56, .new 369, [1], [.int 0, .int 0, .int 0]), (59, .dup, [], []), (60, .iload_n 1, [], []), (61, .iload_n 2, [], []), (62, .invokespecial 371, [22, 2, 0], []), (65, .areturn, [], []), (66, .new 372, [8], [.int 0, .int 0, .int 0]), (69, .dup, [], []), (70, .iload_n 1, [], []), (71, .iload_n 2, [], []), (72, .invokespecial 374, [50, 2, 0], []), (75, .areturn, [], []), (76, .new 375, [10], [.int 0, .int 0, .int 0]), (79, .dup, [], []), (80, .iload_n 1, [], []), (81, .iload_n 2, [], []), (82, .invokespecial 377, [79, 2, 0], []), (85, .areturn, [], []), (86, .new 162, [3], [.int 0, .int 0, .int 0]), (89, .dup, [], []), (90, .iload_n 1, [], []), (91, .iload_n 2, [], []), (92, .invokespecial 378, [28, 2, 0], []), (95, .areturn, [], [])]
/-- 162: OneTurned.isOfKind(LOneTurned$Heap;I)Z -/
def k_162 : List MIns := [(0, .iload_n 1, [], []), (1, .tableswitch 66 0 5 #[39, 41, 46, 51, 56, 61], [67, 40, 42, 47, 52, 57, 62], [.int 0, .int 1, .int 2, .int 3, .int 4, .int 5]), (40, .iconst 1, [], [.int 1]), (41, .ireturn, [1], []), (42, .aload_n 0, [], []), (43, .instanceof 362, [2, 1, 6, 2, 3, 8, 10], []), (46, .ireturn, [1], []), (47, .aload_n 0, [], []), (48, .instanceof 366, [2, 2, 10, 1, 3, 6, 8], []), (51, .ireturn, [1], []), (52, .aload_n 0, [], []), (53, .instanceof 369, [1, 1, 2, 3, 6, 8, 10], []), (56, .ireturn, [1], []), (57, .aload_n 0, [], []), (58, .instanceof 372, [1, 8, 1, 2, 3, 6, 10], []), (61, .ireturn, [1], []), (62, .aload_n 0, [], []), (63, .instanceof 375, [1, 10, 1, 2, 3, 6, 8], []), (66, .ireturn, [1], []), (67, .iconst 0, [], [.int 0]), (68, .ireturn, [1], [])]
/-- 163: OneTurned.takenCard(II)I -/
def k_163 : List MIns := [(0, .aload_n 0, [], []), (1, .getfield 12, [2, 0, 11], []), (4, .iload_n 1, [], []), (5, .invokevirtual 104, [1, 1, 0, 5], []), (8, .ifCond .ne 6, [14], []), (11, .bipush (-11), [], [.int (-11)]), (13, .ireturn, [0], []), (14, .iload_n 2, [], []), (15, .bipush 6, [], [.int 6]), (17, .if_icmp .eq 6, [23], []), (20, .bipush (-13), [], [.int (-13)]), (22, .ireturn, [0], []), (23, .aload_n 0, [], []), (24, .getfield 12, [2, 0, 11], []), (27, .getfield 101, [0, 2, 0], []), (30, .iload_n 1, [], []), (31, .invokestatic 254, [137, 2, 1], []), (34, .ifCond .eq 7, [41], []), (37, .iconst 1, [], [.int 1]), (38, .goto 4, [42], []), (41, .iconst 0, [], [.int 0]), (42, .ireturn, [0], [])]
/-- 164: OneTurned.takenHeap(II)I -/
def k_164 : List MIns := [(0, .aload_n 0, [], []), (1, .getfield 12, [2, 0, 11], []), (4, .iload_n 1, [], []), (5, .invokevirtual 157, [1, 2, 0, 14], []), (8, .astore_n 3, [], []), (9, .aload_n 3, [], []), (10, .ifnonnull 6, [16], []), (13, .bipush (-11), [], [.int (-11)]), (15, .ireturn, [0], []), (16, .aload_n 3, [], []), (17, .iload_n 2, [], []), (18, .invokestatic 379, [162, 2, 1], []), (21, .ifCond .eq 7, [28], []), (24, .iload_n 1, [], []), (25, .goto 5, [30], []), (28, .bipush (-13), [], [.int (-13)]), (30, .ireturn, [0], [])]
/-- 165: OneTurnedModel.<init>()V -/
def k_165 : List MIns := [(0, .aload_n 0, [], []), (1, .invokespecial 1, [1003, 0, 0], []), (4, .aload_n 0, [], []), (5, .bipush 9, [], [.int 9]), (7, .putfield 7, [0, 0, 12], []), (10, .aload_n 0, [], []), (11, .iconst 3, [], [.int 3]), (12, .putfield 13, [0, 1, 12], []), (15, .aload_n 0, [], []), (16, .bipush 7, [], [.int 7]), (18, .newarray .int, [], []), (20, .putfield 16, [2, 4, 12], []), (23, .aload_n 0, [], []), (24, .bipush 7, [], [.int 7]), (26, .newarray .int, [], []), (28, .putfield 20, [2, 5, 12], []), (31, .aload_n 0, [], []), (32, .bipush 7, [], [.int 7]), (34, .newarray .int, [], []), (36, .putfield 23, [2, 6, 12], []), (39, .aload_n 0, [], []), (40, .sipush 160, [], [.int 160]), (43, .newarray .int, [], []), (45, .putfield 26, [2, 7, 12], []), (48, .aload_n 0, [], []), (49, .sipush 1200, [], [.int 1200]), (52, .newarray .int, [], []), (54, .putfield 29, [2, 9, 12], []), (57, .aload_n 0, [], []), (58, .bipush 24, [], [.int 24]), (60, .newarray .int, [], []), (62, .putfield 32, [2, 10, 12], []), (65, .aload_n 0, [], []), (66, .iconst 4, [], [.int 4]), (67, .newarray .int, [], []), (69, .dup, [], []), (70, .iconst 0, [], [.int 0]), (71, .iconst (-1), [], [.int (-1)]), (72, .iastore, [], []), (73, .dup, [], []), (74, .iconst 1, [], [.int 1]), (75, .iconst (-1), [], [.int (-1)]), (76, .iastore, [], []), (77, .dup, [], []), (78, .iconst 2, [], [.int 2]), (79, .iconst (-1), [], [.int (-1)]), (80, .iastore, [], []), (81, .dup, [], []), (82, .iconst 3, [], [.int 3]), (83, .iconst (-1), [], [.int (-1)]), (84, .iastore, [], []), (85, .putfield 35, [2, 19, 12], []), (88, .aload_n 0, [], []), (89, .iconst 4, [], [.int 4]), (90, .newarray .int, [], []), (92, .putfield 38, [2, 20, 12], []), (95, .aload_n 0, [], []), (96, .sipush 160, [], [.int 160]), (99, .newarray .int, [], []), (101, .putfield 41, [2, 21, 12], []), (104, .aload_n 0, [], []), (105, .bipush 37, [], [.int 37]), (107, .newarray .int, [], []), (109, .dup, [], []), (110, .iconst 0, [], [.int 0]), (111, .bipush 116, [], [.int 116]), (113, .iastore, [], []), (114, .dup, [], []), (115, .iconst 1, [], [.int 1]), (116, .bipush 117, [], [.int 117]), (118, .iastore, [], []), (119, .dup, [], []), (120, .iconst 2, [], [.int 2]), (121, .bipush 114, [], [.int 114]), (123, .iastore, [], []), (124, .dup, [], []), (125, .iconst 3, [], [.int 3]), (126, .bipush 110, [], [.int 110]), (128, .iastore, [], []), (129, .dup, [], []), (130, .iconst 4, [], [.int 4]), (131, .bipush 115, [], [.int 115]), (133, .iastore, [], []), (134, .dup, [], []), (135, .iconst 5, [], [.int 5]), (136, .bipush 32, [], [.int 32]), (138, .iastore, [], []), (139, .dup, [], []), (140, .bipush 6, [], [.int 6]), (142, .bipush 49, [], [.int 49]), (144, .iastore, [], []), (145, .dup, [], []), (146, .bipush 7, [], [.int 7]), (148, .bipush 48, [], [.int 48]), (150, .iastore, [], []), (151, .dup, [], []), (152, .bipush 8, [], [.int 8]), (154, .bipush 32, [], [.int 32]), (156, .iastore, [], []), (157, .dup, [], []), (158, .bipush 9, [], [.int 9]), (160, .bipush 59, [], [.int 59]), (162, .iastore, [], []), (163, .dup, [], []), (164, .bipush 10, [], [.int 10]), (166, .bipush 32, [], [.int 32]), (168, .iastore, [], []), (169, .dup, [], []), (170, .bipush 11, [], [.int 11]), (172, .bipush 115, [], [.int 115]), (174, .iastore, [], []), (175, .dup, [], []), (176, .bipush 12, [], [.int 12]), (178, .bipush 119, [], [.int 119]), (180, .iastore, [], []), (181, .dup, [], []), (182, .bipush 13, [], [.int 13]), (184, .bipush 97, [], [.int 97]), (186, .iastore, [], []), (187, .dup, [], []), (188, .bipush 14, [], [.int 14]), (190, .bipush 112, [], [.int 112]), (192, .iastore, [], []), (193, .dup, [], []), (194, .bipush 15, [], [.int 15]), (196, .bipush 115, [], [.int 115]), (198, .iastore, [], []), (199, .dup, [], []), (200, .bipush 16, [], [.int 16]), (202, .bipush 32, [], [.int 32]), (204, .iastore, [], []), (205, .dup, [], []), (206, .bipush 17, [], [.int 17]), (208, .bipush 53, [], [.int 53]), (210, .iastore, [], []), (211, .dup, [], []), (212, .bipush 18, [], [.int 18]), (214, .bipush 32, [], [.int 32]), (216, .iastore, [], []), (217, .dup, [], []), (218, .bipush 19, [], [.int 19]), (220, .bipush 59, [], [.int 59]), (222, .iastore, [], []), (223, .dup, [], []), (224, .bipush 20, [], [.int 20]), (226, .bipush 32, [], [.int 32]), (228, .iastore, [], []), (229, .dup, [], []), (230, .bipush 21, [], [.int 21]), (232, .bipush 108, [], [.int 108]), (234, .iastore, [], []), (235, .dup, [], []), (236, .bipush 22, [], [.int 22]), (238, .bipush 111, [], [.int 111]), (240, .iastore, [], []), (241, .dup, [], []), (242, .bipush 23, [], [.int 23]), (244, .bipush 111, [], [.int 111]), (246, .iastore, [], []), (247, .dup, [], []), (248, .bipush 24, [], [.int 24]), (250, .bipush 107, [], [.int 107]), (252, .iastore, [], []), (253, .dup, [], []), (254, .bipush 25, [], [.int 25]), (256, .bipush 115, [], [.int 115]), (258, .iastore, [], []), (259, .dup, [], []), (260, .bipush 26, [], [.int 26]), (262, .bipush 32, [], [.int 32]), (264, .iastore, [], []), (265, .dup, [], []), (266, .bipush 27, [], [.int 27]), (268, .bipush 49, [], [.int 49]), (270, .iastore, [], []), (271, .dup, [], []), (272, .bipush 28, [], [.int 28]), (274, .bipush 32, [], [.int 32]), (276, .iastore, [], []), (277, .dup, [], []), (278, .bipush 29, [], [.int 29]), (280, .bipush 43, [], [.int 43]), (282, .iastore, [], []), (283, .dup, [], []), (284, .bipush 30, [], [.int 30]), (286, .bipush 32, [], [.int 32]), (288, .iastore, [], []), (289, .dup, [], []), (290, .bipush 31, [], [.int 31]), (292, .bipush 109, [], [.int 109]), (294, .iastore, [], []), (295, .dup, [], []), (296, .bipush 32, [], [.int 32]), (298, .bipush 97, [], [.int 97]), (300, .iastore, [], []), (301, .dup, [], []), (302, .bipush 33, [], [.int 33]), (304, .bipush 110, [], [.int 110]), (306, .iastore, [], []), (307, .dup, [], []), (308, .bipush 34, [], [.int 34]), (310, .bipush 121, [], [.int 121]), (312, .iastore, [], []), (313, .dup, [], []), (314, .bipush 35, [], [.int 35]), (316, .bipush 32, [], [.int 32]), (318, .iastore, [], []), (319, .dup, [], []), (320, .bipush 36, [], [.int 36]), (322, .bipush 59, [], [.int 59]), (324, .iastore, [], []), (325, .putfield 44, [2, 22, 12], []), (328, .aload_n 0, [], []), (329, .bipush 96, [], [.int 96]), (331, .newarray .int, [], []), (333, .dup, [], []), (334, .iconst 0, [], [.int 0]), (335, .bipush 116, [], [.int 116]), (337, .iastore, [], []), (338, .dup, [], []), (339, .iconst 1, [], [.int 1]), (340, .bipush 117, [], [.int 117]), (342, .iastore, [], []), (343, .dup, [], []), (344, .iconst 2, [], [.int 2]), (345, .bipush 114, [], [.int 114]), (347, .iastore, [], []), (348, .dup, [], []), (349, .iconst 3, [], [.int 3]), (350, .bipush 110, [], [.int 110]), (352, .iastore, [], []), (353, .dup, [], []), (354, .iconst 4, [], [.int 4]), (355, .bipush 115, [], [.int 115]), (357, .iastore, [], []), (358, .dup, [], []), (359, .iconst 5, [], [.int 5]), (360, .bipush 32, [], [.int 32]), (362, .iastore, [], []), (363, .dup, [], []), (364, .bipush 6, [], [.int 6]), (366, .bipush 32, [], [.int 32]), (368, .iastore, [], []), (369, .dup, [], []), (370, .bipush 7, [], [.int 7]), (372, .bipush 32, [], [.int 32]), (374, .iastore, [], []), (375, .dup, [], []), (376, .bipush 8, [], [.int 8]), (378, .bipush 115, [], [.int 115]), (380, .iastore, [], []), (381, .dup, [], []), (382, .bipush 9, [], [.int 9]), (384, .bipush 119, [], [.int 119]), (386, .iastore, [], []), (387, .dup, [], []), (388, .bipush 10, [], [.int 10]), (390, .bipush 97, [], [.int 97]), (392, .iastore, [], []), (393, .dup, [], []), (394, .bipush 11, [], [.int 11]), (396, .bipush 112, [], [.int 112]), (398, .iastore, [], []), (399, .dup, [], []), (400, .bipush 12, [], [.int 12]), (402, .bipush 115, [], [.int 115]), (404, .iastore, [], []), (405, .dup, [], []), (406, .bipush 13, [], [.int 13]), (408, .bipush 32, [], [.int 32]), (410, .iastore, [], []), (411, .dup, [], []), (412, .bipush 14, [], [.int 14]), (414, .bipush 32, [], [.int 32]), (416, .iastore, [], []), (417, .dup, [], []), (418, .bipush 15, [], [.int 15]), (420, .bipush 32, [], [.int 32]), (422, .iastore, [], []), (423, .dup, [], []), (424, .bipush 16, [], [.int 16]), (426, .bipush 108, [], [.int 108]), (428, .iastore, [], []), (429, .dup, [], []), (430, .bipush 17, [], [.int 17]), (432, .bipush 111, [], [.int 111]), (434, .iastore, [], []), (435, .dup, [], []), (436, .bipush 18, [], [.int 18]), (438, .bipush 111, [], [.int 111]), (440, .iastore, [], []), (441, .dup, [], []), (442, .bipush 19, [], [.int 19]), (444, .bipush 107, [], [.int 107]), (446, .iastore, [], []), (447, .dup, [], []), (448, .bipush 20, [], [.int 20]), (450, .bipush 115, [], [.int 115]), (452, .iastore, [], []), (453, .dup, [], []), (454, .bipush 21, [], [.int 21]), (456, .bipush 32, [], [.int 32]), (458, .iastore, [], []), (459, .dup, [], []), (460, .bipush 22, [], [.int 22]), (462, .bipush 32, [], [.int 32]), (464, .iastore, [], []), (465, .dup, [], []), (466, .bipush 23, [], [.int 23]), (468, .bipush 32, [], [.int 32]), (470, .iastore, [], []), (471, .dup, [], []), (472, .bipush 24, [], [.int 24]), (474, .bipush 99, [], [.int 99]), (476, .iastore, [], []), (477, .dup, [], []), (478, .bipush 25, [], [.int 25]), (480, .bipush 97, [], [.int 97]), (482, .iastore, [], []), (483, .dup, [], []), (484, .bipush 26, [], [.int 26]), (486, .bipush 114, [], [.int 114]), (488, .iastore, [], []), (489, .dup, [], []), (490, .bipush 27, [], [.int 27]), (492, .bipush 100, [], [.int 100]), (494, .iastore, [], []), (495, .dup, [], []), (496, .bipush 28, [], [.int 28]), (498, .bipush 32, [], [.int 32]), (500, .iastore, [], []), (501, .dup, [], []), (502, .bipush 29, [], [.int 29]), (504, .bipush 32, [], [.int 32]), (506, .iastore, [], []), (507, .dup, [], []), (508, .bipush 30, [], [.int 30]), (510, .bipush 32, [], [.int 32]), (512, .iastore, [], []), (513, .dup, [], []), (514, .bipush 31, [], [.int 31]), (516, .bipush 32, [], [.int 32]), (518, .iastore, [], []), (519, .dup, [], []), (520, .bipush 32, [], [.int 32]), (522, .bipush 114, [], [.int 114]), (524, .iastore, [], []), (525, .dup, [], []), (526, .bipush 33, [], [.int 33]), (528, .bipush 111, [], [.int 111]), (530, .iastore, [], []), (531, .dup, [], []), (532, .bipush 34, [], [.int 34]), (534, .bipush 119, [], [.int 119]), (536, .iastore, [], []), (537, .dup, [], []), (538, .bipush 35, [], [.int 35]), (540, .bipush 32, [], [.int 32]), (542, .iastore, [], []), (543, .dup, [], []), (544, .bipush 36, [], [.int 36]), (546, .bipush 32, [], [.int 32]), (548, .iastore, [], []), (549, .dup, [], []), (550, .bipush 37, [], [.int 37]), (552, .bipush 32, [], [.int 32]), (554, .iastore, [], []), (555, .dup, [], []), (556, .bipush 38, [], [.int 38]), (558, .bipush 32, [], [.int 32]), (560, .iastore, [], []), (561, .dup, [], []), (562, .bipush 39, [], [.int 39]), (564, .bipush 32, [], [.int 32]), (566, .iastore, [], []), (567, .dup, [], []), (568, .bipush 40, [], [.int 40]), (570, .bipush 99, [], [.int 99]), (572, .iastore, [], []), (573, .dup, [], []), (574, .bipush 41, [], [.int 41]), (576, .bipush 111, [], [.int 111]), (578, .iastore, [], []), (579, .dup, [], []), (580, .bipush 42, [], [.int 42]), (582, .bipush 108, [], [.int 108]), (584, .iastore, [], []), (585, .dup, [], []), (586, .bipush 43, [], [.int 43]), (588, .bipush 117, [], [.int 117]), (590, .iastore, [], []), (591, .dup, [], []), (592, .bipush 44, [], [.int 44]), (594, .bipush 109, [], [.int 109]), (596, .iastore, [], []), (597, .dup, [], []), (598, .bipush 45, [], [.int 45]), (600, .bipush 110, [], [.int 110]), (602, .iastore, [], []), (603, .dup, [], []), (604, .bipush 46, [], [.int 46]), (606, .bipush 32, [], [.int 32]), (608, .iastore, [], []), (609, .dup, [], []), (610, .bipush 47, [], [.int 47]), (612, .bipush 32, [], [.int 32]), (614, .iastore, [], []), (615, .dup, [], []), (616, .bipush 48, [], [.int 48]), (618, .bipush 98, [], [.int 98]), (620, .iastore, [], []), (621, .dup, [], []), (622, .bipush 49, [], [.int 49]), (624, .bipush 97, [], [.int 97]), (626, .iastore, [], []), (627, .dup, [], []), (628, .bipush 50, [], [.int 50]), (630, .bipush 99, [], [.int 99]), (632, .iastore, [], []), (633, .dup, [], []), (634, .bipush 51, [], [.int 51]), (636, .bipush 107, [], [.int 107]), (638, .iastore, [], []), (639, .dup, [], []), (640, .bipush 52, [], [.int 52]), (642, .bipush 32, [], [.int 32]), (644, .iastore, [], []), (645, .dup, [], []), (646, .bipush 53, [], [.int 53]), (648, .bipush 32, [], [.int 32]), (650, .iastore, [], []), (651, .dup, [], []), (652, .bipush 54, [], [.int 54]), (654, .bipush 32, [], [.int 32]), (656, .iastore, [], []), (657, .dup, [], []), (658, .bipush 55, [], [.int 55]), (660, .bipush 32, [], [.int 32]), (662, .iastore, [], []), (663, .dup, [], []), (664, .bipush 56, [], [.int 56]), (666, .bipush 109, [], [.int 109]), (668, .iastore, [], []), (669, .dup, [], []), (670, .bipush 57, [], [.int 57]), (672, .bipush 97, [], [.int 97]), (674, .iastore, [], []), (675, .dup, [], []), (676, .bipush 58, [], [.int 58]), (678, .bipush 110, [], [.int 110]), (680, .iastore, [], []), (681, .dup, [], []), (682, .bipush 59, [], [.int 59]), (684, .bipush 121, [], [.int 121]), (686, .iastore, [], []), (687, .dup, [], []), (688, .bipush 60, [], [.int 60]), (690, .bipush 32, [], [.int 32]), (692, .iastore, [], []), (693, .dup, [], []), (694, .bipush 61, [], [.int 61]), (696, .bipush 32, [], [.int 32]), (698, .iastore, [], []), (699, .dup, [], []), (700, .bipush 62, [], [.int 62]), (702, .bipush 32, [], [.int 32]), (704, .iastore, [], []), (705, .dup, [], []), (706, .bipush 63, [], [.int 63]), (708, .bipush 32, [], [.int 32]), (710, .iastore, [], []), (711, .dup, [], []), (712, .bipush 64, [], [.int 64]), (714, .bipush 102, [], [.int 102]), (716, .iastore, [], []), (717, .dup, [], []), (718, .bipush 65, [], [.int 65]), (720, .bipush 97, [], [.int 97]), (722, .iastore, [], []), (723, .dup, [], []), (724, .bipush 66, [], [.int 66]), (726, .bipush 105, [], [.int 105]), (728, .iastore, [], []), (729, .dup, [], []), (730, .bipush 67, [], [.int 67]), (732, .bipush 108, [], [.int 108]), (734, .iastore, [], []), (735, .dup, [], []), (736, .bipush 68, [], [.int 68]), (738, .bipush 115, [], [.int 115]), (740, .iastore, [], []), (741, .dup, [], []), (742, .bipush 69, [], [.int 69]), (744, .bipush 32, [], [.int 32]), (746, .iastore, [], []), (747, .dup, [], []), (748, .bipush 70, [], [.int 70]), (750, .bipush 32, [], [.int 32]), (752, .iastore, [], []), (753, .dup, [], []), (754, .bipush 71, [], [.int 71]), (756, .bipush 32, [], [.int 32]), (758, .iastore, [], []), (759, .dup, [], []), (760, .bipush 72, [], [.int 72]), (762, .bipush 111, [], [.int 111]), (764, .iastore, [], []), (765, .dup, [], []), (766, .bipush 73, [], [.int 73]), (768, .bipush 114, [], [.int 114]), (770, .iastore, [], []), (771, .dup, [], []), (772, .bipush 74, [], [.int 74]), (774, .bipush 32, [], [.int 32]), (776, .iastore, [], []), (777, .dup, [], []), (778, .bipush 75, [], [.int 75]), (780, .bipush 32, [], [.int 32]), (782, .iastore, [], []), (783, .dup, [], []), (784, .bipush 76, [], [.int 76]), (786, .bipush 32, [], [.int 32]), (788, .iastore, [], []), (789, .dup, [], []), (790, .bipush 77, [], [.int 77]), (792, .bipush 32, [], [.int 32]), (794, .iastore, [], []), (795, .dup, [], []), (796, .bipush 78, [], [.int 78]), (798, .bipush 32, [], [.int 32]), (800, .iastore, [], []), (801, .dup, [], []), (802, .bipush 79, [], [.int 79]), (804, .bipush 32, [], [.int 32]), (806, .iastore, [], []), (807, .dup, [], []), (808, .bipush 80, [], [.int 80]), (810, .bipush 97, [], [.int 97]), (812, .iastore, [], []), (813, .dup, [], []), (814, .bipush 81, [], [.int 81]), (816, .bipush 110, [], [.int 110]), (818, .iastore, [], []), (819, .dup, [], []), (820, .bipush 82, [], [.int 82]), (822, .bipush 100, [], [.int 100]), (824, .iastore, [], []), (825, .dup, [], []), (826, .bipush 83, [], [.int 83]), (828, .bipush 32, [], [.int 32]), (830, .iastore, [], []), (831, .dup, [], []), (832, .bipush 84, [], [.int 84]), (834, .bipush 32, [], [.int 32]), (836, .iastore, [], []), (837, .dup, [], []), (838, .bipush 85, [], [.int 85]), (840, .bipush 32, [], [.int 32]), (842, .iastore, [], []), (843, .dup, [], []), (844, .bipush 86, [], [.int 86]), (846, .bipush 32, [], [.int 32]), (848, .iastore, [], []), (849, .dup, [], []), (850, .bipush 87, [], [.int 87]), (852, .bipush 32, [], [.int 32]), (854, .iastore, [], []), (855, .dup, [], []), (856, .bipush 88, [], [.int 88]), (858, .bipush 110, [], [.int 110]), (860, .iastore, [], []), (861, .dup, [], []), (862, .bipush 89, [], [.int 89]), (864, .bipush 111, [], [.int 111]), (866, .iastore, [], []), (867, .dup, [], []), (868, .bipush 90, [], [.int 90]), (870, .bipush 116, [], [.int 116]), (872, .iastore, [], []), (873, .dup, [], []), (874, .bipush 91, [], [.int 91]), (876, .bipush 32, [], [.int 32]), (878, .iastore, [], []), (879, .dup, [], []), (880, .bipush 92, [], [.int 92]), (882, .bipush 32, [], [.int 32]), (884, .iastore, [], []), (885, .dup, [], []), (886, .bipush 93, [], [.int 93]), (888, .bipush 32, [], [.int 32]), (890, .iastore, [], []), (891, .dup, [], []), (892, .bipush 94, [], [.int 94]), (894, .bipush 32, [], [.int 32]), (896, .iastore, [], []), (897, .dup, [], []), (898, .bipush 95, [], [.int 95]), (900, .bipush 32, [], [.int 32]), (902, .iastore, [], []), (903, .putfield 47, [2, 27, 12], []), (906, .aload_n 0, [], []), (907, .sipush 200, [], [.int 200]), (910, .newarray .int, [], []), (912, .putfield 50, [2, 28, 12], []), (915, .aload_n 0, [], []), (916, .sipush 200, [], [.int 200]), (919, .newarray .int, [], []), (921, .putfield 53, [2, 32, 12], []), (924, .aload_n 0, [], []), (925, .bipush 6, [], [.int 6]), (927, .newarray .int, [], []), (929, .putfield 56, [2, 33, 12], []), (932, .aload_n 0, [], []), (933, .bipush 7, [], [.int 7]), (935, .newarray .int, [], []), (937, .putfield 59, [2, 34, 12], []), (940, .aload_n 0, [], []), (941, .sipush 300, [], [.int 300]), (944, .newarray .int, [], []), (946, .putfield 62, [2, 35, 12], []), (949, .iconst 0, [], [.int 0]), (950, .istore_n 1, [], []), (951, .iload_n 1, [], []), (952, .bipush 37, [], [.int 37]), (954, .if_icmp .ge 21, [975], []), (957, .aload_n 0, [], []), (958, .getfield 26, [2, 7, 12], []), (961, .iload_n 1, [], []), (962, .aload_n 0, [], []), (963, .getfield 44, [2, 22, 12], []), (966, .iload_n 1, [], []), (967, .iaload, [], []), (968, .iastore, [], []), (969, .iinc 1 1, [], [.int 1]), (972, .goto (-21), [951], []), (975, .aload_n 0, [], []), (976, .bipush 37, [], [.int 37]), (978, .putfield 65, [0, 8, 12], []), (981, .aload_n 0, [], []), (982, .invokevirtual 68, [0, 1, 12, 190], []), (985, .pop, [], []), (986, .return_, [], [])]
/-- 166: OneTurnedModel.in(III)Z -/
def k_166 : List MIns := [(0, .iload_n 0, [], []), (1, .iload_n 1, [], []), (2, .if_icmp .lt 12, [14], []), (5, .iload_n 0, [], []), (6, .iload_n 2, [], []), (7, .if_icmp .gt 7, [14], []), (10, .iconst 1, [], [.int 1]), (11, .goto 4, [15], []), (14, .iconst 0, [], [.int 0]), (15, .ireturn, [1], [])]
/-- 167: OneTurnedModel.within(III)I -/
def k_167 : List MIns := [(0, .iload_n 0, [], []), (1, .iload_n 1, [], []), (2, .if_icmp .ge 7, [9], []), (5, .iload_n 1, [], []), (6, .goto 13, [19], []), (9, .iload_n 0, [], []), (10, .iload_n 2, [], []), (11, .if_icmp .le 7, [18], []), (14, .iload_n 2, [], []), (15, .goto 4, [19], []), (18, .iload_n 0, [], []), (19, .ireturn, [0], [])]
/-- 168: OneTurnedModel.ones(I)I -/
def k_168 : List MIns := [(0, .iconst 0, [], [.int 0]), (1, .istore_n 1, [], []), (2, .iconst 0, [], [.int 0]), (3, .istore_n 2, [], []), (4, .iload_n 2, [], []), (5, .bipush 12, [], [.int 12]), (7, .if_icmp .ge 17, [24], []), (10, .iload_n 1, [], []), (11, .iload_n 0, [], []), (12, .iload_n 2, [], []), (13, .ishr, [], []), (14, .iconst 1, [], [.int 1]), (15, .iand, [], []), (16, .iadd, [], []), (17, .istore_n 1, [], []), (18, .iinc 2 1, [], [.int 1]), (21, .goto (-17), [4], []), (24, .iload_n 1, [], []), (25, .ireturn, [0], [])]
/-- 169: OneTurnedModel.isCard(I)Z -/
def k_169 : List MIns := [(0, .iload_n 1, [], []), (1, .iconst 0, [], [.int 0]), (2, .aload_n 0, [], []), (3, .getfield 7, [0, 0, 12], []), (6, .iconst 1, [], [.int 1]), (7, .isub, [], []), (8, .invokestatic 72, [166, 3, 1], []), (11, .ireturn, [1], [])]
/-- 170: OneTurnedModel.isHeap(I)Z -/
def k_170 : List MIns := [(0, .iload_n 1, [], []), (1, .iconst 0, [], [.int 0]), (2, .aload_n 0, [], []), (3, .getfield 76, [0, 3, 12], []), (6, .iconst 1, [], [.int 1]), (7, .isub, [], []), (8, .invokestatic 72, [166, 3, 1], []), (11, .ireturn, [1], [])]
/-- 171: OneTurnedModel.allCards()I -/
def k_171 : List MIns := [(0, .iconst 1, [], [.int 1]), (1, .aload_n 0, [], []), (2, .getfield 7, [0, 0, 12], []), (5, .ishl, [], []), (6, .iconst 1, [], [.int 1]), (7, .isub, [], []), (8, .ireturn, [0], [])]
/-- 172: OneTurnedModel.isSet(I)Z -/
def k_172 : List MIns := [(0, .iload_n 1, [], []), (1, .iconst 0, [], [.int 0]), (2, .aload_n 0, [], []), (3, .invokevirtual 79, [0, 1, 12, 171], []), (6, .invokestatic 72, [166, 3, 1], []), (9, .ireturn, [1], [])]
/-- 173: OneTurnedModel.table(II)I -/
def k_173 : List MIns := [(0, .iload_n 1, [], []), (1, .iconst 1, [], [.int 1]), (2, .bipush 12, [], [.int 12]), (4, .invokestatic 72, [166, 3, 1], []), (7, .ifCond .eq 13, [20], []), (10, .iload_n 2, [], []), (11, .iconst 1, [], [.int 1]), (12, .bipush 12, [], [.int 12]), (14, .invokestatic 72, [166, 3, 1], []), (17, .ifCond .ne 6, [23], []), (20, .bipush (-2), [], [.int (-2)]), (22, .ireturn, [0], []), (23, .aload_n 0, [], []), (24, .getfield 7, [0, 0, 12], []), (27, .istore_n 3, [], []), (28, .aload_n 0, [], []), (29, .iload_n 1, [], []), (30, .putfield 7, [0, 0, 12], []), (33, .aload_n 0, [], []), (34, .iload_n 2, [], []), (35, .putfield 13, [0, 1, 12], []), (38, .aload_n 0, [], []), (39, .iconst 0, [], [.int 0]), (40, .putfield 82, [0, 2, 12], []), (43, .iload_n 3, [], []), (44, .ireturn, [0], [])]
/-- 174: OneTurnedModel.turn(I)I -/
def k_174 : List MIns := [(0, .aload_n 0, [], []), (1, .iload_n 1, [], []), (2, .invokevirtual 85, [1, 1, 12, 172], []), (5, .ifCond .ne 6, [11], []), (8, .bipush (-2), [], [.int (-2)]), (10, .ireturn, [0], []), (11, .aload_n 0, [], []), (12, .dup, [], []), (13, .getfield 82, [0, 2, 12], []), (16, .iload_n 1, [], []), (17, .ixor, [], []), (18, .putfield 82, [0, 2, 12], []), (21, .aload_n 0, [], []), (22, .getfield 82, [0, 2, 12], []), (25, .ireturn, [0], [])]
/-- 175: OneTurnedModel.swapped(III)I -/
def k_175 : List MIns := [(0, .iload_n 0, [], []), (1, .iload_n 1, [], []), (2, .ishr, [], []), (3, .iconst 1, [], [.int 1]), (4, .iand, [], []), (5, .iload_n 0, [], []), (6, .iload_n 2, [], []), (7, .ishr, [], []), (8, .iconst 1, [], [.int 1]), (9, .iand, [], []), (10, .if_icmp .ne 7, [17], []), (13, .iload_n 0, [], []), (14, .goto 12, [26], []), (17, .iload_n 0, [], []), (18, .iconst 1, [], [.int 1]), (19, .iload_n 1, [], []), (20, .ishl, [], []), (21, .iconst 1, [], [.int 1]), (22, .iload_n 2, [], []), (23, .ishl, [], []), (24, .ior, [], []), (25, .ixor, [], []), (26, .ireturn, [0], [])]
/-- 176: OneTurnedModel.swap(II)I -/
def k_176 : List MIns := [(0, .aload_n 0, [], []), (1, .iload_n 1, [], []), (2, .invokevirtual 89, [1, 1, 12, 169], []), (5, .ifCond .eq 16, [21], []), (8, .aload_n 0, [], []), (9, .iload_n 2, [], []), (10, .invokevirtual 89, [1, 1, 12, 169], []), (13, .ifCond .eq 8, [21], []), (16, .iload_n 1, [], []), (17, .iload_n 2, [], []), (18, .if_icmp .ne 6, [24], []), (21, .bipush (-5), [], [.int (-5)]), (23, .ireturn, [0], []), (24, .aload_n 0, [], []), (25, .getfield 82, [0, 2, 12], []), (28, .istore_n 3, [], []), (29, .aload_n 0, [], []), (30, .aload_n 0, [], []), (31, .getfield 82, [0, 2, 12], []), (34, .iload_n 1, [], []), (35, .iload_n 2, [], []), (36, .invokestatic 92, [175, 3, 1], []), (39, .putfield 82, [0, 2, 12], []), (42, .aload_n 0, [], []), (43, .getfield 82, [0, 2, 12], []), (46, .iload_n 3, [], []), (47, .if_icmp .ne 7, [54], []), (50, .iconst 0, [], [.int 0]), (51, .goto 4, [55], []), (54, .iconst 1, [], [.int 1]), (55, .ireturn, [0], [])]
/-- 177: OneTurnedModel.count(I)I -/
def k_177 : List MIns := [(0, .iload_n 1, [], []), (1, .tableswitch 78 0 6 #[43, 48, 53, 58, 63, 68, 73], [79, 44, 49, 54, 59, 64, 69, 74], [.int 0, .int 1, .int 2, .int 3, .int 4, .int 5, .int 6]), (44, .aload_n 0, [], []), (45, .getfield 7, [0, 0, 12], []), (48, .ireturn, [0], []), (49, .aload_n 0, [], []), (50, .getfield 13, [0, 1, 12], []), (53, .ireturn, [0], []), (54, .aload_n 0, [], []), (55, .getfield 82, [0, 2, 12], []), (58, .ireturn, [0], []), (59, .aload_n 0, [], []), (60, .getfield 76, [0, 3, 12], []), (63, .ireturn, [0], []), (64, .aload_n 0, [], []), (65, .getfield 96, [0, 11, 12], []), (68, .ireturn, [0], []), (69, .aload_n 0, [], []), (70, .getfield 99, [0, 12, 12], []), (73, .ireturn, [0], []), (74, .aload_n 0, [], []), (75, .getfield 65, [0, 8, 12], []), (78, .ireturn, [0], []), (79, .bipush (-2), [], [.int (-2)]), (81, .ireturn, [0], [])]
/-- 178: OneTurnedModel.isByte(I)Z -/
def k_178 : List MIns := [(0, .iload_n 0, [], []), (1, .iconst 0, [], [.int 0]), (2, .sipush 255, [], [.int 255]), (5, .invokestatic 72, [166, 3, 1], []), (8, .ireturn, [1], [])]
/-- 179: OneTurnedModel.feed(IIIIII)I -/
def k_179 : List MIns := [(0, .iload_n 1, [], []), (1, .iconst 1, [], [.int 1]), (2, .iconst 5, [], [.int 5]), (3, .invokestatic 72, [166, 3, 1], []), (6, .ifCond .eq 41, [47], []), (9, .iload_n 2, [], []), (10, .invokestatic 102, [178, 1, 1], []), (13, .ifCond .eq 34, [47], []), (16, .iload_n 3, [], []), (17, .invokestatic 102, [178, 1, 1], []), (20, .ifCond .eq 27, [47], []), (23, .iload 4, [], []), (25, .invokestatic 102, [178, 1, 1], []), (28, .ifCond .eq 19, [47], []), (31, .iload 5, [], []), (33, .invokestatic 102, [178, 1, 1], []), (36, .ifCond .eq 11, [47], []), (39, .iload 6, [], []), (41, .invokestatic 102, [178, 1, 1], []), (44, .ifCond .ne 6, [50], []), (47, .bipush (-2), [], [.int (-2)]), (49, .ireturn, [0], []), (50, .aload_n 0, [], []), (51, .getfield 65, [0, 8, 12], []), (54, .iload_n 1, [], []), (55, .iadd, [], []), (56, .sipush 160, [], [.int 160]), (59, .if_icmp .le 6, [65], []), (62, .bipush (-4), [], [.int (-4)]), (64, .ireturn, [0], []), (65, .iconst 0, [], [.int 0]), (66, .istore 7, [], []), (68, .iload 7, [], []), (70, .iload_n 1, [], []), (71, .if_icmp .ge 71, [142], []), (74, .aload_n 0, [], []), (75, .getfield 26, [2, 7, 12], []), (78, .aload_n 0, [], []), (79, .getfield 65, [0, 8, 12], []), (82, .iload 7, [], []), (84, .ifCond .ne 7, [91], []), (87, .iload_n 2, [], []), (88, .goto 37, [125], []), (91, .iload 7, [], []), (93, .iconst 1, [], [.int 1]), (94, .if_icmp .ne 7, [101], []), (97, .iload_n 3, [], []), (98, .goto 27, [125], []), (101, .iload 7, [], []), (103, .iconst 2, [], [.int 2]), (104, .if_icmp .ne 8, [112], []), (107, .iload 4, [], []), (109, .goto 16, [125], []), (112, .iload 7, [], []), (114, .iconst 3, [], [.int 3]), (115, .if_icmp .ne 8, [123], []), (118, .iload 5, [], []), (120, .goto 5, [125], []), (123, .iload 6, [], []), (125, .iastore, [], []), (126, .aload_n 0, [], []), (127, .dup, [], []), (128, .getfield 65, [0, 8, 12], []), (131, .iconst 1, [], [.int 1]), (132, .iadd, [], []), (133, .putfield 65, [0, 8, 12], []), (136, .iinc 7 1, [], [.int 1]), (139, .goto (-71), [68], []), (142, .aload_n 0, [], []), (143, .getfield 65, [0, 8, 12], []), (146, .ireturn, [0], [])]
/-- 180: OneTurnedModel.wordFrom(II)I -/
def k_180 : List MIns := [(0, .iconst 0, [], [.int 0]), (1, .istore_n 3, [], []), (2, .iload_n 3, [], []), (3, .bipush 12, [], [.int 12]), (5, .if_icmp .ge 96, [101], []), (8, .iload_n 2, [], []), (9, .iload_n 1, [], []), (10, .isub, [], []), (11, .bipush 8, [], [.int 8]), (13, .if_icmp .gt 7, [20], []), (16, .iconst 1, [], [.int 1]), (17, .goto 4, [21], []), (20, .iconst 0, [], [.int 0]), (21, .istore 4, [], []), (23, .iconst 0, [], [.int 0]), (24, .istore 5, [], []), (26, .iload 5, [], []), (28, .bipush 8, [], [.int 8]), (30, .if_icmp .ge 58, [88], []), (33, .iload 4, [], []), (35, .ifCond .eq 53, [88], []), (38, .aload_n 0, [], []), (39, .getfield 47, [2, 27, 12], []), (42, .bipush 8, [], [.int 8]), (44, .iload_n 3, [], []), (45, .imul, [], []), (46, .iload 5, [], []), (48, .iadd, [], []), (49, .iaload, [], []), (50, .iload_n 1, [], []), (51, .iload 5, [], []), (53, .iadd, [], []), (54, .iload_n 2, [], []), (55, .if_icmp .ge 15, [70], []), (58, .aload_n 0, [], []), (59, .getfield 26, [2, 7, 12], []), (62, .iload_n 1, [], []), (63, .iload 5, [], []), (65, .iadd, [], []), (66, .iaload, [], []), (67, .goto 5, [72], []), (70, .bipush 32, [], [.int 32]), (72, .if_icmp .ne 7, [79], []), (75, .iconst 1, [], [.int 1]), (76, .goto 4, [80], []), (79, .iconst 0, [], [.int 0]), (80, .istore 4, [], []), (82, .iinc 5 1, [], [.int 1]), (85, .goto (-59), [26], []), (88, .iload 4, [], []), (90, .ifCond .eq 5, [95], []), (93, .iload_n 3, [], []), (94, .ireturn, [0], []), (95, .iinc 3 1, [], [.int 1]), (98, .goto (-96), [2], []), (101, .bipush 12, [], [.int 12]), (103, .ireturn, [0], [])]
/-- 181: OneTurnedModel.next()V -/
def k_181 : List MIns := [(0, .aload_n 0, [], []), (1, .getfield 105, [0, 23, 12], []), (4, .aload_n 0, [], []), (5, .getfield 65, [0, 8, 12], []), (8, .if_icmp .ge 44, [52], []), (11, .aload_n 0, [], []), (12, .getfield 26, [2, 7, 12], []), (15, .aload_n 0, [], []), (16, .getfield 105, [0, 23, 12], []), (19, .iaload, [], []), (20, .bipush 32, [], [.int 32]), (22, .if_icmp .eq 17, [39], []), (25, .aload_n 0, [], []), (26, .getfield 26, [2, 7, 12], []), (29, .aload_n 0, [], []), (30, .getfield 105, [0, 23, 12], []), (33, .iaload, [], []), (34, .bipush 10, [], [.int 10]), (36, .if_icmp .ne 16, [52], []), (39, .aload_n 0, [], []), (40, .dup, [], []), (41, .getfield 105, [0, 23, 12], []), (44, .iconst 1, [], [.int 1]), (45, .iadd, [], []), (46, .putfield 105, [0, 23, 12], []), (49, .goto (-49), [0], []), (52, .aload_n 0, [], []), (53, .aload_n 0, [], []), (54, .getfield 105, [0, 23, 12], []), (57, .putfield 108, [0, 24, 12], []), (60, .aload_n 0, [], []), (61, .iconst 0, [], [.int 0]), (62, .putfield 111, [0, 25, 12], []), (65, .aload_n 0, [], []), (66, .iconst 0, [], [.int 0]), (67, .putfield 114, [0, 26, 12], []), (70, .aload_n 0, [], []), (71, .getfield 105, [0, 23, 12], []), (74, .aload_n 0, [], []), (75, .getfield 65, [0, 8, 12], []), (78, .if_icmp .ne 4, [82], []), (81, .return_, [], []), (82, .aload_n 0, [], []), (83, .getfield 26, [2, 7, 12], []), (86, .aload_n 0, [], []), (87, .getfield 105, [0, 23, 12], []), (90, .iaload, [], []), (91, .istore_n 1, [], []), (92, .iload_n 1, [], []), (93, .bipush 97, [], [.int 97]), (95, .bipush 122, [], [.int 122]), (97, .invokestatic 72, [166, 3, 1], []), (100, .ifCond .eq 117, [217], []), (103, .aload_n 0, [], []), (104, .getfield 105, [0, 23, 12], []), (107, .aload_n 0, [], []), (108, .getfield 65, [0, 8, 12], []), (111, .if_icmp .ge 35, [146], []), (114, .aload_n 0, [], []), (115, .getfield 26, [2, 7, 12], []), (118, .aload_n 0, [], []), (119, .getfield 105, [0, 23, 12], []), (122, .iaload, [], []), (123, .bipush 97, [], [.int 97]), (125, .bipush 122, [], [.int 122]), (127, .invokestatic 72, [166, 3, 1], []), (130, .ifCond .eq 16, [146], []), (133, .aload_n 0, [], []), (134, .dup, [], []), (135, .getfield 105, [0, 23, 12], []), (138, .iconst 1, [], [.int 1]), (139, .iadd, [], []), (140, .putfield 105, [0, 23, 12], []), (143, .goto (-40), [103], []), (146, .aload_n 0, [], []), (147, .aload_n 0, [], []), (148, .getfield 108, [0, 24, 12], []), (151, .aload_n 0, [], []), (152, .getfield 105, [0, 23, 12], []), (155, .invokevirtual 117, [2, 1, 12, 180], []), (158, .istore_n 2, [], []), (159, .aload_n 0, [], []), (160, .iload_n 2, [], []), (161, .iconst 3, [], [.int 3]), (162, .if_icmp .ge 7, [169], []), (165, .iconst 3, [], [.int 3]), (166, .goto 29, [195], []), (169, .iload_n 2, [], []), (170, .bipush 9, [], [.int 9]), (172, .if_icmp .ge 7, [179], []), (175, .iconst 2, [], [.int 2]), (176, .goto 19, [195], []), (179, .iload_n 2, [], []), (180, .bipush 12, [], [.int 12]), (182, .if_icmp .ne 7, [189], []), (185, .iconst (-1), [], [.int (-1)]), (186, .goto 9, [195], []), (189, .iconst 4, [], [.int 4]), (190, .iload_n 2, [], []), (191, .iadd, [], []), (192, .bipush 9, [], [.int 9]), (194, .isub, [], []), (195, .putfield 111, [0, 25, 12], []), (198, .aload_n 0, [], []), (199, .iload_n 2, [], []), (200, .iconst 3, [], [.int 3]), (201, .if_icmp .ge 7, [208], []), (204, .iload_n 2, [], []), (205, .goto 6, [211], []), (208, .iload_n 2, [], []), (209, .iconst 3, [], [.int 3]), (210, .isub, [], []), (211, .putfield 114, [0, 26, 12], []), (214, .goto 189, [403], []), (217, .iload_n 1, [], []), (218, .bipush 48, [], [.int 48]), (220, .bipush 57, [], [.int 57]), (222, .invokestatic 72, [166, 3, 1], []), (225, .ifCond .eq 101, [326], []), (228, .iconst 0, [], [.int 0]), (229, .istore_n 2, [], []), (230, .aload_n 0, [], []), (231, .getfield 105, [0, 23, 12], []), (234, .aload_n 0, [], []), (235, .getfield 65, [0, 8, 12], []), (238, .if_icmp .ge 71, [309], []), (241, .aload_n 0, [], []), (242, .getfield 26, [2, 7, 12], []), (245, .aload_n 0, [], []), (246, .getfield 105, [0, 23, 12], []), (249, .iaload, [], []), (250, .bipush 48, [], [.int 48]), (252, .bipush 57, [], [.int 57]), (254, .invokestatic 72, [166, 3, 1], []), (257, .ifCond .eq 52, [309], []), (260, .aload_n 0, [], []), (261, .iload_n 2, [], []), (262, .iconst 4, [], [.int 4]), (263, .if_icmp .ge 26, [289], []), (266, .bipush 10, [], [.int 10]), (268, .aload_n 0, [], []), (269, .getfield 114, [0, 26, 12], []), (272, .imul, [], []), (273, .aload_n 0, [], []), (274, .getfield 26, [2, 7, 12], []), (277, .aload_n 0, [], []), (278, .getfield 105, [0, 23, 12], []), (281, .iaload, [], []), (282, .iadd, [], []), (283, .bipush 48, [], [.int 48]), (285, .isub, [], []), (286, .goto 4, [290], []), (289, .iconst 0, [], [.int 0]), (290, .putfield 114, [0, 26, 12], []), (293, .iinc 2 1, [], [.int 1]), (296, .aload_n 0, [], []), (297, .dup, [], []), (298, .getfield 105, [0, 23, 12], []), (301, .iconst 1, [], [.int 1]), (302, .iadd, [], []), (303, .putfield 105, [0, 23, 12], []), (306, .goto (-76), [230], []), (309, .aload_n 0, [], []), (310, .iload_n 2, [], []), (311, .iconst 4, [], [.int 4]), (312, .if_icmp .le 7, [319], []), (315, .iconst (-1), [], [.int (-1)]), (316, .goto 4, [320], []), (319, .iconst 1, [], [.int 1]), (320, .putfield 111, [0, 25, 12], []), (323, .goto 80, [403], []), (326, .iload_n 1, [], []), (327, .bipush 40, [], [.int 40]), (329, .if_icmp .eq 45, [374], []), (332, .iload_n 1, [], []), (333, .bipush 41, [], [.int 41]), (335, .if_icmp .eq 39, [374], []), (338, .iload_n 1, [], []), (339, .bipush 59, [], [.int 59]), (341, .if_icmp .eq 33, [374], []), (344, .iload_n 1, [], []), (345, .bipush 43, [], [.int 43]), (347, .if_icmp .eq 27, [374], []), (350, .iload_n 1, [], []), (351, .bipush 45, [], [.int 45]), (353, .if_icmp .eq 21, [374], []), (356, .iload_n 1, [], []), (357, .bipush 42, [], [.int 42]), (359, .if_icmp .eq 15, [374], []), (362, .iload_n 1, [], []), (363, .bipush 60, [], [.int 60]), (365, .if_icmp .eq 9, [374], []), (368, .iload_n 1, [], []), (369, .bipush 61, [], [.int 61]), (371, .if_icmp .ne 7, [378], []), (374, .iconst 1, [], [.int 1]), (375, .goto 4, [379], []), (378, .iconst 0, [], [.int 0]), (379, .istore_n 2, [], []), (380, .aload_n 0, [], []), (381, .iload_n 2, [], []), (382, .ifCond .eq 7, [389], []), (385, .iload_n 1, [], []), (386, .goto 4, [390], []), (389, .iconst (-1), [], [.int (-1)]), (390, .putfield 111, [0, 25, 12], []), (393, .aload_n 0, [], []), (394, .dup, [], []), (395, .getfield 105, [0, 23, 12], []), (398, .iconst 1, [], [.int 1]), (399, .iadd, [], []), (400, .putfield 105, [0, 23, 12], []), (403, .return_, [], [])]
/-- 182: OneTurnedModel.rank(I)I -/
def k_182 : List MIns := [(0, .iload_n 0, [], []), (1, .ifCond .ne 7, [8], []), (4, .iconst 0, [], [.int 0]), (5, .goto 66, [71], []), (8, .iload_n 0, [], []), (9, .bipush 11, [], [.int 11]), (11, .if_icmp .ne 7, [18], []), (14, .iconst 1, [], [.int 1]), (15, .goto 56, [71], []), (18, .iload_n 0, [], []), (19, .bipush 12, [], [.int 12]), (21, .if_icmp .ne 7, [28], []), (24, .iconst 2, [], [.int 2]), (25, .goto 46, [71], []), (28, .iload_n 0, [], []), (29, .bipush 13, [], [.int 13]), (31, .if_icmp .ne 7, [38], []), (34, .iconst 3, [], [.int 3]), (35, .goto 36, [71], []), (38, .iload_n 0, [], []), (39, .bipush 15, [], [.int 15]), (41, .if_icmp .gt 7, [48], []), (44, .iconst 4, [], [.int 4]), (45, .goto 26, [71], []), (48, .iload_n 0, [], []), (49, .bipush 17, [], [.int 17]), (51, .if_icmp .gt 7, [58], []), (54, .iconst 5, [], [.int 5]), (55, .goto 16, [71], []), (58, .iload_n 0, [], []), (59, .bipush 18, [], [.int 18]), (61, .if_icmp .ne 8, [69], []), (64, .bipush 6, [], [.int 6]), (66, .goto 5, [71], []), (69, .bipush 7, [], [.int 7]), (71, .ireturn, [0], [])]
/-- 183: OneTurnedModel.puts(I)V -/
def k_183 : List MIns := [(0, .aload_n 0, [], []), (1, .getfield 29, [2, 9, 12], []), (4, .sipush 200, [], [.int 200]), (7, .aload_n 0, [], []), (8, .getfield 96, [0, 11, 12], []), (11, .imul, [], []), (12, .aload_n 0, [], []), (13, .getfield 121, [0, 31, 12], []), (16, .iadd, [], []), (17, .iload_n 1, [], []), (18, .iastore, [], []), (19, .aload_n 0, [], []), (20, .dup, [], []), (21, .getfield 121, [0, 31, 12], []), (24, .iconst 1, [], [.int 1]), (25, .iadd, [], []), (26, .putfield 121, [0, 31, 12], []), (29, .return_, [], [])]
/-- 184: OneTurnedModel.unwinds(I)V -/
def k_184 : List MIns := [(0, .aload_n 0, [], []), (1, .getfield 124, [0, 29, 12], []), (4, .ifCond .le 75, [79], []), (7, .aload_n 0, [], []), (8, .getfield 50, [2, 28, 12], []), (11, .aload_n 0, [], []), (12, .getfield 124, [0, 29, 12], []), (15, .iconst 1, [], [.int 1]), (16, .isub, [], []), (17, .iaload, [], []), (18, .invokestatic 127, [182, 1, 1], []), (21, .iload_n 1, [], []), (22, .if_icmp .lt 57, [79], []), (25, .aload_n 0, [], []), (26, .dup, [], []), (27, .getfield 124, [0, 29, 12], []), (30, .iconst 1, [], [.int 1]), (31, .isub, [], []), (32, .putfield 124, [0, 29, 12], []), (35, .aload_n 0, [], []), (36, .getfield 50, [2, 28, 12], []), (39, .aload_n 0, [], []), (40, .getfield 124, [0, 29, 12], []), (43, .iaload, [], []), (44, .istore_n 2, [], []), (45, .aload_n 0, [], []), (46, .dup, [], []), (47, .getfield 131, [0, 30, 12], []), (50, .iload_n 2, [], []), (51, .bipush 13, [], [.int 13]), (53, .if_icmp .eq 9, [62], []), (56, .iload_n 2, [], []), (57, .bipush 19, [], [.int 19]), (59, .if_icmp .ne 7, [66], []), (62, .iconst 1, [], [.int 1]), (63, .goto 4, [67], []), (66, .iconst 0, [], [.int 0]), (67, .isub, [], []), (68, .putfield 131, [0, 30, 12], []), (71, .aload_n 0, [], []), (72, .iload_n 2, [], []), (73, .invokevirtual 134, [1, 0, 12, 183], []), (76, .goto (-76), [0], []), (79, .return_, [], [])]
/-- 185: OneTurnedModel.holds(I)V -/
def k_185 : List MIns := [(0, .aload_n 0, [], []), (1, .getfield 50, [2, 28, 12], []), (4, .aload_n 0, [], []), (5, .getfield 124, [0, 29, 12], []), (8, .iload_n 1, [], []), (9, .iastore, [], []), (10, .aload_n 0, [], []), (11, .dup, [], []), (12, .getfield 124, [0, 29, 12], []), (15, .iconst 1, [], [.int 1]), (16, .iadd, [], []), (17, .putfield 124, [0, 29, 12], []), (20, .return_, [], [])]
/-- 186: OneTurnedModel.opensOne(I)Z -/
def k_186 : List MIns := [(0, .aload_n 0, [], []), (1, .getfield 131, [0, 30, 12], []), (4, .iconst 5, [], [.int 5]), (5, .if_icmp .ne 5, [10], []), (8, .iconst 0, [], [.int 0]), (9, .ireturn, [1], []), (10, .aload_n 0, [], []), (11, .dup, [], []), (12, .getfield 131, [0, 30, 12], []), (15, .iconst 1, [], [.int 1]), (16, .iadd, [], []), (17, .putfield 131, [0, 30, 12], []), (20, .aload_n 0, [], []), (21, .iload_n 1, [], []), (22, .invokevirtual 138, [1, 0, 12, 185], []), (25, .iconst 1, [], [.int 1]), (26, .ireturn, [1], [])]
/-- 187: OneTurnedModel.between(I)Z -/
def k_187 : List MIns := [(0, .aload_n 0, [], []), (1, .iload_n 1, [], []), (2, .invokestatic 127, [182, 1, 1], []), (5, .iconst 4, [], [.int 4]), (6, .if_icmp .ne 7, [13], []), (9, .iconst 5, [], [.int 5]), (10, .goto 7, [17], []), (13, .iload_n 1, [], []), (14, .invokestatic 127, [182, 1, 1], []), (17, .invokevirtual 141, [1, 0, 12, 184], []), (20, .iload_n 1, [], []), (21, .invokestatic 127, [182, 1, 1], []), (24, .iconst 4, [], [.int 4]), (25, .if_icmp .ne 30, [55], []), (28, .aload_n 0, [], []), (29, .getfield 124, [0, 29, 12], []), (32, .ifCond .le 23, [55], []), (35, .aload_n 0, [], []), (36, .getfield 50, [2, 28, 12], []), (39, .aload_n 0, [], []), (40, .getfield 124, [0, 29, 12], []), (43, .iconst 1, [], [.int 1]), (44, .isub, [], []), (45, .iaload, [], []), (46, .invokestatic 127, [182, 1, 1], []), (49, .iconst 4, [], [.int 4]), (50, .if_icmp .ne 5, [55], []), (53, .iconst 0, [], [.int 0]), (54, .ireturn, [1], []), (55, .aload_n 0, [], []), (56, .iload_n 1, [], []), (57, .invokevirtual 138, [1, 0, 12, 185], []), (60, .iconst 1, [], [.int 1]), (61, .ireturn, [1], [])]
/-- 188: OneTurnedModel.signOf()I -/
def k_188 : List MIns := [(0, .aload_n 0, [], []), (1, .getfield 111, [0, 25, 12], []), (4, .iconst 4, [], [.int 4]), (5, .if_icmp .ne 8, [13], []), (8, .bipush 11, [], [.int 11]), (10, .goto 87, [97], []), (13, .aload_n 0, [], []), (14, .getfield 111, [0, 25, 12], []), (17, .iconst 5, [], [.int 5]), (18, .if_icmp .ne 8, [26], []), (21, .bipush 12, [], [.int 12]), (23, .goto 74, [97], []), (26, .aload_n 0, [], []), (27, .getfield 111, [0, 25, 12], []), (30, .bipush 60, [], [.int 60]), (32, .if_icmp .ne 8, [40], []), (35, .bipush 14, [], [.int 14]), (37, .goto 60, [97], []), (40, .aload_n 0, [], []), (41, .getfield 111, [0, 25, 12], []), (44, .bipush 61, [], [.int 61]), (46, .if_icmp .ne 8, [54], []), (49, .bipush 15, [], [.int 15]), (51, .goto 46, [97], []), (54, .aload_n 0, [], []), (55, .getfield 111, [0, 25, 12], []), (58, .bipush 43, [], [.int 43]), (60, .if_icmp .ne 8, [68], []), (63, .bipush 16, [], [.int 16]), (65, .goto 32, [97], []), (68, .aload_n 0, [], []), (69, .getfield 111, [0, 25, 12], []), (72, .bipush 45, [], [.int 45]), (74, .if_icmp .ne 8, [82], []), (77, .bipush 17, [], [.int 17]), (79, .goto 18, [97], []), (82, .aload_n 0, [], []), (83, .getfield 111, [0, 25, 12], []), (86, .bipush 42, [], [.int 42]), (88, .if_icmp .ne 8, [96], []), (91, .bipush 18, [], [.int 18]), (93, .goto 4, [97], []), (96, .iconst (-1), [], [.int (-1)]), (97, .ireturn, [0], [])]
/-- 189: OneTurnedModel.eRead()Z -/
def k_189 : List MIns := [(0, .aload_n 0, [], []), (1, .iconst 0, [], [.int 0]), (2, .putfield 124, [0, 29, 12], []), (5, .aload_n 0, [], []), (6, .iconst 0, [], [.int 0]), (7, .putfield 131, [0, 30, 12], []), (10, .iconst 1, [], [.int 1]), (11, .istore_n 1, [], []), (12, .iconst 1, [], [.int 1]), (13, .istore_n 2, [], []), (14, .aload_n 0, [], []), (15, .invokevirtual 144, [0, 0, 12, 181], []), (18, .iload_n 1, [], []), (19, .ifCond .eq 131, [150], []), (22, .aload_n 0, [], []), (23, .getfield 111, [0, 25, 12], []), (26, .iconst 1, [], [.int 1]), (27, .if_icmp .eq 11, [38], []), (30, .aload_n 0, [], []), (31, .getfield 111, [0, 25, 12], []), (34, .iconst 2, [], [.int 2]), (35, .if_icmp .ne 40, [75], []), (38, .aload_n 0, [], []), (39, .aload_n 0, [], []), (40, .getfield 111, [0, 25, 12], []), (43, .iconst 1, [], [.int 1]), (44, .if_icmp .ne 13, [57], []), (47, .ldc 147, [], [.int 100000]), (49, .aload_n 0, [], []), (50, .getfield 114, [0, 26, 12], []), (53, .iadd, [], []), (54, .goto 7, [61], []), (57, .aload_n 0, [], []), (58, .getfield 114, [0, 26, 12], []), (61, .invokevirtual 134, [1, 0, 12, 183], []), (64, .aload_n 0, [], []), (65, .bipush 7, [], [.int 7]), (67, .invokevirtual 141, [1, 0, 12, 184], []), (70, .iconst 0, [], [.int 0]), (71, .istore_n 1, [], []), (72, .goto (-58), [14], []), (75, .aload_n 0, [], []), (76, .getfield 111, [0, 25, 12], []), (79, .bipush 6, [], [.int 6]), (81, .if_icmp .ne 18, [99], []), (84, .iload_n 2, [], []), (85, .ifCond .eq 14, [99], []), (88, .aload_n 0, [], []), (89, .bipush 13, [], [.int 13]), (91, .invokevirtual 148, [1, 1, 12, 186], []), (94, .ifCond .ne (-80), [14], []), (97, .iconst 0, [], [.int 0]), (98, .ireturn, [1], []), (99, .aload_n 0, [], []), (100, .getfield 111, [0, 25, 12], []), (103, .bipush 45, [], [.int 45]), (105, .if_icmp .ne 19, [124], []), (108, .aload_n 0, [], []), (109, .bipush 19, [], [.int 19]), (111, .invokevirtual 148, [1, 1, 12, 186], []), (114, .ifCond .ne 5, [119], []), (117, .iconst 0, [], [.int 0]), (118, .ireturn, [1], []), (119, .iconst 0, [], [.int 0]), (120, .istore_n 2, [], []), (121, .goto (-107), [14], []), (124, .aload_n 0, [], []), (125, .getfield 111, [0, 25, 12], []), (128, .bipush 40, [], [.int 40]), (130, .if_icmp .ne 18, [148], []), (133, .aload_n 0, [], []), (134, .iconst 0, [], [.int 0]), (135, .invokevirtual 148, [1, 1, 12, 186], []), (138, .ifCond .ne 5, [143], []), (141, .iconst 0, [], [.int 0]), (142, .ireturn, [1], []), (143, .iconst 1, [], [.int 1]), (144, .istore_n 2, [], []), (145, .goto (-131), [14], []), (148, .iconst 0, [], [.int 0]), (149, .ireturn, [1], []), (150, .aload_n 0, [], []), (151, .getfield 111, [0, 25, 12], []), (154, .bipush 59, [], [.int 59]), (156, .if_icmp .ne 21, [177], []), (159, .aload_n 0, [], []), (160, .iconst 1, [], [.int 1]), (161, .invokevirtual 141, [1, 0, 12, 184], []), (164, .aload_n 0, [], []), (165, .getfield 124, [0, 29, 12], []), (168, .ifCond .ne 7, [175], []), (171, .iconst 1, [], [.int 1]), (172, .goto 4, [176], []), (175, .iconst 0, [], [.int 0]), (176, .ireturn, [1], []), (177, .aload_n 0, [], []), (178, .getfield 111, [0, 25, 12], []), (181, .bipush 41, [], [.int 41]), (183, .if_icmp .ne 46, [229], []), (186, .aload_n 0, [], []), (187, .iconst 1, [], [.int 1]), (188, .invokevirtual 141, [1, 0, 12, 184], []), (191, .aload_n 0, [], []), (192, .getfield 124, [0, 29, 12], []), (195, .ifCond .ne 5, [200], []), (198, .iconst 0, [], [.int 0]), (199, .ireturn, [1], []), (200, .aload_n 0, [], []), (201, .dup, [], []), (202, .getfield 124, [0, 29, 12], []), (205, .iconst 1, [], [.int 1]), (206, .isub, [], []), (207, .putfield 124, [0, 29, 12], []), (210, .aload_n 0, [], []), (211, .dup, [], []), (212, .getfield 131, [0, 30, 12], []), (215, .iconst 1, [], [.int 1]), (216, .isub, [], []), (217, .putfield 131, [0, 30, 12], []), (220, .aload_n 0, [], []), (221, .bipush 7, [], [.int 7]), (223, .invokevirtual 141, [1, 0, 12, 184], []), (226, .goto (-212), [14], []), (229, .aload_n 0, [], []), (230, .invokevirtual 151, [0, 1, 12, 188], []), (233, .istore_n 3, [], []), (234, .iload_n 3, [], []), (235, .iconst (-1), [], [.int (-1)]), (236, .if_icmp .eq 11, [247], []), (239, .aload_n 0, [], []), (240, .iload_n 3, [], []), (241, .invokevirtual 154, [1, 1, 12, 187], []), (244, .ifCond .ne 5, [249], []), (247, .iconst 0, [], [.int 0]), (248, .ireturn, [1], []), (249, .iconst 1, [], [.int 1]), (250, .istore_n 1, [], []), (251, .iload_n 3, [], []), (252, .bipush 12, [], [.int 12]), (254, .if_icmp .gt 7, [261], []), (257, .iconst 1, [], [.int 1]), (258, .goto 4, [262], []), (261, .iconst 0, [], [.int 0]), (262, .istore_n 2, [], []), (263, .goto (-249), [14], [])]
/-- 190: OneTurnedModel.text()I -/
def k_190 : List MIns := [(0, .aload_n 0, [], []), (1, .getfield 96, [0, 11, 12], []), (4, .bipush 6, [], [.int 6]), (6, .if_icmp .ne 6, [12], []), (9, .bipush (-4), [], [.int (-4)]), (11, .ireturn, [0], []), (12, .aload_n 0, [], []), (13, .iconst 0, [], [.int 0]), (14, .putfield 105, [0, 23, 12], []), (17, .aload_n 0, [], []), (18, .iconst 0, [], [.int 0]), (19, .putfield 121, [0, 31, 12], []), (22, .iconst 1, [], [.int 1]), (23, .istore_n 1, [], []), (24, .iconst 0, [], [.int 0]), (25, .istore_n 2, [], []), (26, .iload_n 2, [], []), (27, .iconst 3, [], [.int 3]), (28, .if_icmp .ge 73, [101], []), (31, .iload_n 1, [], []), (32, .ifCond .eq 69, [101], []), (35, .aload_n 0, [], []), (36, .invokevirtual 144, [0, 0, 12, 181], []), (39, .aload_n 0, [], []), (40, .getfield 111, [0, 25, 12], []), (43, .iconst 3, [], [.int 3]), (44, .if_icmp .ne 15, [59], []), (47, .aload_n 0, [], []), (48, .getfield 114, [0, 26, 12], []), (51, .iload_n 2, [], []), (52, .if_icmp .ne 7, [59], []), (55, .iconst 1, [], [.int 1]), (56, .goto 4, [60], []), (59, .iconst 0, [], [.int 0]), (60, .istore_n 1, [], []), (61, .aload_n 0, [], []), (62, .getfield 32, [2, 10, 12], []), (65, .iconst 4, [], [.int 4]), (66, .aload_n 0, [], []), (67, .getfield 96, [0, 11, 12], []), (70, .imul, [], []), (71, .iload_n 2, [], []), (72, .iadd, [], []), (73, .aload_n 0, [], []), (74, .getfield 121, [0, 31, 12], []), (77, .iastore, [], []), (78, .iload_n 1, [], []), (79, .ifCond .eq 14, [93], []), (82, .aload_n 0, [], []), (83, .invokevirtual 157, [0, 1, 12, 189], []), (86, .ifCond .eq 7, [93], []), (89, .iconst 1, [], [.int 1]), (90, .goto 4, [94], []), (93, .iconst 0, [], [.int 0]), (94, .istore_n 1, [], []), (95, .iinc 2 1, [], [.int 1]), (98, .goto (-72), [26], []), (101, .iload_n 1, [], []), (102, .ifCond .eq 20, [122], []), (105, .aload_n 0, [], []), (106, .invokevirtual 144, [0, 0, 12, 181], []), (109, .aload_n 0, [], []), (110, .getfield 111, [0, 25, 12], []), (113, .ifCond .ne 7, [120], []), (116, .iconst 1, [], [.int 1]), (117, .goto 4, [121], []), (120, .iconst 0, [], [.int 0]), (121, .istore_n 1, [], []), (122, .aload_n 0, [], []), (123, .getfield 32, [2, 10, 12], []), (126, .iconst 4, [], [.int 4]), (127, .aload_n 0, [], []), (128, .getfield 96, [0, 11, 12], []), (131, .imul, [], []), (132, .iconst 3, [], [.int 3]), (133, .iadd, [], []), (134, .aload_n 0, [], []), (135, .getfield 121, [0, 31, 12], []), (138, .iastore, [], []), (139, .aload_n 0, [], []), (140, .iconst 0, [], [.int 0]), (141, .putfield 65, [0, 8, 12], []), (144, .iload_n 1, [], []), (145, .ifCond .ne 11, [156], []), (148, .bipush (-100), [], [.int (-100)]), (150, .aload_n 0, [], []), (151, .getfield 108, [0, 24, 12], []), (154, .isub, [], []), (155, .ireturn, [0], []), (156, .aload_n 0, [], []), (157, .dup, [], []), (158, .getfield 96, [0, 11, 12], []), (161, .iconst 1, [], [.int 1]), (162, .iadd, [], []), (163, .putfield 96, [0, 11, 12], []), (166, .aload_n 0, [], []), (167, .getfield 96, [0, 11, 12], []), (170, .iconst 1, [], [.int 1]), (171, .isub, [], []), (172, .ireturn, [0], [])]
/-- 191: OneTurnedModel.two(III)I -/
def k_191 : List MIns := [(0, .iload_n 0, [], []), (1, .tableswitch 101 11 17 #[43, 57, 101, 71, 82, 93, 97], [102, 44, 58, 102, 72, 83, 94, 98], [.int 11, .int 12, .int 13, .int 14, .int 15, .int 16, .int 17]), (44, .iload_n 1, [], []), (45, .ifCond .ne 7, [52], []), (48, .iload_n 2, [], []), (49, .ifCond .eq 7, [56], []), (52, .iconst 1, [], [.int 1]), (53, .goto 4, [57], []), (56, .iconst 0, [], [.int 0]), (57, .ireturn, [0], []), (58, .iload_n 1, [], []), (59, .ifCond .eq 11, [70], []), (62, .iload_n 2, [], []), (63, .ifCond .eq 7, [70], []), (66, .iconst 1, [], [.int 1]), (67, .goto 4, [71], []), (70, .iconst 0, [], [.int 0]), (71, .ireturn, [0], []), (72, .iload_n 1, [], []), (73, .iload_n 2, [], []), (74, .if_icmp .ge 7, [81], []), (77, .iconst 1, [], [.int 1]), (78, .goto 4, [82], []), (81, .iconst 0, [], [.int 0]), (82, .ireturn, [0], []), (83, .iload_n 1, [], []), (84, .iload_n 2, [], []), (85, .if_icmp .ne 7, [92], []), (88, .iconst 1, [], [.int 1]), (89, .goto 4, [93], []), (92, .iconst 0, [], [.int 0]), (93, .ireturn, [0], []), (94, .iload_n 1, [], []), (95, .iload_n 2, [], []), (96, .iadd, [], []), (97, .ireturn, [0], []), (98, .iload_n 1, [], []), (99, .iload_n 2, [], []), (100, .isub, [], []), (101, .ireturn, [0], []), (102, .iload_n 1, [], []), (103, .iload_n 2, [], []), (104, .imul, [], []), (105, .ireturn, [0], [])]
/-- 192: OneTurnedModel.worth(I)I -/
def k_192 : List MIns := [(0, .iconst 0, [], [.int 0]), (1, .istore_n 2, [], []), (2, .aload_n 0, [], []), (3, .getfield 32, [2, 10, 12], []), (6, .iconst 4, [], [.int 4]), (7, .aload_n 0, [], []), (8, .getfield 99, [0, 12, 12], []), (11, .imul, [], []), (12, .iload_n 1, [], []), (13, .iadd, [], []), (14, .iaload, [], []), (15, .istore_n 3, [], []), (16, .iload_n 3, [], []), (17, .aload_n 0, [], []), (18, .getfield 32, [2, 10, 12], []), (21, .iconst 4, [], [.int 4]), (22, .aload_n 0, [], []), (23, .getfield 99, [0, 12, 12], []), (26, .imul, [], []), (27, .iload_n 1, [], []), (28, .iadd, [], []), (29, .iconst 1, [], [.int 1]), (30, .iadd, [], []), (31, .iaload, [], []), (32, .if_icmp .ge 165, [197], []), (35, .aload_n 0, [], []), (36, .getfield 29, [2, 9, 12], []), (39, .sipush 200, [], [.int 200]), (42, .aload_n 0, [], []), (43, .getfield 99, [0, 12, 12], []), (46, .imul, [], []), (47, .iload_n 3, [], []), (48, .iadd, [], []), (49, .iaload, [], []), (50, .istore 4, [], []), (52, .iload 4, [], []), (54, .ldc 147, [], [.int 100000]), (56, .if_icmp .ge 10, [66], []), (59, .iload 4, [], []), (61, .bipush 11, [], [.int 11]), (63, .if_icmp .ge 37, [100], []), (66, .aload_n 0, [], []), (67, .getfield 53, [2, 32, 12], []), (70, .iload_n 2, [], []), (71, .iload 4, [], []), (73, .bipush 11, [], [.int 11]), (75, .if_icmp .ge 13, [88], []), (78, .aload_n 0, [], []), (79, .getfield 56, [2, 33, 12], []), (82, .iload 4, [], []), (84, .iaload, [], []), (85, .goto 8, [93], []), (88, .iload 4, [], []), (90, .ldc 147, [], [.int 100000]), (92, .isub, [], []), (93, .iastore, [], []), (94, .iinc 2 1, [], [.int 1]), (97, .goto 94, [191], []), (100, .iload 4, [], []), (102, .bipush 13, [], [.int 13]), (104, .if_icmp .ne 30, [134], []), (107, .aload_n 0, [], []), (108, .getfield 53, [2, 32, 12], []), (111, .iload_n 2, [], []), (112, .iconst 1, [], [.int 1]), (113, .isub, [], []), (114, .aload_n 0, [], []), (115, .getfield 53, [2, 32, 12], []), (118, .iload_n 2, [], []), (119, .iconst 1, [], [.int 1]), (120, .isub, [], []), (121, .iaload, [], []), (122, .ifCond .ne 7, [129], []), (125, .iconst 1, [], [.int 1]), (126, .goto 4, [130], []), (129, .iconst 0, [], [.int 0]), (130, .iastore, [], []), (131, .goto 60, [191], []), (134, .iload 4, [], []), (136, .bipush 19, [], [.int 19]), (138, .if_icmp .ne 23, [161], []), (141, .aload_n 0, [], []), (142, .getfield 53, [2, 32, 12], []), (145, .iload_n 2, [], []), (146, .iconst 1, [], [.int 1]), (147, .isub, [], []), (148, .aload_n 0, [], []), (149, .getfield 53, [2, 32, 12], []), (152, .iload_n 2, [], []), (153, .iconst 1, [], [.int 1]), (154, .isub, [], []), (155, .iaload, [], []), (156, .ineg, [], []), (157, .iastore, [], []), (158, .goto 33, [191], []), (161, .iinc 2 (-1), [], [.int (-1)]), (164, .aload_n 0, [], []), (165, .getfield 53, [2, 32, 12], []), (168, .iload_n 2, [], []), (169, .iconst 1, [], [.int 1]), (170, .isub, [], []), (171, .iload 4, [], []), (173, .aload_n 0, [], []), (174, .getfield 53, [2, 32, 12], []), (177, .iload_n 2, [], []), (178, .iconst 1, [], [.int 1]), (179, .isub, [], []), (180, .iaload, [], []), (181, .aload_n 0, [], []), (182, .getfield 53, [2, 32, 12], []), (185, .iload_n 2, [], []), (186, .iaload, [], []), (187, .invokestatic 161, [191, 3, 1], []), (190, .iastore, [], []), (191, .iinc 3 1, [], [.int 1]), (194, .goto (-178), [16], []), (197, .aload_n 0, [], []), (198, .getfield 53, [2, 32, 12], []), (201, .iconst 0, [], [.int 0]), (202, .iaload, [], []), (203, .ireturn, [0], [])]
/-- 193: OneTurnedModel.force(I)I -/
def k_193 : List MIns := [(0, .iload_n 1, [], []), (1, .iconst 0, [], [.int 0]), (2, .aload_n 0, [], []), (3, .getfield 96, [0, 11, 12], []), (6, .iconst 1, [], [.int 1]), (7, .isub, [], []), (8, .invokestatic 72, [166, 3, 1], []), (11, .ifCond .ne 6, [17], []), (14, .bipush (-2), [], [.int (-2)]), (16, .ireturn, [0], []), (17, .aload_n 0, [], []), (18, .getfield 99, [0, 12, 12], []), (21, .istore_n 2, [], []), (22, .aload_n 0, [], []), (23, .iload_n 1, [], []), (24, .putfield 99, [0, 12, 12], []), (27, .iload_n 2, [], []), (28, .ireturn, [0], [])]
/-- 194: OneTurnedModel.asksOf(II)I -/
def k_194 : List MIns := [(0, .aload_n 0, [], []), (1, .getfield 56, [2, 33, 12], []), (4, .iconst 0, [], [.int 0]), (5, .iload_n 2, [], []), (6, .iastore, [], []), (7, .aload_n 0, [], []), (8, .getfield 56, [2, 33, 12], []), (11, .iconst 1, [], [.int 1]), (12, .iload_n 2, [], []), (13, .aload_n 0, [], []), (14, .getfield 13, [0, 1, 12], []), (17, .idiv, [], []), (18, .iastore, [], []), (19, .aload_n 0, [], []), (20, .getfield 56, [2, 33, 12], []), (23, .iconst 2, [], [.int 2]), (24, .iload_n 2, [], []), (25, .aload_n 0, [], []), (26, .getfield 13, [0, 1, 12], []), (29, .irem, [], []), (30, .iastore, [], []), (31, .aload_n 0, [], []), (32, .getfield 56, [2, 33, 12], []), (35, .iconst 3, [], [.int 3]), (36, .aload_n 0, [], []), (37, .getfield 82, [0, 2, 12], []), (40, .iload_n 2, [], []), (41, .ishr, [], []), (42, .iconst 1, [], [.int 1]), (43, .iand, [], []), (44, .iastore, [], []), (45, .aload_n 0, [], []), (46, .getfield 56, [2, 33, 12], []), (49, .iconst 4, [], [.int 4]), (50, .aload_n 0, [], []), (51, .getfield 7, [0, 0, 12], []), (54, .iastore, [], []), (55, .aload_n 0, [], []), (56, .getfield 56, [2, 33, 12], []), (59, .iconst 5, [], [.int 5]), (60, .aload_n 0, [], []), (61, .aload_n 0, [], []), (62, .aload_n 0, [], []), (63, .getfield 82, [0, 2, 12], []), (66, .invokevirtual 164, [1, 1, 12, 202], []), (69, .invokevirtual 167, [1, 1, 12, 205], []), (72, .iastore, [], []), (73, .aload_n 0, [], []), (74, .iload_n 1, [], []), (75, .invokevirtual 170, [1, 1, 12, 192], []), (78, .iconst 0, [], [.int 0]), (79, .bipush 99, [], [.int 99]), (81, .invokestatic 173, [167, 3, 1], []), (84, .ireturn, [0], [])]
/-- 195: OneTurnedModel.asks(II)I -/
def k_195 : List MIns := [(0, .aload_n 0, [], []), (1, .iload_n 2, [], []), (2, .invokevirtual 89, [1, 1, 12, 169], []), (5, .ifCond .ne 8, [13], []), (8, .bipush (-5), [], [.int (-5)]), (10, .goto 23, [33], []), (13, .iload_n 1, [], []), (14, .iconst 0, [], [.int 0]), (15, .iconst 2, [], [.int 2]), (16, .invokestatic 72, [166, 3, 1], []), (19, .ifCond .eq 12, [31], []), (22, .aload_n 0, [], []), (23, .iload_n 1, [], []), (24, .iload_n 2, [], []), (25, .invokevirtual 176, [2, 1, 12, 194], []), (28, .goto 5, [33], []), (31, .bipush (-7), [], [.int (-7)]), (33, .ireturn, [0], [])]
/-- 196: OneTurnedModel.isMade(III)Z -/
def k_196 : List MIns := [(0, .iload_n 0, [], []), (1, .iconst 0, [], [.int 0]), (2, .iconst 5, [], [.int 5]), (3, .invokestatic 72, [166, 3, 1], []), (6, .ifCond .eq 28, [34], []), (9, .iload_n 1, [], []), (10, .iconst 0, [], [.int 0]), (11, .sipush 4095, [], [.int 4095]), (14, .invokestatic 72, [166, 3, 1], []), (17, .ifCond .eq 17, [34], []), (20, .iload_n 2, [], []), (21, .iconst 0, [], [.int 0]), (22, .bipush 9, [], [.int 9]), (24, .invokestatic 72, [166, 3, 1], []), (27, .ifCond .eq 7, [34], []), (30, .iconst 1, [], [.int 1]), (31, .goto 4, [35], []), (34, .iconst 0, [], [.int 0]), (35, .ireturn, [1], [])]
/-- 197: OneTurnedModel.heap(III)I -/
def k_197 : List MIns := [(0, .iload_n 1, [], []), (1, .iload_n 2, [], []), (2, .iload_n 3, [], []), (3, .invokestatic 179, [196, 3, 1], []), (6, .ifCond .ne 6, [12], []), (9, .bipush (-2), [], [.int (-2)]), (11, .ireturn, [0], []), (12, .aload_n 0, [], []), (13, .getfield 76, [0, 3, 12], []), (16, .bipush 7, [], [.int 7]), (18, .if_icmp .ne 6, [24], []), (21, .bipush (-4), [], [.int (-4)]), (23, .ireturn, [0], []), (24, .aload_n 0, [], []), (25, .getfield 16, [2, 4, 12], []), (28, .aload_n 0, [], []), (29, .getfield 76, [0, 3, 12], []), (32, .iload_n 1, [], []), (33, .iastore, [], []), (34, .aload_n 0, [], []), (35, .getfield 20, [2, 5, 12], []), (38, .aload_n 0, [], []), (39, .getfield 76, [0, 3, 12], []), (42, .iload_n 2, [], []), (43, .iastore, [], []), (44, .aload_n 0, [], []), (45, .getfield 23, [2, 6, 12], []), (48, .aload_n 0, [], []), (49, .getfield 76, [0, 3, 12], []), (52, .iload_n 3, [], []), (53, .iastore, [], []), (54, .aload_n 0, [], []), (55, .dup, [], []), (56, .getfield 76, [0, 3, 12], []), (59, .iconst 1, [], [.int 1]), (60, .iadd, [], []), (61, .putfield 76, [0, 3, 12], []), (64, .aload_n 0, [], []), (65, .getfield 76, [0, 3, 12], []), (68, .iconst 1, [], [.int 1]), (69, .isub, [], []), (70, .ireturn, [0], [])]
/-- 198: OneTurnedModel.drop()I -/
def k_198 : List MIns := [(0, .aload_n 0, [], []), (1, .getfield 76, [0, 3, 12], []), (4, .ifCond .ne 6, [10], []), (7, .bipush (-3), [], [.int (-3)]), (9, .ireturn, [0], []), (10, .aload_n 0, [], []), (11, .dup, [], []), (12, .getfield 76, [0, 3, 12], []), (15, .iconst 1, [], [.int 1]), (16, .isub, [], []), (17, .putfield 76, [0, 3, 12], []), (20, .aload_n 0, [], []), (21, .aload_n 0, [], []), (22, .getfield 182, [0, 13, 12], []), (25, .ifCond .eq 18, [43], []), (28, .aload_n 0, [], []), (29, .getfield 186, [0, 17, 12], []), (32, .aload_n 0, [], []), (33, .getfield 76, [0, 3, 12], []), (36, .if_icmp .gt 7, [43], []), (39, .iconst 1, [], [.int 1]), (40, .goto 4, [44], []), (43, .iconst 0, [], [.int 0]), (44, .putfield 182, [1, 13, 12], []), (47, .aload_n 0, [], []), (48, .getfield 76, [0, 3, 12], []), (51, .ireturn, [0], [])]
/-- 199: OneTurnedModel.isIn(II)Z -/
def k_199 : List MIns := [(0, .aload_n 0, [], []), (1, .getfield 20, [2, 5, 12], []), (4, .iload_n 1, [], []), (5, .iaload, [], []), (6, .iload_n 2, [], []), (7, .ishr, [], []), (8, .iconst 1, [], [.int 1]), (9, .iand, [], []), (10, .iconst 1, [], [.int 1]), (11, .if_icmp .ne 7, [18], []), (14, .iconst 1, [], [.int 1]), (15, .goto 4, [19], []), (18, .iconst 0, [], [.int 0]), (19, .istore_n 3, [], []), (20, .iload_n 2, [], []), (21, .aload_n 0, [], []), (22, .getfield 23, [2, 6, 12], []), (25, .iload_n 1, [], []), (26, .iaload, [], []), (27, .iconst 4, [], [.int 4]), (28, .irem, [], []), (29, .ishr, [], []), (30, .iconst 1, [], [.int 1]), (31, .iand, [], []), (32, .iconst 1, [], [.int 1]), (33, .if_icmp .ne 7, [40], []), (36, .iconst 1, [], [.int 1]), (37, .goto 4, [41], []), (40, .iconst 0, [], [.int 0]), (41, .istore 4, [], []), (43, .aload_n 0, [], []), (44, .getfield 16, [2, 4, 12], []), (47, .iload_n 1, [], []), (48, .iaload, [], []), (49, .tableswitch 92 1 5 #[35, 56, 59, 92, 80], [141, 84, 105, 108, 141, 129], [.int 1, .int 2, .int 3, .int 4, .int 5]), (84, .iload_n 2, [], []), (85, .aload_n 0, [], []), (86, .getfield 13, [0, 1, 12], []), (89, .idiv, [], []), (90, .aload_n 0, [], []), (91, .getfield 23, [2, 6, 12], []), (94, .iload_n 1, [], []), (95, .iaload, [], []), (96, .if_icmp .ne 7, [103], []), (99, .iconst 1, [], [.int 1]), (100, .goto 4, [104], []), (103, .iconst 0, [], [.int 0]), (104, .ireturn, [1], []), (105, .iload 4, [], []), (107, .ireturn, [1], []), (108, .iload_n 2, [], []), (109, .aload_n 0, [], []), (110, .getfield 13, [0, 1, 12], []), (113, .irem, [], []), (114, .aload_n 0, [], []), (115, .getfield 23, [2, 6, 12], []), (118, .iload_n 1, [], []), (119, .iaload, [], []), (120, .if_icmp .ne 7, [127], []), (123, .iconst 1, [], [.int 1]), (124, .goto 4, [128], []), (127, .iconst 0, [], [.int 0]), (128, .ireturn, [1], []), (129, .iload 4, [], []), (131, .iload_n 3, [], []), (132, .if_icmp .eq 7, [139], []), (135, .iconst 1, [], [.int 1]), (136, .goto 4, [140], []), (139, .iconst 0, [], [.int 0]), (140, .ireturn, [1], []), (141, .iload_n 3, [], []), (142, .ireturn, [1], [])]
/-- 200: OneTurnedModel.cardsIn(I)I -/
def k_200 : List MIns := [(0, .iconst 0, [], [.int 0]), (1, .istore_n 2, [], []), (2, .iconst 0, [], [.int 0]), (3, .istore_n 3, [], []), (4, .iload_n 3, [], []), (5, .aload_n 0, [], []), (6, .getfield 7, [0, 0, 12], []), (9, .if_icmp .ge 28, [37], []), (12, .iload_n 2, [], []), (13, .aload_n 0, [], []), (14, .iload_n 1, [], []), (15, .iload_n 3, [], []), (16, .invokevirtual 189, [2, 1, 12, 199], []), (19, .ifCond .eq 9, [28], []), (22, .iconst 1, [], [.int 1]), (23, .iload_n 3, [], []), (24, .ishl, [], []), (25, .goto 4, [29], []), (28, .iconst 0, [], [.int 0]), (29, .ior, [], []), (30, .istore_n 2, [], []), (31, .iinc 3 1, [], [.int 1]), (34, .goto (-30), [4], []), (37, .iload_n 2, [], []), (38, .ireturn, [0], [])]
/-- 201: OneTurnedModel.signOf(III)I -/
def k_201 : List MIns := [(0, .iconst 0, [], [.int 0]), (1, .istore 4, [], []), (3, .iconst 0, [], [.int 0]), (4, .istore 5, [], []), (6, .iload 5, [], []), (8, .aload_n 0, [], []), (9, .getfield 7, [0, 0, 12], []), (12, .if_icmp .ge 55, [67], []), (15, .iload 4, [], []), (17, .iload_n 2, [], []), (18, .iload_n 3, [], []), (19, .iand, [], []), (20, .iload 5, [], []), (22, .ishr, [], []), (23, .iconst 1, [], [.int 1]), (24, .iand, [], []), (25, .iadd, [], []), (26, .istore 4, [], []), (28, .iload 4, [], []), (30, .aload_n 0, [], []), (31, .getfield 16, [2, 4, 12], []), (34, .iload_n 1, [], []), (35, .iaload, [], []), (36, .iconst 4, [], [.int 4]), (37, .if_icmp .ne 20, [57], []), (40, .iload_n 2, [], []), (41, .iload_n 3, [], []), (42, .iand, [], []), (43, .iload 5, [], []), (45, .ishr, [], []), (46, .iconst 1, [], [.int 1]), (47, .iand, [], []), (48, .iconst 1, [], [.int 1]), (49, .if_icmp .ne 8, [57], []), (52, .iload 5, [], []), (54, .goto 4, [58], []), (57, .iconst 0, [], [.int 0]), (58, .iadd, [], []), (59, .istore 4, [], []), (61, .iinc 5 1, [], [.int 1]), (64, .goto (-58), [6], []), (67, .iload 4, [], []), (69, .aload_n 0, [], []), (70, .getfield 16, [2, 4, 12], []), (73, .iload_n 1, [], []), (74, .iaload, [], []), (75, .iconst 4, [], [.int 4]), (76, .if_icmp .ne 14, [90], []), (79, .aload_n 0, [], []), (80, .getfield 23, [2, 6, 12], []), (83, .iload_n 1, [], []), (84, .iaload, [], []), (85, .iconst 2, [], [.int 2]), (86, .iadd, [], []), (87, .goto 4, [91], []), (90, .iconst 2, [], [.int 2]), (91, .irem, [], []), (92, .istore 5, [], []), (94, .aload_n 0, [], []), (95, .getfield 16, [2, 4, 12], []), (98, .iload_n 1, [], []), (99, .iaload, [], []), (100, .iconst 5, [], [.int 5]), (101, .if_icmp .ne 10, [111], []), (104, .iconst 1, [], [.int 1]), (105, .iload 5, [], []), (107, .isub, [], []), (108, .goto 5, [113], []), (111, .iload 5, [], []), (113, .ireturn, [0], [])]
/-- 202: OneTurnedModel.signsOf(I)I -/
def k_202 : List MIns := [(0, .iconst 0, [], [.int 0]), (1, .istore_n 2, [], []), (2, .iconst 0, [], [.int 0]), (3, .istore_n 3, [], []), (4, .iload_n 3, [], []), (5, .aload_n 0, [], []), (6, .getfield 76, [0, 3, 12], []), (9, .if_icmp .ge 27, [36], []), (12, .iload_n 2, [], []), (13, .aload_n 0, [], []), (14, .iload_n 3, [], []), (15, .aload_n 0, [], []), (16, .iload_n 3, [], []), (17, .invokevirtual 193, [1, 1, 12, 200], []), (20, .iload_n 1, [], []), (21, .invokevirtual 196, [3, 1, 12, 201], []), (24, .iconst 4, [], [.int 4]), (25, .iload_n 3, [], []), (26, .imul, [], []), (27, .ishl, [], []), (28, .ior, [], []), (29, .istore_n 2, [], []), (30, .iinc 3 1, [], [.int 1]), (33, .goto (-29), [4], []), (36, .iload_n 2, [], []), (37, .ireturn, [0], [])]
/-- 203: OneTurnedModel.looksAt()V -/
def k_203 : List MIns := [(0, .iconst 0, [], [.int 0]), (1, .istore_n 1, [], []), (2, .iload_n 1, [], []), (3, .aload_n 0, [], []), (4, .getfield 76, [0, 3, 12], []), (7, .if_icmp .ge 20, [27], []), (10, .aload_n 0, [], []), (11, .getfield 59, [2, 34, 12], []), (14, .iload_n 1, [], []), (15, .aload_n 0, [], []), (16, .iload_n 1, [], []), (17, .invokevirtual 193, [1, 1, 12, 200], []), (20, .iastore, [], []), (21, .iinc 1 1, [], [.int 1]), (24, .goto (-22), [2], []), (27, .return_, [], [])]
/-- 204: OneTurnedModel.quick(I)I -/
def k_204 : List MIns := [(0, .iconst 0, [], [.int 0]), (1, .istore_n 2, [], []), (2, .iconst 0, [], [.int 0]), (3, .istore_n 3, [], []), (4, .iload_n 3, [], []), (5, .aload_n 0, [], []), (6, .getfield 76, [0, 3, 12], []), (9, .if_icmp .ge 28, [37], []), (12, .iload_n 2, [], []), (13, .aload_n 0, [], []), (14, .iload_n 3, [], []), (15, .aload_n 0, [], []), (16, .getfield 59, [2, 34, 12], []), (19, .iload_n 3, [], []), (20, .iaload, [], []), (21, .iload_n 1, [], []), (22, .invokevirtual 196, [3, 1, 12, 201], []), (25, .iconst 4, [], [.int 4]), (26, .iload_n 3, [], []), (27, .imul, [], []), (28, .ishl, [], []), (29, .ior, [], []), (30, .istore_n 2, [], []), (31, .iinc 3 1, [], [.int 1]), (34, .goto (-30), [4], []), (37, .iload_n 2, [], []), (38, .ireturn, [0], [])]
/-- 205: OneTurnedModel.failing(I)I -/
def k_205 : List MIns := [(0, .iconst 0, [], [.int 0]), (1, .istore_n 2, [], []), (2, .iconst 0, [], [.int 0]), (3, .istore_n 3, [], []), (4, .iload_n 3, [], []), (5, .aload_n 0, [], []), (6, .getfield 76, [0, 3, 12], []), (9, .if_icmp .ge 28, [37], []), (12, .iload_n 2, [], []), (13, .iload_n 1, [], []), (14, .iconst 4, [], [.int 4]), (15, .iload_n 3, [], []), (16, .imul, [], []), (17, .ishr, [], []), (18, .bipush 15, [], [.int 15]), (20, .iand, [], []), (21, .ifCond .eq 7, [28], []), (24, .iconst 1, [], [.int 1]), (25, .goto 4, [29], []), (28, .iconst 0, [], [.int 0]), (29, .iadd, [], []), (30, .istore_n 2, [], []), (31, .iinc 3 1, [], [.int 1]), (34, .goto (-30), [4], []), (37, .iload_n 2, [], []), (38, .ireturn, [0], [])]
/-- 206: OneTurnedModel.told(II)I -/
def k_206 : List MIns := [(0, .aload_n 0, [], []), (1, .iload_n 1, [], []), (2, .invokevirtual 198, [1, 1, 12, 170], []), (5, .ifCond .ne 6, [11], []), (8, .bipush (-5), [], [.int (-5)]), (10, .ireturn, [0], []), (11, .iload_n 2, [], []), (12, .tableswitch 78 0 4 #[36, 43, 50, 57, 63], [90, 48, 55, 62, 69, 75], [.int 0, .int 1, .int 2, .int 3, .int 4]), (48, .aload_n 0, [], []), (49, .getfield 16, [2, 4, 12], []), (52, .iload_n 1, [], []), (53, .iaload, [], []), (54, .ireturn, [0], []), (55, .aload_n 0, [], []), (56, .getfield 20, [2, 5, 12], []), (59, .iload_n 1, [], []), (60, .iaload, [], []), (61, .ireturn, [0], []), (62, .aload_n 0, [], []), (63, .getfield 23, [2, 6, 12], []), (66, .iload_n 1, [], []), (67, .iaload, [], []), (68, .ireturn, [0], []), (69, .aload_n 0, [], []), (70, .iload_n 1, [], []), (71, .invokevirtual 193, [1, 1, 12, 200], []), (74, .ireturn, [0], []), (75, .aload_n 0, [], []), (76, .iload_n 1, [], []), (77, .aload_n 0, [], []), (78, .iload_n 1, [], []), (79, .invokevirtual 193, [1, 1, 12, 200], []), (82, .aload_n 0, [], []), (83, .getfield 82, [0, 2, 12], []), (86, .invokevirtual 196, [3, 1, 12, 201], []), (89, .ireturn, [0], []), (90, .bipush (-7), [], [.int (-7)]), (92, .ireturn, [0], [])]
/-- 207: OneTurnedModel.signs(I)I -/
def k_207 : List MIns := [(0, .iload_n 1, [], []), (1, .iconst 0, [], [.int 0]), (2, .iconst 2, [], [.int 2]), (3, .invokestatic 72, [166, 3, 1], []), (6, .ifCond .ne 6, [12], []), (9, .bipush (-2), [], [.int (-2)]), (11, .ireturn, [0], []), (12, .aload_n 0, [], []), (13, .aload_n 0, [], []), (14, .getfield 82, [0, 2, 12], []), (17, .invokevirtual 164, [1, 1, 12, 202], []), (20, .istore_n 2, [], []), (21, .iconst 0, [], [.int 0]), (22, .istore_n 3, [], []), (23, .iconst 0, [], [.int 0]), (24, .istore 4, [], []), (26, .iload 4, [], []), (28, .aload_n 0, [], []), (29, .getfield 76, [0, 3, 12], []), (32, .if_icmp .ge 32, [64], []), (35, .iload_n 3, [], []), (36, .iload_n 2, [], []), (37, .iconst 4, [], [.int 4]), (38, .iload 4, [], []), (40, .imul, [], []), (41, .ishr, [], []), (42, .bipush 15, [], [.int 15]), (44, .iand, [], []), (45, .ifCond .eq 10, [55], []), (48, .iconst 1, [], [.int 1]), (49, .iload 4, [], []), (51, .ishl, [], []), (52, .goto 4, [56], []), (55, .iconst 0, [], [.int 0]), (56, .ior, [], []), (57, .istore_n 3, [], []), (58, .iinc 4 1, [], [.int 1]), (61, .goto (-35), [26], []), (64, .iload_n 1, [], []), (65, .ifCond .ne 7, [72], []), (68, .iload_n 2, [], []), (69, .goto 17, [86], []), (72, .iload_n 1, [], []), (73, .iconst 1, [], [.int 1]), (74, .if_icmp .ne 7, [81], []), (77, .iload_n 3, [], []), (78, .goto 8, [86], []), (81, .aload_n 0, [], []), (82, .iload_n 2, [], []), (83, .invokevirtual 167, [1, 1, 12, 205], []), (86, .ireturn, [0], [])]
/-- 208: OneTurnedModel.look(I)I -/
def k_208 : List MIns := [(0, .aload_n 0, [], []), (1, .iload_n 1, [], []), (2, .invokevirtual 85, [1, 1, 12, 172], []), (5, .ifCond .eq 16, [21], []), (8, .aload_n 0, [], []), (9, .aload_n 0, [], []), (10, .getfield 82, [0, 2, 12], []), (13, .iload_n 1, [], []), (14, .ixor, [], []), (15, .invokevirtual 164, [1, 1, 12, 202], []), (18, .goto 5, [23], []), (21, .bipush (-2), [], [.int (-2)]), (23, .ireturn, [0], [])]
/-- 209: OneTurnedModel.holdsBy(I)Z -/
def k_209 : List MIns := [(0, .aload_n 0, [], []), (1, .iload_n 1, [], []), (2, .invokevirtual 201, [1, 1, 12, 204], []), (5, .ifCond .ne 7, [12], []), (8, .iconst 1, [], [.int 1]), (9, .goto 4, [13], []), (12, .iconst 0, [], [.int 0]), (13, .ireturn, [1], [])]
/-- 210: OneTurnedModel.oneBy(I)I -/
def k_210 : List MIns := [(0, .iconst 0, [], [.int 0]), (1, .istore_n 2, [], []), (2, .iconst 0, [], [.int 0]), (3, .istore_n 3, [], []), (4, .iload_n 3, [], []), (5, .aload_n 0, [], []), (6, .getfield 7, [0, 0, 12], []), (9, .if_icmp .ge 31, [40], []), (12, .iload_n 2, [], []), (13, .aload_n 0, [], []), (14, .iload_n 1, [], []), (15, .iconst 1, [], [.int 1]), (16, .iload_n 3, [], []), (17, .ishl, [], []), (18, .ixor, [], []), (19, .invokevirtual 204, [1, 1, 12, 209], []), (22, .ifCond .eq 9, [31], []), (25, .iconst 1, [], [.int 1]), (26, .iload_n 3, [], []), (27, .ishl, [], []), (28, .goto 4, [32], []), (31, .iconst 0, [], [.int 0]), (32, .ior, [], []), (33, .istore_n 2, [], []), (34, .iinc 3 1, [], [.int 1]), (37, .goto (-33), [4], []), (40, .iload_n 2, [], []), (41, .ireturn, [0], [])]
/-- 211: OneTurnedModel.one()I -/
def k_211 : List MIns := [(0, .aload_n 0, [], []), (1, .invokevirtual 207, [0, 0, 12, 203], []), (4, .aload_n 0, [], []), (5, .aload_n 0, [], []), (6, .getfield 82, [0, 2, 12], []), (9, .invokevirtual 210, [1, 1, 12, 210], []), (12, .ireturn, [0], [])]
/-- 212: OneTurnedModel.two(I)I -/
def k_212 : List MIns := [(0, .iload_n 1, [], []), (1, .iconst 0, [], [.int 0]), (2, .iconst 1, [], [.int 1]), (3, .invokestatic 72, [166, 3, 1], []), (6, .ifCond .ne 6, [12], []), (9, .bipush (-2), [], [.int (-2)]), (11, .ireturn, [0], []), (12, .aload_n 0, [], []), (13, .invokevirtual 207, [0, 0, 12, 203], []), (16, .iconst 0, [], [.int 0]), (17, .istore_n 2, [], []), (18, .iconst (-1), [], [.int (-1)]), (19, .istore_n 3, [], []), (20, .iconst 0, [], [.int 0]), (21, .istore 4, [], []), (23, .iload 4, [], []), (25, .aload_n 0, [], []), (26, .getfield 7, [0, 0, 12], []), (29, .if_icmp .ge 72, [101], []), (32, .iload 4, [], []), (34, .iconst 1, [], [.int 1]), (35, .iadd, [], []), (36, .istore 5, [], []), (38, .iload 5, [], []), (40, .aload_n 0, [], []), (41, .getfield 7, [0, 0, 12], []), (44, .if_icmp .ge 51, [95], []), (47, .aload_n 0, [], []), (48, .aload_n 0, [], []), (49, .getfield 82, [0, 2, 12], []), (52, .iconst 1, [], [.int 1]), (53, .iload 4, [], []), (55, .ishl, [], []), (56, .iconst 1, [], [.int 1]), (57, .iload 5, [], []), (59, .ishl, [], []), (60, .ior, [], []), (61, .ixor, [], []), (62, .invokevirtual 204, [1, 1, 12, 209], []), (65, .ifCond .eq 24, [89], []), (68, .iinc 2 1, [], [.int 1]), (71, .iload_n 3, [], []), (72, .iconst (-1), [], [.int (-1)]), (73, .if_icmp .ne 14, [87], []), (76, .bipush 100, [], [.int 100]), (78, .iload 4, [], []), (80, .imul, [], []), (81, .iload 5, [], []), (83, .iadd, [], []), (84, .goto 4, [88], []), (87, .iload_n 3, [], []), (88, .istore_n 3, [], []), (89, .iinc 5 1, [], [.int 1]), (92, .goto (-54), [38], []), (95, .iinc 4 1, [], [.int 1]), (98, .goto (-75), [23], []), (101, .iload_n 1, [], []), (102, .ifCond .ne 7, [109], []), (105, .iload_n 2, [], []), (106, .goto 4, [110], []), (109, .iload_n 3, [], []), (110, .ireturn, [0], [])]
/-- 213: OneTurnedModel.counts(I)I -/
def k_213 : List MIns := [(0, .iload_n 1, [], []), (1, .iconst 0, [], [.int 0]), (2, .bipush 12, [], [.int 12]), (4, .invokestatic 72, [166, 3, 1], []), (7, .ifCond .ne 6, [13], []), (10, .bipush (-2), [], [.int (-2)]), (12, .ireturn, [0], []), (13, .aload_n 0, [], []), (14, .invokevirtual 207, [0, 0, 12, 203], []), (17, .aload_n 0, [], []), (18, .aload_n 0, [], []), (19, .getfield 82, [0, 2, 12], []), (22, .invokevirtual 201, [1, 1, 12, 204], []), (25, .istore_n 2, [], []), (26, .iconst 0, [], [.int 0]), (27, .istore_n 3, [], []), (28, .iconst 0, [], [.int 0]), (29, .istore 4, [], []), (31, .iload 4, [], []), (33, .aload_n 0, [], []), (34, .invokevirtual 79, [0, 1, 12, 171], []), (37, .if_icmp .gt 41, [78], []), (40, .iload_n 3, [], []), (41, .iload 4, [], []), (43, .invokestatic 213, [168, 1, 1], []), (46, .iload_n 1, [], []), (47, .if_icmp .ne 22, [69], []), (50, .aload_n 0, [], []), (51, .aload_n 0, [], []), (52, .getfield 82, [0, 2, 12], []), (55, .iload 4, [], []), (57, .ixor, [], []), (58, .invokevirtual 201, [1, 1, 12, 204], []), (61, .iload_n 2, [], []), (62, .if_icmp .ne 7, [69], []), (65, .iconst 1, [], [.int 1]), (66, .goto 4, [70], []), (69, .iconst 0, [], [.int 0]), (70, .iadd, [], []), (71, .istore_n 3, [], []), (72, .iinc 4 1, [], [.int 1]), (75, .goto (-44), [31], []), (78, .iload_n 3, [], []), (79, .ireturn, [0], [])]
/-- 214: OneTurnedModel.unseen(I)I -/
def k_214 : List MIns := [(0, .iload_n 1, [], []), (1, .iconst 0, [], [.int 0]), (2, .iconst 1, [], [.int 1]), (3, .invokestatic 72, [166, 3, 1], []), (6, .ifCond .ne 6, [12], []), (9, .bipush (-2), [], [.int (-2)]), (11, .ireturn, [0], []), (12, .aload_n 0, [], []), (13, .invokevirtual 207, [0, 0, 12, 203], []), (16, .aload_n 0, [], []), (17, .aload_n 0, [], []), (18, .getfield 82, [0, 2, 12], []), (21, .invokevirtual 201, [1, 1, 12, 204], []), (24, .istore_n 2, [], []), (25, .iconst (-1), [], [.int (-1)]), (26, .istore_n 3, [], []), (27, .iconst 1, [], [.int 1]), (28, .istore 4, [], []), (30, .iload 4, [], []), (32, .aload_n 0, [], []), (33, .invokevirtual 79, [0, 1, 12, 171], []), (36, .if_icmp .gt 44, [80], []), (39, .iload_n 3, [], []), (40, .iconst (-1), [], [.int (-1)]), (41, .if_icmp .eq 15, [56], []), (44, .iload 4, [], []), (46, .invokestatic 213, [168, 1, 1], []), (49, .iload_n 3, [], []), (50, .invokestatic 213, [168, 1, 1], []), (53, .if_icmp .ge 21, [74], []), (56, .aload_n 0, [], []), (57, .aload_n 0, [], []), (58, .getfield 82, [0, 2, 12], []), (61, .iload 4, [], []), (63, .ixor, [], []), (64, .invokevirtual 201, [1, 1, 12, 204], []), (67, .iload_n 2, [], []), (68, .if_icmp .ne 6, [74], []), (71, .iload 4, [], []), (73, .istore_n 3, [], []), (74, .iinc 4 1, [], [.int 1]), (77, .goto (-47), [30], []), (80, .iload_n 1, [], []), (81, .iconst 1, [], [.int 1]), (82, .if_icmp .eq 8, [90], []), (85, .iload_n 3, [], []), (86, .iconst (-1), [], [.int (-1)]), (87, .if_icmp .ne 7, [94], []), (90, .iload_n 3, [], []), (91, .goto 7, [98], []), (94, .iload_n 3, [], []), (95, .invokestatic 213, [168, 1, 1], []), (98, .ireturn, [0], [])]
/-- 215: OneTurnedModel.apart(I)I -/
def k_215 : List MIns := [(0, .iload_n 1, [], []), (1, .iconst 0, [], [.int 0]), (2, .iconst 1, [], [.int 1]), (3, .invokestatic 72, [166, 3, 1], []), (6, .ifCond .ne 6, [12], []), (9, .bipush (-2), [], [.int (-2)]), (11, .ireturn, [0], []), (12, .aload_n 0, [], []), (13, .invokevirtual 207, [0, 0, 12, 203], []), (16, .iconst 0, [], [.int 0]), (17, .istore_n 2, [], []), (18, .iconst (-1), [], [.int (-1)]), (19, .istore_n 3, [], []), (20, .iconst 0, [], [.int 0]), (21, .istore 4, [], []), (23, .iload 4, [], []), (25, .aload_n 0, [], []), (26, .getfield 7, [0, 0, 12], []), (29, .if_icmp .ge 129, [158], []), (32, .iconst 1, [], [.int 1]), (33, .istore 5, [], []), (35, .iconst 0, [], [.int 0]), (36, .istore 6, [], []), (38, .iload 6, [], []), (40, .iload 4, [], []), (42, .if_icmp .ge 97, [139], []), (45, .aload_n 0, [], []), (46, .aload_n 0, [], []), (47, .getfield 82, [0, 2, 12], []), (50, .iconst 1, [], [.int 1]), (51, .iload 6, [], []), (53, .ishl, [], []), (54, .ixor, [], []), (55, .invokevirtual 201, [1, 1, 12, 204], []), (58, .aload_n 0, [], []), (59, .aload_n 0, [], []), (60, .getfield 82, [0, 2, 12], []), (63, .iconst 1, [], [.int 1]), (64, .iload 4, [], []), (66, .ishl, [], []), (67, .ixor, [], []), (68, .invokevirtual 201, [1, 1, 12, 204], []), (71, .if_icmp .ne 7, [78], []), (74, .iconst 1, [], [.int 1]), (75, .goto 4, [79], []), (78, .iconst 0, [], [.int 0]), (79, .istore 7, [], []), (81, .iload 5, [], []), (83, .ifCond .eq 12, [95], []), (86, .iload 7, [], []), (88, .ifCond .ne 7, [95], []), (91, .iconst 1, [], [.int 1]), (92, .goto 4, [96], []), (95, .iconst 0, [], [.int 0]), (96, .istore 5, [], []), (98, .iload 7, [], []), (100, .ifCond .eq 31, [131], []), (103, .iload_n 3, [], []), (104, .iconst (-1), [], [.int (-1)]), (105, .if_icmp .eq 15, [120], []), (108, .bipush 100, [], [.int 100]), (110, .iload 6, [], []), (112, .imul, [], []), (113, .iload 4, [], []), (115, .iadd, [], []), (116, .iload_n 3, [], []), (117, .if_icmp .ge 14, [131], []), (120, .bipush 100, [], [.int 100]), (122, .iload 6, [], []), (124, .imul, [], []), (125, .iload 4, [], []), (127, .iadd, [], []), (128, .goto 4, [132], []), (131, .iload_n 3, [], []), (132, .istore_n 3, [], []), (133, .iinc 6 1, [], [.int 1]), (136, .goto (-98), [38], []), (139, .iload_n 2, [], []), (140, .iload 5, [], []), (142, .ifCond .eq 7, [149], []), (145, .iconst 1, [], [.int 1]), (146, .goto 4, [150], []), (149, .iconst 0, [], [.int 0]), (150, .iadd, [], []), (151, .istore_n 2, [], []), (152, .iinc 4 1, [], [.int 1]), (155, .goto (-132), [23], []), (158, .iload_n 1, [], []), (159, .ifCond .ne 7, [166], []), (162, .iload_n 2, [], []), (163, .goto 4, [167], []), (166, .iload_n 3, [], []), (167, .ireturn, [0], [])]
/-- 216: OneTurnedModel.reach(I)I -/
def k_216 : List MIns := [(0, .iload_n 1, [], []), (1, .iconst 0, [], [.int 0]), (2, .iconst 3, [], [.int 3]), (3, .invokestatic 72, [166, 3, 1], []), (6, .ifCond .ne 6, [12], []), (9, .bipush (-2), [], [.int (-2)]), (11, .ireturn, [0], []), (12, .aload_n 0, [], []), (13, .invokevirtual 207, [0, 0, 12, 203], []), (16, .iconst 0, [], [.int 0]), (17, .istore_n 2, [], []), (18, .iconst 0, [], [.int 0]), (19, .istore_n 3, [], []), (20, .iload_n 3, [], []), (21, .aload_n 0, [], []), (22, .invokevirtual 79, [0, 1, 12, 171], []), (25, .if_icmp .gt 72, [97], []), (28, .iload_n 3, [], []), (29, .invokestatic 213, [168, 1, 1], []), (32, .iload_n 1, [], []), (33, .if_icmp .gt 58, [91], []), (36, .aload_n 0, [], []), (37, .getfield 62, [2, 35, 12], []), (40, .iload_n 2, [], []), (41, .aload_n 0, [], []), (42, .aload_n 0, [], []), (43, .getfield 82, [0, 2, 12], []), (46, .iload_n 3, [], []), (47, .ixor, [], []), (48, .invokevirtual 201, [1, 1, 12, 204], []), (51, .iastore, [], []), (52, .iconst 0, [], [.int 0]), (53, .istore 4, [], []), (55, .aload_n 0, [], []), (56, .getfield 62, [2, 35, 12], []), (59, .iload 4, [], []), (61, .iaload, [], []), (62, .aload_n 0, [], []), (63, .getfield 62, [2, 35, 12], []), (66, .iload_n 2, [], []), (67, .iaload, [], []), (68, .if_icmp .eq 9, [77], []), (71, .iinc 4 1, [], [.int 1]), (74, .goto (-19), [55], []), (77, .iload_n 2, [], []), (78, .iload 4, [], []), (80, .iload_n 2, [], []), (81, .if_icmp .ne 7, [88], []), (84, .iconst 1, [], [.int 1]), (85, .goto 4, [89], []), (88, .iconst 0, [], [.int 0]), (89, .iadd, [], []), (90, .istore_n 2, [], []), (91, .iinc 3 1, [], [.int 1]), (94, .goto (-74), [20], []), (97, .iload_n 2, [], []), (98, .ireturn, [0], [])]
/-- 217: OneTurnedModel.fewestBy(II)I -/
def k_217 : List MIns := [(0, .aload_n 0, [], []), (1, .invokevirtual 207, [0, 0, 12, 203], []), (4, .iconst (-1), [], [.int (-1)]), (5, .istore_n 3, [], []), (6, .iconst 0, [], [.int 0]), (7, .istore 4, [], []), (9, .iload 4, [], []), (11, .aload_n 0, [], []), (12, .invokevirtual 79, [0, 1, 12, 171], []), (15, .if_icmp .gt 69, [84], []), (18, .iload 4, [], []), (20, .iload_n 1, [], []), (21, .iconst (-1), [], [.int (-1)]), (22, .ixor, [], []), (23, .iand, [], []), (24, .ifCond .ne 24, [48], []), (27, .iload_n 3, [], []), (28, .iconst (-1), [], [.int (-1)]), (29, .if_icmp .eq 15, [44], []), (32, .iload 4, [], []), (34, .invokestatic 213, [168, 1, 1], []), (37, .iload_n 3, [], []), (38, .invokestatic 213, [168, 1, 1], []), (41, .if_icmp .ge 7, [48], []), (44, .iconst 1, [], [.int 1]), (45, .goto 4, [49], []), (48, .iconst 0, [], [.int 0]), (49, .istore 5, [], []), (51, .iload 5, [], []), (53, .ifCond .eq 23, [76], []), (56, .aload_n 0, [], []), (57, .aload_n 0, [], []), (58, .getfield 82, [0, 2, 12], []), (61, .iload 4, [], []), (63, .ixor, [], []), (64, .invokevirtual 201, [1, 1, 12, 204], []), (67, .iload_n 2, [], []), (68, .if_icmp .ne 8, [76], []), (71, .iload 4, [], []), (73, .goto 4, [77], []), (76, .iload_n 3, [], []), (77, .istore_n 3, [], []), (78, .iinc 4 1, [], [.int 1]), (81, .goto (-72), [9], []), (84, .iload_n 3, [], []), (85, .ireturn, [0], [])]
/-- 218: OneTurnedModel.lay(II)I -/
def k_218 : List MIns := [(0, .aload_n 0, [], []), (1, .iload_n 1, [], []), (2, .invokevirtual 85, [1, 1, 12, 172], []), (5, .ifCond .ne 6, [11], []), (8, .bipush (-2), [], [.int (-2)]), (10, .ireturn, [0], []), (11, .iload_n 2, [], []), (12, .iconst 0, [], [.int 0]), (13, .iconst 1, [], [.int 1]), (14, .invokestatic 72, [166, 3, 1], []), (17, .ifCond .ne 6, [23], []), (20, .bipush (-7), [], [.int (-7)]), (22, .ireturn, [0], []), (23, .aload_n 0, [], []), (24, .iload_n 1, [], []), (25, .iconst 0, [], [.int 0]), (26, .invokevirtual 216, [2, 1, 12, 217], []), (29, .istore_n 3, [], []), (30, .iload_n 2, [], []), (31, .iconst 1, [], [.int 1]), (32, .if_icmp .eq 8, [40], []), (35, .iload_n 3, [], []), (36, .iconst (-1), [], [.int (-1)]), (37, .if_icmp .ne 7, [44], []), (40, .iload_n 3, [], []), (41, .goto 7, [48], []), (44, .iload_n 3, [], []), (45, .invokestatic 213, [168, 1, 1], []), (48, .ireturn, [0], [])]
/-- 219: OneTurnedModel.even(I)I -/
def k_219 : List MIns := [(0, .aload_n 0, [], []), (1, .iload_n 1, [], []), (2, .invokevirtual 85, [1, 1, 12, 172], []), (5, .ifCond .ne 6, [11], []), (8, .bipush (-2), [], [.int (-2)]), (10, .ireturn, [0], []), (11, .aload_n 0, [], []), (12, .iload_n 1, [], []), (13, .iconst 0, [], [.int 0]), (14, .invokevirtual 216, [2, 1, 12, 217], []), (17, .istore_n 2, [], []), (18, .aload_n 0, [], []), (19, .dup, [], []), (20, .getfield 82, [0, 2, 12], []), (23, .iload_n 2, [], []), (24, .iconst (-1), [], [.int (-1)]), (25, .if_icmp .ne 7, [32], []), (28, .iconst 0, [], [.int 0]), (29, .goto 4, [33], []), (32, .iload_n 2, [], []), (33, .ixor, [], []), (34, .putfield 82, [0, 2, 12], []), (37, .iload_n 2, [], []), (38, .iconst (-1), [], [.int (-1)]), (39, .if_icmp .ne 7, [46], []), (42, .iconst (-1), [], [.int (-1)]), (43, .goto 7, [50], []), (46, .iload_n 2, [], []), (47, .invokestatic 213, [168, 1, 1], []), (50, .ireturn, [0], [])]
/-- 220: OneTurnedModel.needs(I)I -/
def k_220 : List MIns := [(0, .iload_n 1, [], []), (1, .iconst 0, [], [.int 0]), (2, .sipush 9999, [], [.int 9999]), (5, .invokestatic 72, [166, 3, 1], []), (8, .ifCond .ne 6, [14], []), (11, .bipush (-2), [], [.int (-2)]), (13, .ireturn, [0], []), (14, .iconst 0, [], [.int 0]), (15, .istore_n 2, [], []), (16, .iconst 1, [], [.int 1]), (17, .iload_n 2, [], []), (18, .ishl, [], []), (19, .iload_n 1, [], []), (20, .iload_n 2, [], []), (21, .iadd, [], []), (22, .iconst 1, [], [.int 1]), (23, .iadd, [], []), (24, .if_icmp .ge 9, [33], []), (27, .iinc 2 1, [], [.int 1]), (30, .goto (-14), [16], []), (33, .iload_n 2, [], []), (34, .ireturn, [0], [])]
/-- 221: OneTurnedModel.isTwos(I)Z -/
def k_221 : List MIns := [(0, .iload_n 0, [], []), (1, .iload_n 0, [], []), (2, .iconst 1, [], [.int 1]), (3, .isub, [], []), (4, .iand, [], []), (5, .ifCond .ne 7, [12], []), (8, .iconst 1, [], [.int 1]), (9, .goto 4, [13], []), (12, .iconst 0, [], [.int 0]), (13, .ireturn, [1], [])]
/-- 222: OneTurnedModel.can(I)I -/
def k_222 : List MIns := [(0, .iload_n 1, [], []), (1, .iconst 1, [], [.int 1]), (2, .ldc 219, [], [.int 99999]), (4, .invokestatic 72, [166, 3, 1], []), (7, .ifCond .ne 8, [15], []), (10, .bipush (-2), [], [.int (-2)]), (12, .goto 15, [27], []), (15, .iload_n 1, [], []), (16, .invokestatic 220, [221, 1, 1], []), (19, .ifCond .eq 7, [26], []), (22, .iconst 1, [], [.int 1]), (23, .goto 4, [27], []), (26, .iconst 0, [], [.int 0]), (27, .ireturn, [0], [])]
/-- 223: OneTurnedModel.readNow()I -/
def k_223 : List MIns := [(0, .iconst 0, [], [.int 0]), (1, .istore_n 1, [], []), (2, .iconst 0, [], [.int 0]), (3, .istore_n 2, [], []), (4, .iload_n 2, [], []), (5, .aload_n 0, [], []), (6, .getfield 7, [0, 0, 12], []), (9, .if_icmp .ge 29, [38], []), (12, .iload_n 1, [], []), (13, .aload_n 0, [], []), (14, .getfield 82, [0, 2, 12], []), (17, .iload_n 2, [], []), (18, .ishr, [], []), (19, .iconst 1, [], [.int 1]), (20, .iand, [], []), (21, .iconst 1, [], [.int 1]), (22, .if_icmp .ne 7, [29], []), (25, .iload_n 2, [], []), (26, .goto 4, [30], []), (29, .iconst 0, [], [.int 0]), (30, .ixor, [], []), (31, .istore_n 1, [], []), (32, .iinc 2 1, [], [.int 1]), (35, .goto (-31), [4], []), (38, .iload_n 1, [], []), (39, .ireturn, [0], [])]
/-- 224: OneTurnedModel.reads()I -/
def k_224 : List MIns := [(0, .aload_n 0, [], []), (1, .getfield 7, [0, 0, 12], []), (4, .invokestatic 220, [221, 1, 1], []), (7, .ifCond .eq 10, [17], []), (10, .aload_n 0, [], []), (11, .invokevirtual 223, [0, 1, 12, 223], []), (14, .goto 5, [19], []), (17, .bipush (-3), [], [.int (-3)]), (19, .ireturn, [0], [])]
/-- 225: OneTurnedModel.coin(I)I -/
def k_225 : List MIns := [(0, .aload_n 0, [], []), (1, .iload_n 1, [], []), (2, .invokevirtual 89, [1, 1, 12, 169], []), (5, .ifCond .ne 6, [11], []), (8, .bipush (-2), [], [.int (-2)]), (10, .ireturn, [0], []), (11, .aload_n 0, [], []), (12, .getfield 7, [0, 0, 12], []), (15, .invokestatic 220, [221, 1, 1], []), (18, .ifCond .eq 12, [30], []), (21, .aload_n 0, [], []), (22, .invokevirtual 223, [0, 1, 12, 223], []), (25, .iload_n 1, [], []), (26, .ixor, [], []), (27, .goto 5, [32], []), (30, .bipush (-3), [], [.int (-3)]), (32, .ireturn, [0], [])]
/-- 226: OneTurnedModel.swaps(I)I -/
def k_226 : List MIns := [(0, .iload_n 1, [], []), (1, .iconst 0, [], [.int 0]), (2, .iconst 2, [], [.int 2]), (3, .invokestatic 72, [166, 3, 1], []), (6, .ifCond .ne 6, [12], []), (9, .bipush (-2), [], [.int (-2)]), (11, .ireturn, [0], []), (12, .aload_n 0, [], []), (13, .invokevirtual 207, [0, 0, 12, 203], []), (16, .aload_n 0, [], []), (17, .aload_n 0, [], []), (18, .getfield 82, [0, 2, 12], []), (21, .invokevirtual 201, [1, 1, 12, 204], []), (24, .istore_n 2, [], []), (25, .iconst 0, [], [.int 0]), (26, .istore_n 3, [], []), (27, .iconst 0, [], [.int 0]), (28, .istore 4, [], []), (30, .iload 4, [], []), (32, .iconst 1, [], [.int 1]), (33, .iadd, [], []), (34, .aload_n 0, [], []), (35, .getfield 7, [0, 0, 12], []), (38, .if_icmp .ge 96, [134], []), (41, .aload_n 0, [], []), (42, .getfield 82, [0, 2, 12], []), (45, .iload 4, [], []), (47, .iload 4, [], []), (49, .iconst 1, [], [.int 1]), (50, .iadd, [], []), (51, .invokestatic 92, [175, 3, 1], []), (54, .istore 5, [], []), (56, .aload_n 0, [], []), (57, .iload 5, [], []), (59, .invokevirtual 201, [1, 1, 12, 204], []), (62, .istore 6, [], []), (64, .iload 5, [], []), (66, .aload_n 0, [], []), (67, .getfield 82, [0, 2, 12], []), (70, .if_icmp .eq 39, [109], []), (73, .iload_n 1, [], []), (74, .ifCond .ne 12, [86], []), (77, .iload 6, [], []), (79, .iload_n 2, [], []), (80, .if_icmp .ne 29, [109], []), (83, .goto 22, [105], []), (86, .iload_n 1, [], []), (87, .iconst 1, [], [.int 1]), (88, .if_icmp .ne 12, [100], []), (91, .iload 6, [], []), (93, .iload_n 2, [], []), (94, .if_icmp .eq 15, [109], []), (97, .goto 8, [105], []), (100, .iload 6, [], []), (102, .ifCond .ne 7, [109], []), (105, .iconst 1, [], [.int 1]), (106, .goto 4, [110], []), (109, .iconst 0, [], [.int 0]), (110, .istore 7, [], []), (112, .iload_n 3, [], []), (113, .iload 7, [], []), (115, .ifCond .eq 10, [125], []), (118, .iconst 1, [], [.int 1]), (119, .iload 4, [], []), (121, .ishl, [], []), (122, .goto 4, [126], []), (125, .iconst 0, [], [.int 0]), (126, .ior, [], []), (127, .istore_n 3, [], []), (128, .iinc 4 1, [], [.int 1]), (131, .goto (-101), [30], []), (134, .iload_n 3, [], []), (135, .ireturn, [0], [])]
/-- 227: OneTurnedModel.swept(II)I -/
def k_227 : List MIns := [(0, .iload_n 1, [], []), (1, .iconst 0, [], [.int 0]), (2, .aload_n 0, [], []), (3, .getfield 7, [0, 0, 12], []), (6, .iconst 1, [], [.int 1]), (7, .isub, [], []), (8, .aload_n 0, [], []), (9, .getfield 13, [0, 1, 12], []), (12, .idiv, [], []), (13, .invokestatic 72, [166, 3, 1], []), (16, .ifCond .ne 6, [22], []), (19, .bipush (-5), [], [.int (-5)]), (21, .ireturn, [0], []), (22, .iload_n 2, [], []), (23, .iconst 0, [], [.int 0]), (24, .iconst 2, [], [.int 2]), (25, .invokestatic 72, [166, 3, 1], []), (28, .ifCond .ne 6, [34], []), (31, .bipush (-7), [], [.int (-7)]), (33, .ireturn, [0], []), (34, .aload_n 0, [], []), (35, .invokevirtual 207, [0, 0, 12, 203], []), (38, .iconst 0, [], [.int 0]), (39, .istore_n 3, [], []), (40, .iconst 0, [], [.int 0]), (41, .istore 4, [], []), (43, .iload 4, [], []), (45, .aload_n 0, [], []), (46, .getfield 7, [0, 0, 12], []), (49, .if_icmp .ge 31, [80], []), (52, .iload_n 3, [], []), (53, .iload 4, [], []), (55, .aload_n 0, [], []), (56, .getfield 13, [0, 1, 12], []), (59, .idiv, [], []), (60, .iload_n 1, [], []), (61, .if_icmp .ne 10, [71], []), (64, .iconst 1, [], [.int 1]), (65, .iload 4, [], []), (67, .ishl, [], []), (68, .goto 4, [72], []), (71, .iconst 0, [], [.int 0]), (72, .ior, [], []), (73, .istore_n 3, [], []), (74, .iinc 4 1, [], [.int 1]), (77, .goto (-34), [43], []), (80, .iconst 0, [], [.int 0]), (81, .istore 4, [], []), (83, .iconst (-1), [], [.int (-1)]), (84, .istore 5, [], []), (86, .iconst 0, [], [.int 0]), (87, .istore 6, [], []), (89, .iload 6, [], []), (91, .aload_n 0, [], []), (92, .invokevirtual 79, [0, 1, 12, 171], []), (95, .if_icmp .gt 54, [149], []), (98, .iload 6, [], []), (100, .iload_n 3, [], []), (101, .iconst (-1), [], [.int (-1)]), (102, .ixor, [], []), (103, .iand, [], []), (104, .ifCond .ne 39, [143], []), (107, .aload_n 0, [], []), (108, .aload_n 0, [], []), (109, .getfield 82, [0, 2, 12], []), (112, .iload_n 3, [], []), (113, .iconst (-1), [], [.int (-1)]), (114, .ixor, [], []), (115, .iand, [], []), (116, .iload 6, [], []), (118, .ior, [], []), (119, .invokevirtual 204, [1, 1, 12, 209], []), (122, .ifCond .eq 21, [143], []), (125, .iinc 4 1, [], [.int 1]), (128, .iload 5, [], []), (130, .iconst (-1), [], [.int (-1)]), (131, .if_icmp .ne 8, [139], []), (134, .iload 6, [], []), (136, .goto 5, [141], []), (139, .iload 5, [], []), (141, .istore 5, [], []), (143, .iinc 6 1, [], [.int 1]), (146, .goto (-57), [89], []), (149, .iload_n 2, [], []), (150, .ifCond .ne 8, [158], []), (153, .iload 4, [], []), (155, .goto 35, [190], []), (158, .iload_n 2, [], []), (159, .iconst 1, [], [.int 1]), (160, .if_icmp .ne 8, [168], []), (163, .iload 5, [], []), (165, .goto 25, [190], []), (168, .iload 4, [], []), (170, .iconst 1, [], [.int 1]), (171, .if_icmp .ne 18, [189], []), (174, .iload 5, [], []), (176, .aload_n 0, [], []), (177, .getfield 82, [0, 2, 12], []), (180, .iload_n 3, [], []), (181, .iand, [], []), (182, .if_icmp .ne 7, [189], []), (185, .iconst 1, [], [.int 1]), (186, .goto 4, [190], []), (189, .iconst 0, [], [.int 0]), (190, .ireturn, [0], [])]
/-- 228: OneTurnedModel.cutBy(I)I -/
def k_228 : List MIns := [(0, .aload_n 0, [], []), (1, .getfield 82, [0, 2, 12], []), (4, .iload_n 1, [], []), (5, .ishr, [], []), (6, .aload_n 0, [], []), (7, .getfield 82, [0, 2, 12], []), (10, .aload_n 0, [], []), (11, .getfield 7, [0, 0, 12], []), (14, .iload_n 1, [], []), (15, .isub, [], []), (16, .ishl, [], []), (17, .ior, [], []), (18, .aload_n 0, [], []), (19, .invokevirtual 79, [0, 1, 12, 171], []), (22, .iand, [], []), (23, .ireturn, [0], [])]
/-- 229: OneTurnedModel.cut(I)I -/
def k_229 : List MIns := [(0, .aload_n 0, [], []), (1, .iload_n 1, [], []), (2, .invokevirtual 89, [1, 1, 12, 169], []), (5, .ifCond .ne 6, [11], []), (8, .bipush (-2), [], [.int (-2)]), (10, .ireturn, [0], []), (11, .aload_n 0, [], []), (12, .aload_n 0, [], []), (13, .iload_n 1, [], []), (14, .invokevirtual 226, [1, 1, 12, 228], []), (17, .putfield 82, [0, 2, 12], []), (20, .aload_n 0, [], []), (21, .getfield 82, [0, 2, 12], []), (24, .ireturn, [0], [])]
/-- 230: OneTurnedModel.cuts(I)I -/
def k_230 : List MIns := [(0, .iload_n 1, [], []), (1, .iconst 0, [], [.int 0]), (2, .iconst 2, [], [.int 2]), (3, .invokestatic 72, [166, 3, 1], []), (6, .ifCond .ne 6, [12], []), (9, .bipush (-2), [], [.int (-2)]), (11, .ireturn, [0], []), (12, .aload_n 0, [], []), (13, .invokevirtual 207, [0, 0, 12, 203], []), (16, .aload_n 0, [], []), (17, .aload_n 0, [], []), (18, .getfield 82, [0, 2, 12], []), (21, .invokevirtual 201, [1, 1, 12, 204], []), (24, .istore_n 2, [], []), (25, .iconst 0, [], [.int 0]), (26, .istore_n 3, [], []), (27, .iconst 1, [], [.int 1]), (28, .istore 4, [], []), (30, .iload 4, [], []), (32, .aload_n 0, [], []), (33, .getfield 7, [0, 0, 12], []), (36, .if_icmp .ge 85, [121], []), (39, .aload_n 0, [], []), (40, .iload 4, [], []), (42, .invokevirtual 226, [1, 1, 12, 228], []), (45, .istore 5, [], []), (47, .iload_n 1, [], []), (48, .ifCond .ne 21, [69], []), (51, .aload_n 0, [], []), (52, .iload 5, [], []), (54, .invokevirtual 201, [1, 1, 12, 204], []), (57, .iload_n 2, [], []), (58, .if_icmp .ne 7, [65], []), (61, .iconst 1, [], [.int 1]), (62, .goto 35, [97], []), (65, .iconst 0, [], [.int 0]), (66, .goto 31, [97], []), (69, .iload_n 1, [], []), (70, .iconst 1, [], [.int 1]), (71, .if_icmp .ne 12, [83], []), (74, .aload_n 0, [], []), (75, .iload 5, [], []), (77, .invokevirtual 204, [1, 1, 12, 209], []), (80, .goto 17, [97], []), (83, .iload 5, [], []), (85, .aload_n 0, [], []), (86, .getfield 82, [0, 2, 12], []), (89, .if_icmp .ne 7, [96], []), (92, .iconst 1, [], [.int 1]), (93, .goto 4, [97], []), (96, .iconst 0, [], [.int 0]), (97, .istore 6, [], []), (99, .iload_n 3, [], []), (100, .iload 6, [], []), (102, .ifCond .eq 10, [112], []), (105, .iconst 1, [], [.int 1]), (106, .iload 4, [], []), (108, .ishl, [], []), (109, .goto 4, [113], []), (112, .iconst 0, [], [.int 0]), (113, .ior, [], []), (114, .istore_n 3, [], []), (115, .iinc 4 1, [], [.int 1]), (118, .goto (-88), [30], []), (121, .iload_n 3, [], []), (122, .ireturn, [0], [])]
/-- 231: OneTurnedModel.movedBy(II)I -/
def k_231 : List MIns := [(0, .aload_n 0, [], []), (1, .getfield 82, [0, 2, 12], []), (4, .iload_n 1, [], []), (5, .ishr, [], []), (6, .iconst 1, [], [.int 1]), (7, .iand, [], []), (8, .istore_n 3, [], []), (9, .aload_n 0, [], []), (10, .getfield 82, [0, 2, 12], []), (13, .iconst 1, [], [.int 1]), (14, .iload_n 1, [], []), (15, .ishl, [], []), (16, .iconst 1, [], [.int 1]), (17, .isub, [], []), (18, .iand, [], []), (19, .aload_n 0, [], []), (20, .getfield 82, [0, 2, 12], []), (23, .iload_n 1, [], []), (24, .iconst 1, [], [.int 1]), (25, .iadd, [], []), (26, .ishr, [], []), (27, .iload_n 1, [], []), (28, .ishl, [], []), (29, .ior, [], []), (30, .istore 4, [], []), (32, .iload 4, [], []), (34, .iconst 1, [], [.int 1]), (35, .iload_n 2, [], []), (36, .ishl, [], []), (37, .iconst 1, [], [.int 1]), (38, .isub, [], []), (39, .iand, [], []), (40, .iload_n 3, [], []), (41, .iload_n 2, [], []), (42, .ishl, [], []), (43, .ior, [], []), (44, .iload 4, [], []), (46, .iload_n 2, [], []), (47, .ishr, [], []), (48, .iload_n 2, [], []), (49, .iconst 1, [], [.int 1]), (50, .iadd, [], []), (51, .ishl, [], []), (52, .ior, [], []), (53, .ireturn, [0], [])]
/-- 232: OneTurnedModel.move(II)I -/
def k_232 : List MIns := [(0, .aload_n 0, [], []), (1, .iload_n 1, [], []), (2, .invokevirtual 89, [1, 1, 12, 169], []), (5, .ifCond .eq 11, [16], []), (8, .aload_n 0, [], []), (9, .iload_n 2, [], []), (10, .invokevirtual 89, [1, 1, 12, 169], []), (13, .ifCond .ne 6, [19], []), (16, .bipush (-5), [], [.int (-5)]), (18, .ireturn, [0], []), (19, .aload_n 0, [], []), (20, .aload_n 0, [], []), (21, .iload_n 1, [], []), (22, .iload_n 2, [], []), (23, .invokevirtual 229, [2, 1, 12, 231], []), (26, .putfield 82, [0, 2, 12], []), (29, .aload_n 0, [], []), (30, .getfield 82, [0, 2, 12], []), (33, .ireturn, [0], [])]
/-- 233: OneTurnedModel.moves(I)I -/
def k_233 : List MIns := [(0, .iload_n 1, [], []), (1, .iconst 0, [], [.int 0]), (2, .iconst 1, [], [.int 1]), (3, .invokestatic 72, [166, 3, 1], []), (6, .ifCond .ne 6, [12], []), (9, .bipush (-2), [], [.int (-2)]), (11, .ireturn, [0], []), (12, .aload_n 0, [], []), (13, .invokevirtual 207, [0, 0, 12, 203], []), (16, .aload_n 0, [], []), (17, .aload_n 0, [], []), (18, .getfield 82, [0, 2, 12], []), (21, .invokevirtual 201, [1, 1, 12, 204], []), (24, .istore_n 2, [], []), (25, .iconst 0, [], [.int 0]), (26, .istore_n 3, [], []), (27, .iconst 0, [], [.int 0]), (28, .istore 4, [], []), (30, .iload 4, [], []), (32, .aload_n 0, [], []), (33, .getfield 7, [0, 0, 12], []), (36, .if_icmp .ge 93, [129], []), (39, .iconst 0, [], [.int 0]), (40, .istore 5, [], []), (42, .iload 5, [], []), (44, .aload_n 0, [], []), (45, .getfield 7, [0, 0, 12], []), (48, .if_icmp .ge 75, [123], []), (51, .aload_n 0, [], []), (52, .iload 4, [], []), (54, .iload 5, [], []), (56, .invokevirtual 229, [2, 1, 12, 231], []), (59, .istore 6, [], []), (61, .aload_n 0, [], []), (62, .iload 6, [], []), (64, .invokevirtual 201, [1, 1, 12, 204], []), (67, .iload_n 2, [], []), (68, .if_icmp .ne 7, [75], []), (71, .iconst 1, [], [.int 1]), (72, .goto 4, [76], []), (75, .iconst 0, [], [.int 0]), (76, .istore 7, [], []), (78, .iload_n 3, [], []), (79, .iload_n 1, [], []), (80, .ifCond .ne 16, [96], []), (83, .iload 7, [], []), (85, .ifCond .eq 7, [92], []), (88, .iconst 0, [], [.int 0]), (89, .goto 26, [115], []), (92, .iconst 1, [], [.int 1]), (93, .goto 22, [115], []), (96, .iload 7, [], []), (98, .ifCond .eq 16, [114], []), (101, .iload 6, [], []), (103, .aload_n 0, [], []), (104, .getfield 82, [0, 2, 12], []), (107, .if_icmp .eq 7, [114], []), (110, .iconst 1, [], [.int 1]), (111, .goto 4, [115], []), (114, .iconst 0, [], [.int 0]), (115, .iadd, [], []), (116, .istore_n 3, [], []), (117, .iinc 5 1, [], [.int 1]), (120, .goto (-78), [42], []), (123, .iinc 4 1, [], [.int 1]), (126, .goto (-96), [30], []), (129, .iload_n 3, [], []), (130, .ireturn, [0], [])]
/-- 234: OneTurnedModel.weighs(III)V -/
def k_234 : List MIns := [(0, .iload_n 2, [], []), (1, .ifCond .le 61, [62], []), (4, .aload_n 0, [], []), (5, .iload_n 3, [], []), (6, .invokevirtual 204, [1, 1, 12, 209], []), (9, .ifCond .eq 53, [62], []), (12, .aload_n 0, [], []), (13, .iload_n 2, [], []), (14, .aload_n 0, [], []), (15, .getfield 232, [0, 37, 12], []), (18, .if_icmp .le 7, [25], []), (21, .iload_n 1, [], []), (22, .goto 7, [29], []), (25, .aload_n 0, [], []), (26, .getfield 235, [0, 36, 12], []), (29, .putfield 235, [0, 36, 12], []), (32, .aload_n 0, [], []), (33, .iload_n 2, [], []), (34, .aload_n 0, [], []), (35, .getfield 232, [0, 37, 12], []), (38, .if_icmp .le 7, [45], []), (41, .iload_n 2, [], []), (42, .goto 7, [49], []), (45, .aload_n 0, [], []), (46, .getfield 232, [0, 37, 12], []), (49, .putfield 232, [0, 37, 12], []), (52, .aload_n 0, [], []), (53, .dup, [], []), (54, .getfield 238, [0, 38, 12], []), (57, .iload_n 2, [], []), (58, .iadd, [], []), (59, .putfield 238, [0, 38, 12], []), (62, .return_, [], [])]
/-- 235: OneTurnedModel.findsWays()V -/
def k_235 : List MIns := [(0, .aload_n 0, [], []), (1, .invokevirtual 207, [0, 0, 12, 203], []), (4, .aload_n 0, [], []), (5, .iconst (-1), [], [.int (-1)]), (6, .putfield 235, [0, 36, 12], []), (9, .aload_n 0, [], []), (10, .iconst 0, [], [.int 0]), (11, .putfield 232, [0, 37, 12], []), (14, .aload_n 0, [], []), (15, .iconst 0, [], [.int 0]), (16, .putfield 238, [0, 38, 12], []), (19, .aload_n 0, [], []), (20, .iconst 0, [], [.int 0]), (21, .bipush 100, [], [.int 100]), (23, .aload_n 0, [], []), (24, .getfield 82, [0, 2, 12], []), (27, .invokevirtual 241, [3, 0, 12, 234], []), (30, .iconst 0, [], [.int 0]), (31, .istore_n 1, [], []), (32, .iload_n 1, [], []), (33, .aload_n 0, [], []), (34, .getfield 7, [0, 0, 12], []), (37, .if_icmp .ge 30, [67], []), (40, .aload_n 0, [], []), (41, .iconst 1, [], [.int 1]), (42, .iload_n 1, [], []), (43, .iadd, [], []), (44, .aload_n 0, [], []), (45, .iconst 0, [], [.int 0]), (46, .iload_n 1, [], []), (47, .invokevirtual 176, [2, 1, 12, 194], []), (50, .aload_n 0, [], []), (51, .getfield 82, [0, 2, 12], []), (54, .iconst 1, [], [.int 1]), (55, .iload_n 1, [], []), (56, .ishl, [], []), (57, .ixor, [], []), (58, .invokevirtual 241, [3, 0, 12, 234], []), (61, .iinc 1 1, [], [.int 1]), (64, .goto (-32), [32], []), (67, .iconst 0, [], [.int 0]), (68, .istore_n 1, [], []), (69, .iload_n 1, [], []), (70, .iconst 1, [], [.int 1]), (71, .iadd, [], []), (72, .aload_n 0, [], []), (73, .getfield 7, [0, 0, 12], []), (76, .if_icmp .ge 44, [120], []), (79, .aload_n 0, [], []), (80, .getfield 82, [0, 2, 12], []), (83, .iload_n 1, [], []), (84, .iload_n 1, [], []), (85, .iconst 1, [], [.int 1]), (86, .iadd, [], []), (87, .invokestatic 92, [175, 3, 1], []), (90, .istore_n 2, [], []), (91, .iload_n 2, [], []), (92, .aload_n 0, [], []), (93, .getfield 82, [0, 2, 12], []), (96, .if_icmp .eq 18, [114], []), (99, .aload_n 0, [], []), (100, .bipush 21, [], [.int 21]), (102, .iload_n 1, [], []), (103, .iadd, [], []), (104, .aload_n 0, [], []), (105, .iconst 1, [], [.int 1]), (106, .iload_n 1, [], []), (107, .invokevirtual 176, [2, 1, 12, 194], []), (110, .iload_n 2, [], []), (111, .invokevirtual 241, [3, 0, 12, 234], []), (114, .iinc 1 1, [], [.int 1]), (117, .goto (-48), [69], []), (120, .return_, [], [])]
/-- 236: OneTurnedModel.likely(I)I -/
def k_236 : List MIns := [(0, .iload_n 1, [], []), (1, .iconst 0, [], [.int 0]), (2, .iconst 2, [], [.int 2]), (3, .invokestatic 72, [166, 3, 1], []), (6, .ifCond .ne 6, [12], []), (9, .bipush (-2), [], [.int (-2)]), (11, .ireturn, [0], []), (12, .aload_n 0, [], []), (13, .invokevirtual 245, [0, 0, 12, 235], []), (16, .iload_n 1, [], []), (17, .ifCond .ne 10, [27], []), (20, .aload_n 0, [], []), (21, .getfield 235, [0, 36, 12], []), (24, .goto 19, [43], []), (27, .iload_n 1, [], []), (28, .iconst 1, [], [.int 1]), (29, .if_icmp .ne 10, [39], []), (32, .aload_n 0, [], []), (33, .getfield 232, [0, 37, 12], []), (36, .goto 7, [43], []), (39, .aload_n 0, [], []), (40, .getfield 238, [0, 38, 12], []), (43, .ireturn, [0], [])]
/-- 237: OneTurnedModel.lowest(JJI)J -/
def k_237 : List MIns := [(0, .lload_n 0, [], []), (1, .lconst 0, [], [.long 0]), (2, .lcmp, [], []), (3, .ifCond .ne 7, [10], []), (6, .iload 4, [], []), (8, .i2l, [], []), (9, .lreturn, [], []), (10, .lload_n 0, [], []), (11, .lstore 5, [], []), (13, .lload_n 2, [], []), (14, .lstore 7, [], []), (16, .lload 7, [], []), (18, .lconst 0, [], [.long 0]), (19, .lcmp, [], []), (20, .ifCond .eq 21, [41], []), (23, .lload 5, [], []), (25, .lload 7, [], []), (27, .lrem, [], []), (28, .lstore 9, [], []), (30, .lload 7, [], []), (32, .lstore 5, [], []), (34, .lload 9, [], []), (36, .lstore 7, [], []), (38, .goto (-22), [16], []), (41, .iload 4, [], []), (43, .ifCond .ne 7, [50], []), (46, .lload_n 0, [], []), (47, .goto 4, [51], []), (50, .lload_n 2, [], []), (51, .lload 5, [], []), (53, .ldiv, [], []), (54, .lreturn, [], [])]
/-- 238: OneTurnedModel.right(I)J -/
def k_238 : List MIns := [(0, .iload_n 1, [], []), (1, .iconst 0, [], [.int 0]), (2, .iconst 1, [], [.int 1]), (3, .invokestatic 72, [166, 3, 1], []), (6, .ifCond .ne 7, [13], []), (9, .ldc2_w 248, [], [.long (-4611686018427387904)]), (12, .lreturn, [], []), (13, .aload_n 0, [], []), (14, .invokevirtual 245, [0, 0, 12, 235], []), (17, .aload_n 0, [], []), (18, .getfield 238, [0, 38, 12], []), (21, .ifCond .ne 9, [30], []), (24, .ldc2_w 248, [], [.long (-4611686018427387904)]), (27, .goto 17, [44], []), (30, .aload_n 0, [], []), (31, .getfield 232, [0, 37, 12], []), (34, .i2l, [], []), (35, .aload_n 0, [], []), (36, .getfield 238, [0, 38, 12], []), (39, .i2l, [], []), (40, .iload_n 1, [], []), (41, .invokestatic 250, [237, 3, 3], []), (44, .lreturn, [], [])]
/-- 239: OneTurnedModel.cheapest(I)I -/
def k_239 : List MIns := [(0, .iload_n 1, [], []), (1, .iconst 0, [], [.int 0]), (2, .iconst 1, [], [.int 1]), (3, .invokestatic 72, [166, 3, 1], []), (6, .ifCond .ne 6, [12], []), (9, .bipush (-2), [], [.int (-2)]), (11, .ireturn, [0], []), (12, .aload_n 0, [], []), (13, .invokevirtual 254, [0, 1, 12, 211], []), (16, .istore_n 2, [], []), (17, .iconst (-1), [], [.int (-1)]), (18, .istore_n 3, [], []), (19, .iconst 0, [], [.int 0]), (20, .istore 4, [], []), (22, .iconst 0, [], [.int 0]), (23, .istore 5, [], []), (25, .iload 5, [], []), (27, .aload_n 0, [], []), (28, .getfield 7, [0, 0, 12], []), (31, .if_icmp .ge 59, [90], []), (34, .iload_n 2, [], []), (35, .iload 5, [], []), (37, .ishr, [], []), (38, .iconst 1, [], [.int 1]), (39, .iand, [], []), (40, .iconst 1, [], [.int 1]), (41, .if_icmp .ne 43, [84], []), (44, .iload_n 3, [], []), (45, .iconst (-1), [], [.int (-1)]), (46, .if_icmp .eq 19, [65], []), (49, .aload_n 0, [], []), (50, .iconst 2, [], [.int 2]), (51, .iload 5, [], []), (53, .invokevirtual 176, [2, 1, 12, 194], []), (56, .aload_n 0, [], []), (57, .iconst 2, [], [.int 2]), (58, .iload_n 3, [], []), (59, .invokevirtual 176, [2, 1, 12, 194], []), (62, .if_icmp .ge 8, [70], []), (65, .iload 5, [], []), (67, .goto 4, [71], []), (70, .iload_n 3, [], []), (71, .istore_n 3, [], []), (72, .iload 4, [], []), (74, .aload_n 0, [], []), (75, .iconst 2, [], [.int 2]), (76, .iload 5, [], []), (78, .invokevirtual 176, [2, 1, 12, 194], []), (81, .iadd, [], []), (82, .istore 4, [], []), (84, .iinc 5 1, [], [.int 1]), (87, .goto (-62), [25], []), (90, .iload_n 1, [], []), (91, .ifCond .ne 7, [98], []), (94, .iload_n 3, [], []), (95, .goto 5, [100], []), (98, .iload 4, [], []), (100, .ireturn, [0], [])]
/-- 240: OneTurnedModel.lies()I -/
def k_240 : List MIns := [(0, .aload_n 0, [], []), (1, .invokevirtual 207, [0, 0, 12, 203], []), (4, .iconst 0, [], [.int 0]), (5, .istore_n 1, [], []), (6, .iconst 0, [], [.int 0]), (7, .istore_n 2, [], []), (8, .iload_n 2, [], []), (9, .aload_n 0, [], []), (10, .getfield 76, [0, 3, 12], []), (13, .if_icmp .ge 101, [114], []), (16, .bipush 15, [], [.int 15]), (18, .iconst 4, [], [.int 4]), (19, .iload_n 2, [], []), (20, .imul, [], []), (21, .ishl, [], []), (22, .iconst (-1), [], [.int (-1)]), (23, .ixor, [], []), (24, .istore_n 3, [], []), (25, .aload_n 0, [], []), (26, .aload_n 0, [], []), (27, .getfield 82, [0, 2, 12], []), (30, .invokevirtual 201, [1, 1, 12, 204], []), (33, .iload_n 3, [], []), (34, .iand, [], []), (35, .ifCond .ne 7, [42], []), (38, .iconst 1, [], [.int 1]), (39, .goto 4, [43], []), (42, .iconst 0, [], [.int 0]), (43, .istore 4, [], []), (45, .iconst 0, [], [.int 0]), (46, .istore 5, [], []), (48, .iload 5, [], []), (50, .aload_n 0, [], []), (51, .getfield 7, [0, 0, 12], []), (54, .if_icmp .ge 39, [93], []), (57, .iload 4, [], []), (59, .ifCond .ne 21, [80], []), (62, .aload_n 0, [], []), (63, .aload_n 0, [], []), (64, .getfield 82, [0, 2, 12], []), (67, .iconst 1, [], [.int 1]), (68, .iload 5, [], []), (70, .ishl, [], []), (71, .ixor, [], []), (72, .invokevirtual 201, [1, 1, 12, 204], []), (75, .iload_n 3, [], []), (76, .iand, [], []), (77, .ifCond .ne 7, [84], []), (80, .iconst 1, [], [.int 1]), (81, .goto 4, [85], []), (84, .iconst 0, [], [.int 0]), (85, .istore 4, [], []), (87, .iinc 5 1, [], [.int 1]), (90, .goto (-42), [48], []), (93, .iload_n 1, [], []), (94, .iload 4, [], []), (96, .ifCond .eq 9, [105], []), (99, .iconst 1, [], [.int 1]), (100, .iload_n 2, [], []), (101, .ishl, [], []), (102, .goto 4, [106], []), (105, .iconst 0, [], [.int 0]), (106, .ior, [], []), (107, .istore_n 1, [], []), (108, .iinc 2 1, [], [.int 1]), (111, .goto (-103), [8], []), (114, .iload_n 1, [], []), (115, .ireturn, [0], [])]
/-- 241: OneTurnedModel.idle()I -/
def k_241 : List MIns := [(0, .aload_n 0, [], []), (1, .invokevirtual 207, [0, 0, 12, 203], []), (4, .aload_n 0, [], []), (5, .aload_n 0, [], []), (6, .getfield 82, [0, 2, 12], []), (9, .invokevirtual 201, [1, 1, 12, 204], []), (12, .istore_n 1, [], []), (13, .iconst 1, [], [.int 1]), (14, .aload_n 0, [], []), (15, .getfield 76, [0, 3, 12], []), (18, .ishl, [], []), (19, .iconst 1, [], [.int 1]), (20, .isub, [], []), (21, .istore_n 2, [], []), (22, .iconst 0, [], [.int 0]), (23, .istore_n 3, [], []), (24, .iload_n 3, [], []), (25, .aload_n 0, [], []), (26, .invokevirtual 79, [0, 1, 12, 171], []), (29, .if_icmp .gt 86, [115], []), (32, .aload_n 0, [], []), (33, .aload_n 0, [], []), (34, .getfield 82, [0, 2, 12], []), (37, .iload_n 3, [], []), (38, .ixor, [], []), (39, .invokevirtual 201, [1, 1, 12, 204], []), (42, .iload_n 1, [], []), (43, .ixor, [], []), (44, .istore 4, [], []), (46, .iconst 0, [], [.int 0]), (47, .istore 5, [], []), (49, .iload 5, [], []), (51, .aload_n 0, [], []), (52, .getfield 76, [0, 3, 12], []), (55, .if_icmp .ge 54, [109], []), (58, .iload 4, [], []), (60, .ifCond .eq 22, [82], []), (63, .iload 4, [], []), (65, .bipush 15, [], [.int 15]), (67, .iconst 4, [], [.int 4]), (68, .iload 5, [], []), (70, .imul, [], []), (71, .ishl, [], []), (72, .iconst (-1), [], [.int (-1)]), (73, .ixor, [], []), (74, .iand, [], []), (75, .ifCond .ne 7, [82], []), (78, .iconst 1, [], [.int 1]), (79, .goto 4, [83], []), (82, .iconst 0, [], [.int 0]), (83, .istore 6, [], []), (85, .iload_n 2, [], []), (86, .iload 6, [], []), (88, .ifCond .eq 12, [100], []), (91, .iconst 1, [], [.int 1]), (92, .iload 5, [], []), (94, .ishl, [], []), (95, .iconst (-1), [], [.int (-1)]), (96, .ixor, [], []), (97, .goto 4, [101], []), (100, .iload_n 2, [], []), (101, .iand, [], []), (102, .istore_n 2, [], []), (103, .iinc 5 1, [], [.int 1]), (106, .goto (-57), [49], []), (109, .iinc 3 1, [], [.int 1]), (112, .goto (-88), [24], []), (115, .iload_n 2, [], []), (116, .ireturn, [0], [])]
/-- 242: OneTurnedModel.sheetWrong(I)I -/
def k_242 : List MIns := [(0, .iload_n 1, [], []), (1, .iconst 0, [], [.int 0]), (2, .iconst 3, [], [.int 3]), (3, .invokestatic 72, [166, 3, 1], []), (6, .ifCond .ne 6, [12], []), (9, .bipush (-2), [], [.int (-2)]), (11, .ireturn, [0], []), (12, .aload_n 0, [], []), (13, .getfield 35, [2, 19, 12], []), (16, .iload_n 1, [], []), (17, .iaload, [], []), (18, .iconst (-1), [], [.int (-1)]), (19, .if_icmp .ne 6, [25], []), (22, .bipush (-11), [], [.int (-11)]), (24, .ireturn, [0], []), (25, .aload_n 0, [], []), (26, .getfield 38, [2, 20, 12], []), (29, .iload_n 1, [], []), (30, .iaload, [], []), (31, .aload_n 0, [], []), (32, .getfield 76, [0, 3, 12], []), (35, .if_icmp .ne 7, [42], []), (38, .iconst 0, [], [.int 0]), (39, .goto 5, [44], []), (42, .bipush (-2), [], [.int (-2)]), (44, .ireturn, [0], [])]
/-- 243: OneTurnedModel.toldSigns(I)I -/
def k_243 : List MIns := [(0, .iconst 0, [], [.int 0]), (1, .istore_n 2, [], []), (2, .iconst 0, [], [.int 0]), (3, .istore_n 3, [], []), (4, .iload_n 3, [], []), (5, .aload_n 0, [], []), (6, .getfield 76, [0, 3, 12], []), (9, .if_icmp .ge 49, [58], []), (12, .aload_n 0, [], []), (13, .getfield 41, [2, 21, 12], []), (16, .bipush 40, [], [.int 40]), (18, .iload_n 1, [], []), (19, .imul, [], []), (20, .iload_n 3, [], []), (21, .iadd, [], []), (22, .iaload, [], []), (23, .iconst 0, [], [.int 0]), (24, .bipush 15, [], [.int 15]), (26, .invokestatic 72, [166, 3, 1], []), (29, .ifCond .ne 5, [34], []), (32, .iconst (-1), [], [.int (-1)]), (33, .ireturn, [0], []), (34, .iload_n 2, [], []), (35, .aload_n 0, [], []), (36, .getfield 41, [2, 21, 12], []), (39, .bipush 40, [], [.int 40]), (41, .iload_n 1, [], []), (42, .imul, [], []), (43, .iload_n 3, [], []), (44, .iadd, [], []), (45, .iaload, [], []), (46, .iconst 4, [], [.int 4]), (47, .iload_n 3, [], []), (48, .imul, [], []), (49, .ishl, [], []), (50, .ior, [], []), (51, .istore_n 2, [], []), (52, .iinc 3 1, [], [.int 1]), (55, .goto (-51), [4], []), (58, .iload_n 2, [], []), (59, .ireturn, [0], [])]
/-- 244: OneTurnedModel.judge(I)I -/
def k_244 : List MIns := [(0, .aload_n 0, [], []), (1, .iload_n 1, [], []), (2, .invokevirtual 257, [1, 1, 12, 242], []), (5, .istore_n 2, [], []), (6, .iload_n 2, [], []), (7, .ifCond .eq 5, [12], []), (10, .iload_n 2, [], []), (11, .ireturn, [0], []), (12, .aload_n 0, [], []), (13, .aload_n 0, [], []), (14, .getfield 82, [0, 2, 12], []), (17, .invokevirtual 164, [1, 1, 12, 202], []), (20, .istore_n 3, [], []), (21, .iconst 0, [], [.int 0]), (22, .istore 4, [], []), (24, .iload 4, [], []), (26, .aload_n 0, [], []), (27, .getfield 76, [0, 3, 12], []), (30, .if_icmp .ge 36, [66], []), (33, .aload_n 0, [], []), (34, .getfield 41, [2, 21, 12], []), (37, .bipush 40, [], [.int 40]), (39, .iload_n 1, [], []), (40, .imul, [], []), (41, .iload 4, [], []), (43, .iadd, [], []), (44, .iaload, [], []), (45, .iload_n 3, [], []), (46, .iconst 4, [], [.int 4]), (47, .iload 4, [], []), (49, .imul, [], []), (50, .ishr, [], []), (51, .bipush 15, [], [.int 15]), (53, .iand, [], []), (54, .if_icmp .eq 6, [60], []), (57, .iload 4, [], []), (59, .ireturn, [0], []), (60, .iinc 4 1, [], [.int 1]), (63, .goto (-39), [24], []), (66, .iconst (-1), [], [.int (-1)]), (67, .ireturn, [0], [])]
/-- 245: OneTurnedModel.match(II)I -/
def k_245 : List MIns := [(0, .aload_n 0, [], []), (1, .iload_n 1, [], []), (2, .invokevirtual 257, [1, 1, 12, 242], []), (5, .istore_n 3, [], []), (6, .iload_n 3, [], []), (7, .ifCond .ne 12, [19], []), (10, .iload_n 2, [], []), (11, .iconst 0, [], [.int 0]), (12, .iconst 3, [], [.int 3]), (13, .invokestatic 72, [166, 3, 1], []), (16, .ifCond .ne 14, [30], []), (19, .iload_n 3, [], []), (20, .ifCond .eq 7, [27], []), (23, .iload_n 3, [], []), (24, .goto 5, [29], []), (27, .bipush (-7), [], [.int (-7)]), (29, .ireturn, [0], []), (30, .aload_n 0, [], []), (31, .invokevirtual 207, [0, 0, 12, 203], []), (34, .aload_n 0, [], []), (35, .iload_n 1, [], []), (36, .invokevirtual 260, [1, 1, 12, 243], []), (39, .istore 4, [], []), (41, .iconst 0, [], [.int 0]), (42, .istore 5, [], []), (44, .iconst (-1), [], [.int (-1)]), (45, .istore 6, [], []), (47, .sipush 4095, [], [.int 4095]), (50, .istore 7, [], []), (52, .iconst 0, [], [.int 0]), (53, .istore 8, [], []), (55, .iconst 0, [], [.int 0]), (56, .istore 9, [], []), (58, .iload 9, [], []), (60, .aload_n 0, [], []), (61, .invokevirtual 79, [0, 1, 12, 171], []), (64, .if_icmp .gt 52, [116], []), (67, .aload_n 0, [], []), (68, .iload 9, [], []), (70, .invokevirtual 201, [1, 1, 12, 204], []), (73, .iload 4, [], []), (75, .if_icmp .ne 35, [110], []), (78, .iinc 5 1, [], [.int 1]), (81, .iload 6, [], []), (83, .iconst (-1), [], [.int (-1)]), (84, .if_icmp .ne 8, [92], []), (87, .iload 9, [], []), (89, .goto 5, [94], []), (92, .iload 6, [], []), (94, .istore 6, [], []), (96, .iload 7, [], []), (98, .iload 9, [], []), (100, .iand, [], []), (101, .istore 7, [], []), (103, .iload 8, [], []), (105, .iload 9, [], []), (107, .ior, [], []), (108, .istore 8, [], []), (110, .iinc 9 1, [], [.int 1]), (113, .goto (-55), [58], []), (116, .iload_n 2, [], []), (117, .ifCond .ne 8, [125], []), (120, .iload 5, [], []), (122, .goto 34, [156], []), (125, .iload_n 2, [], []), (126, .iconst 1, [], [.int 1]), (127, .if_icmp .ne 8, [135], []), (130, .iload 6, [], []), (132, .goto 24, [156], []), (135, .iload_n 2, [], []), (136, .iconst 3, [], [.int 3]), (137, .if_icmp .ne 8, [145], []), (140, .iload 8, [], []), (142, .goto 14, [156], []), (145, .iload 5, [], []), (147, .ifCond .ne 7, [154], []), (150, .iconst 0, [], [.int 0]), (151, .goto 5, [156], []), (154, .iload 7, [], []), (156, .ireturn, [0], [])]
/-- 246: OneTurnedModel.tells(III)I -/
def k_246 : List MIns := [(0, .aload_n 0, [], []), (1, .iload_n 1, [], []), (2, .invokevirtual 257, [1, 1, 12, 242], []), (5, .istore 4, [], []), (7, .iload 4, [], []), (9, .ifCond .eq 6, [15], []), (12, .iload 4, [], []), (14, .ireturn, [0], []), (15, .aload_n 0, [], []), (16, .iload_n 2, [], []), (17, .invokevirtual 85, [1, 1, 12, 172], []), (20, .ifCond .eq 12, [32], []), (23, .iload_n 3, [], []), (24, .iconst 0, [], [.int 0]), (25, .iconst 1, [], [.int 1]), (26, .invokestatic 72, [166, 3, 1], []), (29, .ifCond .ne 6, [35], []), (32, .bipush (-7), [], [.int (-7)]), (34, .ireturn, [0], []), (35, .aload_n 0, [], []), (36, .iload_n 1, [], []), (37, .invokevirtual 260, [1, 1, 12, 243], []), (40, .istore 5, [], []), (42, .iload 5, [], []), (44, .iconst (-1), [], [.int (-1)]), (45, .if_icmp .ne 7, [52], []), (48, .iconst (-1), [], [.int (-1)]), (49, .goto 10, [59], []), (52, .aload_n 0, [], []), (53, .iload_n 2, [], []), (54, .iload 5, [], []), (56, .invokevirtual 216, [2, 1, 12, 217], []), (59, .istore 6, [], []), (61, .iload_n 3, [], []), (62, .iconst 1, [], [.int 1]), (63, .if_icmp .eq 9, [72], []), (66, .iload 6, [], []), (68, .iconst (-1), [], [.int (-1)]), (69, .if_icmp .ne 8, [77], []), (72, .iload 6, [], []), (74, .goto 8, [82], []), (77, .iload 6, [], []), (79, .invokestatic 213, [168, 1, 1], []), (82, .ireturn, [0], [])]
/-- 247: OneTurnedModel.film(I)I -/
def k_247 : List MIns := [(0, .iload_n 1, [], []), (1, .iconst 0, [], [.int 0]), (2, .iconst 3, [], [.int 3]), (3, .invokestatic 72, [166, 3, 1], []), (6, .ifCond .ne 6, [12], []), (9, .bipush (-2), [], [.int (-2)]), (11, .ireturn, [0], []), (12, .aload_n 0, [], []), (13, .aload_n 0, [], []), (14, .getfield 82, [0, 2, 12], []), (17, .invokevirtual 164, [1, 1, 12, 202], []), (20, .istore_n 2, [], []), (21, .aload_n 0, [], []), (22, .getfield 35, [2, 19, 12], []), (25, .iload_n 1, [], []), (26, .iconst 2, [], [.int 2]), (27, .iastore, [], []), (28, .aload_n 0, [], []), (29, .getfield 38, [2, 20, 12], []), (32, .iload_n 1, [], []), (33, .aload_n 0, [], []), (34, .getfield 76, [0, 3, 12], []), (37, .iastore, [], []), (38, .iconst 0, [], [.int 0]), (39, .istore_n 3, [], []), (40, .iload_n 3, [], []), (41, .bipush 40, [], [.int 40]), (43, .if_icmp .ge 40, [83], []), (46, .aload_n 0, [], []), (47, .getfield 41, [2, 21, 12], []), (50, .bipush 40, [], [.int 40]), (52, .iload_n 1, [], []), (53, .imul, [], []), (54, .iload_n 3, [], []), (55, .iadd, [], []), (56, .iload_n 3, [], []), (57, .aload_n 0, [], []), (58, .getfield 76, [0, 3, 12], []), (61, .if_icmp .ge 14, [75], []), (64, .iload_n 2, [], []), (65, .iconst 4, [], [.int 4]), (66, .iload_n 3, [], []), (67, .imul, [], []), (68, .ishr, [], []), (69, .bipush 15, [], [.int 15]), (71, .iand, [], []), (72, .goto 4, [76], []), (75, .iconst 0, [], [.int 0]), (76, .iastore, [], []), (77, .iinc 3 1, [], [.int 1]), (80, .goto (-40), [40], []), (83, .aload_n 0, [], []), (84, .getfield 76, [0, 3, 12], []), (87, .ireturn, [0], [])]
/-- 248: OneTurnedModel.cardOf(I)I -/
def k_248 : List MIns := [(0, .iload_n 1, [], []), (1, .i2l, [], []), (2, .lconst 1, [], [.long 1]), (3, .ladd, [], []), (4, .ldc2_w 263, [], [.long 48271]), (7, .lmul, [], []), (8, .ldc2_w 265, [], [.long 2147483647]), (11, .lrem, [], []), (12, .lstore_n 2, [], []), (13, .lload_n 2, [], []), (14, .aload_n 0, [], []), (15, .getfield 7, [0, 0, 12], []), (18, .i2l, [], []), (19, .lrem, [], []), (20, .l2i, [], []), (21, .ireturn, [0], [])]
/-- 249: OneTurnedModel.isFound(I)Z -/
def k_249 : List MIns := [(0, .aload_n 0, [], []), (1, .iload_n 1, [], []), (2, .invokevirtual 267, [1, 1, 12, 248], []), (5, .istore_n 2, [], []), (6, .aload_n 0, [], []), (7, .aload_n 0, [], []), (8, .getfield 82, [0, 2, 12], []), (11, .iconst 1, [], [.int 1]), (12, .iload_n 2, [], []), (13, .ishl, [], []), (14, .ixor, [], []), (15, .invokevirtual 210, [1, 1, 12, 210], []), (18, .iconst 1, [], [.int 1]), (19, .iload_n 2, [], []), (20, .ishl, [], []), (21, .if_icmp .ne 7, [28], []), (24, .iconst 1, [], [.int 1]), (25, .goto 4, [29], []), (28, .iconst 0, [], [.int 0]), (29, .ireturn, [1], [])]
/-- 250: OneTurnedModel.evening(II)I -/
def k_250 : List MIns := [(0, .iload_n 1, [], []), (1, .iconst 0, [], [.int 0]), (2, .ldc 219, [], [.int 99999]), (4, .invokestatic 72, [166, 3, 1], []), (7, .ifCond .eq 12, [19], []), (10, .iload_n 2, [], []), (11, .iconst 0, [], [.int 0]), (12, .iconst 1, [], [.int 1]), (13, .invokestatic 72, [166, 3, 1], []), (16, .ifCond .ne 6, [22], []), (19, .bipush (-2), [], [.int (-2)]), (21, .ireturn, [0], []), (22, .aload_n 0, [], []), (23, .invokevirtual 207, [0, 0, 12, 203], []), (26, .iload_n 2, [], []), (27, .ifCond .ne 11, [38], []), (30, .aload_n 0, [], []), (31, .iload_n 1, [], []), (32, .invokevirtual 267, [1, 1, 12, 248], []), (35, .goto 16, [51], []), (38, .aload_n 0, [], []), (39, .iload_n 1, [], []), (40, .invokevirtual 270, [1, 1, 12, 249], []), (43, .ifCond .eq 7, [50], []), (46, .iconst 1, [], [.int 1]), (47, .goto 4, [51], []), (50, .iconst 0, [], [.int 0]), (51, .ireturn, [0], [])]
/-- 251: OneTurnedModel.odds(III)J -/
def k_251 : List MIns := [(0, .iload_n 1, [], []), (1, .iconst 0, [], [.int 0]), (2, .ldc 219, [], [.int 99999]), (4, .invokestatic 72, [166, 3, 1], []), (7, .ifCond .eq 22, [29], []), (10, .iload_n 2, [], []), (11, .iconst 1, [], [.int 1]), (12, .bipush 50, [], [.int 50]), (14, .invokestatic 72, [166, 3, 1], []), (17, .ifCond .eq 12, [29], []), (20, .iload_n 3, [], []), (21, .iconst 0, [], [.int 0]), (22, .iconst 1, [], [.int 1]), (23, .invokestatic 72, [166, 3, 1], []), (26, .ifCond .ne 7, [33], []), (29, .ldc2_w 248, [], [.long (-4611686018427387904)]), (32, .lreturn, [], []), (33, .aload_n 0, [], []), (34, .invokevirtual 207, [0, 0, 12, 203], []), (37, .lconst 0, [], [.long 0]), (38, .lstore 4, [], []), (40, .iconst 0, [], [.int 0]), (41, .istore 6, [], []), (43, .iload 6, [], []), (45, .iload_n 2, [], []), (46, .if_icmp .ge 30, [76], []), (49, .lload 4, [], []), (51, .aload_n 0, [], []), (52, .iload_n 1, [], []), (53, .iload 6, [], []), (55, .iadd, [], []), (56, .invokevirtual 270, [1, 1, 12, 249], []), (59, .ifCond .eq 7, [66], []), (62, .lconst 1, [], [.long 1]), (63, .goto 4, [67], []), (66, .lconst 0, [], [.long 0]), (67, .ladd, [], []), (68, .lstore 4, [], []), (70, .iinc 6 1, [], [.int 1]), (73, .goto (-30), [43], []), (76, .lload 4, [], []), (78, .iload_n 2, [], []), (79, .i2l, [], []), (80, .iload_n 3, [], []), (81, .invokestatic 250, [237, 3, 3], []), (84, .lreturn, [], [])]
/-- 252: OneTurnedModel.image()I -/
def k_252 : List MIns := [(0, .aload_n 0, [], []), (1, .iconst 1, [], [.int 1]), (2, .putfield 182, [1, 13, 12], []), (5, .aload_n 0, [], []), (6, .aload_n 0, [], []), (7, .getfield 7, [0, 0, 12], []), (10, .putfield 273, [0, 14, 12], []), (13, .aload_n 0, [], []), (14, .aload_n 0, [], []), (15, .getfield 13, [0, 1, 12], []), (18, .putfield 276, [0, 15, 12], []), (21, .aload_n 0, [], []), (22, .aload_n 0, [], []), (23, .getfield 82, [0, 2, 12], []), (26, .putfield 279, [0, 16, 12], []), (29, .aload_n 0, [], []), (30, .aload_n 0, [], []), (31, .getfield 76, [0, 3, 12], []), (34, .putfield 186, [0, 17, 12], []), (37, .aload_n 0, [], []), (38, .aload_n 0, [], []), (39, .getfield 99, [0, 12, 12], []), (42, .putfield 282, [0, 18, 12], []), (45, .aload_n 0, [], []), (46, .getfield 82, [0, 2, 12], []), (49, .ireturn, [0], [])]
/-- 253: OneTurnedModel.back()I -/
def k_253 : List MIns := [(0, .aload_n 0, [], []), (1, .getfield 182, [0, 13, 12], []), (4, .ifCond .ne 6, [10], []), (7, .bipush (-3), [], [.int (-3)]), (9, .ireturn, [0], []), (10, .aload_n 0, [], []), (11, .aload_n 0, [], []), (12, .getfield 273, [0, 14, 12], []), (15, .putfield 7, [0, 0, 12], []), (18, .aload_n 0, [], []), (19, .aload_n 0, [], []), (20, .getfield 276, [0, 15, 12], []), (23, .putfield 13, [0, 1, 12], []), (26, .aload_n 0, [], []), (27, .aload_n 0, [], []), (28, .getfield 279, [0, 16, 12], []), (31, .putfield 82, [0, 2, 12], []), (34, .aload_n 0, [], []), (35, .aload_n 0, [], []), (36, .getfield 186, [0, 17, 12], []), (39, .putfield 76, [0, 3, 12], []), (42, .aload_n 0, [], []), (43, .aload_n 0, [], []), (44, .getfield 282, [0, 18, 12], []), (47, .putfield 99, [0, 12, 12], []), (50, .aload_n 0, [], []), (51, .getfield 82, [0, 2, 12], []), (54, .ireturn, [0], [])]
/-- 254: OneTurnedModel.sheet(III)I -/
def k_254 : List MIns := [(0, .iload_n 1, [], []), (1, .iconst 0, [], [.int 0]), (2, .iconst 3, [], [.int 3]), (3, .invokestatic 72, [166, 3, 1], []), (6, .ifCond .eq 23, [29], []), (9, .iload_n 2, [], []), (10, .iconst (-1), [], [.int (-1)]), (11, .iconst 2, [], [.int 2]), (12, .invokestatic 72, [166, 3, 1], []), (15, .ifCond .eq 14, [29], []), (18, .iload_n 2, [], []), (19, .iconst (-1), [], [.int (-1)]), (20, .if_icmp .eq 12, [32], []), (23, .iload_n 3, [], []), (24, .bipush 40, [], [.int 40]), (26, .if_icmp .le 6, [32], []), (29, .bipush (-2), [], [.int (-2)]), (31, .ireturn, [0], []), (32, .iload_n 2, [], []), (33, .iconst (-1), [], [.int (-1)]), (34, .if_icmp .eq 10, [44], []), (37, .iload_n 3, [], []), (38, .ifCond .ge 6, [44], []), (41, .bipush (-14), [], [.int (-14)]), (43, .ireturn, [0], []), (44, .aload_n 0, [], []), (45, .getfield 35, [2, 19, 12], []), (48, .iload_n 1, [], []), (49, .iload_n 2, [], []), (50, .iastore, [], []), (51, .aload_n 0, [], []), (52, .getfield 38, [2, 20, 12], []), (55, .iload_n 1, [], []), (56, .iload_n 2, [], []), (57, .iconst (-1), [], [.int (-1)]), (58, .if_icmp .ne 7, [65], []), (61, .iconst 0, [], [.int 0]), (62, .goto 4, [66], []), (65, .iload_n 3, [], []), (66, .iastore, [], []), (67, .iconst 0, [], [.int 0]), (68, .istore 4, [], []), (70, .iload 4, [], []), (72, .bipush 40, [], [.int 40]), (74, .if_icmp .ge 22, [96], []), (77, .aload_n 0, [], []), (78, .getfield 41, [2, 21, 12], []), (81, .bipush 40, [], [.int 40]), (83, .iload_n 1, [], []), (84, .imul, [], []), (85, .iload 4, [], []), (87, .iadd, [], []), (88, .iconst 0, [], [.int 0]), (89, .iastore, [], []), (90, .iinc 4 1, [], [.int 1]), (93, .goto (-23), [70], []), (96, .iconst 1, [], [.int 1]), (97, .ireturn, [0], [])]
/-- 255: OneTurnedModel.cell(III)I -/
def k_255 : List MIns := [(0, .iload_n 1, [], []), (1, .iconst 0, [], [.int 0]), (2, .iconst 3, [], [.int 3]), (3, .invokestatic 72, [166, 3, 1], []), (6, .ifCond .ne 6, [12], []), (9, .bipush (-2), [], [.int (-2)]), (11, .ireturn, [0], []), (12, .aload_n 0, [], []), (13, .getfield 35, [2, 19, 12], []), (16, .iload_n 1, [], []), (17, .iaload, [], []), (18, .iconst (-1), [], [.int (-1)]), (19, .if_icmp .ne 6, [25], []), (22, .bipush (-11), [], [.int (-11)]), (24, .ireturn, [0], []), (25, .iload_n 2, [], []), (26, .iconst 0, [], [.int 0]), (27, .aload_n 0, [], []), (28, .getfield 38, [2, 20, 12], []), (31, .iload_n 1, [], []), (32, .iaload, [], []), (33, .iconst 1, [], [.int 1]), (34, .isub, [], []), (35, .invokestatic 72, [166, 3, 1], []), (38, .ifCond .ne 6, [44], []), (41, .bipush (-12), [], [.int (-12)]), (43, .ireturn, [0], []), (44, .aload_n 0, [], []), (45, .getfield 41, [2, 21, 12], []), (48, .bipush 40, [], [.int 40]), (50, .iload_n 1, [], []), (51, .imul, [], []), (52, .iload_n 2, [], []), (53, .iadd, [], []), (54, .aload_n 0, [], []), (55, .getfield 35, [2, 19, 12], []), (58, .iload_n 1, [], []), (59, .iaload, [], []), (60, .ifCond .ne 8, [68], []), (63, .iload_n 3, [], []), (64, .i2b, [], []), (65, .goto 19, [84], []), (68, .aload_n 0, [], []), (69, .getfield 35, [2, 19, 12], []), (72, .iload_n 1, [], []), (73, .iaload, [], []), (74, .iconst 1, [], [.int 1]), (75, .if_icmp .ne 8, [83], []), (78, .iload_n 3, [], []), (79, .i2s, [], []), (80, .goto 4, [84], []), (83, .iload_n 3, [], []), (84, .iastore, [], []), (85, .iconst 1, [], [.int 1]), (86, .ireturn, [0], [])]
/-- 256: OneTurnedModel.copy(IIIII)I -/
def k_256 : List MIns := [(0, .iload_n 1, [], []), (1, .iconst 0, [], [.int 0]), (2, .iconst 3, [], [.int 3]), (3, .invokestatic 72, [166, 3, 1], []), (6, .ifCond .eq 12, [18], []), (9, .iload_n 3, [], []), (10, .iconst 0, [], [.int 0]), (11, .iconst 3, [], [.int 3]), (12, .invokestatic 72, [166, 3, 1], []), (15, .ifCond .ne 6, [21], []), (18, .bipush (-2), [], [.int (-2)]), (20, .ireturn, [0], []), (21, .aload_n 0, [], []), (22, .getfield 35, [2, 19, 12], []), (25, .iload_n 1, [], []), (26, .iaload, [], []), (27, .iconst (-1), [], [.int (-1)]), (28, .if_icmp .eq 13, [41], []), (31, .aload_n 0, [], []), (32, .getfield 35, [2, 19, 12], []), (35, .iload_n 3, [], []), (36, .iaload, [], []), (37, .iconst (-1), [], [.int (-1)]), (38, .if_icmp .ne 6, [44], []), (41, .bipush (-11), [], [.int (-11)]), (43, .ireturn, [0], []), (44, .aload_n 0, [], []), (45, .getfield 35, [2, 19, 12], []), (48, .iload_n 1, [], []), (49, .iaload, [], []), (50, .aload_n 0, [], []), (51, .getfield 35, [2, 19, 12], []), (54, .iload_n 3, [], []), (55, .iaload, [], []), (56, .if_icmp .eq 6, [62], []), (59, .bipush (-13), [], [.int (-13)]), (61, .ireturn, [0], []), (62, .iload 5, [], []), (64, .ifCond .lt 60, [124], []), (67, .iload_n 2, [], []), (68, .ifCond .lt 56, [124], []), (71, .iload 4, [], []), (73, .ifCond .lt 51, [124], []), (76, .iload_n 2, [], []), (77, .aload_n 0, [], []), (78, .getfield 38, [2, 20, 12], []), (81, .iload_n 1, [], []), (82, .iaload, [], []), (83, .if_icmp .gt 41, [124], []), (86, .iload 4, [], []), (88, .aload_n 0, [], []), (89, .getfield 38, [2, 20, 12], []), (92, .iload_n 3, [], []), (93, .iaload, [], []), (94, .if_icmp .gt 30, [124], []), (97, .iload 5, [], []), (99, .aload_n 0, [], []), (100, .getfield 38, [2, 20, 12], []), (103, .iload_n 1, [], []), (104, .iaload, [], []), (105, .iload_n 2, [], []), (106, .isub, [], []), (107, .if_icmp .gt 17, [124], []), (110, .iload 5, [], []), (112, .aload_n 0, [], []), (113, .getfield 38, [2, 20, 12], []), (116, .iload_n 3, [], []), (117, .iaload, [], []), (118, .iload 4, [], []), (120, .isub, [], []), (121, .if_icmp .le 6, [127], []), (124, .bipush (-12), [], [.int (-12)]), (126, .ireturn, [0], []), (127, .bipush 40, [], [.int 40]), (129, .iload_n 1, [], []), (130, .imul, [], []), (131, .iload_n 2, [], []), (132, .iadd, [], []), (133, .istore 6, [], []), (135, .bipush 40, [], [.int 40]), (137, .iload_n 3, [], []), (138, .imul, [], []), (139, .iload 4, [], []), (141, .iadd, [], []), (142, .istore 7, [], []), (144, .iconst 0, [], [.int 0]), (145, .istore 8, [], []), (147, .iload 8, [], []), (149, .iload 5, [], []), (151, .if_icmp .ge 50, [201], []), (154, .iload 6, [], []), (156, .iload 7, [], []), (158, .if_icmp .ge 13, [171], []), (161, .iload 5, [], []), (163, .iconst 1, [], [.int 1]), (164, .isub, [], []), (165, .iload 8, [], []), (167, .isub, [], []), (168, .goto 5, [173], []), (171, .iload 8, [], []), (173, .istore 9, [], []), (175, .aload_n 0, [], []), (176, .getfield 41, [2, 21, 12], []), (179, .iload 7, [], []), (181, .iload 9, [], []), (183, .iadd, [], []), (184, .aload_n 0, [], []), (185, .getfield 41, [2, 21, 12], []), (188, .iload 6, [], []), (190, .iload 9, [], []), (192, .iadd, [], []), (193, .iaload, [], []), (194, .iastore, [], []), (195, .iinc 8 1, [], [.int 1]), (198, .goto (-51), [147], []), (201, .iload 5, [], []), (203, .ireturn, [0], [])]
/-- 257: OneTurnedModel.heapsBy(IIII)I -/
def k_257 : List MIns := [(0, .iload_n 1, [], []), (1, .iconst 0, [], [.int 0]), (2, .iconst 3, [], [.int 3]), (3, .invokestatic 72, [166, 3, 1], []), (6, .ifCond .eq 23, [29], []), (9, .iload_n 2, [], []), (10, .iconst 0, [], [.int 0]), (11, .iconst 2, [], [.int 2]), (12, .invokestatic 72, [166, 3, 1], []), (15, .ifCond .eq 14, [29], []), (18, .iload 4, [], []), (20, .iconst 0, [], [.int 0]), (21, .bipush 7, [], [.int 7]), (23, .invokestatic 72, [166, 3, 1], []), (26, .ifCond .ne 6, [32], []), (29, .bipush (-2), [], [.int (-2)]), (31, .ireturn, [0], []), (32, .aload_n 0, [], []), (33, .getfield 35, [2, 19, 12], []), (36, .iload_n 1, [], []), (37, .iaload, [], []), (38, .iconst (-1), [], [.int (-1)]), (39, .if_icmp .ne 6, [45], []), (42, .bipush (-11), [], [.int (-11)]), (44, .ireturn, [0], []), (45, .aload_n 0, [], []), (46, .getfield 35, [2, 19, 12], []), (49, .iload_n 1, [], []), (50, .iaload, [], []), (51, .iload_n 2, [], []), (52, .if_icmp .eq 6, [58], []), (55, .bipush (-13), [], [.int (-13)]), (57, .ireturn, [0], []), (58, .iconst 0, [], [.int 0]), (59, .istore 5, [], []), (61, .iconst 0, [], [.int 0]), (62, .istore 6, [], []), (64, .iload 6, [], []), (66, .iload 4, [], []), (68, .if_icmp .ge 94, [162], []), (71, .iload_n 3, [], []), (72, .iconst 3, [], [.int 3]), (73, .iload 6, [], []), (75, .imul, [], []), (76, .iadd, [], []), (77, .istore 7, [], []), (79, .iload_n 3, [], []), (80, .ifCond .lt 22, [102], []), (83, .iload 7, [], []), (85, .iload_n 3, [], []), (86, .if_icmp .lt 16, [102], []), (89, .iload 7, [], []), (91, .aload_n 0, [], []), (92, .getfield 38, [2, 20, 12], []), (95, .iload_n 1, [], []), (96, .iaload, [], []), (97, .iconst 3, [], [.int 3]), (98, .isub, [], []), (99, .if_icmp .le 6, [105], []), (102, .bipush (-12), [], [.int (-12)]), (104, .ireturn, [0], []), (105, .bipush 40, [], [.int 40]), (107, .iload_n 1, [], []), (108, .imul, [], []), (109, .iload 7, [], []), (111, .iadd, [], []), (112, .istore 8, [], []), (114, .iload 5, [], []), (116, .aload_n 0, [], []), (117, .aload_n 0, [], []), (118, .getfield 41, [2, 21, 12], []), (121, .iload 8, [], []), (123, .iaload, [], []), (124, .aload_n 0, [], []), (125, .getfield 41, [2, 21, 12], []), (128, .iload 8, [], []), (130, .iconst 1, [], [.int 1]), (131, .iadd, [], []), (132, .iaload, [], []), (133, .aload_n 0, [], []), (134, .getfield 41, [2, 21, 12], []), (137, .iload 8, [], []), (139, .iconst 2, [], [.int 2]), (140, .iadd, [], []), (141, .iaload, [], []), (142, .invokevirtual 285, [3, 1, 12, 197], []), (145, .ifCond .lt 7, [152], []), (148, .iconst 1, [], [.int 1]), (149, .goto 4, [153], []), (152, .iconst 0, [], [.int 0]), (153, .iadd, [], []), (154, .istore 5, [], []), (156, .iinc 6 1, [], [.int 1]), (159, .goto (-95), [64], []), (162, .iload 5, [], []), (164, .ireturn, [0], [])]
/-- 258: OneTurnedModel.isUnder(II)Z -/
def k_258 : List MIns := [(0, .iload_n 1, [], []), (1, .ifCond .eq 28, [29], []), (4, .iload_n 0, [], []), (5, .iload_n 1, [], []), (6, .if_icmp .eq 23, [29], []), (9, .iload_n 1, [], []), (10, .iconst 1, [], [.int 1]), (11, .if_icmp .ne 8, [19], []), (14, .iload_n 0, [], []), (15, .iconst 3, [], [.int 3]), (16, .if_icmp .eq 13, [29], []), (19, .iload_n 1, [], []), (20, .iconst 2, [], [.int 2]), (21, .if_icmp .ne 12, [33], []), (24, .iload_n 0, [], []), (25, .iconst 5, [], [.int 5]), (26, .if_icmp .ne 7, [33], []), (29, .iconst 1, [], [.int 1]), (30, .goto 4, [34], []), (33, .iconst 0, [], [.int 0]), (34, .ireturn, [1], [])]
/-- 259: OneTurnedModel.taken(II)I -/
def k_259 : List MIns := [(0, .iload_n 2, [], []), (1, .iconst 0, [], [.int 0]), (2, .bipush 6, [], [.int 6]), (4, .invokestatic 72, [166, 3, 1], []), (7, .ifCond .ne 6, [13], []), (10, .bipush (-2), [], [.int (-2)]), (12, .ireturn, [0], []), (13, .iload_n 1, [], []), (14, .iconst 0, [], [.int 0]), (15, .bipush 18, [], [.int 18]), (17, .invokestatic 72, [166, 3, 1], []), (20, .ifCond .ne 6, [26], []), (23, .bipush (-12), [], [.int (-12)]), (25, .ireturn, [0], []), (26, .iload_n 1, [], []), (27, .bipush 12, [], [.int 12]), (29, .if_icmp .ge 36, [65], []), (32, .iload_n 1, [], []), (33, .aload_n 0, [], []), (34, .getfield 7, [0, 0, 12], []), (37, .if_icmp .lt 8, [45], []), (40, .bipush (-11), [], [.int (-11)]), (42, .goto 22, [64], []), (45, .iload_n 2, [], []), (46, .bipush 6, [], [.int 6]), (48, .if_icmp .ne 14, [62], []), (51, .aload_n 0, [], []), (52, .getfield 82, [0, 2, 12], []), (55, .iload_n 1, [], []), (56, .ishr, [], []), (57, .iconst 1, [], [.int 1]), (58, .iand, [], []), (59, .goto 5, [64], []), (62, .bipush (-13), [], [.int (-13)]), (64, .ireturn, [0], []), (65, .iload_n 1, [], []), (66, .bipush 12, [], [.int 12]), (68, .isub, [], []), (69, .aload_n 0, [], []), (70, .getfield 76, [0, 3, 12], []), (73, .if_icmp .lt 8, [81], []), (76, .bipush (-11), [], [.int (-11)]), (78, .goto 34, [112], []), (81, .iload_n 2, [], []), (82, .bipush 6, [], [.int 6]), (84, .if_icmp .ge 26, [110], []), (87, .aload_n 0, [], []), (88, .getfield 16, [2, 4, 12], []), (91, .iload_n 1, [], []), (92, .bipush 12, [], [.int 12]), (94, .isub, [], []), (95, .iaload, [], []), (96, .iload_n 2, [], []), (97, .invokestatic 288, [258, 2, 1], []), (100, .ifCond .eq 10, [110], []), (103, .iload_n 1, [], []), (104, .bipush 12, [], [.int 12]), (106, .isub, [], []), (107, .goto 5, [112], []), (110, .bipush (-13), [], [.int (-13)]), (112, .ireturn, [0], [])]
/-- 260: java/lang/Integer.bitCount(I)I -/
def k_260 : List MIns := [(0, .iload_n 0, [], []), (1, .iload_n 0, [], []), (2, .iconst 1, [], [.int 1]), (3, .iushr, [], []), (4, .ldc_w 265, [], [.int 1431655765]), (7, .iand, [], []), (8, .isub, [], []), (9, .istore_n 0, [], []), (10, .iload_n 0, [], []), (11, .ldc_w 266, [], [.int 858993459]), (14, .iand, [], []), (15, .iload_n 0, [], []), (16, .iconst 2, [], [.int 2]), (17, .iushr, [], []), (18, .ldc_w 266, [], [.int 858993459]), (21, .iand, [], []), (22, .iadd, [], []), (23, .istore_n 0, [], []), (24, .iload_n 0, [], []), (25, .iload_n 0, [], []), (26, .iconst 4, [], [.int 4]), (27, .iushr, [], []), (28, .iadd, [], []), (29, .ldc_w 267, [], [.int 252645135]), (32, .iand, [], []), (33, .istore_n 0, [], []), (34, .iload_n 0, [], []), (35, .iload_n 0, [], []), (36, .bipush 8, [], [.int 8]), (38, .iushr, [], []), (39, .iadd, [], []), (40, .istore_n 0, [], []), (41, .iload_n 0, [], []), (42, .iload_n 0, [], []), (43, .bipush 16, [], [.int 16]), (45, .iushr, [], []), (46, .iadd, [], []), (47, .istore_n 0, [], []), (48, .iload_n 0, [], []), (49, .bipush 63, [], [.int 63]), (51, .iand, [], []), (52, .ireturn, [0], [])]
/-- 261: java/util/Arrays.fill([II)V -/
def k_261 : List MIns := [(0, .iconst 0, [], [.int 0]), (1, .istore_n 2, [], []), (2, .aload_n 0, [], []), (3, .arraylength, [], []), (4, .istore_n 3, [], []), (5, .iload_n 2, [], []), (6, .iload_n 3, [], []), (7, .if_icmp .ge 13, [20], []), (10, .aload_n 0, [], []), (11, .iload_n 2, [], []), (12, .iload_n 1, [], []), (13, .iastore, [], []), (14, .iinc 2 1, [], [.int 1]), (17, .goto (-12), [5], []), (20, .return_, [], [])]
/-- 262: java/util/Arrays.copyOf([II)[I -/
def k_262 : List MIns := [(0, .iload_n 1, [], []), (1, .aload_n 0, [], []), (2, .arraylength, [], []), (3, .if_icmp .ne 11, [14], []), (6, .aload_n 0, [], []), (7, .invokevirtual 316, [0, 2], []), (10, .checkcast 317, [], []), (13, .areturn, [], []), (14, .iload_n 1, [], []), (15, .newarray .int, [], []), (17, .astore_n 2, [], []), (18, .aload_n 0, [], []), (19, .iconst 0, [], [.int 0]), (20, .aload_n 2, [], []), (21, .iconst 0, [], [.int 0]), (22, .aload_n 0, [], []), (23, .arraylength, [], []), (24, .iload_n 1, [], []), (25, .invokestatic 304, [1001, 2, 1], []), (28, .invokestatic 150, [1002, 5, 0], []), (31, .aload_n 2, [], []), (32, .areturn, [], [])]
/-- 263: OneTurnedLaw.law([I)Z -/
def k_263 : List MIns := [(0, .new 7, [11], [.null, .null, .null, .null, .int 0, .int 0, .null, .null, .null, .null, .null]), (3, .dup, [], []), (4, .invokespecial 9, [83, 0, 0], []), (7, .astore_n 1, [], []), (8, .new 10, [12], [.int 0, .int 0, .int 0, .int 0, .null, .null, .null, .null, .int 0, .null, .null, .int 0, .int 0, .int 0, .int 0, .int 0, .int 0, .int 0, .int 0, .null, .null, .null, .null, .int 0, .int 0, .int 0, .int 0, .null, .null, .int 0, .int 0, .int 0, .null, .null, .null, .null, .int 0, .int 0, .int 0]), (11, .dup, [], []), (12, .invokespecial 12, [165, 0, 0], []), (15, .astore_n 2, [], []), (16, .iconst 0, [], [.int 0]), (17, .istore_n 3, [], []), (18, .iload_n 3, [], []), (19, .aload_n 0, [], []), (20, .arraylength, [], []), (21, .bipush 7, [], [.int 7]), (23, .isub, [], []), (24, .if_icmp .gt 1597, [1621], []), (27, .aload_n 0, [], []), (28, .iload_n 3, [], []), (29, .iaload, [], []), (30, .bipush 63, [], [.int 63]), (32, .iand, [], []), (33, .tableswitch 1582 0 48 #[211, 244, 267, 300, 323, 398, 411, 434, 467, 510, 523, 556, 579, 602, 615, 638, 661, 684, 707, 730, 763, 786, 809, 832, 845, 868, 891, 924, 947, 970, 1003, 1026, 1049, 1073, 1096, 1109, 1122, 1145, 1178, 1221, 1244, 1277, 1321, 1334, 1347, 1390, 1433, 1496, 1549], [1615, 244, 277, 300, 333, 356, 431, 444, 467, 500, 543, 556, 589, 612, 635, 648, 671, 694, 717, 740, 763, 796, 819, 842, 865, 878, 901, 924, 957, 980, 1003, 1036, 1059, 1082, 1106, 1129, 1142, 1155, 1178, 1211, 1254, 1277, 1310, 1354, 1367, 1380, 1423, 1466, 1529, 1582], [.int 0, .int 1, .int 2, .int 3, .int 4, .int 5, .int 6, .int 7, .int 8, .int 9, .int 10, .int 11, .int 12, .int 13, .int 14, .int 15, .int 16, .int 17, .int 18, .int 19, .int 20, .int 21, .int 22, .int 23, .int 24, .int 25, .int 26, .int 27, .int 28, .int 29, .int 30, .int 31, .int 32, .int 33, .int 34, .int 35, .int 36, .int 37, .int 38, .int 39, .int 40, .int 41, .int 42, .int 43, .int 44, .int 45, .int 46, .int 47, .int 48]), (244, .aload_n 1, [], []), (245, .aload_n 0, [], []), (246, .iload_n 3, [], []), (247, .iconst 1, [], [.int 1]), (248, .iadd, [], []), (249, .iaload, [], []), (250, .aload_n 0, [], []), (251, .iload_n 3, [], []), (252, .iconst 2, [], [.int 2]), (253, .iadd, [], []), (254, .iaload, [], []), (255, .invokevirtual 13, [2, 1, 11, 84], []), (258, .aload_n 2, [], []), (259, .aload_n 0, [], []), (260, .iload_n 3, [], []), (261, .iconst 1, [], [.int 1]), (262, .iadd, [], []), (263, .iaload, [], []), (264, .aload_n 0, [], []), (265, .iload_n 3, [], []), (266, .iconst 2, [], [.int 2]), (267, .iadd, [], []), (268, .iaload, [], []), (269, .invokevirtual 17, [2, 1, 12, 173], []), (272, .if_icmp .eq 1343, [1615], []), (275, .iconst 0, [], [.int 0]), (276, .ireturn, [1], []), (277, .aload_n 1, [], []), (278, .aload_n 0, [], []), (279, .iload_n 3, [], []), (280, .iconst 1, [], [.int 1]), (281, .iadd, [], []), (282, .iaload, [], []), (283, .invokevirtual 18, [1, 1, 11, 85], []), (286, .aload_n 2, [], []), (287, .aload_n 0, [], []), (288, .iload_n 3, [], []), (289, .iconst 1, [], [.int 1]), (290, .iadd, [], []), (291, .iaload, [], []), (292, .invokevirtual 22, [1, 1, 12, 174], []), (295, .if_icmp .eq 1320, [1615], []), (298, .iconst 0, [], [.int 0]), (299, .ireturn, [1], []), (300, .aload_n 1, [], []), (301, .aload_n 0, [], []), (302, .iload_n 3, [], []), (303, .iconst 1, [], [.int 1]), (304, .iadd, [], []), (305, .iaload, [], []), (306, .aload_n 0, [], []), (307, .iload_n 3, [], []), (308, .iconst 2, [], [.int 2]), (309, .iadd, [], []), (310, .iaload, [], []), (311, .invokevirtual 23, [2, 1, 11, 86], []), (314, .aload_n 2, [], []), (315, .aload_n 0, [], []), (316, .iload_n 3, [], []), (317, .iconst 1, [], [.int 1]), (318, .iadd, [], []), (319, .iaload, [], []), (320, .aload_n 0, [], []), (321, .iload_n 3, [], []), (322, .iconst 2, [], [.int 2]), (323, .iadd, [], []), (324, .iaload, [], []), (325, .invokevirtual 26, [2, 1, 12, 176], []), (328, .if_icmp .eq 1287, [1615], []), (331, .iconst 0, [], [.int 0]), (332, .ireturn, [1], []), (333, .aload_n 1, [], []), (334, .aload_n 0, [], []), (335, .iload_n 3, [], []), (336, .iconst 1, [], [.int 1]), (337, .iadd, [], []), (338, .iaload, [], []), (339, .invokevirtual 27, [1, 1, 11, 87], []), (342, .aload_n 2, [], []), (343, .aload_n 0, [], []), (344, .iload_n 3, [], []), (345, .iconst 1, [], [.int 1]), (346, .iadd, [], []), (347, .iaload, [], []), (348, .invokevirtual 30, [1, 1, 12, 177], []), (351, .if_icmp .eq 1264, [1615], []), (354, .iconst 0, [], [.int 0]), (355, .ireturn, [1], []), (356, .aload_n 1, [], []), (357, .aload_n 0, [], []), (358, .iload_n 3, [], []), (359, .iconst 1, [], [.int 1]), (360, .iadd, [], []), (361, .iaload, [], []), (362, .aload_n 0, [], []), (363, .iload_n 3, [], []), (364, .iconst 2, [], [.int 2]), (365, .iadd, [], []), (366, .iaload, [], []), (367, .aload_n 0, [], []), (368, .iload_n 3, [], []), (369, .iconst 3, [], [.int 3]), (370, .iadd, [], []), (371, .iaload, [], []), (372, .aload_n 0, [], []), (373, .iload_n 3, [], []), (374, .iconst 4, [], [.int 4]), (375, .iadd, [], []), (376, .iaload, [], []), (377, .aload_n 0, [], []), (378, .iload_n 3, [], []), (379, .iconst 5, [], [.int 5]), (380, .iadd, [], []), (381, .iaload, [], []), (382, .aload_n 0, [], []), (383, .iload_n 3, [], []), (384, .bipush 6, [], [.int 6]), (386, .iadd, [], []), (387, .iaload, [], []), (388, .invokevirtual 31, [6, 1, 11, 88], []), (391, .aload_n 2, [], []), (392, .aload_n 0, [], []), (393, .iload_n 3, [], []), (394, .iconst 1, [], [.int 1]), (395, .iadd, [], []), (396, .iaload, [], []), (397, .aload_n 0, [], []), (398, .iload_n 3, [], []), (399, .iconst 2, [], [.int 2]), (400, .iadd, [], []), (401, .iaload, [], []), (402, .aload_n 0, [], []), (403, .iload_n 3, [], []), (404, .iconst 3, [], [.int 3]), (405, .iadd, [], []), (406, .iaload, [], []), (407, .aload_n 0, [], []), (408, .iload_n 3, [], []), (409, .iconst 4, [], [.int 4]), (410, .iadd, [], []), (411, .iaload, [], []), (412, .aload_n 0, [], []), (413, .iload_n 3, [], []), (414, .iconst 5, [], [.int 5]), (415, .iadd, [], []), (416, .iaload, [], []), (417, .aload_n 0, [], []), (418, .iload_n 3, [], []), (419, .bipush 6, [], [.int 6]), (421, .iadd, [], []), (422, .iaload, [], []), (423, .invokevirtual 35, [6, 1, 12, 179], []), (426, .if_icmp .eq 1189, [1615], []), (429, .iconst 0, [], [.int 0]), (430, .ireturn, [1], []), (431, .aload_n 1, [], []), (432, .invokevirtual 36, [0, 1, 11, 89], []), (435, .aload_n 2, [], []), (436, .invokevirtual 40, [0, 1, 12, 190], []), (439, .if_icmp .eq 1176, [1615], []), (442, .iconst 0, [], [.int 0]), (443, .ireturn, [1], []), (444, .aload_n 1, [], []), (445, .aload_n 0, [], []), (446, .iload_n 3, [], []), (447, .iconst 1, [], [.int 1]), (448, .iadd, [], []), (449, .iaload, [], []), (450, .invokevirtual 41, [1, 1, 11, 90], []), (453, .aload_n 2, [], []), (454, .aload_n 0, [], []), (455, .iload_n 3, [], []), (456, .iconst 1, [], [.int 1]), (457, .iadd, [], []), (458, .iaload, [], []), (459, .invokevirtual 44, [1, 1, 12, 193], []), (462, .if_icmp .eq 1153, [1615], []), (465, .iconst 0, [], [.int 0]), (466, .ireturn, [1], []), (467, .aload_n 1, [], []), (468, .aload_n 0, [], []), (469, .iload_n 3, [], []), (470, .iconst 1, [], [.int 1]), (471, .iadd, [], []), (472, .iaload, [], []), (473, .aload_n 0, [], []), (474, .iload_n 3, [], []), (475, .iconst 2, [], [.int 2]), (476, .iadd, [], []), (477, .iaload, [], []), (478, .invokevirtual 45, [2, 1, 11, 91], []), (481, .aload_n 2, [], []), (482, .aload_n 0, [], []), (483, .iload_n 3, [], []), (484, .iconst 1, [], [.int 1]), (485, .iadd, [], []), (486, .iaload, [], []), (487, .aload_n 0, [], []), (488, .iload_n 3, [], []), (489, .iconst 2, [], [.int 2]), (490, .iadd, [], []), (491, .iaload, [], []), (492, .invokevirtual 48, [2, 1, 12, 195], []), (495, .if_icmp .eq 1120, [1615], []), (498, .iconst 0, [], [.int 0]), (499, .ireturn, [1], []), (500, .aload_n 1, [], []), (501, .aload_n 0, [], []), (502, .iload_n 3, [], []), (503, .iconst 1, [], [.int 1]), (504, .iadd, [], []), (505, .iaload, [], []), (506, .aload_n 0, [], []), (507, .iload_n 3, [], []), (508, .iconst 2, [], [.int 2]), (509, .iadd, [], []), (510, .iaload, [], []), (511, .aload_n 0, [], []), (512, .iload_n 3, [], []), (513, .iconst 3, [], [.int 3]), (514, .iadd, [], []), (515, .iaload, [], []), (516, .invokevirtual 49, [3, 1, 11, 92], []), (519, .aload_n 2, [], []), (520, .aload_n 0, [], []), (521, .iload_n 3, [], []), (522, .iconst 1, [], [.int 1]), (523, .iadd, [], []), (524, .iaload, [], []), (525, .aload_n 0, [], []), (526, .iload_n 3, [], []), (527, .iconst 2, [], [.int 2]), (528, .iadd, [], []), (529, .iaload, [], []), (530, .aload_n 0, [], []), (531, .iload_n 3, [], []), (532, .iconst 3, [], [.int 3]), (533, .iadd, [], []), (534, .iaload, [], []), (535, .invokevirtual 53, [3, 1, 12, 197], []), (538, .if_icmp .eq 1077, [1615], []), (541, .iconst 0, [], [.int 0]), (542, .ireturn, [1], []), (543, .aload_n 1, [], []), (544, .invokevirtual 54, [0, 1, 11, 93], []), (547, .aload_n 2, [], []), (548, .invokevirtual 57, [0, 1, 12, 198], []), (551, .if_icmp .eq 1064, [1615], []), (554, .iconst 0, [], [.int 0]), (555, .ireturn, [1], []), (556, .aload_n 1, [], []), (557, .aload_n 0, [], []), (558, .iload_n 3, [], []), (559, .iconst 1, [], [.int 1]), (560, .iadd, [], []), (561, .iaload, [], []), (562, .aload_n 0, [], []), (563, .iload_n 3, [], []), (564, .iconst 2, [], [.int 2]), (565, .iadd, [], []), (566, .iaload, [], []), (567, .invokevirtual 58, [2, 1, 11, 94], []), (570, .aload_n 2, [], []), (571, .aload_n 0, [], []), (572, .iload_n 3, [], []), (573, .iconst 1, [], [.int 1]), (574, .iadd, [], []), (575, .iaload, [], []), (576, .aload_n 0, [], []), (577, .iload_n 3, [], []), (578, .iconst 2, [], [.int 2]), (579, .iadd, [], []), (580, .iaload, [], []), (581, .invokevirtual 61, [2, 1, 12, 206], []), (584, .if_icmp .eq 1031, [1615], []), (587, .iconst 0, [], [.int 0]), (588, .ireturn, [1], []), (589, .aload_n 1, [], []), (590, .aload_n 0, [], []), (591, .iload_n 3, [], []), (592, .iconst 1, [], [.int 1]), (593, .iadd, [], []), (594, .iaload, [], []), (595, .invokevirtual 62, [1, 1, 11, 95], []), (598, .aload_n 2, [], []), (599, .aload_n 0, [], []), (600, .iload_n 3, [], []), (601, .iconst 1, [], [.int 1]), (602, .iadd, [], []), (603, .iaload, [], []), (604, .invokevirtual 65, [1, 1, 12, 207], []), (607, .if_icmp .eq 1008, [1615], []), (610, .iconst 0, [], [.int 0]), (611, .ireturn, [1], []), (612, .aload_n 1, [], []), (613, .aload_n 0, [], []), (614, .iload_n 3, [], []), (615, .iconst 1, [], [.int 1]), (616, .iadd, [], []), (617, .iaload, [], []), (618, .invokevirtual 66, [1, 1, 11, 96], []), (621, .aload_n 2, [], []), (622, .aload_n 0, [], []), (623, .iload_n 3, [], []), (624, .iconst 1, [], [.int 1]), (625, .iadd, [], []), (626, .iaload, [], []), (627, .invokevirtual 69, [1, 1, 12, 208], []), (630, .if_icmp .eq 985, [1615], []), (633, .iconst 0, [], [.int 0]), (634, .ireturn, [1], []), (635, .aload_n 1, [], []), (636, .invokevirtual 70, [0, 1, 11, 97], []), (639, .aload_n 2, [], []), (640, .invokevirtual 73, [0, 1, 12, 211], []), (643, .if_icmp .eq 972, [1615], []), (646, .iconst 0, [], [.int 0]), (647, .ireturn, [1], []), (648, .aload_n 1, [], []), (649, .aload_n 0, [], []), (650, .iload_n 3, [], []), (651, .iconst 1, [], [.int 1]), (652, .iadd, [], []), (653, .iaload, [], []), (654, .invokevirtual 74, [1, 1, 11, 98], []), (657, .aload_n 2, [], []), (658, .aload_n 0, [], []), (659, .iload_n 3, [], []), (660, .iconst 1, [], [.int 1]), (661, .iadd, [], []), (662, .iaload, [], []), (663, .invokevirtual 77, [1, 1, 12, 212], []), (666, .if_icmp .eq 949, [1615], []), (669, .iconst 0, [], [.int 0]), (670, .ireturn, [1], []), (671, .aload_n 1, [], []), (672, .aload_n 0, [], []), (673, .iload_n 3, [], []), (674, .iconst 1, [], [.int 1]), (675, .iadd, [], []), (676, .iaload, [], []), (677, .invokevirtual 78, [1, 1, 11, 99], []), (680, .aload_n 2, [], []), (681, .aload_n 0, [], []), (682, .iload_n 3, [], []), (683, .iconst 1, [], [.int 1]), (684, .iadd, [], []), (685, .iaload, [], []), (686, .invokevirtual 81, [1, 1, 12, 213], []), (689, .if_icmp .eq 926, [1615], []), (692, .iconst 0, [], [.int 0]), (693, .ireturn, [1], []), (694, .aload_n 1, [], []), (695, .aload_n 0, [], []), (696, .iload_n 3, [], []), (697, .iconst 1, [], [.int 1]), (698, .iadd, [], []), (699, .iaload, [], []), (700, .invokevirtual 82, [1, 1, 11, 100], []), (703, .aload_n 2, [], []), (704, .aload_n 0, [], []), (705, .iload_n 3, [], []), (706, .iconst 1, [], [.int 1]), (707, .iadd, [], []), (708, .iaload, [], []), (709, .invokevirtual 85, [1, 1, 12, 214], []), (712, .if_icmp .eq 903, [1615], []), (715, .iconst 0, [], [.int 0]), (716, .ireturn, [1], []), (717, .aload_n 1, [], []), (718, .aload_n 0, [], []), (719, .iload_n 3, [], []), (720, .iconst 1, [], [.int 1]), (721, .iadd, [], []), (722, .iaload, [], []), (723, .invokevirtual 86, [1, 1, 11, 101], []), (726, .aload_n 2, [], []), (727, .aload_n 0, [], []), (728, .iload_n 3, [], []), (729, .iconst 1, [], [.int 1]), (730, .iadd, [], []), (731, .iaload, [], []), (732, .invokevirtual 89, [1, 1, 12, 215], []), (735, .if_icmp .eq 880, [1615], []), (738, .iconst 0, [], [.int 0]), (739, .ireturn, [1], []), (740, .aload_n 1, [], []), (741, .aload_n 0, [], []), (742, .iload_n 3, [], []), (743, .iconst 1, [], [.int 1]), (744, .iadd, [], []), (745, .iaload, [], []), (746, .invokevirtual 90, [1, 1, 11, 102], []), (749, .aload_n 2, [], []), (750, .aload_n 0, [], []), (751, .iload_n 3, [], []), (752, .iconst 1, [], [.int 1]), (753, .iadd, [], []), (754, .iaload, [], []), (755, .invokevirtual 93, [1, 1, 12, 216], []), (758, .if_icmp .eq 857, [1615], []), (761, .iconst 0, [], [.int 0]), (762, .ireturn, [1], []), (763, .aload_n 1, [], []), (764, .aload_n 0, [], []), (765, .iload_n 3, [], []), (766, .iconst 1, [], [.int 1]), (767, .iadd, [], []), (768, .iaload, [], []), (769, .aload_n 0, [], []), (770, .iload_n 3, [], []), (771, .iconst 2, [], [.int 2]), (772, .iadd, [], []), (773, .iaload, [], []), (774, .invokevirtual 94, [2, 1, 11, 103], []), (777, .aload_n 2, [], []), (778, .aload_n 0, [], []), (779, .iload_n 3, [], []), (780, .iconst 1, [], [.int 1]), (781, .iadd, [], []), (782, .iaload, [], []), (783, .aload_n 0, [], []), (784, .iload_n 3, [], []), (785, .iconst 2, [], [.int 2]), (786, .iadd, [], []), (787, .iaload, [], []), (788, .invokevirtual 97, [2, 1, 12, 218], []), (791, .if_icmp .eq 824, [1615], []), (794, .iconst 0, [], [.int 0]), (795, .ireturn, [1], []), (796, .aload_n 1, [], []), (797, .aload_n 0, [], []), (798, .iload_n 3, [], []), (799, .iconst 1, [], [.int 1]), (800, .iadd, [], []), (801, .iaload, [], []), (802, .invokevirtual 98, [1, 1, 11, 104], []), (805, .aload_n 2, [], []), (806, .aload_n 0, [], []), (807, .iload_n 3, [], []), (808, .iconst 1, [], [.int 1]), (809, .iadd, [], []), (810, .iaload, [], []), (811, .invokevirtual 101, [1, 1, 12, 219], []), (814, .if_icmp .eq 801, [1615], []), (817, .iconst 0, [], [.int 0]), (818, .ireturn, [1], []), (819, .aload_n 1, [], []), (820, .aload_n 0, [], []), (821, .iload_n 3, [], []), (822, .iconst 1, [], [.int 1]), (823, .iadd, [], []), (824, .iaload, [], []), (825, .invokevirtual 102, [1, 1, 11, 105], []), (828, .aload_n 2, [], []), (829, .aload_n 0, [], []), (830, .iload_n 3, [], []), (831, .iconst 1, [], [.int 1]), (832, .iadd, [], []), (833, .iaload, [], []), (834, .invokevirtual 105, [1, 1, 12, 220], []), (837, .if_icmp .eq 778, [1615], []), (840, .iconst 0, [], [.int 0]), (841, .ireturn, [1], []), (842, .aload_n 1, [], []), (843, .aload_n 0, [], []), (844, .iload_n 3, [], []), (845, .iconst 1, [], [.int 1]), (846, .iadd, [], []), (847, .iaload, [], []), (848, .invokevirtual 106, [1, 1, 11, 106], []), (851, .aload_n 2, [], []), (852, .aload_n 0, [], []), (853, .iload_n 3, [], []), (854, .iconst 1, [], [.int 1]), (855, .iadd, [], []), (856, .iaload, [], []), (857, .invokevirtual 109, [1, 1, 12, 222], []), (860, .if_icmp .eq 755, [1615], []), (863, .iconst 0, [], [.int 0]), (864, .ireturn, [1], []), (865, .aload_n 1, [], []), (866, .invokevirtual 110, [0, 1, 11, 107], []), (869, .aload_n 2, [], []), (870, .invokevirtual 113, [0, 1, 12, 224], []), (873, .if_icmp .eq 742, [1615], []), (876, .iconst 0, [], [.int 0]), (877, .ireturn, [1], []), (878, .aload_n 1, [], []), (879, .aload_n 0, [], []), (880, .iload_n 3, [], []), (881, .iconst 1, [], [.int 1]), (882, .iadd, [], []), (883, .iaload, [], []), (884, .invokevirtual 114, [1, 1, 11, 108], []), (887, .aload_n 2, [], []), (888, .aload_n 0, [], []), (889, .iload_n 3, [], []), (890, .iconst 1, [], [.int 1]), (891, .iadd, [], []), (892, .iaload, [], []), (893, .invokevirtual 117, [1, 1, 12, 225], []), (896, .if_icmp .eq 719, [1615], []), (899, .iconst 0, [], [.int 0]), (900, .ireturn, [1], []), (901, .aload_n 1, [], []), (902, .aload_n 0, [], []), (903, .iload_n 3, [], []), (904, .iconst 1, [], [.int 1]), (905, .iadd, [], []), (906, .iaload, [], []), (907, .invokevirtual 118, [1, 1, 11, 109], []), (910, .aload_n 2, [], []), (911, .aload_n 0, [], []), (912, .iload_n 3, [], []), (913, .iconst 1, [], [.int 1]), (914, .iadd, [], []), (915, .iaload, [], []), (916, .invokevirtual 121, [1, 1, 12, 226], []), (919, .if_icmp .eq 696, [1615], []), (922, .iconst 0, [], [.int 0]), (923, .ireturn, [1], []), (924, .aload_n 1, [], []), (925, .aload_n 0, [], []), (926, .iload_n 3, [], []), (927, .iconst 1, [], [.int 1]), (928, .iadd, [], []), (929, .iaload, [], []), (930, .aload_n 0, [], []), (931, .iload_n 3, [], []), (932, .iconst 2, [], [.int 2]), (933, .iadd, [], []), (934, .iaload, [], []), (935, .invokevirtual 122, [2, 1, 11, 110], []), (938, .aload_n 2, [], []), (939, .aload_n 0, [], []), (940, .iload_n 3, [], []), (941, .iconst 1, [], [.int 1]), (942, .iadd, [], []), (943, .iaload, [], []), (944, .aload_n 0, [], []), (945, .iload_n 3, [], []), (946, .iconst 2, [], [.int 2]), (947, .iadd, [], []), (948, .iaload, [], []), (949, .invokevirtual 125, [2, 1, 12, 227], []), (952, .if_icmp .eq 663, [1615], []), (955, .iconst 0, [], [.int 0]), (956, .ireturn, [1], []), (957, .aload_n 1, [], []), (958, .aload_n 0, [], []), (959, .iload_n 3, [], []), (960, .iconst 1, [], [.int 1]), (961, .iadd, [], []), (962, .iaload, [], []), (963, .invokevirtual 126, [1, 1, 11, 111], []), (966, .aload_n 2, [], []), (967, .aload_n 0, [], []), (968, .iload_n 3, [], []), (969, .iconst 1, [], [.int 1]), (970, .iadd, [], []), (971, .iaload, [], []), (972, .invokevirtual 129, [1, 1, 12, 229], []), (975, .if_icmp .eq 640, [1615], []), (978, .iconst 0, [], [.int 0]), (979, .ireturn, [1], []), (980, .aload_n 1, [], []), (981, .aload_n 0, [], []), (982, .iload_n 3, [], []), (983, .iconst 1, [], [.int 1]), (984, .iadd, [], []), (985, .iaload, [], []), (986, .invokevirtual 130, [1, 1, 11, 112], []), (989, .aload_n 2, [], []), (990, .aload_n 0, [], []), (991, .iload_n 3, [], []), (992, .iconst 1, [], [.int 1]), (993, .iadd, [], []), (994, .iaload, [], []), (995, .invokevirtual 133, [1, 1, 12, 230], []), (998, .if_icmp .eq 617, [1615], []), (1001, .iconst 0, [], [.int 0]), (1002, .ireturn, [1], []), (1003, .aload_n 1, [], []), (1004, .aload_n 0, [], []), (1005, .iload_n 3, [], []), (1006, .iconst 1, [], [.int 1]), (1007, .iadd, [], []), (1008, .iaload, [], []), (1009, .aload_n 0, [], []), (1010, .iload_n 3, [], []), (1011, .iconst 2, [], [.int 2]), (1012, .iadd, [], []), (1013, .iaload, [], []), (1014, .invokevirtual 134, [2, 1, 11, 113], []), (1017, .aload_n 2, [], []), (1018, .aload_n 0, [], []), (1019, .iload_n 3, [], []), (1020, .iconst 1, [], [.int 1]), (1021, .iadd, [], []), (1022, .iaload, [], []), (1023, .aload_n 0, [], []), (1024, .iload_n 3, [], []), (1025, .iconst 2, [], [.int 2]), (1026, .iadd, [], []), (1027, .iaload, [], []), (1028, .invokevirtual 137, [2, 1, 12, 232], []), (1031, .if_icmp .eq 584, [1615], []), (1034, .iconst 0, [], [.int 0]), (1035, .ireturn, [1], []), (1036, .aload_n 1, [], []), (1037, .aload_n 0, [], []), (1038, .iload_n 3, [], []), (1039, .iconst 1, [], [.int 1]), (1040, .iadd, [], []), (1041, .iaload, [], []), (1042, .invokevirtual 138, [1, 1, 11, 114], []), (1045, .aload_n 2, [], []), (1046, .aload_n 0, [], []), (1047, .iload_n 3, [], []), (1048, .iconst 1, [], [.int 1]), (1049, .iadd, [], []), (1050, .iaload, [], []), (1051, .invokevirtual 141, [1, 1, 12, 233], []), (1054, .if_icmp .eq 561, [1615], []), (1057, .iconst 0, [], [.int 0]), (1058, .ireturn, [1], []), (1059, .aload_n 1, [], []), (1060, .aload_n 0, [], []), (1061, .iload_n 3, [], []), (1062, .iconst 1, [], [.int 1]), (1063, .iadd, [], []), (1064, .iaload, [], []), (1065, .invokevirtual 142, [1, 1, 11, 115], []), (1068, .aload_n 2, [], []), (1069, .aload_n 0, [], []), (1070, .iload_n 3, [], []), (1071, .iconst 1, [], [.int 1]), (1072, .iadd, [], []), (1073, .iaload, [], []), (1074, .invokevirtual 145, [1, 1, 12, 236], []), (1077, .if_icmp .eq 538, [1615], []), (1080, .iconst 0, [], [.int 0]), (1081, .ireturn, [1], []), (1082, .aload_n 1, [], []), (1083, .aload_n 0, [], []), (1084, .iload_n 3, [], []), (1085, .iconst 1, [], [.int 1]), (1086, .iadd, [], []), (1087, .iaload, [], []), (1088, .invokevirtual 146, [1, 3, 11, 116], []), (1091, .aload_n 2, [], []), (1092, .aload_n 0, [], []), (1093, .iload_n 3, [], []), (1094, .iconst 1, [], [.int 1]), (1095, .iadd, [], []), (1096, .iaload, [], []), (1097, .invokevirtual 150, [1, 3, 12, 238], []), (1100, .lcmp, [], []), (1101, .ifCond .eq 514, [1615], []), (1104, .iconst 0, [], [.int 0]), (1105, .ireturn, [1], []), (1106, .aload_n 1, [], []), (1107, .aload_n 0, [], []), (1108, .iload_n 3, [], []), (1109, .iconst 1, [], [.int 1]), (1110, .iadd, [], []), (1111, .iaload, [], []), (1112, .invokevirtual 151, [1, 1, 11, 117], []), (1115, .aload_n 2, [], []), (1116, .aload_n 0, [], []), (1117, .iload_n 3, [], []), (1118, .iconst 1, [], [.int 1]), (1119, .iadd, [], []), (1120, .iaload, [], []), (1121, .invokevirtual 154, [1, 1, 12, 239], []), (1124, .if_icmp .eq 491, [1615], []), (1127, .iconst 0, [], [.int 0]), (1128, .ireturn, [1], []), (1129, .aload_n 1, [], []), (1130, .invokevirtual 155, [0, 1, 11, 118], []), (1133, .aload_n 2, [], []), (1134, .invokevirtual 158, [0, 1, 12, 240], []), (1137, .if_icmp .eq 478, [1615], []), (1140, .iconst 0, [], [.int 0]), (1141, .ireturn, [1], []), (1142, .aload_n 1, [], []), (1143, .invokevirtual 159, [0, 1, 11, 119], []), (1146, .aload_n 2, [], []), (1147, .invokevirtual 162, [0, 1, 12, 241], []), (1150, .if_icmp .eq 465, [1615], []), (1153, .iconst 0, [], [.int 0]), (1154, .ireturn, [1], []), (1155, .aload_n 1, [], []), (1156, .aload_n 0, [], []), (1157, .iload_n 3, [], []), (1158, .iconst 1, [], [.int 1]), (1159, .iadd, [], []), (1160, .iaload, [], []), (1161, .invokevirtual 163, [1, 1, 11, 120], []), (1164, .aload_n 2, [], []), (1165, .aload_n 0, [], []), (1166, .iload_n 3, [], []), (1167, .iconst 1, [], [.int 1]), (1168, .iadd, [], []), (1169, .iaload, [], []), (1170, .invokevirtual 166, [1, 1, 12, 244], []), (1173, .if_icmp .eq 442, [1615], []), (1176, .iconst 0, [], [.int 0]), (1177, .ireturn, [1], []), (1178, .aload_n 1, [], []), (1179, .aload_n 0, [], []), (1180, .iload_n 3, [], []), (1181, .iconst 1, [], [.int 1]), (1182, .iadd, [], []), (1183, .iaload, [], []), (1184, .aload_n 0, [], []), (1185, .iload_n 3, [], []), (1186, .iconst 2, [], [.int 2]), (1187, .iadd, [], []), (1188, .iaload, [], []), (1189, .invokevirtual 167, [2, 1, 11, 121], []), (1192, .aload_n 2, [], []), (1193, .aload_n 0, [], []), (1194, .iload_n 3, [], []), (1195, .iconst 1, [], [.int 1]), (1196, .iadd, [], []), (1197, .iaload, [], []), (1198, .aload_n 0, [], []), (1199, .iload_n 3, [], []), (1200, .iconst 2, [], [.int 2]), (1201, .iadd, [], []), (1202, .iaload, [], []), (1203, .invokevirtual 170, [2, 1, 12, 245], []), (1206, .if_icmp .eq 409, [1615], []), (1209, .iconst 0, [], [.int 0]), (1210, .ireturn, [1], []), (1211, .aload_n 1, [], []), (1212, .aload_n 0, [], []), (1213, .iload_n 3, [], []), (1214, .iconst 1, [], [.int 1]), (1215, .iadd, [], []), (1216, .iaload, [], []), (1217, .aload_n 0, [], []), (1218, .iload_n 3, [], []), (1219, .iconst 2, [], [.int 2]), (1220, .iadd, [], []), (1221, .iaload, [], []), (1222, .aload_n 0, [], []), (1223, .iload_n 3, [], []), (1224, .iconst 3, [], [.int 3]), (1225, .iadd, [], []), (1226, .iaload, [], []), (1227, .invokevirtual 171, [3, 1, 11, 122], []), (1230, .aload_n 2, [], []), (1231, .aload_n 0, [], []), (1232, .iload_n 3, [], []), (1233, .iconst 1, [], [.int 1]), (1234, .iadd, [], []), (1235, .iaload, [], []), (1236, .aload_n 0, [], []), (1237, .iload_n 3, [], []), (1238, .iconst 2, [], [.int 2]), (1239, .iadd, [], []), (1240, .iaload, [], []), (1241, .aload_n 0, [], []), (1242, .iload_n 3, [], []), (1243, .iconst 3, [], [.int 3]), (1244, .iadd, [], []), (1245, .iaload, [], []), (1246, .invokevirtual 174, [3, 1, 12, 246], []), (1249, .if_icmp .eq 366, [1615], []), (1252, .iconst 0, [], [.int 0]), (1253, .ireturn, [1], []), (1254, .aload_n 1, [], []), (1255, .aload_n 0, [], []), (1256, .iload_n 3, [], []), (1257, .iconst 1, [], [.int 1]), (1258, .iadd, [], []), (1259, .iaload, [], []), (1260, .invokevirtual 175, [1, 1, 11, 123], []), (1263, .aload_n 2, [], []), (1264, .aload_n 0, [], []), (1265, .iload_n 3, [], []), (1266, .iconst 1, [], [.int 1]), (1267, .iadd, [], []), (1268, .iaload, [], []), (1269, .invokevirtual 178, [1, 1, 12, 247], []), (1272, .if_icmp .eq 343, [1615], []), (1275, .iconst 0, [], [.int 0]), (1276, .ireturn, [1], []), (1277, .aload_n 1, [], []), (1278, .aload_n 0, [], []), (1279, .iload_n 3, [], []), (1280, .iconst 1, [], [.int 1]), (1281, .iadd, [], []), (1282, .iaload, [], []), (1283, .aload_n 0, [], []), (1284, .iload_n 3, [], []), (1285, .iconst 2, [], [.int 2]), (1286, .iadd, [], []), (1287, .iaload, [], []), (1288, .invokevirtual 179, [2, 1, 11, 124], []), (1291, .aload_n 2, [], []), (1292, .aload_n 0, [], []), (1293, .iload_n 3, [], []), (1294, .iconst 1, [], [.int 1]), (1295, .iadd, [], []), (1296, .iaload, [], []), (1297, .aload_n 0, [], []), (1298, .iload_n 3, [], []), (1299, .iconst 2, [], [.int 2]), (1300, .iadd, [], []), (1301, .iaload, [], []), (1302, .invokevirtual 182, [2, 1, 12, 250], []), (1305, .if_icmp .eq 310, [1615], []), (1308, .iconst 0, [], [.int 0]), (1309, .ireturn, [1], []), (1310, .aload_n 1, [], []), (1311, .aload_n 0, [], []), (1312, .iload_n 3, [], []), (1313, .iconst 1, [], [.int 1]), (1314, .iadd, [], []), (1315, .iaload, [], []), (1316, .aload_n 0, [], []), (1317, .iload_n 3, [], []), (1318, .iconst 2, [], [.int 2]), (1319, .iadd, [], []), (1320, .iaload, [], []), (1321, .aload_n 0, [], []), (1322, .iload_n 3, [], []), (1323, .iconst 3, [], [.int 3]), (1324, .iadd, [], []), (1325, .iaload, [], []), (1326, .invokevirtual 183, [3, 3, 11, 125], []), (1329, .aload_n 2, [], []), (1330, .aload_n 0, [], []), (1331, .iload_n 3, [], []), (1332, .iconst 1, [], [.int 1]), (1333, .iadd, [], []), (1334, .iaload, [], []), (1335, .aload_n 0, [], []), (1336, .iload_n 3, [], []), (1337, .iconst 2, [], [.int 2]), (1338, .iadd, [], []), (1339, .iaload, [], []), (1340, .aload_n 0, [], []), (1341, .iload_n 3, [], []), (1342, .iconst 3, [], [.int 3]), (1343, .iadd, [], []), (1344, .iaload, [], []), (1345, .invokevirtual 187, [3, 3, 12, 251], []), (1348, .lcmp, [], []), (1349, .ifCond .eq 266, [1615], []), (1352, .iconst 0, [], [.int 0]), (1353, .ireturn, [1], []), (1354, .aload_n 1, [], []), (1355, .invokevirtual 188, [0, 1, 11, 126], []), (1358, .aload_n 2, [], []), (1359, .invokevirtual 191, [0, 1, 12, 252], []), (1362, .if_icmp .eq 253, [1615], []), (1365, .iconst 0, [], [.int 0]), (1366, .ireturn, [1], []), (1367, .aload_n 1, [], []), (1368, .invokevirtual 192, [0, 1, 11, 127], []), (1371, .aload_n 2, [], []), (1372, .invokevirtual 195, [0, 1, 12, 253], []), (1375, .if_icmp .eq 240, [1615], []), (1378, .iconst 0, [], [.int 0]), (1379, .ireturn, [1], []), (1380, .aload_n 1, [], []), (1381, .aload_n 0, [], []), (1382, .iload_n 3, [], []), (1383, .iconst 1, [], [.int 1]), (1384, .iadd, [], []), (1385, .iaload, [], []), (1386, .aload_n 0, [], []), (1387, .iload_n 3, [], []), (1388, .iconst 2, [], [.int 2]), (1389, .iadd, [], []), (1390, .iaload, [], []), (1391, .aload_n 0, [], []), (1392, .iload_n 3, [], []), (1393, .iconst 3, [], [.int 3]), (1394, .iadd, [], []), (1395, .iaload, [], []), (1396, .invokevirtual 196, [3, 1, 11, 128], []), (1399, .aload_n 2, [], []), (1400, .aload_n 0, [], []), (1401, .iload_n 3, [], []), (1402, .iconst 1, [], [.int 1]), (1403, .iadd, [], []), (1404, .iaload, [], []), (1405, .aload_n 0, [], []), (1406, .iload_n 3, [], []), (1407, .iconst 2, [], [.int 2]), (1408, .iadd, [], []), (1409, .iaload, [], []), (1410, .aload_n 0, [], []), (1411, .iload_n 3, [], []), (1412, .iconst 3, [], [.int 3]), (1413, .iadd, [], []), (1414, .iaload, [], []), (1415, .invokevirtual 199, [3, 1, 12, 254], []), (1418, .if_icmp .eq 197, [1615], []), (1421, .iconst 0, [], [.int 0]), (1422, .ireturn, [1], []), (1423, .aload_n 1, [], []), (1424, .aload_n 0, [], []), (1425, .iload_n 3, [], []), (1426, .iconst 1, [], [.int 1]), (1427, .iadd, [], []), (1428, .iaload, [], []), (1429, .aload_n 0, [], []), (1430, .iload_n 3, [], []), (1431, .iconst 2, [], [.int 2]), (1432, .iadd, [], []), (1433, .iaload, [], []), (1434, .aload_n 0, [], []), (1435, .iload_n 3, [], []), (1436, .iconst 3, [], [.int 3]), (1437, .iadd, [], []), (1438, .iaload, [], []), (1439, .invokevirtual 200, [3, 1, 11, 129], []), (1442, .aload_n 2, [], []), (1443, .aload_n 0, [], []), (1444, .iload_n 3, [], []), (1445, .iconst 1, [], [.int 1]), (1446, .iadd, [], []), (1447, .iaload, [], []), (1448, .aload_n 0, [], []), (1449, .iload_n 3, [], []), (1450, .iconst 2, [], [.int 2]), (1451, .iadd, [], []), (1452, .iaload, [], []), (1453, .aload_n 0, [], []), (1454, .iload_n 3, [], []), (1455, .iconst 3, [], [.int 3]), (1456, .iadd, [], []), (1457, .iaload, [], []), (1458, .invokevirtual 203, [3, 1, 12, 255], []), (1461, .if_icmp .eq 154, [1615], []), (1464, .iconst 0, [], [.int 0]), (1465, .ireturn, [1], []), (1466, .aload_n 1, [], []), (1467, .aload_n 0, [], []), (1468, .iload_n 3, [], []), (1469, .iconst 1, [], [.int 1]), (1470, .iadd, [], []), (1471, .iaload, [], []), (1472, .aload_n 0, [], []), (1473, .iload_n 3, [], []), (1474, .iconst 2, [], [.int 2]), (1475, .iadd, [], []), (1476, .iaload, [], []), (1477, .aload_n 0, [], []), (1478, .iload_n 3, [], []), (1479, .iconst 3, [], [.int 3]), (1480, .iadd, [], []), (1481, .iaload, [], []), (1482, .aload_n 0, [], []), (1483, .iload_n 3, [], []), (1484, .iconst 4, [], [.int 4]), (1485, .iadd, [], []), (1486, .iaload, [], []), (1487, .aload_n 0, [], []), (1488, .iload_n 3, [], []), (1489, .iconst 5, [], [.int 5]), (1490, .iadd, [], []), (1491, .iaload, [], []), (1492, .invokevirtual 204, [5, 1, 11, 130], []), (1495, .aload_n 2, [], []), (1496, .aload_n 0, [], []), (1497, .iload_n 3, [], []), (1498, .iconst 1, [], [.int 1]), (1499, .iadd, [], []), (1500, .iaload, [], []), (1501, .aload_n 0, [], []), (1502, .iload_n 3, [], []), (1503, .iconst 2, [], [.int 2]), (1504, .iadd, [], []), (1505, .iaload, [], []), (1506, .aload_n 0, [], []), (1507, .iload_n 3, [], []), (1508, .iconst 3, [], [.int 3]), (1509, .iadd, [], []), (1510, .iaload, [], []), (1511, .aload_n 0, [], []), (1512, .iload_n 3, [], []), (1513, .iconst 4, [], [.int 4]), (1514, .iadd, [], []), (1515, .iaload, [], []), (1516, .aload_n 0, [], []), (1517, .iload_n 3, [], []), (1518, .iconst 5, [], [.int 5]), (1519, .iadd, [], []), (1520, .iaload, [], []), (1521, .invokevirtual 208, [5, 1, 12, 256], []), (1524, .if_icmp .eq 91, [1615], []), (1527, .iconst 0, [], [.int 0]), (1528, .ireturn, [1], []), (1529, .aload_n 1, [], []), (1530, .aload_n 0, [], []), (1531, .iload_n 3, [], []), (1532, .iconst 1, [], [.int 1]), (1533, .iadd, [], []), (1534, .iaload, [], []), (1535, .aload_n 0, [], []), (1536, .iload_n 3, [], []), (1537, .iconst 2, [], [.int 2]), (1538, .iadd, [], []), (1539, .iaload, [], []), (1540, .aload_n 0, [], []), (1541, .iload_n 3, [], []), (1542, .iconst 3, [], [.int 3]), (1543, .iadd, [], []), (1544, .iaload, [], []), (1545, .aload_n 0, [], []), (1546, .iload_n 3, [], []), (1547, .iconst 4, [], [.int 4]), (1548, .iadd, [], []), (1549, .iaload, [], []), (1550, .invokevirtual 209, [4, 1, 11, 131], []), (1553, .aload_n 2, [], []), (1554, .aload_n 0, [], []), (1555, .iload_n 3, [], []), (1556, .iconst 1, [], [.int 1]), (1557, .iadd, [], []), (1558, .iaload, [], []), (1559, .aload_n 0, [], []), (1560, .iload_n 3, [], []), (1561, .iconst 2, [], [.int 2]), (1562, .iadd, [], []), (1563, .iaload, [], []), (1564, .aload_n 0, [], []), (1565, .iload_n 3, [], []), (1566, .iconst 3, [], [.int 3]), (1567, .iadd, [], []), (1568, .iaload, [], []), (1569, .aload_n 0, [], []), (1570, .iload_n 3, [], []), (1571, .iconst 4, [], [.int 4]), (1572, .iadd, [], []), (1573, .iaload, [], []), (1574, .invokevirtual 213, [4, 1, 12, 257], []), (1577, .if_icmp .eq 38, [1615], []), (1580, .iconst 0, [], [.int 0]), (1581, .ireturn, [1], []), (1582, .aload_n 1, [], []), (1583, .aload_n 0, [], []), (1584, .iload_n 3, [], []), (1585, .iconst 1, [], [.int 1]), (1586, .iadd, [], []), (1587, .iaload, [], []), (1588, .aload_n 0, [], []), (1589, .iload_n 3, [], []), (1590, .iconst 2, [], [.int 2]), (1591, .iadd, [], []), (1592, .iaload, [], []), (1593, .invokevirtual 214, [2, 1, 11, 132], []), (1596, .aload_n 2, [], []), (1597, .aload_n 0, [], []), (1598, .iload_n 3, [], []), (1599, .iconst 1, [], [.int 1]), (1600, .iadd, [], []), (1601, .iaload, [], []), (1602, .aload_n 0, [], []), (1603, .iload_n 3, [], []), (1604, .iconst 2, [], [.int 2]), (1605, .iadd, [], []), (1606, .iaload, [], []), (1607, .invokevirtual 217, [2, 1, 12, 259], []), (1610, .if_icmp .eq 5, [1615], []), (1613, .iconst 0, [], [.int 0]), (1614, .ireturn, [1], []), (1615, .iinc 3 7, [], [.int 7]), (1618, .goto (-1600), [18], []), (1621, .iconst 1, [], [.int 1]), (1622, .ireturn, [1], [])]
def prg_0 : List (List MIns × Nat) := [(k_0, 1), (k_1, 2), (k_2, 2), (k_3, 8), (k_4, 1), (k_5, 2), (k_6, 2), (k_7, 3), (k_8, 4), (k_9, 2), (k_10, 5), (k_11, 1), (k_12, 2), (k_13, 3), (k_14, 2), (k_15, 1), (k_16, 5), (k_17, 6), (k_18, 2), (k_19, 1), (k_20, 5), (k_21, 2), (k_22, 3), (k_23, 1), (k_24, 3), (k_25, 3), (k_26, 1), (k_27, 3), (k_28, 3), (k_29, 1), (k_30, 3), (k_31, 2)]
def prg_1 : List (List MIns × Nat) := [(k_32, 4), (k_33, 1), (k_34, 3), (k_35, 4), (k_36, 8), (k_37, 7), (k_38, 3), (k_39, 3), (k_40, 1), (k_41, 3), (k_42, 1), (k_43, 3), (k_44, 1), (k_45, 1), (k_46, 3), (k_47, 3), (k_48, 2), (k_49, 3), (k_50, 3), (k_51, 1), (k_52, 5), (k_53, 1), (k_54, 2), (k_55, 1), (k_56, 1), (k_57, 3), (k_58, 1), (k_59, 2), (k_60, 2), (k_61, 5), (k_62, 3), (k_63, 3)]
def prg_2 : List (List MIns × Nat) := [(k_64, 2), (k_65, 3), (k_66, 3), (k_67, 2), (k_68, 2), (k_69, 3), (k_70, 1), (k_71, 3), (k_72, 5), (k_73, 5), (k_74, 4), (k_75, 2), (k_76, 1), (k_77, 1), (k_78, 1), (k_79, 3), (k_80, 1), (k_81, 3), (k_82, 2), (k_83, 2), (k_84, 4), (k_85, 2), (k_86, 3), (k_87, 2), (k_88, 7), (k_89, 2), (k_90, 3), (k_91, 3), (k_92, 4), (k_93, 1), (k_94, 4), (k_95, 2)]
def prg_3 : List (List MIns × Nat) := [(k_96, 2), (k_97, 1), (k_98, 5), (k_99, 5), (k_100, 3), (k_101, 2), (k_102, 4), (k_103, 4), (k_104, 3), (k_105, 3), (k_106, 2), (k_107, 1), (k_108, 2), (k_109, 7), (k_110, 8), (k_111, 2), (k_112, 7), (k_113, 3), (k_114, 7), (k_115, 2), (k_116, 3), (k_117, 9), (k_118, 3), (k_119, 5), (k_120, 3), (k_121, 10), (k_122, 6), (k_123, 5), (k_124, 4), (k_125, 6), (k_126, 1), (k_127, 1)]
def prg_4 : List (List MIns × Nat) := [(k_128, 5), (k_129, 5), (k_130, 8), (k_131, 9), (k_132, 3), (k_133, 3), (k_134, 1), (k_135, 1), (k_136, 1), (k_137, 2), (k_138, 1), (k_139, 2), (k_140, 2), (k_141, 2), (k_142, 7), (k_143, 5), (k_144, 4), (k_145, 7), (k_146, 3), (k_147, 4), (k_148, 4), (k_149, 3), (k_150, 1), (k_151, 3), (k_152, 4), (k_153, 4), (k_154, 2), (k_155, 6), (k_156, 2), (k_157, 3), (k_158, 6), (k_159, 4)]
def prg_5 : List (List MIns × Nat) := [(k_160, 2), (k_161, 3), (k_162, 2), (k_163, 3), (k_164, 4), (k_165, 2), (k_166, 3), (k_167, 3), (k_168, 3), (k_169, 2), (k_170, 2), (k_171, 1), (k_172, 2), (k_173, 4), (k_174, 2), (k_175, 3), (k_176, 4), (k_177, 2), (k_178, 1), (k_179, 8), (k_180, 6), (k_181, 3), (k_182, 1), (k_183, 2), (k_184, 3), (k_185, 2), (k_186, 2), (k_187, 2), (k_188, 1), (k_189, 4), (k_190, 3), (k_191, 3)]
def prg_6 : List (List MIns × Nat) := [(k_192, 5), (k_193, 3), (k_194, 3), (k_195, 3), (k_196, 3), (k_197, 4), (k_198, 1), (k_199, 5), (k_200, 4), (k_201, 6), (k_202, 4), (k_203, 2), (k_204, 4), (k_205, 4), (k_206, 3), (k_207, 5), (k_208, 2), (k_209, 2), (k_210, 4), (k_211, 1), (k_212, 6), (k_213, 5), (k_214, 5), (k_215, 8), (k_216, 5), (k_217, 6), (k_218, 4), (k_219, 3), (k_220, 3), (k_221, 1), (k_222, 2), (k_223, 3)]
def prg_7 : List (List MIns × Nat) := [(k_224, 1), (k_225, 2), (k_226, 8), (k_227, 7), (k_228, 2), (k_229, 2), (k_230, 7), (k_231, 5), (k_232, 3), (k_233, 8), (k_234, 4), (k_235, 3), (k_236, 2), (k_237, 11), (k_238, 2), (k_239, 6), (k_240, 6), (k_241, 7), (k_242, 2), (k_243, 4), (k_244, 5), (k_245, 10), (k_246, 7), (k_247, 4), (k_248, 4), (k_249, 3), (k_250, 3), (k_251, 7), (k_252, 1), (k_253, 1), (k_254, 5), (k_255, 4)]
def prg_8 : List (List MIns × Nat) := [(k_256, 10), (k_257, 9), (k_258, 2), (k_259, 3), (k_260, 1), (k_261, 4), (k_262, 3), (k_263, 4)]
def prgs : List (List (List MIns × Nat)) := [prg_0, prg_1, prg_2, prg_3, prg_4, prg_5, prg_6, prg_7, prg_8]
def prg (m : Nat) : List MIns × Nat := (prgs.getD (m / 32) []).getD (m % 32) ([], 0)
end
section
/-! the step's shape, the machine's runs, the fixed point -/
abbrev MOut : Type := Option ((Option Value × MHeap) ⊕ (MLoc × List Value × MHeap) ⊕ (Nat × MLoc × List Value × MHeap) ⊕ (Nat × List Value × Nat × List Value × MHeap))
def st1 (i : Instr) (rs : List Nat) (cs : List Value) (L : MLoc) (S : List Value) (h : MHeap) : MOut :=
  stK none (fun v h => some (.inl (v, h))) (fun L S h => some (.inr (.inl (L, S, h)))) (fun j L S h => some (.inr (.inr (.inl (j, L, S, h))))) (fun m as k S h => some (.inr (.inr (.inr (m, as, k, S, h))))) i rs cs L S h
section ITP
variable {α : Type} (no : α) (rt : Option Value → MHeap → α) (kn : MLoc → List Value → MHeap → α) (kj : Nat → MLoc → List Value → MHeap → α) (cl : Nat → List Value → Nat → List Value → MHeap → α)
def itp : MOut → α
  | none => no
  | some (.inl (v, h)) => rt v h
  | some (.inr (.inl (L, S, h))) => kn L S h
  | some (.inr (.inr (.inl (j, L, S, h)))) => kj j L S h
  | some (.inr (.inr (.inr (m, as, k, S, h)))) => cl m as k S h
theorem itp_dI (n : MOut) (v : Value) (k : Int32 → MOut) : itp no rt kn kj cl (dI n v k) = dI (itp no rt kn kj cl n) v (fun x => itp no rt kn kj cl (k x)) := by
  cases v <;> rfl
theorem itp_dL (n : MOut) (v : Value) (k : Int64 → MOut) : itp no rt kn kj cl (dL n v k) = dL (itp no rt kn kj cl n) v (fun x => itp no rt kn kj cl (k x)) := by
  cases v <;> rfl
theorem itp_dR (n : MOut) (v : Value) (k : Nat → MOut) : itp no rt kn kj cl (dR n v k) = dR (itp no rt kn kj cl n) v (fun x => itp no rt kn kj cl (k x)) := by
  cases v <;> rfl
theorem itp_dA (n : MOut) (v : Value) (k : MOut) : itp no rt kn kj cl (dA n v k) = dA (itp no rt kn kj cl n) v (itp no rt kn kj cl k) := by
  cases v <;> rfl
theorem itp_dN (n : MOut) (v : Value) (k1 k2 : MOut) : itp no rt kn kj cl (dN n v k1 k2) = dN (itp no rt kn kj cl n) v (itp no rt kn kj cl k1) (itp no rt kn kj cl k2) := by
  cases v <;> rfl
theorem itp_dD (n : MOut) (v : Value) (k : MOut) : itp no rt kn kj cl (dD n v k) = dD (itp no rt kn kj cl n) v (itp no rt kn kj cl k) := by
  cases v <;> rfl
theorem itp_dv (n : MOut) (y : Int32) (k : MOut) : itp no rt kn kj cl (dv n y k) = dv (itp no rt kn kj cl n) y (itp no rt kn kj cl k) := by
  unfold dv; split <;> rfl
theorem itp_dvL (n : MOut) (y : Int64) (k : MOut) : itp no rt kn kj cl (dvL n y k) = dvL (itp no rt kn kj cl n) y (itp no rt kn kj cl k) := by
  unfold dvL; split <;> rfl
theorem itp_zr (n : MOut) (y : Int32) (k : MOut) : itp no rt kn kj cl (zr n y k) = zr (itp no rt kn kj cl n) y (itp no rt kn kj cl k) := by
  unfold zr; split <;> rfl
theorem itp_gS (n : MOut) (s : MSl) (k : Value → MOut) : itp no rt kn kj cl (gS n s k) = gS (itp no rt kn kj cl n) s (fun x => itp no rt kn kj cl (k x)) := by
  rcases s with _ | (v | y) <;> rfl
theorem itp_gSL (n : MOut) (s : MSl) (k : Int64 → MOut) : itp no rt kn kj cl (gSL n s k) = gSL (itp no rt kn kj cl n) s (fun x => itp no rt kn kj cl (k x)) := by
  rcases s with _ | (v | y) <;> rfl
theorem itp_gfI (n : MOut) (h : MHeap) (o : Nat) (ts : List Nat) (j : Nat) (k : Int32 → MOut) : itp no rt kn kj cl (gfI n h o ts j k) = gfI (itp no rt kn kj cl n) h o ts j (fun x => itp no rt kn kj cl (k x)) := by
  unfold gfI; repeat' split <;> try rfl
theorem itp_gfV (n : MOut) (h : MHeap) (o : Nat) (ts : List Nat) (j : Nat) (k : Value → MOut) : itp no rt kn kj cl (gfV n h o ts j k) = gfV (itp no rt kn kj cl n) h o ts j (fun x => itp no rt kn kj cl (k x)) := by
  unfold gfV; (repeat' split) <;> first | rfl | exact itp_dA no rt kn kj cl _ _ _
theorem itp_pfI (n : MOut) (h : MHeap) (o : Nat) (ts : List Nat) (j : Nat) (x : Int32) (k : MHeap → MOut) : itp no rt kn kj cl (pfI n h o ts j x k) = pfI (itp no rt kn kj cl n) h o ts j x (fun x => itp no rt kn kj cl (k x)) := by
  unfold pfI; repeat' split <;> try rfl
theorem itp_pfV (n : MOut) (h : MHeap) (o : Nat) (ts : List Nat) (j : Nat) (x : Value) (k : MHeap → MOut) : itp no rt kn kj cl (pfV n h o ts j x k) = pfV (itp no rt kn kj cl n) h o ts j x (fun x => itp no rt kn kj cl (k x)) := by
  unfold pfV; (repeat' split) <;> first | rfl | exact itp_dA no rt kn kj cl _ _ _
theorem itp_aln (n : MOut) (h : MHeap) (o : Nat) (k : Int32 → MOut) : itp no rt kn kj cl (aln n h o k) = aln (itp no rt kn kj cl n) h o (fun x => itp no rt kn kj cl (k x)) := by
  unfold aln; repeat' split <;> try rfl
theorem itp_alI (n : MOut) (h : MHeap) (o : Nat) (i : Int32) (k : Int32 → MOut) : itp no rt kn kj cl (alI n h o i k) = alI (itp no rt kn kj cl n) h o i (fun x => itp no rt kn kj cl (k x)) := by
  unfold alI; repeat' split <;> try rfl
theorem itp_asI (n : MOut) (h : MHeap) (o : Nat) (i x : Int32) (k : MHeap → MOut) : itp no rt kn kj cl (asI n h o i x k) = asI (itp no rt kn kj cl n) h o i x (fun x => itp no rt kn kj cl (k x)) := by
  unfold asI; repeat' split <;> try rfl
theorem itp_alV (n : MOut) (h : MHeap) (o : Nat) (i : Int32) (k : Value → MOut) : itp no rt kn kj cl (alV n h o i k) = alV (itp no rt kn kj cl n) h o i (fun x => itp no rt kn kj cl (k x)) := by
  unfold alV; (repeat' split) <;> first | rfl | exact itp_dA no rt kn kj cl _ _ _
theorem itp_asV (n : MOut) (h : MHeap) (o : Nat) (i : Int32) (v : Value) (k : MHeap → MOut) : itp no rt kn kj cl (asV n h o i v k) = asV (itp no rt kn kj cl n) h o i v (fun x => itp no rt kn kj cl (k x)) := by
  unfold asV; repeat' split <;> try rfl
theorem itp_nwA (n : MOut) (h : MHeap) (t : Nat) (i : Int32) (v : Value) (k : Nat → MHeap → MOut) : itp no rt kn kj cl (nwA n h t i v k) = nwA (itp no rt kn kj cl n) h t i v (fun x y => itp no rt kn kj cl (k x y)) := by
  unfold nwA; repeat' split <;> try rfl
theorem itp_inO (n : MOut) (h : MHeap) (o : Nat) (ts us : List Nat) (k : Int32 → MOut) : itp no rt kn kj cl (inO n h o ts us k) = inO (itp no rt kn kj cl n) h o ts us (fun x => itp no rt kn kj cl (k x)) := by
  unfold inO; repeat' split <;> try rfl
theorem itp_vd (n : MOut) (h : MHeap) (o : Nat) (ps : List Nat) (k : Nat → MOut) : itp no rt kn kj cl (vd n h o ps k) = vd (itp no rt kn kj cl n) h o ps (fun x => itp no rt kn kj cl (k x)) := by
  unfold vd; repeat' split <;> try rfl
theorem itp_slen (n : MOut) (h : MHeap) (o : Nat) (k : Int32 → MOut) : itp no rt kn kj cl (slen n h o k) = slen (itp no rt kn kj cl n) h o (fun x => itp no rt kn kj cl (k x)) := by
  unfold slen; repeat' split <;> try rfl
theorem itp_sch (n : MOut) (h : MHeap) (o : Nat) (i : Int32) (k : Int32 → MOut) : itp no rt kn kj cl (sch n h o i k) = sch (itp no rt kn kj cl n) h o i (fun x => itp no rt kn kj cl (k x)) := by
  unfold sch; repeat' split <;> try rfl
theorem itp_acp (n : MOut) (h : MHeap) (o1 : Nat) (sp : Int32) (o2 : Nat) (dp l : Int32) (k : MHeap → MOut) : itp no rt kn kj cl (acp n h o1 sp o2 dp l k) = acp (itp no rt kn kj cl n) h o1 sp o2 dp l (fun x => itp no rt kn kj cl (k x)) := by
  unfold acp; repeat' split <;> try rfl
theorem itp_ite (c : Prop) [Decidable c] (a b : MOut) : itp no rt kn kj cl (if c then a else b) = if c then itp no rt kn kj cl a else itp no rt kn kj cl b := by
  split <;> rfl
theorem itp_cond (c : Bool) (a b : MOut) : itp no rt kn kj cl (bif c then a else b) = bif c then itp no rt kn kj cl a else itp no rt kn kj cl b := by
  cases c <;> rfl
theorem itp_swc (x : Int32) (kd : MOut) (k : Nat → MOut) : ∀ (cs : List Value) (ts : List Nat), itp no rt kn kj cl (swc x kd k cs ts) = swc x (itp no rt kn kj cl kd) (fun t => itp no rt kn kj cl (k t)) cs ts
  | [], _ => by unfold swc; rfl
  | .int y :: cs, [] => by unfold swc; rfl
  | .int y :: cs, t :: ts => by
    unfold swc
    split
    · rfl
    · exact itp_swc x kd k cs ts
  | .long _ :: _, _ => by unfold swc; rfl
  | .float _ :: _, _ => by unfold swc; rfl
  | .double _ :: _, _ => by unfold swc; rfl
  | .null :: _, _ => by unfold swc; rfl
  | .ref _ :: _, _ => by unfold swc; rfl
  | .retAddr _ :: _, _ => by unfold swc; rfl
theorem itp_nwO (h : MHeap) (t : Nat) (cs : List Value) (k : Nat → MHeap → MOut) : itp no rt kn kj cl (nwO h t cs k) = nwO h t cs (fun x y => itp no rt kn kj cl (k x y)) := rfl
theorem stK_itp (i : Instr) (rs : List Nat) (cs : List Value) (L : MLoc) (S : List Value) (h : MHeap) : stK no rt kn kj cl i rs cs L S h = itp no rt kn kj cl (st1 i rs cs L S h) := by
  unfold st1
  cases i <;> simp only [stK] <;> first
    | rfl
    | (simp only [itp_nwO, itp_dI, itp_dL, itp_dR, itp_dA, itp_dN, itp_dD, itp_dv, itp_dvL, itp_zr, itp_gS, itp_gSL, itp_gfI, itp_gfV, itp_pfI, itp_pfV, itp_aln, itp_alI, itp_asI, itp_alV, itp_asV, itp_nwA, itp_inO, itp_vd, itp_slen, itp_sch, itp_acp, itp_swc, itp_ite, itp_cond]; done)
    | (simp only [itp_nwO, itp_dI, itp_dL, itp_dR, itp_dA, itp_dN, itp_dD, itp_dv, itp_dvL, itp_zr, itp_gS, itp_gSL, itp_gfI, itp_gfV, itp_pfI, itp_pfV, itp_aln, itp_alI, itp_asI, itp_alV, itp_asV, itp_nwA, itp_inO, itp_vd, itp_slen, itp_sch, itp_acp, itp_swc, itp_ite, itp_cond]; rfl)
    | (repeat' split) <;> first
      | rfl
      | (simp only [itp_nwO, itp_dI, itp_dL, itp_dR, itp_dA, itp_dN, itp_dD, itp_dv, itp_dvL, itp_zr, itp_gS, itp_gSL, itp_gfI, itp_gfV, itp_pfI, itp_pfV, itp_aln, itp_alI, itp_asI, itp_alV, itp_asV, itp_nwA, itp_inO, itp_vd, itp_slen, itp_sch, itp_acp, itp_swc, itp_ite, itp_cond]; done)
      | (simp only [itp_nwO, itp_dI, itp_dL, itp_dR, itp_dA, itp_dN, itp_dD, itp_dv, itp_dvL, itp_zr, itp_gS, itp_gSL, itp_gfI, itp_gfV, itp_pfI, itp_pfV, itp_aln, itp_alI, itp_asI, itp_alV, itp_asV, itp_nwA, itp_inO, itp_vd, itp_slen, itp_sch, itp_acp, itp_swc, itp_ite, itp_cond]; rfl)
      | (simp only [itp_nwO, itp_dI, itp_dL, itp_dR, itp_dA, itp_dN, itp_dD, itp_dv, itp_dvL, itp_zr, itp_gS, itp_gSL, itp_gfI, itp_gfV, itp_pfI, itp_pfV, itp_aln, itp_alI, itp_asI, itp_alV, itp_asV, itp_nwA, itp_inO, itp_vd, itp_slen, itp_sch, itp_acp, itp_swc, itp_ite, itp_cond]; (repeat' split) <;> rfl)
end ITP
end
section
/-! runs with a bound, their limit, unrolling -/
def seek : List MIns → Nat → List MIns
  | [], _ => []
  | i :: r, p => bif Nat.beq i.1 p then i :: r else seek r p
def nxt : List MIns → Nat
  | [] => 0
  | i :: _ => i.1
def entL : List Value → MLoc
  | [] => []
  | .long y :: r => sy y :: none :: entL r
  | v :: r => sv v :: entL r
def padL : Nat → MLoc → MLoc
  | 0, L => L
  | n + 1, [] => none :: padL n []
  | n + 1, x :: r => x :: padL n r
def cV (r : MRes) (k : MHeap → MRes) : MRes := match r with
  | some (none, h) => k h
  | _ => none
def cI (r : MRes) (k : Int32 → MHeap → MRes) : MRes := match r with
  | some (some (.int x), h) => k x h
  | _ => none
def cR (r : MRes) (k : Value → MHeap → MRes) : MRes := match r with
  | some (some v, h) => dA none v (k v h)
  | _ => none
def cJ (r : MRes) (k : Int64 → MHeap → MRes) : MRes := match r with
  | some (some (.long x), h) => k x h
  | _ => none
def cK (q : Nat) (r : MRes) (k : List Value → MHeap → MRes) : MRes := match q with
  | 0 => cV r fun h => k [] h
  | 1 => cI r fun x h => k [.int x] h
  | 2 => cR r fun v h => k [v] h
  | _ => cJ r fun y h => k [.long y] h
/-- within n steps; d calls may stand open below this one -/
def run : Nat → Nat → Nat → Nat → MLoc → List Value → MHeap → MRes
  | 0, _, _, _, _, _, _ => none
  | n + 1, d, m, pc, L, S, h => match seek (prg m).1 pc with
    | [] => none
    | i :: r => stK none (fun v h => some (v, h)) (fun L S h => run n d m (nxt r) L S h) (fun j L S h => run n d m j L S h)
        (fun m' as q S h => cK q (match d with
          | 0 => none
          | d + 1 => bif Nat.ble 1000 m' then prx d (m' - 1000) as h else run n d m' 0 (padL (prg m').2 (entL as)) [] h) fun vs h => run n d m (nxt r) L (vs ++ S) h) i.2.1 i.2.2.1 i.2.2.2 L S h
def rcall (n d m' : Nat) (as : List Value) (h : MHeap) : MRes := match d with
  | 0 => none
  | d + 1 => bif Nat.ble 1000 m' then prx d (m' - 1000) as h else run n d m' 0 (padL (prg m').2 (entL as)) [] h
theorem run_itp (n d m pc : Nat) (L : MLoc) (S : List Value) (h : MHeap) : run (n + 1) d m pc L S h = match seek (prg m).1 pc with
    | [] => none
    | i :: r => itp none (fun v h => some (v, h)) (fun L S h => run n d m (nxt r) L S h) (fun j L S h => run n d m j L S h)
        (fun m' as q S h => cK q (rcall n d m' as h) fun vs h => run n d m (nxt r) L (vs ++ S) h) (st1 i.2.1 i.2.2.1 i.2.2.2 L S h) := by
  rw [run]
  split
  · rfl
  · rw [stK_itp]; rfl
theorem cK_some {q : Nat} {r : MRes} {k : List Value → MHeap → MRes} {x : Option Value × MHeap} (h : cK q r k = some x) : ∃ vs h1, (∀ k2, cK q r k2 = k2 vs h1) ∧ k vs h1 = some x ∧ ∃ v, r = some (v, h1) := by
  unfold cK at h ⊢
  split at h
  · unfold cV at h ⊢
    split at h
    · exact ⟨_, _, fun _ => rfl, h, _, rfl⟩
    · cases h
  · unfold cI at h ⊢
    split at h
    · exact ⟨_, _, fun _ => rfl, h, _, rfl⟩
    · cases h
  · unfold cR at h ⊢
    split at h
    · rename_i v h1
      unfold dA at h ⊢
      split at h
      · exact ⟨_, _, fun _ => rfl, h, _, rfl⟩
      · exact ⟨_, _, fun _ => rfl, h, _, rfl⟩
      · cases h
    · cases h
  · unfold cJ at h ⊢
    split at h
    · exact ⟨_, _, fun _ => rfl, h, _, rfl⟩
    · cases h
theorem run_mono1 : ∀ (n d m pc : Nat) (L : MLoc) (S : List Value) (h : MHeap) (x : Option Value × MHeap), run n d m pc L S h = some x → run (n + 1) d m pc L S h = some x := by
  intro n
  induction n with
  | zero => intro d m pc L S h x e; simp [run] at e
  | succ n ih =>
    intro d m pc L S h x e
    rw [run_itp] at e ⊢
    split at e
    · cases e
    · rename_i i r hs
      cases ho : st1 i.2.1 i.2.2.1 i.2.2.2 L S h with
      | none => rw [ho] at e; cases e
      | some o =>
        rw [ho] at e
        rcases o with ⟨v, h1⟩ | ⟨L1, S1, h1⟩ | ⟨j, L1, S1, h1⟩ | ⟨m', as, q, S1, h1⟩
        · exact e
        · exact ih _ _ _ _ _ _ _ e
        · exact ih _ _ _ _ _ _ _ e
        · have e : cK q (rcall n d m' as h1) (fun vs h => run n d m (nxt r) L (vs ++ S1) h) = some x := e
          obtain ⟨vs, h2, hk, e2, v, hr⟩ := cK_some e
          have hr2 : rcall (n + 1) d m' as h1 = rcall n d m' as h1 := by
            unfold rcall at hr ⊢
            cases d with
            | zero => rfl
            | succ d =>
              cases hb : Nat.ble 1000 m' with
              | true => rfl
              | false =>
                simp only [hb, cond_false] at hr ⊢
                exact (ih _ _ _ _ _ _ _ hr).trans hr.symm
          show cK q (rcall (n + 1) d m' as h1) (fun vs h => run (n + 1) d m (nxt r) L (vs ++ S1) h) = some x
          rw [hr2, hk]
          exact ih _ _ _ _ _ _ _ e2
theorem run_mono {n k d m pc : Nat} {L : MLoc} {S : List Value} {h : MHeap} {x : Option Value × MHeap} (e : run n d m pc L S h = some x) : run (n + k) d m pc L S h = some x := by
  induction k with
  | zero => exact e
  | succ k ih => exact run_mono1 _ _ _ _ _ _ _ _ ih
theorem run_det {n k d m pc : Nat} {L : MLoc} {S : List Value} {h : MHeap} {x y : Option Value × MHeap} (e : run n d m pc L S h = some x) (f : run k d m pc L S h = some y) : x = y := by
  have e1 := run_mono (k := k) e
  have f1 := run_mono (k := n) f
  rw [Nat.add_comm] at f1
  exact Option.some.inj (e1.symm.trans f1)
noncomputable def ex (d m pc : Nat) (L : MLoc) (S : List Value) (h : MHeap) : MRes :=
  match Classical.propDecidable (∃ q : Nat × (Option Value × MHeap), run q.1 d m pc L S h = some q.2) with
  | .isTrue H => some (Classical.choose H).2
  | .isFalse _ => none
theorem ex_of {n d m pc : Nat} {L : MLoc} {S : List Value} {h : MHeap} {x : Option Value × MHeap} (e : run n d m pc L S h = some x) : ex d m pc L S h = some x := by
  have H : ∃ q : Nat × (Option Value × MHeap), run q.1 d m pc L S h = some q.2 := ⟨(n, x), e⟩
  unfold ex
  split
  · rename_i H' _
    exact congrArg some (run_det (Classical.choose_spec H') e)
  · rename_i H' _
    exact absurd H H'
theorem ex_run {d m pc : Nat} {L : MLoc} {S : List Value} {h : MHeap} {x : Option Value × MHeap} (e : ex d m pc L S h = some x) : ∃ n, run n d m pc L S h = some x := by
  unfold ex at e
  split at e
  · rename_i H _
    exact ⟨_, (Classical.choose_spec H).trans (by rw [← Option.some.inj e])⟩
  · cases e
theorem ex_iff {d m pc : Nat} {L : MLoc} {S : List Value} {h : MHeap} {x : Option Value × MHeap} : ex d m pc L S h = some x ↔ ∃ n, run n d m pc L S h = some x := ⟨ex_run, fun ⟨_, e⟩ => ex_of e⟩
noncomputable def call (d m' : Nat) (as : List Value) (h : MHeap) : MRes := match d with
  | 0 => none
  | d + 1 => bif Nat.ble 1000 m' then prx d (m' - 1000) as h else ex d m' 0 (padL (prg m').2 (entL as)) [] h
theorem call_run {d m' : Nat} {as : List Value} {h : MHeap} {x : Option Value × MHeap} (e : call d m' as h = some x) : ∃ n, rcall n d m' as h = some x := by
  cases d with
  | zero => cases e
  | succ d =>
    unfold call at e
    unfold rcall
    cases hb : Nat.ble 1000 m' with
    | true =>
      simp only [hb, cond_true] at e ⊢
      exact ⟨0, e⟩
    | false =>
      simp only [hb, cond_false] at e ⊢
      exact ex_run e
theorem call_of {n d m' : Nat} {as : List Value} {h : MHeap} {x : Option Value × MHeap} (e : rcall n d m' as h = some x) : call d m' as h = some x := by
  cases d with
  | zero => cases e
  | succ d =>
    unfold rcall at e
    unfold call
    cases hb : Nat.ble 1000 m' with
    | true =>
      simp only [hb, cond_true] at e ⊢
      exact e
    | false =>
      simp only [hb, cond_false] at e ⊢
      exact ex_of e
theorem rcall_mono {n k d m' : Nat} {as : List Value} {h : MHeap} {x : Option Value × MHeap} (e : rcall n d m' as h = some x) : rcall (n + k) d m' as h = some x := by
  cases d with
  | zero => cases e
  | succ d =>
    unfold rcall at e ⊢
    cases hb : Nat.ble 1000 m' with
    | true =>
      simp only [hb, cond_true] at e ⊢
      exact e
    | false =>
      simp only [hb, cond_false] at e ⊢
      exact run_mono e
/-- two answers that are 'some' of the same are equal -/
theorem res_ext {a b : MRes} (h : ∀ x, a = some x ↔ b = some x) : a = b := by
  cases a with
  | none =>
    cases b with
    | none => rfl
    | some y => exact absurd ((h y).mpr rfl) (by simp)
  | some x => exact ((h x).mp rfl).symm
theorem ex_fix (d m pc : Nat) (L : MLoc) (S : List Value) (h : MHeap) : ex d m pc L S h = match seek (prg m).1 pc with
    | [] => none
    | i :: r => stK none (fun v h => some (v, h)) (fun L S h => ex d m (nxt r) L S h) (fun j L S h => ex d m j L S h)
        (fun m' as q S h => cK q (call d m' as h) fun vs h => ex d m (nxt r) L (vs ++ S) h) i.2.1 i.2.2.1 i.2.2.2 L S h := by
  apply res_ext
  intro x
  rw [ex_iff]
  have A : (∃ n, run n d m pc L S h = some x) ↔ ∃ n, run (n + 1) d m pc L S h = some x := ⟨fun ⟨n, e⟩ => ⟨n, run_mono1 _ _ _ _ _ _ _ _ e⟩, fun ⟨n, e⟩ => ⟨n + 1, e⟩⟩
  rw [A]
  cases hs : seek (prg m).1 pc with
  | nil =>
    constructor
    · rintro ⟨n, e⟩
      rw [run_itp, hs] at e
      cases e
    · intro e
      cases e
  | cons i r =>
    simp only [run_itp, hs, stK_itp]
    cases ho : st1 i.2.1 i.2.2.1 i.2.2.2 L S h with
    | none => exact ⟨fun ⟨_, e⟩ => (by cases e), fun e => (by cases e)⟩
    | some o =>
      rcases o with ⟨v, h1⟩ | ⟨L1, S1, h1⟩ | ⟨j, L1, S1, h1⟩ | ⟨m', as, q, S1, h1⟩
      · exact ⟨fun ⟨_, e⟩ => e, fun e => ⟨0, e⟩⟩
      · exact ex_iff.symm
      · exact ex_iff.symm
      · show (∃ n, cK q (rcall n d m' as h1) (fun vs h => run n d m (nxt r) L (vs ++ S1) h) = some x) ↔ cK q (call d m' as h1) (fun vs h => ex d m (nxt r) L (vs ++ S1) h) = some x
        constructor
        · rintro ⟨n, e⟩
          obtain ⟨vs, h2, hk, e2, v, hr⟩ := cK_some e
          rw [call_of hr, ← hr, hk]
          exact ex_of e2
        · intro e
          obtain ⟨vs, h2, hk, e2, v, hr⟩ := cK_some e
          obtain ⟨n1, r1⟩ := call_run hr
          obtain ⟨n2, r2⟩ := ex_run e2
          refine ⟨n1 + n2, ?_⟩
          rw [rcall_mono r1, ← hr, hk]
          have r3 := run_mono (k := n1) r2
          rw [Nat.add_comm] at r3
          exact r3
def memN : List Nat → Nat → Bool
  | [], _ => false
  | a :: r, x => bif Nat.beq a x then true else memN r x
/-- k steps unrolled, up to the places 'cuts' -/
def unr (EX : Nat → MLoc → List Value → MHeap → MRes) (CL : Nat → List Value → MHeap → MRes) (cuts : List Nat) (c : List MIns) : Nat → List MIns → MLoc → List Value → MHeap → MRes
  | 0, r, L, S, h => EX (nxt r) L S h
  | _ + 1, [], L, S, h => EX 0 L S h
  | k + 1, i :: r, L, S, h => stK none (fun v h => some (v, h)) (fun L S h => bif memN cuts (nxt r) then EX (nxt r) L S h else unr EX CL cuts c k r L S h)
      (fun j L S h => bif memN cuts j then EX j L S h else match seek c j with
        | [] => none
        | i2 :: r2 => unr EX CL cuts c k (i2 :: r2) L S h)
      (fun m' as q S h => cK q (CL m' as h) fun vs h => bif memN cuts (nxt r) then EX (nxt r) L (vs ++ S) h else unr EX CL cuts c k r L (vs ++ S) h) i.2.1 i.2.2.1 i.2.2.2 L S h
def okc : List MIns → Bool
  | [] => true
  | i :: r => (match r with
    | [] => true
    | j :: _ => Nat.blt i.1 j.1) && okc r
theorem okc_lt : ∀ (c : List MIns) (i : MIns), okc (i :: c) = true → ∀ j ∈ c, i.1 < j.1 := by
  intro c
  induction c with
  | nil => intro i _ j hj; cases hj
  | cons a c ih =>
    intro i h j hj
    have h1 : Nat.blt i.1 a.1 = true ∧ okc (a :: c) = true := by simpa [okc] using h
    have h2 : i.1 < a.1 := by simpa [Nat.blt_eq] using h1.1
    rcases List.mem_cons.mp hj with rfl | hj
    · exact h2
    · exact Nat.lt_trans h2 (ih a h1.2 j hj)
theorem seek_suffix : ∀ (a : List MIns) (i : MIns) (r : List MIns), okc (a ++ i :: r) = true → seek (a ++ i :: r) i.1 = i :: r := by
  intro a
  induction a with
  | nil => intro i r _; simp [seek]
  | cons b a ih =>
    intro i r h
    have h1 := okc_lt _ _ h i (by simp)
    have h2 : okc (a ++ i :: r) = true := by
      have : okc (b :: (a ++ i :: r)) = true := h
      unfold okc at this
      simp only [Bool.and_eq_true] at this
      exact this.2
    have h3 : Nat.beq b.1 i.1 = false := by
      cases hb : Nat.beq b.1 i.1 with
      | false => rfl
      | true => have := Nat.eq_of_beq_eq_true hb; omega
    show (bif Nat.beq b.1 i.1 then _ else _) = _
    rw [h3]
    exact ih i r h2
theorem seek_split : ∀ (c : List MIns) (p : Nat) (i : MIns) (r : List MIns), seek c p = i :: r → (∃ a, c = a ++ i :: r) ∧ i.1 = p := by
  intro c
  induction c with
  | nil => intro p i r h; cases h
  | cons b c ih =>
    intro p i r h
    cases hb : Nat.beq b.1 p with
    | true =>
      have : b :: c = i :: r := by simpa [seek, hb] using h
      exact ⟨⟨[], this⟩, by rw [← (List.cons.inj this).1]; exact Nat.eq_of_beq_eq_true hb⟩
    | false =>
      have h2 : seek c p = i :: r := by simpa [seek, hb] using h
      obtain ⟨⟨a, e⟩, e2⟩ := ih p i r h2
      exact ⟨⟨b :: a, by rw [e]; rfl⟩, e2⟩
theorem unr_ok {d m : Nat} {c : List MIns} (hc : (prg m).1 = c) (ho : okc c = true) (cuts : List Nat) : ∀ (k : Nat) (a r : List MIns) (L : MLoc) (S : List Value) (h : MHeap), c = a ++ r → unr (ex d m) (call d) cuts c k r L S h = ex d m (nxt r) L S h := by
  intro k
  induction k with
  | zero => intro a r L S h _; rfl
  | succ k ih =>
    intro a r L S h hr
    cases r with
    | nil => rfl
    | cons i r =>
      have hs : seek (prg m).1 i.1 = i :: r := by rw [hc, hr]; exact seek_suffix a i r (by rw [← hr]; exact ho)
      have hr' : c = (a ++ [i]) ++ r := by rw [hr]; simp
      have kn : ∀ L S h, (bif memN cuts (nxt r) then ex d m (nxt r) L S h else unr (ex d m) (call d) cuts c k r L S h) = ex d m (nxt r) L S h := by
        intro L S h
        rw [ih _ r L S h hr']
        cases memN cuts (nxt r) <;> rfl
      have kj : ∀ j L S h, (bif memN cuts j then ex d m j L S h else match seek c j with
        | [] => none
        | i2 :: r2 => unr (ex d m) (call d) cuts c k (i2 :: r2) L S h) = ex d m j L S h := by
        intro j L S h
        cases memN cuts j with
        | true => rfl
        | false =>
          show (match seek c j with
            | [] => none
            | i2 :: r2 => unr (ex d m) (call d) cuts c k (i2 :: r2) L S h) = _
          cases hj : seek c j with
          | nil => rw [ex_fix, hc, hj]
          | cons i2 r2 =>
            obtain ⟨⟨a2, e2⟩, e3⟩ := seek_split c j i2 r2 hj
            show unr (ex d m) (call d) cuts c k (i2 :: r2) L S h = _
            rw [ih a2 (i2 :: r2) L S h e2]
            show ex d m i2.1 L S h = _
            rw [e3]
      show _ = ex d m i.1 L S h
      rw [ex_fix, hs]
      show stK _ _ _ _ _ _ _ _ _ _ _ = stK _ _ _ _ _ _ _ _ _ _ _
      simp only [kn, kj]
/-- from a method's first instruction on -/
theorem call_unr {d m nl : Nat} {c : List MIns} (hc : prg m = (c, nl)) (hm : Nat.ble 1000 m = false) (ho : okc c = true) (h0 : nxt c = 0) (cuts : List Nat) (k : Nat) (as : List Value) (h : MHeap) : call (d + 1) m as h = unr (ex d m) (call d) cuts c k c (padL nl (entL as)) [] h := by
  rw [unr_ok (a := []) (by rw [hc]) ho cuts k c _ _ _ rfl, h0]
  show (bif Nat.ble 1000 m then prx d (m - 1000) as h else ex d m 0 (padL (prg m).2 (entL as)) [] h) = _
  rw [hm, hc]
  rfl
theorem ex_unr {d m nl : Nat} {c : List MIns} (hc : prg m = (c, nl)) (ho : okc c = true) (cuts : List Nat) (k : Nat) {pc : Nat} {i : MIns} {r : List MIns} (hs : seek c pc = i :: r) (L : MLoc) (S : List Value) (h : MHeap) : ex d m pc L S h = unr (ex d m) (call d) cuts c k (i :: r) L S h := by
  obtain ⟨⟨a, e⟩, e3⟩ := seek_split c pc i r hs
  rw [unr_ok (a := a) (by rw [hc]) ho cuts k (i :: r) _ _ _ e]
  show _ = ex d m i.1 L S h
  rw [e3]
end
section
/-! the methods 0 to 82, unrolled up to the heads of their loops -/
theorem p_0 : prg 0 = (k_0, 1) := rfl
theorem o_0 : okc k_0 = true := by decide +kernel
set_option maxRecDepth 100000 in
theorem e_0 (d : Nat) (a0 : Nat) (h : MHeap) : call (d + 1) 0 [.ref a0] h = (
  cV (call d 1003 [.ref a0] h) fun h1 =>
  pfI none h1 a0 [0] 0 (9 : Int32) fun h2 =>
  pfI none h2 a0 [0] 1 (3 : Int32) fun h3 =>
  pfI none h3 a0 [0] 2 (0 : Int32) fun h4 =>
  pfI none h4 a0 [0] 3 (0 : Int32) fun h5 =>
  nwA none h5 101 (7 : Int32) .null fun o6 h7 =>
  pfV none h7 a0 [0] 4 (.ref o6) fun h8 =>
  some (none, h8)) :=
  (call_unr p_0 rfl o_0 rfl [] 24 _ h).trans rfl

theorem p_1 : prg 1 = (k_1, 2) := rfl
theorem o_1 : okc k_1 = true := by decide +kernel
set_option maxRecDepth 100000 in
theorem e_1 (d : Nat) (a0 : Int32) (a1 : Int32) (h : MHeap) : call (d + 1) 1 [.int a0, .int a1] h = (
  if (0 : Int32) < a1 then
  (dv none a1 <|
  some (some (.int (a0 / a1)), h))
  else
  (some (some (.int (0 : Int32)), h))) :=
  (call_unr p_1 rfl o_1 rfl [] 14 _ h).trans rfl

theorem p_2 : prg 2 = (k_2, 2) := rfl
theorem o_2 : okc k_2 = true := by decide +kernel
set_option maxRecDepth 100000 in
theorem e_2 (d : Nat) (a0 : Int32) (a1 : Int32) (h : MHeap) : call (d + 1) 2 [.int a0, .int a1] h = (
  if (0 : Int32) < a1 then
  (dv none a1 <|
  some (some (.int (a0 - a0 / a1 * a1)), h))
  else
  (some (some (.int (0 : Int32)), h))) :=
  (call_unr p_2 rfl o_2 rfl [] 14 _ h).trans rfl

theorem p_3 : prg 3 = (k_3, 8) := rfl
theorem o_3 : okc k_3 = true := by decide +kernel
set_option maxRecDepth 100000 in
theorem e_3 (d : Nat) (a0 : Nat) (a1 : Int32) (a2 : Int32) (a3 : Int32) (h : MHeap) : call (d + 1) 3 [.ref a0, .int a1, .int a2, .int a3] h = (
  pfI none h a0 [0] 0 a1 fun h1 =>
  pfI none h1 a0 [0] 1 a2 fun h2 =>
  pfI none h2 a0 [0] 2 a3 fun h3 =>
  gfV none h3 a0 [0] 4 fun v4 =>
  dA none v4 <|
  dA none v4 <|
  dR none v4 fun o6 =>
  aln none h3 o6 fun x5 =>
  ex d 3 29 [sv (.ref a0), sv (.int a1), sv (.int a2), sv (.int a3), sv v4, sv (.int x5), sv (.int (0 : Int32)), none] [] h3) :=
  (call_unr p_3 rfl o_3 rfl [29] 22 _ h).trans rfl
set_option maxRecDepth 100000 in
theorem e_3_29 (d : Nat) (a0 : Nat) (a1 : Int32) (a2 : Int32) (a3 : Int32) (a4 : Value) (a5 : Int32) (a6 : Int32) (a7 : MSl) (h : MHeap) : ex d 3 29 [sv (.ref a0), sv (.int a1), sv (.int a2), sv (.int a3), sv a4, sv (.int a5), sv (.int a6), a7] [] h = (
  if a6 < a5 then
  (dA none a4 <|
  dR none a4 fun o2 =>
  alV none h o2 a6 fun v1 =>
  dA none v1 <|
  dA none v1 <|
  dN none v1 (
  ex d 3 29 [sv (.ref a0), sv (.int a1), sv (.int a2), sv (.int a3), sv a4, sv (.int a5), sv (.int (a6 + (1 : Int32))), sv v1] [] h) (
  dA none v1 <|
  dR none v1 fun o4 =>
  vd none h o4 [1, 32, 2, 32, 3, 32, 6, 32, 8, 32, 10, 32] fun m3 =>
  cV (call d m3 [.ref o4, .int a1, .int a2] h) fun h5 =>
  ex d 3 29 [sv (.ref a0), sv (.int a1), sv (.int a2), sv (.int a3), sv a4, sv (.int a5), sv (.int (a6 + (1 : Int32))), sv v1] [] h5))
  else
  (some (none, h))) :=
  (ex_unr p_3 o_3 [29] 23 rfl _ _ h).trans rfl

theorem p_4 : prg 4 = (k_4, 1) := rfl
theorem o_4 : okc k_4 = true := by decide +kernel
set_option maxRecDepth 100000 in
theorem e_4 (d : Nat) (a0 : Nat) (h : MHeap) : call (d + 1) 4 [.ref a0] h = (
  gfI none h a0 [0] 0 fun x1 =>
  cI (call d 136 [.int x1] h) fun x3 h2 =>
  some (some (.int x3), h2)) :=
  (call_unr p_4 rfl o_4 rfl [] 9 _ h).trans rfl

theorem p_5 : prg 5 = (k_5, 2) := rfl
theorem o_5 : okc k_5 = true := by decide +kernel
set_option maxRecDepth 100000 in
theorem e_5 (d : Nat) (a0 : Nat) (a1 : Int32) (h : MHeap) : call (d + 1) 5 [.ref a0, .int a1] h = (
  gfI none h a0 [0] 0 fun x1 =>
  cI (call d 133 [.int a1, .int (0 : Int32), .int (x1 - (1 : Int32))] h) fun x3 h2 =>
  zr none x3 (some (some (.int x3), h2))) :=
  (call_unr p_5 rfl o_5 rfl [] 13 _ h).trans rfl

theorem p_6 : prg 6 = (k_6, 2) := rfl
theorem o_6 : okc k_6 = true := by decide +kernel
set_option maxRecDepth 100000 in
theorem e_6 (d : Nat) (a0 : Nat) (a1 : Int32) (h : MHeap) : call (d + 1) 6 [.ref a0, .int a1] h = (
  vd none h a0 [0, 4] fun m1 =>
  cI (call d m1 [.ref a0] h) fun x3 h2 =>
  cI (call d 133 [.int a1, .int (0 : Int32), .int x3] h2) fun x5 h4 =>
  zr none x5 (some (some (.int x5), h4))) :=
  (call_unr p_6 rfl o_6 rfl [] 11 _ h).trans rfl

theorem p_7 : prg 7 = (k_7, 3) := rfl
theorem o_7 : okc k_7 = true := by decide +kernel
set_option maxRecDepth 100000 in
theorem e_7 (d : Nat) (a0 : Nat) (a1 : Int32) (a2 : Int32) (h : MHeap) : call (d + 1) 7 [.ref a0, .int a1, .int a2] h = (
  gfI none h a0 [0] 2 fun x1 =>
  cI (call d 137 [.int x1, .int a1] h) fun x3 h2 =>
  gfI none h2 a0 [0] 2 fun x4 =>
  cI (call d 137 [.int x4, .int a2] h2) fun x6 h5 =>
  if x3 = x6 then
  (zr none (0 : Int32) (some (some (.int (0 : Int32)), h5)))
  else
  (zr none (1 : Int32) (some (some (.int (1 : Int32)), h5)))) :=
  (call_unr p_7 rfl o_7 rfl [] 19 _ h).trans rfl

theorem p_8 : prg 8 = (k_8, 4) := rfl
theorem o_8 : okc k_8 = true := by decide +kernel
set_option maxRecDepth 100000 in
theorem e_8 (d : Nat) (a0 : Nat) (a1 : Int32) (h : MHeap) : call (d + 1) 8 [.ref a0, .int a1] h = (
  ex d 8 4 [sv (.ref a0), sv (.int a1), sv (.int (0 : Int32)), sv (.int (0 : Int32))] [] h) :=
  (call_unr p_8 rfl o_8 rfl [4] 9 _ h).trans rfl
set_option maxRecDepth 100000 in
theorem e_8_4 (d : Nat) (a0 : Nat) (a1 : Int32) (a2 : Int32) (a3 : Int32) (h : MHeap) : ex d 8 4 [sv (.ref a0), sv (.int a1), sv (.int a2), sv (.int a3)] [] h = (
  gfI none h a0 [0] 0 fun x1 =>
  if a3 < x1 then
  (gfI none h a0 [0] 1 fun x2 =>
  cI (call d 1 [.int a3, .int x2] h) fun x4 h3 =>
  if x4 = a1 then
  (cI (call d 135 [.int a3] h3) fun x6 h5 =>
  ex d 8 4 [sv (.ref a0), sv (.int a1), sv (.int (a2 ||| x6)), sv (.int (a3 + (1 : Int32)))] [] h5)
  else
  (ex d 8 4 [sv (.ref a0), sv (.int a1), sv (.int (a2 ||| (0 : Int32))), sv (.int (a3 + (1 : Int32)))] [] h3))
  else
  (some (some (.int a2), h))) :=
  (ex_unr p_8 o_8 [4] 30 rfl _ _ h).trans rfl

theorem p_9 : prg 9 = (k_9, 2) := rfl
theorem o_9 : okc k_9 = true := by decide +kernel
set_option maxRecDepth 100000 in
theorem e_9 (d : Nat) (a0 : Nat) (a1 : Int32) (h : MHeap) : call (d + 1) 9 [.ref a0, .int a1] h = (
  gfI none h a0 [0] 2 fun x1 =>
  gfI none h a0 [0] 2 fun x2 =>
  cI (call d 136 [.int a1] h) fun x4 h3 =>
  gfI none h3 a0 [0] 0 fun x5 =>
  some (some (.int ((x1 >>> (a1 &&& 31)) ||| ((x2 &&& x4) <<< ((x5 - a1) &&& 31)))), h3)) :=
  (call_unr p_9 rfl o_9 rfl [] 21 _ h).trans rfl

theorem p_10 : prg 10 = (k_10, 5) := rfl
theorem o_10 : okc k_10 = true := by decide +kernel
set_option maxRecDepth 100000 in
theorem e_10 (d : Nat) (a0 : Nat) (a1 : Int32) (a2 : Int32) (h : MHeap) : call (d + 1) 10 [.ref a0, .int a1, .int a2] h = (
  gfI none h a0 [0] 2 fun x1 =>
  gfI none h a0 [0] 2 fun x2 =>
  cI (call d 136 [.int a1] h) fun x4 h3 =>
  gfI none h3 a0 [0] 2 fun x5 =>
  cI (call d 136 [.int a2] h3) fun x7 h6 =>
  some (some (.int (((((x2 &&& x4) ||| ((x5 >>> ((a1 + (1 : Int32)) &&& 31)) <<< (a1 &&& 31))) &&& x7) ||| (((x1 >>> (a1 &&& 31)) &&& (1 : Int32)) <<< (a2 &&& 31))) ||| ((((x2 &&& x4) ||| ((x5 >>> ((a1 + (1 : Int32)) &&& 31)) <<< (a1 &&& 31))) >>> (a2 &&& 31)) <<< ((a2 + (1 : Int32)) &&& 31)))), h6)) :=
  (call_unr p_10 rfl o_10 rfl [] 44 _ h).trans rfl

theorem p_11 : prg 11 = (k_11, 1) := rfl
theorem o_11 : okc k_11 = true := by decide +kernel
set_option maxRecDepth 100000 in
theorem e_11 (d : Nat) (a0 : Nat) (h : MHeap) : call (d + 1) 11 [.ref a0] h = (
  gfI none h a0 [0] 3 fun x1 =>
  gfV none h a0 [0] 4 fun v2 =>
  dR none v2 fun o4 =>
  aln none h o4 fun x3 =>
  if x1 < x3 then
  (zr none (1 : Int32) (some (some (.int (1 : Int32)), h)))
  else
  (zr none (0 : Int32) (some (some (.int (0 : Int32)), h)))) :=
  (call_unr p_11 rfl o_11 rfl [] 16 _ h).trans rfl

theorem p_12 : prg 12 = (k_12, 2) := rfl
theorem o_12 : okc k_12 = true := by decide +kernel
set_option maxRecDepth 100000 in
theorem e_12 (d : Nat) (a0 : Nat) (a1 : Nat) (h : MHeap) : call (d + 1) 12 [.ref a0, .ref a1] h = (
  gfI none h a0 [0] 3 fun x1 =>
  gfV none h a0 [0] 4 fun v2 =>
  dR none v2 fun o4 =>
  aln none h o4 fun x3 =>
  cI (call d 133 [.int x1, .int (0 : Int32), .int (x3 - (1 : Int32))] h) fun x6 h5 =>
  if x6 = (0 : Int32) then
  (some (none, h5))
  else
  (gfI none h5 a0 [0] 0 fun x7 =>
  gfI none h5 a0 [0] 1 fun x8 =>
  vd none h5 a1 [1, 32, 2, 32, 3, 32, 6, 32, 8, 32, 10, 32] fun m9 =>
  cV (call d m9 [.ref a1, .int x7, .int x8] h5) fun h10 =>
  gfV none h10 a0 [0] 4 fun v11 =>
  gfI none h10 a0 [0] 3 fun x12 =>
  dR none v11 fun o14 =>
  asV none h10 o14 x12 (.ref a1) fun h13 =>
  gfI none h13 a0 [0] 3 fun x15 =>
  pfI none h13 a0 [0] 3 (x15 + (1 : Int32)) fun h16 =>
  some (none, h16))) :=
  (call_unr p_12 rfl o_12 rfl [] 37 _ h).trans rfl

theorem p_13 : prg 13 = (k_13, 3) := rfl
theorem o_13 : okc k_13 = true := by decide +kernel
set_option maxRecDepth 100000 in
theorem e_13 (d : Nat) (a0 : Nat) (a1 : Int32) (h : MHeap) : call (d + 1) 13 [.ref a0, .int a1] h = (
  cI (call d 1000 [.int (0 : Int32), .int a1] h) fun x2 h1 =>
  ex d 13 6 [sv (.ref a0), sv (.int a1), sv (.int x2)] [] h1) :=
  (call_unr p_13 rfl o_13 rfl [6] 9 _ h).trans rfl
set_option maxRecDepth 100000 in
theorem e_13_6 (d : Nat) (a0 : Nat) (a1 : Int32) (a2 : Int32) (h : MHeap) : ex d 13 6 [sv (.ref a0), sv (.int a1), sv (.int a2)] [] h = (
  gfV none h a0 [0] 4 fun v1 =>
  dR none v1 fun o3 =>
  aln none h o3 fun x2 =>
  if a2 < x2 then
  (gfV none h a0 [0] 4 fun v4 =>
  dR none v4 fun o6 =>
  asV none h o6 a2 .null fun h5 =>
  ex d 13 6 [sv (.ref a0), sv (.int a1), sv (.int (a2 + (1 : Int32)))] [] h5)
  else
  (gfI none h a0 [0] 3 fun x7 =>
  cI (call d 1001 [.int x7, .int a1] h) fun x9 h8 =>
  pfI none h8 a0 [0] 3 x9 fun h10 =>
  some (none, h10))) :=
  (ex_unr p_13 o_13 [6] 24 rfl _ _ h).trans rfl

theorem p_14 : prg 14 = (k_14, 2) := rfl
theorem o_14 : okc k_14 = true := by decide +kernel
set_option maxRecDepth 100000 in
theorem e_14 (d : Nat) (a0 : Nat) (a1 : Int32) (h : MHeap) : call (d + 1) 14 [.ref a0, .int a1] h = (
  if a1 < (0 : Int32) then
  (some (some .null, h))
  else
  (gfI none h a0 [0] 3 fun x1 =>
  if a1 < x1 then
  (gfV none h a0 [0] 4 fun v2 =>
  dR none v2 fun o4 =>
  aln none h o4 fun x3 =>
  if a1 < x3 then
  (gfV none h a0 [0] 4 fun v5 =>
  dR none v5 fun o7 =>
  alV none h o7 a1 fun v6 =>
  dA none v6 <|
  some (some v6, h))
  else
  (some (some .null, h)))
  else
  (some (some .null, h)))) :=
  (call_unr p_14 rfl o_14 rfl [] 28 _ h).trans rfl

theorem p_15 : prg 15 = (k_15, 1) := rfl
theorem o_15 : okc k_15 = true := by decide +kernel
set_option maxRecDepth 100000 in
theorem e_15 (d : Nat) (a0 : Nat) (h : MHeap) : call (d + 1) 15 [.ref a0] h = (
  gfI none h a0 [0] 3 fun x1 =>
  cI (call d 136 [.int x1] h) fun x3 h2 =>
  some (some (.int x3), h2)) :=
  (call_unr p_15 rfl o_15 rfl [] 9 _ h).trans rfl

theorem p_16 : prg 16 = (k_16, 5) := rfl
theorem o_16 : okc k_16 = true := by decide +kernel
set_option maxRecDepth 100000 in
theorem e_16 (d : Nat) (a0 : Nat) (a1 : Int32) (h : MHeap) : call (d + 1) 16 [.ref a0, .int a1] h = (
  ex d 16 4 [sv (.ref a0), sv (.int a1), sv (.int (0 : Int32)), sv (.int (0 : Int32)), none] [] h) :=
  (call_unr p_16 rfl o_16 rfl [4] 9 _ h).trans rfl
set_option maxRecDepth 100000 in
theorem e_16_4 (d : Nat) (a0 : Nat) (a1 : Int32) (a2 : Int32) (a3 : Int32) (a4 : MSl) (h : MHeap) : ex d 16 4 [sv (.ref a0), sv (.int a1), sv (.int a2), sv (.int a3), a4] [] h = (
  gfI none h a0 [0] 3 fun x1 =>
  if a3 < x1 then
  (vd none h a0 [0, 14] fun m2 =>
  cR (call d m2 [.ref a0, .int a3] h) fun v4 h3 =>
  dA none v4 <|
  dA none v4 <|
  dN none v4 (
  ex d 16 4 [sv (.ref a0), sv (.int a1), sv (.int (a2 ||| (0 : Int32))), sv (.int (a3 + (1 : Int32))), sv v4] [] h3) (
  dA none v4 <|
  dR none v4 fun o6 =>
  vd none h3 o6 [1, 31, 2, 31, 3, 31, 6, 31, 8, 52, 10, 82] fun m5 =>
  cI (call d m5 [.ref o6, .int a1] h3) fun x8 h7 =>
  ex d 16 4 [sv (.ref a0), sv (.int a1), sv (.int (a2 ||| (x8 <<< (((4 : Int32) * a3) &&& 31)))), sv (.int (a3 + (1 : Int32))), sv v4] [] h7))
  else
  (some (some (.int a2), h))) :=
  (ex_unr p_16 o_16 [4] 35 rfl _ _ h).trans rfl

theorem p_17 : prg 17 = (k_17, 6) := rfl
theorem o_17 : okc k_17 = true := by decide +kernel
set_option maxRecDepth 100000 in
theorem e_17 (d : Nat) (a0 : Nat) (a1 : Int32) (a2 : Int32) (h : MHeap) : call (d + 1) 17 [.ref a0, .int a1, .int a2] h = (
  ex d 17 5 [sv (.ref a0), sv (.int a1), sv (.int a2), sv (.int (0 : Int32)), sv (.int (0 : Int32)), none] [] h) :=
  (call_unr p_17 rfl o_17 rfl [5] 9 _ h).trans rfl
set_option maxRecDepth 100000 in
theorem e_17_5 (d : Nat) (a0 : Nat) (a1 : Int32) (a2 : Int32) (a3 : Int32) (a4 : Int32) (a5 : MSl) (h : MHeap) : ex d 17 5 [sv (.ref a0), sv (.int a1), sv (.int a2), sv (.int a3), sv (.int a4), a5] [] h = (
  gfI none h a0 [0] 3 fun x1 =>
  if a4 < x1 then
  (vd none h a0 [0, 14] fun m2 =>
  cR (call d m2 [.ref a0, .int a4] h) fun v4 h3 =>
  dA none v4 <|
  dA none v4 <|
  dN none v4 (
  ex d 17 5 [sv (.ref a0), sv (.int a1), sv (.int a2), sv (.int (a3 ||| (0 : Int32))), sv (.int (a4 + (1 : Int32))), sv v4] [] h3) (
  dA none v4 <|
  dR none v4 fun o6 =>
  vd none h3 o6 [1, 31, 2, 31, 3, 31, 6, 31, 8, 52, 10, 82] fun m5 =>
  cI (call d m5 [.ref o6, .int a1] h3) fun x8 h7 =>
  cI (call d 140 [.int a2, .int a4] h7) fun x10 h9 =>
  if x8 = x10 then
  (ex d 17 5 [sv (.ref a0), sv (.int a1), sv (.int a2), sv (.int (a3 ||| (0 : Int32))), sv (.int (a4 + (1 : Int32))), sv v4] [] h9)
  else
  (cI (call d 135 [.int a4] h9) fun x12 h11 =>
  ex d 17 5 [sv (.ref a0), sv (.int a1), sv (.int a2), sv (.int (a3 ||| x12)), sv (.int (a4 + (1 : Int32))), sv v4] [] h11)))
  else
  (some (some (.int a3), h))) :=
  (ex_unr p_17 o_17 [5] 42 rfl _ _ h).trans rfl

theorem p_18 : prg 18 = (k_18, 2) := rfl
theorem o_18 : okc k_18 = true := by decide +kernel
set_option maxRecDepth 100000 in
theorem e_18 (d : Nat) (a0 : Nat) (a1 : Int32) (h : MHeap) : call (d + 1) 18 [.ref a0, .int a1] h = (
  vd none h a0 [0, 17] fun m1 =>
  cI (call d m1 [.ref a0, .int a1, .int (0 : Int32)] h) fun x3 h2 =>
  some (some (.int x3), h2)) :=
  (call_unr p_18 rfl o_18 rfl [] 10 _ h).trans rfl

theorem p_19 : prg 19 = (k_19, 1) := rfl
theorem o_19 : okc k_19 = true := by decide +kernel
set_option maxRecDepth 100000 in
theorem e_19 (d : Nat) (a0 : Nat) (h : MHeap) : call (d + 1) 19 [.ref a0] h = (
  gfI none h a0 [0] 2 fun x1 =>
  vd none h a0 [0, 18] fun m2 =>
  cI (call d m2 [.ref a0, .int x1] h) fun x4 h3 =>
  cI (call d 260 [.int x4] h3) fun x6 h5 =>
  some (some (.int x6), h5)) :=
  (call_unr p_19 rfl o_19 rfl [] 11 _ h).trans rfl

theorem p_20 : prg 20 = (k_20, 5) := rfl
theorem o_20 : okc k_20 = true := by decide +kernel
set_option maxRecDepth 100000 in
theorem e_20 (d : Nat) (a0 : Nat) (a1 : Int32) (a2 : Int32) (h : MHeap) : call (d + 1) 20 [.ref a0, .int a1, .int a2] h = (
  ex d 20 2 [sv (.ref a0), sv (.int a1), sv (.int a2), sv (.int (0 : Int32)), none] [] h) :=
  (call_unr p_20 rfl o_20 rfl [2] 7 _ h).trans rfl
set_option maxRecDepth 100000 in
theorem e_20_2 (d : Nat) (a0 : Nat) (a1 : Int32) (a2 : Int32) (a3 : Int32) (a4 : MSl) (h : MHeap) : ex d 20 2 [sv (.ref a0), sv (.int a1), sv (.int a2), sv (.int a3), a4] [] h = (
  gfI none h a0 [0] 3 fun x1 =>
  if a3 < x1 then
  (vd none h a0 [0, 14] fun m2 =>
  cR (call d m2 [.ref a0, .int a3] h) fun v4 h3 =>
  dA none v4 <|
  dA none v4 <|
  dN none v4 (
  ex d 20 2 [sv (.ref a0), sv (.int a1), sv (.int a2), sv (.int (a3 + (1 : Int32))), sv v4] [] h3) (
  dA none v4 <|
  dR none v4 fun o6 =>
  vd none h3 o6 [1, 31, 2, 31, 3, 31, 6, 31, 8, 52, 10, 82] fun m5 =>
  cI (call d m5 [.ref o6, .int a1] h3) fun x8 h7 =>
  cI (call d 140 [.int a2, .int a3] h7) fun x10 h9 =>
  if x8 = x10 then
  (ex d 20 2 [sv (.ref a0), sv (.int a1), sv (.int a2), sv (.int (a3 + (1 : Int32))), sv v4] [] h9)
  else
  (zr none (0 : Int32) (some (some (.int (0 : Int32)), h9)))))
  else
  (zr none (1 : Int32) (some (some (.int (1 : Int32)), h)))) :=
  (ex_unr p_20 o_20 [2] 30 rfl _ _ h).trans rfl

theorem p_21 : prg 21 = (k_21, 2) := rfl
theorem o_21 : okc k_21 = true := by decide +kernel
set_option maxRecDepth 100000 in
theorem e_21 (d : Nat) (a0 : Nat) (a1 : Int32) (h : MHeap) : call (d + 1) 21 [.ref a0, .int a1] h = (
  vd none h a0 [0, 20] fun m1 =>
  cI (call d m1 [.ref a0, .int a1, .int (0 : Int32)] h) fun x3 h2 =>
  zr none x3 (some (some (.int x3), h2))) :=
  (call_unr p_21 rfl o_21 rfl [] 10 _ h).trans rfl

theorem p_22 : prg 22 = (k_22, 3) := rfl
theorem o_22 : okc k_22 = true := by decide +kernel
set_option maxRecDepth 100000 in
theorem e_22 (d : Nat) (a0 : Nat) (a1 : Int32) (a2 : Int32) (h : MHeap) : call (d + 1) 22 [.ref a0, .int a1, .int a2] h = (
  cV (call d 41 [.ref a0, .int a1, .int a2] h) fun h1 =>
  some (none, h1)) :=
  (call_unr p_22 rfl o_22 rfl [] 10 _ h).trans rfl

theorem p_23 : prg 23 = (k_23, 1) := rfl
theorem o_23 : okc k_23 = true := by decide +kernel
set_option maxRecDepth 100000 in
theorem e_23 (d : Nat) (a0 : Nat) (h : MHeap) : call (d + 1) 23 [.ref a0] h = (
  some (some (.int (3 : Int32)), h)) :=
  (call_unr p_23 rfl o_23 rfl [] 7 _ h).trans rfl

theorem p_24 : prg 24 = (k_24, 3) := rfl
theorem o_24 : okc k_24 = true := by decide +kernel
set_option maxRecDepth 100000 in
theorem e_24 (d : Nat) (a0 : Nat) (a1 : Int32) (a2 : Int32) (h : MHeap) : call (d + 1) 24 [.ref a0, .int a1, .int a2] h = (
  cI (call d 2 [.int a1, .int a2] h) fun x2 h1 =>
  gfI none h1 a0 [1] 1 fun x3 =>
  if x2 = x3 then
  (zr none (1 : Int32) (some (some (.int (1 : Int32)), h1)))
  else
  (zr none (0 : Int32) (some (some (.int (0 : Int32)), h1)))) :=
  (call_unr p_24 rfl o_24 rfl [] 16 _ h).trans rfl

theorem p_25 : prg 25 = (k_25, 3) := rfl
theorem o_25 : okc k_25 = true := by decide +kernel
set_option maxRecDepth 100000 in
theorem e_25 (d : Nat) (a0 : Nat) (a1 : Int32) (a2 : Int32) (h : MHeap) : call (d + 1) 25 [.ref a0, .int a1, .int a2] h = (
  cV (call d 28 [.ref a0, .int a1, .int a2] h) fun h1 =>
  some (none, h1)) :=
  (call_unr p_25 rfl o_25 rfl [] 10 _ h).trans rfl

theorem p_26 : prg 26 = (k_26, 1) := rfl
theorem o_26 : okc k_26 = true := by decide +kernel
set_option maxRecDepth 100000 in
theorem e_26 (d : Nat) (a0 : Nat) (h : MHeap) : call (d + 1) 26 [.ref a0] h = (
  some (some (.int (2 : Int32)), h)) :=
  (call_unr p_26 rfl o_26 rfl [] 7 _ h).trans rfl

theorem p_27 : prg 27 = (k_27, 3) := rfl
theorem o_27 : okc k_27 = true := by decide +kernel
set_option maxRecDepth 100000 in
theorem e_27 (d : Nat) (a0 : Nat) (a1 : Int32) (a2 : Int32) (h : MHeap) : call (d + 1) 27 [.ref a0, .int a1, .int a2] h = (
  gfI none h a0 [2, 10] 1 fun x1 =>
  cI (call d 137 [.int a1, .int (x1 &&& (3 : Int32))] h) fun x3 h2 =>
  zr none x3 (some (some (.int x3), h2))) :=
  (call_unr p_27 rfl o_27 rfl [] 12 _ h).trans rfl

theorem p_28 : prg 28 = (k_28, 3) := rfl
theorem o_28 : okc k_28 = true := by decide +kernel
set_option maxRecDepth 100000 in
theorem e_28 (d : Nat) (a0 : Nat) (a1 : Int32) (a2 : Int32) (h : MHeap) : call (d + 1) 28 [.ref a0, .int a1, .int a2] h = (
  cV (call d 1003 [.ref a0] h) fun h1 =>
  pfI none h1 a0 [1, 2, 3, 6, 8, 10] 0 a1 fun h2 =>
  pfI none h2 a0 [1, 2, 3, 6, 8, 10] 1 a2 fun h3 =>
  some (none, h3)) :=
  (call_unr p_28 rfl o_28 rfl [] 14 _ h).trans rfl

theorem p_29 : prg 29 = (k_29, 1) := rfl
theorem o_29 : okc k_29 = true := by decide +kernel
set_option maxRecDepth 100000 in
theorem e_29 (d : Nat) (a0 : Nat) (h : MHeap) : call (d + 1) 29 [.ref a0] h = (
  some (some (.int (0 : Int32)), h)) :=
  (call_unr p_29 rfl o_29 rfl [] 7 _ h).trans rfl

theorem p_30 : prg 30 = (k_30, 3) := rfl
theorem o_30 : okc k_30 = true := by decide +kernel
set_option maxRecDepth 100000 in
theorem e_30 (d : Nat) (a0 : Nat) (a1 : Int32) (a2 : Int32) (h : MHeap) : call (d + 1) 30 [.ref a0, .int a1, .int a2] h = (
  gfI none h a0 [1, 2, 3, 6, 8, 10] 0 fun x1 =>
  cI (call d 137 [.int x1, .int a1] h) fun x3 h2 =>
  zr none x3 (some (some (.int x3), h2))) :=
  (call_unr p_30 rfl o_30 rfl [] 10 _ h).trans rfl

theorem p_31 : prg 31 = (k_31, 2) := rfl
theorem o_31 : okc k_31 = true := by decide +kernel
set_option maxRecDepth 100000 in
theorem e_31 (d : Nat) (a0 : Nat) (a1 : Int32) (h : MHeap) : call (d + 1) 31 [.ref a0, .int a1] h = (
  gfI none h a0 [1, 2, 3, 6, 8, 10] 2 fun x1 =>
  cI (call d 260 [.int (a1 &&& x1)] h) fun x3 h2 =>
  some (some (.int (x3 &&& (1 : Int32))), h2)) :=
  (call_unr p_31 rfl o_31 rfl [] 13 _ h).trans rfl

theorem p_32 : prg 32 = (k_32, 4) := rfl
theorem o_32 : okc k_32 = true := by decide +kernel
set_option maxRecDepth 100000 in
theorem e_32 (d : Nat) (a0 : Nat) (a1 : Int32) (a2 : Int32) (h : MHeap) : call (d + 1) 32 [.ref a0, .int a1, .int a2] h = (
  pfI none h a0 [1, 2, 3, 6, 8, 10] 2 (0 : Int32) fun h1 =>
  ex d 32 7 [sv (.ref a0), sv (.int a1), sv (.int a2), sv (.int (0 : Int32))] [] h1) :=
  (call_unr p_32 rfl o_32 rfl [7] 10 _ h).trans rfl
set_option maxRecDepth 100000 in
theorem e_32_7 (d : Nat) (a0 : Nat) (a1 : Int32) (a2 : Int32) (a3 : Int32) (h : MHeap) : ex d 32 7 [sv (.ref a0), sv (.int a1), sv (.int a2), sv (.int a3)] [] h = (
  if a3 < a1 then
  (gfI none h a0 [1, 2, 3, 6, 8, 10] 2 fun x1 =>
  vd none h a0 [1, 24, 2, 27, 3, 30, 6, 43, 8, 30, 10, 81] fun m2 =>
  cI (call d m2 [.ref a0, .int a3, .int a2] h) fun x4 h3 =>
  if x4 = (0 : Int32) then
  (pfI none h3 a0 [1, 2, 3, 6, 8, 10] 2 (x1 ||| (0 : Int32)) fun h5 =>
  ex d 32 7 [sv (.ref a0), sv (.int a1), sv (.int a2), sv (.int (a3 + (1 : Int32)))] [] h5)
  else
  (cI (call d 135 [.int a3] h3) fun x7 h6 =>
  pfI none h6 a0 [1, 2, 3, 6, 8, 10] 2 (x1 ||| x7) fun h8 =>
  ex d 32 7 [sv (.ref a0), sv (.int a1), sv (.int a2), sv (.int (a3 + (1 : Int32)))] [] h8))
  else
  (some (none, h))) :=
  (ex_unr p_32 o_32 [7] 29 rfl _ _ h).trans rfl

theorem p_33 : prg 33 = (k_33, 1) := rfl
theorem o_33 : okc k_33 = true := by decide +kernel
set_option maxRecDepth 100000 in
theorem e_33 (d : Nat) (a0 : Nat) (h : MHeap) : call (d + 1) 33 [.ref a0] h = (
  cV (call d 1003 [.ref a0] h) fun h1 =>
  zr none (0 : Int32) <|
  pfI none h1 a0 [4] 0 (0 : Int32) fun h2 =>
  some (none, h2)) :=
  (call_unr p_33 rfl o_33 rfl [] 11 _ h).trans rfl

theorem p_34 : prg 34 = (k_34, 3) := rfl
theorem o_34 : okc k_34 = true := by decide +kernel
set_option maxRecDepth 100000 in
theorem e_34 (d : Nat) (a0 : Nat) (a1 : Nat) (a2 : Int32) (h : MHeap) : call (d + 1) 34 [.ref a0, .ref a1, .int a2] h = (
  zr none (1 : Int32) <|
  pfI none h a0 [4] 0 (1 : Int32) fun h1 =>
  gfI none h1 a1 [0] 0 fun x2 =>
  pfI none h1 a0 [4] 1 x2 fun h3 =>
  gfI none h3 a1 [0] 1 fun x4 =>
  pfI none h3 a0 [4] 2 x4 fun h5 =>
  gfI none h5 a1 [0] 2 fun x6 =>
  pfI none h5 a0 [4] 3 x6 fun h7 =>
  gfI none h7 a1 [0] 3 fun x8 =>
  pfI none h7 a0 [4] 4 x8 fun h9 =>
  pfI none h9 a0 [4] 5 a2 fun h10 =>
  some (none, h10)) :=
  (call_unr p_34 rfl o_34 rfl [] 28 _ h).trans rfl

theorem p_35 : prg 35 = (k_35, 4) := rfl
theorem o_35 : okc k_35 = true := by decide +kernel
set_option maxRecDepth 100000 in
theorem e_35 (d : Nat) (a0 : Nat) (a1 : Nat) (a2 : Int32) (a3 : Int32) (h : MHeap) : call (d + 1) 35 [.ref a0, .ref a1, .int a2, .int a3] h = (
  cV (call d 1003 [.ref a0] h) fun h1 =>
  pfV none h1 a0 [5] 0 (.ref a1) fun h2 =>
  pfI none h2 a0 [5] 1 a2 fun h3 =>
  pfI none h3 a0 [5] 2 a3 fun h4 =>
  some (none, h4)) :=
  (call_unr p_35 rfl o_35 rfl [] 17 _ h).trans rfl

theorem p_36 : prg 36 = (k_36, 8) := rfl
theorem o_36 : okc k_36 = true := by decide +kernel
set_option maxRecDepth 100000 in
theorem e_36 (d : Nat) (a0 : Nat) (a1 : Int32) (a2 : Nat) (a3 : Nat) (h : MHeap) : call (d + 1) 36 [.ref a0, .int a1, .ref a2, .ref a3] h = (
  if a1 = (0 : Int32) then
  (if a1 = (0 : Int32) then
  (gfI none h a0 [5] 1 fun x1 =>
  cI (call d 1000 [.int (0 : Int32), .int (0 : Int32)] h) fun x3 h2 =>
  ex d 36 67 [sv (.ref a0), sv (.int a1), sv (.ref a2), sv (.ref a3), sv (.int (0 : Int32)), sv (.int x1), sv (.int (0 : Int32)), sv (.int x3)] [] h2)
  else
  (if a1 = (1 : Int32) then
  (gfI none h a0 [5] 2 fun x4 =>
  cI (call d 1000 [.int (0 : Int32), .int (0 : Int32)] h) fun x6 h5 =>
  ex d 36 67 [sv (.ref a0), sv (.int a1), sv (.ref a2), sv (.ref a3), sv (.int (0 : Int32)), sv (.int x4), sv (.int (0 : Int32)), sv (.int x6)] [] h5)
  else
  (gfV none h a0 [5] 0 fun v7 =>
  dR none v7 fun o9 =>
  aln none h o9 fun x8 =>
  cI (call d 1000 [.int (0 : Int32), .int (0 : Int32)] h) fun x11 h10 =>
  ex d 36 67 [sv (.ref a0), sv (.int a1), sv (.ref a2), sv (.ref a3), sv (.int (0 : Int32)), sv (.int x8), sv (.int (0 : Int32)), sv (.int x11)] [] h10)))
  else
  (if a1 = (1 : Int32) then
  (gfI none h a0 [5] 1 fun x12 =>
  if a1 = (0 : Int32) then
  (gfI none h a0 [5] 1 fun x13 =>
  cI (call d 1000 [.int (0 : Int32), .int x12] h) fun x15 h14 =>
  ex d 36 67 [sv (.ref a0), sv (.int a1), sv (.ref a2), sv (.ref a3), sv (.int x12), sv (.int x13), sv (.int (0 : Int32)), sv (.int x15)] [] h14)
  else
  (if a1 = (1 : Int32) then
  (gfI none h a0 [5] 2 fun x16 =>
  cI (call d 1000 [.int (0 : Int32), .int x12] h) fun x18 h17 =>
  ex d 36 67 [sv (.ref a0), sv (.int a1), sv (.ref a2), sv (.ref a3), sv (.int x12), sv (.int x16), sv (.int (0 : Int32)), sv (.int x18)] [] h17)
  else
  (gfV none h a0 [5] 0 fun v19 =>
  dR none v19 fun o21 =>
  aln none h o21 fun x20 =>
  cI (call d 1000 [.int (0 : Int32), .int x12] h) fun x23 h22 =>
  ex d 36 67 [sv (.ref a0), sv (.int a1), sv (.ref a2), sv (.ref a3), sv (.int x12), sv (.int x20), sv (.int (0 : Int32)), sv (.int x23)] [] h22)))
  else
  (gfI none h a0 [5] 2 fun x24 =>
  if a1 = (0 : Int32) then
  (gfI none h a0 [5] 1 fun x25 =>
  cI (call d 1000 [.int (0 : Int32), .int x24] h) fun x27 h26 =>
  ex d 36 67 [sv (.ref a0), sv (.int a1), sv (.ref a2), sv (.ref a3), sv (.int x24), sv (.int x25), sv (.int (0 : Int32)), sv (.int x27)] [] h26)
  else
  (if a1 = (1 : Int32) then
  (gfI none h a0 [5] 2 fun x28 =>
  cI (call d 1000 [.int (0 : Int32), .int x24] h) fun x30 h29 =>
  ex d 36 67 [sv (.ref a0), sv (.int a1), sv (.ref a2), sv (.ref a3), sv (.int x24), sv (.int x28), sv (.int (0 : Int32)), sv (.int x30)] [] h29)
  else
  (gfV none h a0 [5] 0 fun v31 =>
  dR none v31 fun o33 =>
  aln none h o33 fun x32 =>
  cI (call d 1000 [.int (0 : Int32), .int x24] h) fun x35 h34 =>
  ex d 36 67 [sv (.ref a0), sv (.int a1), sv (.ref a2), sv (.ref a3), sv (.int x24), sv (.int x32), sv (.int (0 : Int32)), sv (.int x35)] [] h34))))) :=
  (call_unr p_36 rfl o_36 rfl [67] 125 _ h).trans rfl
set_option maxRecDepth 100000 in
theorem e_36_67 (d : Nat) (a0 : Nat) (a1 : Int32) (a2 : Nat) (a3 : Nat) (a4 : Int32) (a5 : Int32) (a6 : Int32) (a7 : Int32) (h : MHeap) : ex d 36 67 [sv (.ref a0), sv (.int a1), sv (.ref a2), sv (.ref a3), sv (.int a4), sv (.int a5), sv (.int a6), sv (.int a7)] [] h = (
  if a7 < a5 then
  (gfV none h a0 [5] 0 fun v1 =>
  dR none v1 fun o3 =>
  aln none h o3 fun x2 =>
  if a7 < x2 then
  (gfV none h a0 [5] 0 fun v4 =>
  dR none v4 fun o6 =>
  alI none h o6 a7 fun x5 =>
  cI (call d 37 [.int x5, .ref a2, .ref a3, .int a6] h) fun x8 h7 =>
  ex d 36 67 [sv (.ref a0), sv (.int a1), sv (.ref a2), sv (.ref a3), sv (.int a4), sv (.int a5), sv (.int x8), sv (.int (a7 + (1 : Int32)))] [] h7)
  else
  (if (0 : Int32) < a6 then
  (aln none h a3 fun x9 =>
  if x9 < a6 then
  (some (some (.int (0 : Int32)), h))
  else
  (alI none h a3 (a6 - (1 : Int32)) fun x10 =>
  some (some (.int x10), h)))
  else
  (some (some (.int (0 : Int32)), h))))
  else
  (if (0 : Int32) < a6 then
  (aln none h a3 fun x11 =>
  if x11 < a6 then
  (some (some (.int (0 : Int32)), h))
  else
  (alI none h a3 (a6 - (1 : Int32)) fun x12 =>
  some (some (.int x12), h)))
  else
  (some (some (.int (0 : Int32)), h)))) :=
  (ex_unr p_36 o_36 [67] 58 rfl _ _ h).trans rfl

theorem p_37 : prg 37 = (k_37, 7) := rfl
theorem o_37 : okc k_37 = true := by decide +kernel
set_option maxRecDepth 100000 in
theorem e_37 (d : Nat) (a0 : Int32) (a1 : Nat) (a2 : Nat) (a3 : Int32) (h : MHeap) : call (d + 1) 37 [.int a0, .ref a1, .ref a2, .int a3] h = (
  if a0 < (1000 : Int32) then
  (if (a0 - (6 : Int32)) < (0 : Int32) then
  (if a3 < (1 : Int32) then
  (ex d 37 57 [sv (.int a0), sv (.ref a1), sv (.ref a2), sv (.int a3), sv (.int (a0 - (6 : Int32))), none, none] [] h)
  else
  (aln none h a2 fun x1 =>
  if x1 < a3 then
  (ex d 37 57 [sv (.int a0), sv (.ref a1), sv (.ref a2), sv (.int a3), sv (.int (a0 - (6 : Int32))), none, none] [] h)
  else
  (alI none h a2 (a3 - (1 : Int32)) fun x2 =>
  if a0 = (5 : Int32) then
  (ex d 37 77 [sv (.int a0), sv (.ref a1), sv (.ref a2), sv (.int a3), sv (.int (a0 - (6 : Int32))), sv (.int x2), none] [] h)
  else
  (if a0 = (12 : Int32) then
  (ex d 37 77 [sv (.int a0), sv (.ref a1), sv (.ref a2), sv (.int a3), sv (.int (a0 - (6 : Int32))), sv (.int x2), none] [] h)
  else
  (if a3 < (2 : Int32) then
  (cI (call d 39 [.int a0, .int (0 : Int32), .int x2] h) fun x4 h3 =>
  cI (call d 38 [.int x4, .ref a2, .int (a3 - (2 : Int32))] h3) fun x6 h5 =>
  some (some (.int x6), h5))
  else
  (alI none h a2 (a3 - (2 : Int32)) fun x7 =>
  cI (call d 39 [.int a0, .int x7, .int x2] h) fun x9 h8 =>
  cI (call d 38 [.int x9, .ref a2, .int (a3 - (2 : Int32))] h8) fun x11 h10 =>
  some (some (.int x11), h10)))))))
  else
  (aln none h a1 fun x12 =>
  if (a0 - (6 : Int32)) < x12 then
  (alI none h a1 (a0 - (6 : Int32)) fun x13 =>
  cI (call d 38 [.int x13, .ref a2, .int a3] h) fun x15 h14 =>
  some (some (.int x15), h14))
  else
  (if a3 < (1 : Int32) then
  (ex d 37 57 [sv (.int a0), sv (.ref a1), sv (.ref a2), sv (.int a3), sv (.int (a0 - (6 : Int32))), none, none] [] h)
  else
  (aln none h a2 fun x16 =>
  if x16 < a3 then
  (ex d 37 57 [sv (.int a0), sv (.ref a1), sv (.ref a2), sv (.int a3), sv (.int (a0 - (6 : Int32))), none, none] [] h)
  else
  (alI none h a2 (a3 - (1 : Int32)) fun x17 =>
  if a0 = (5 : Int32) then
  (ex d 37 77 [sv (.int a0), sv (.ref a1), sv (.ref a2), sv (.int a3), sv (.int (a0 - (6 : Int32))), sv (.int x17), none] [] h)
  else
  (if a0 = (12 : Int32) then
  (ex d 37 77 [sv (.int a0), sv (.ref a1), sv (.ref a2), sv (.int a3), sv (.int (a0 - (6 : Int32))), sv (.int x17), none] [] h)
  else
  (if a3 < (2 : Int32) then
  (cI (call d 39 [.int a0, .int (0 : Int32), .int x17] h) fun x19 h18 =>
  cI (call d 38 [.int x19, .ref a2, .int (a3 - (2 : Int32))] h18) fun x21 h20 =>
  some (some (.int x21), h20))
  else
  (alI none h a2 (a3 - (2 : Int32)) fun x22 =>
  cI (call d 39 [.int a0, .int x22, .int x17] h) fun x24 h23 =>
  cI (call d 38 [.int x24, .ref a2, .int (a3 - (2 : Int32))] h23) fun x26 h25 =>
  some (some (.int x26), h25)))))))))
  else
  (cI (call d 38 [.int (a0 - (1000 : Int32)), .ref a2, .int a3] h) fun x28 h27 =>
  some (some (.int x28), h27))) :=
  (call_unr p_37 rfl o_37 rfl [57, 77, 92, 101] 134 _ h).trans rfl
set_option maxRecDepth 100000 in
theorem e_37_57 (d : Nat) (a0 : Int32) (a1 : Nat) (a2 : Nat) (a3 : Int32) (a4 : Int32) (h : MHeap) : ex d 37 57 [sv (.int a0), sv (.ref a1), sv (.ref a2), sv (.int a3), sv (.int a4), none, none] [] h = (
  some (some (.int a3), h)) :=
  (ex_unr p_37 o_37 [57, 77, 92, 101] 7 rfl _ _ h).trans rfl
set_option maxRecDepth 100000 in
theorem e_37_77 (d : Nat) (a0 : Int32) (a1 : Nat) (a2 : Nat) (a3 : Int32) (a4 : Int32) (a5 : Int32) (h : MHeap) : ex d 37 77 [sv (.int a0), sv (.ref a1), sv (.ref a2), sv (.int a3), sv (.int a4), sv (.int a5), none] [] h = (
  if a0 = (5 : Int32) then
  (if a5 = (0 : Int32) then
  (ex d 37 92 [sv (.int a0), sv (.ref a1), sv (.ref a2), sv (.int a3), sv (.int a4), sv (.int a5), none] [.int (1 : Int32)] h)
  else
  (ex d 37 92 [sv (.int a0), sv (.ref a1), sv (.ref a2), sv (.int a3), sv (.int a4), sv (.int a5), none] [.int (0 : Int32)] h))
  else
  (ex d 37 101 [sv (.int a0), sv (.ref a1), sv (.ref a2), sv (.int a3), sv (.int a4), sv (.int a5), none] [.int (-a5)] h)) :=
  (ex_unr p_37 o_37 [57, 77, 92, 101] 15 rfl _ _ h).trans rfl
set_option maxRecDepth 100000 in
theorem e_37_92 (d : Nat) (a0 : Int32) (a1 : Nat) (a2 : Nat) (a3 : Int32) (a4 : Int32) (a5 : Int32) (s0 : Int32) (h : MHeap) : ex d 37 92 [sv (.int a0), sv (.ref a1), sv (.ref a2), sv (.int a3), sv (.int a4), sv (.int a5), none] [.int s0] h = (
  cI (call d 40 [.int s0] h) fun x2 h1 =>
  ex d 37 101 [sv (.int a0), sv (.ref a1), sv (.ref a2), sv (.int a3), sv (.int a4), sv (.int a5), none] [.int x2] h1) :=
  (ex_unr p_37 o_37 [57, 77, 92, 101] 7 rfl _ _ h).trans rfl
set_option maxRecDepth 100000 in
theorem e_37_101 (d : Nat) (a0 : Int32) (a1 : Nat) (a2 : Nat) (a3 : Int32) (a4 : Int32) (a5 : Int32) (s0 : Int32) (h : MHeap) : ex d 37 101 [sv (.int a0), sv (.ref a1), sv (.ref a2), sv (.int a3), sv (.int a4), sv (.int a5), none] [.int s0] h = (
  cI (call d 38 [.int s0, .ref a2, .int (a3 - (1 : Int32))] h) fun x2 h1 =>
  some (some (.int x2), h1)) :=
  (ex_unr p_37 o_37 [57, 77, 92, 101] 11 rfl _ _ h).trans rfl

theorem p_38 : prg 38 = (k_38, 3) := rfl
theorem o_38 : okc k_38 = true := by decide +kernel
set_option maxRecDepth 100000 in
theorem e_38 (d : Nat) (a0 : Int32) (a1 : Nat) (a2 : Int32) (h : MHeap) : call (d + 1) 38 [.int a0, .ref a1, .int a2] h = (
  if a2 < (0 : Int32) then
  (some (some (.int a2), h))
  else
  (aln none h a1 fun x1 =>
  if a2 < x1 then
  (asI none h a1 a2 a0 fun h2 =>
  some (some (.int (a2 + (1 : Int32))), h2))
  else
  (some (some (.int a2), h)))) :=
  (call_unr p_38 rfl o_38 rfl [] 23 _ h).trans rfl

theorem p_39 : prg 39 = (k_39, 3) := rfl
theorem o_39 : okc k_39 = true := by decide +kernel
set_option maxRecDepth 100000 in
theorem e_39 (d : Nat) (a0 : Int32) (a1 : Int32) (a2 : Int32) (h : MHeap) : call (d + 1) 39 [.int a0, .int a1, .int a2] h = (
  if a0 = (3 : Int32) then
  (if a1 = (0 : Int32) then
  (if a2 = (0 : Int32) then
  (cI (call d 40 [.int (0 : Int32)] h) fun x2 h1 =>
  some (some (.int x2), h1))
  else
  (cI (call d 40 [.int (1 : Int32)] h) fun x4 h3 =>
  some (some (.int x4), h3)))
  else
  (cI (call d 40 [.int (1 : Int32)] h) fun x6 h5 =>
  some (some (.int x6), h5)))
  else
  (if a0 = (4 : Int32) then
  (if a1 = (0 : Int32) then
  (cI (call d 40 [.int (0 : Int32)] h) fun x8 h7 =>
  some (some (.int x8), h7))
  else
  (if a2 = (0 : Int32) then
  (cI (call d 40 [.int (0 : Int32)] h) fun x10 h9 =>
  some (some (.int x10), h9))
  else
  (cI (call d 40 [.int (1 : Int32)] h) fun x12 h11 =>
  some (some (.int x12), h11))))
  else
  (if a0 = (43 : Int32) then
  (some (some (.int (a1 + a2)), h))
  else
  (if a0 = (45 : Int32) then
  (some (some (.int (a1 - a2)), h))
  else
  (if a0 = (60 : Int32) then
  (if a1 < a2 then
  (cI (call d 40 [.int (1 : Int32)] h) fun x14 h13 =>
  some (some (.int x14), h13))
  else
  (cI (call d 40 [.int (0 : Int32)] h) fun x16 h15 =>
  some (some (.int x16), h15)))
  else
  (if a0 = (61 : Int32) then
  (if a1 = a2 then
  (cI (call d 40 [.int (1 : Int32)] h) fun x18 h17 =>
  some (some (.int x18), h17))
  else
  (cI (call d 40 [.int (0 : Int32)] h) fun x20 h19 =>
  some (some (.int x20), h19)))
  else
  (some (some (.int (a1 * a2)), h)))))))) :=
  (call_unr p_39 rfl o_39 rfl [] 68 _ h).trans rfl

theorem p_40 : prg 40 = (k_40, 1) := rfl
theorem o_40 : okc k_40 = true := by decide +kernel
set_option maxRecDepth 100000 in
theorem e_40 (d : Nat) (a0 : Int32) (h : MHeap) : call (d + 1) 40 [.int a0] h = (
  if a0 = (0 : Int32) then
  (some (some (.int (0 : Int32)), h))
  else
  (some (some (.int (1 : Int32)), h))) :=
  (call_unr p_40 rfl o_40 rfl [] 12 _ h).trans rfl

theorem p_41 : prg 41 = (k_41, 3) := rfl
theorem o_41 : okc k_41 = true := by decide +kernel
set_option maxRecDepth 100000 in
theorem e_41 (d : Nat) (a0 : Nat) (a1 : Int32) (a2 : Int32) (h : MHeap) : call (d + 1) 41 [.ref a0, .int a1, .int a2] h = (
  cV (call d 28 [.ref a0, .int a1, .int a2] h) fun h1 =>
  some (none, h1)) :=
  (call_unr p_41 rfl o_41 rfl [] 10 _ h).trans rfl

theorem p_42 : prg 42 = (k_42, 1) := rfl
theorem o_42 : okc k_42 = true := by decide +kernel
set_option maxRecDepth 100000 in
theorem e_42 (d : Nat) (a0 : Nat) (h : MHeap) : call (d + 1) 42 [.ref a0] h = (
  some (some (.int (1 : Int32)), h)) :=
  (call_unr p_42 rfl o_42 rfl [] 7 _ h).trans rfl

theorem p_43 : prg 43 = (k_43, 3) := rfl
theorem o_43 : okc k_43 = true := by decide +kernel
set_option maxRecDepth 100000 in
theorem e_43 (d : Nat) (a0 : Nat) (a1 : Int32) (a2 : Int32) (h : MHeap) : call (d + 1) 43 [.ref a0, .int a1, .int a2] h = (
  cI (call d 1 [.int a1, .int a2] h) fun x2 h1 =>
  gfI none h1 a0 [1, 6] 1 fun x3 =>
  if x2 = x3 then
  (zr none (1 : Int32) (some (some (.int (1 : Int32)), h1)))
  else
  (zr none (0 : Int32) (some (some (.int (0 : Int32)), h1)))) :=
  (call_unr p_43 rfl o_43 rfl [] 16 _ h).trans rfl

theorem p_44 : prg 44 = (k_44, 1) := rfl
theorem o_44 : okc k_44 = true := by decide +kernel
set_option maxRecDepth 100000 in
theorem e_44 (d : Nat) (a0 : Nat) (h : MHeap) : call (d + 1) 44 [.ref a0] h = (
  cV (call d 1003 [.ref a0] h) fun h1 =>
  pfI none h1 a0 [7] 0 (-1 : Int32) fun h2 =>
  pfI none h2 a0 [7] 1 (0 : Int32) fun h3 =>
  nwA none h3 100 (40 : Int32) (.int 0) fun o4 h5 =>
  pfV none h5 a0 [7] 2 (.ref o4) fun h6 =>
  some (none, h6)) :=
  (call_unr p_44 rfl o_44 rfl [] 18 _ h).trans rfl

theorem p_45 : prg 45 = (k_45, 1) := rfl
theorem o_45 : okc k_45 = true := by decide +kernel
set_option maxRecDepth 100000 in
theorem e_45 (d : Nat) (a0 : Nat) (h : MHeap) : call (d + 1) 45 [.ref a0] h = (
  gfI none h a0 [7] 0 fun x1 =>
  if x1 = (-1 : Int32) then
  (zr none (1 : Int32) (some (some (.int (1 : Int32)), h)))
  else
  (zr none (0 : Int32) (some (some (.int (0 : Int32)), h)))) :=
  (call_unr p_45 rfl o_45 rfl [] 14 _ h).trans rfl

theorem p_46 : prg 46 = (k_46, 3) := rfl
theorem o_46 : okc k_46 = true := by decide +kernel
set_option maxRecDepth 100000 in
theorem e_46 (d : Nat) (a0 : Nat) (a1 : Int32) (a2 : Int32) (h : MHeap) : call (d + 1) 46 [.ref a0, .int a1, .int a2] h = (
  pfI none h a0 [7] 0 a1 fun h1 =>
  gfV none h1 a0 [7] 2 fun v2 =>
  dR none v2 fun o4 =>
  aln none h1 o4 fun x3 =>
  cI (call d 1001 [.int a2, .int x3] h1) fun x6 h5 =>
  cI (call d 1000 [.int (0 : Int32), .int x6] h5) fun x8 h7 =>
  pfI none h7 a0 [7] 1 x8 fun h9 =>
  gfV none h9 a0 [7] 2 fun v10 =>
  cV (call d 261 [v10, .int (0 : Int32)] h9) fun h11 =>
  some (none, h11)) :=
  (call_unr p_46 rfl o_46 rfl [] 22 _ h).trans rfl

theorem p_47 : prg 47 = (k_47, 3) := rfl
theorem o_47 : okc k_47 = true := by decide +kernel
set_option maxRecDepth 100000 in
theorem e_47 (d : Nat) (a0 : Nat) (a1 : Int32) (a2 : Int32) (h : MHeap) : call (d + 1) 47 [.ref a0, .int a1, .int a2] h = (
  if a1 < (0 : Int32) then
  (zr none (0 : Int32) (some (some (.int (0 : Int32)), h)))
  else
  (if a2 < (0 : Int32) then
  (zr none (0 : Int32) (some (some (.int (0 : Int32)), h)))
  else
  (gfI none h a0 [7] 1 fun x1 =>
  if x1 < a2 then
  (zr none (0 : Int32) (some (some (.int (0 : Int32)), h)))
  else
  (gfI none h a0 [7] 1 fun x2 =>
  if (x2 - a2) < a1 then
  (zr none (0 : Int32) (some (some (.int (0 : Int32)), h)))
  else
  (zr none (1 : Int32) (some (some (.int (1 : Int32)), h))))))) :=
  (call_unr p_47 rfl o_47 rfl [] 30 _ h).trans rfl

theorem p_48 : prg 48 = (k_48, 2) := rfl
theorem o_48 : okc k_48 = true := by decide +kernel
set_option maxRecDepth 100000 in
theorem e_48 (d : Nat) (a0 : Nat) (a1 : Int32) (h : MHeap) : call (d + 1) 48 [.ref a0, .int a1] h = (
  if a1 < (0 : Int32) then
  (some (some (.int (0 : Int32)), h))
  else
  (gfI none h a0 [7] 1 fun x1 =>
  if a1 < x1 then
  (gfV none h a0 [7] 2 fun v2 =>
  dR none v2 fun o4 =>
  aln none h o4 fun x3 =>
  if a1 < x3 then
  (gfV none h a0 [7] 2 fun v5 =>
  dR none v5 fun o7 =>
  alI none h o7 a1 fun x6 =>
  some (some (.int x6), h))
  else
  (some (some (.int (0 : Int32)), h)))
  else
  (some (some (.int (0 : Int32)), h)))) :=
  (call_unr p_48 rfl o_48 rfl [] 28 _ h).trans rfl

theorem p_49 : prg 49 = (k_49, 3) := rfl
theorem o_49 : okc k_49 = true := by decide +kernel
set_option maxRecDepth 100000 in
theorem e_49 (d : Nat) (a0 : Nat) (a1 : Int32) (a2 : Int32) (h : MHeap) : call (d + 1) 49 [.ref a0, .int a1, .int a2] h = (
  if a1 < (0 : Int32) then
  (some (none, h))
  else
  (gfI none h a0 [7] 1 fun x1 =>
  if a1 < x1 then
  (gfV none h a0 [7] 2 fun v2 =>
  dR none v2 fun o4 =>
  aln none h o4 fun x3 =>
  if a1 < x3 then
  (gfV none h a0 [7] 2 fun v5 =>
  gfI none h a0 [7] 0 fun x6 =>
  if x6 = (0 : Int32) then
  (dR none v5 fun o8 =>
  asI none h o8 a1 (Int8.toInt32 (Int32.toInt8 a2)) fun h7 =>
  some (none, h7))
  else
  (gfI none h a0 [7] 0 fun x9 =>
  if x9 = (1 : Int32) then
  (dR none v5 fun o11 =>
  asI none h o11 a1 (Int16.toInt32 (Int32.toInt16 a2)) fun h10 =>
  some (none, h10))
  else
  (dR none v5 fun o13 =>
  asI none h o13 a1 a2 fun h12 =>
  some (none, h12))))
  else
  (some (none, h)))
  else
  (some (none, h)))) :=
  (call_unr p_49 rfl o_49 rfl [] 42 _ h).trans rfl

theorem p_50 : prg 50 = (k_50, 3) := rfl
theorem o_50 : okc k_50 = true := by decide +kernel
set_option maxRecDepth 100000 in
theorem e_50 (d : Nat) (a0 : Nat) (a1 : Int32) (a2 : Int32) (h : MHeap) : call (d + 1) 50 [.ref a0, .int a1, .int a2] h = (
  cV (call d 28 [.ref a0, .int a1, .int a2] h) fun h1 =>
  some (none, h1)) :=
  (call_unr p_50 rfl o_50 rfl [] 10 _ h).trans rfl

theorem p_51 : prg 51 = (k_51, 1) := rfl
theorem o_51 : okc k_51 = true := by decide +kernel
set_option maxRecDepth 100000 in
theorem e_51 (d : Nat) (a0 : Nat) (h : MHeap) : call (d + 1) 51 [.ref a0] h = (
  some (some (.int (4 : Int32)), h)) :=
  (call_unr p_51 rfl o_51 rfl [] 7 _ h).trans rfl

theorem p_52 : prg 52 = (k_52, 5) := rfl
theorem o_52 : okc k_52 = true := by decide +kernel
set_option maxRecDepth 100000 in
theorem e_52 (d : Nat) (a0 : Nat) (a1 : Int32) (h : MHeap) : call (d + 1) 52 [.ref a0, .int a1] h = (
  gfI none h a0 [8] 2 fun x1 =>
  ex d 52 12 [sv (.ref a0), sv (.int a1), sv (.int (a1 &&& x1)), sv (.int (0 : Int32)), sv (.int (0 : Int32))] [] h) :=
  (call_unr p_52 rfl o_52 rfl [12] 14 _ h).trans rfl
set_option maxRecDepth 100000 in
theorem e_52_12 (d : Nat) (a0 : Nat) (a1 : Int32) (a2 : Int32) (a3 : Int32) (a4 : Int32) (h : MHeap) : ex d 52 12 [sv (.ref a0), sv (.int a1), sv (.int a2), sv (.int a3), sv (.int a4)] [] h = (
  if a4 < (12 : Int32) then
  (ex d 52 12 [sv (.ref a0), sv (.int a1), sv (.int a2), sv (.int (a3 + (((a2 >>> (a4 &&& 31)) &&& (1 : Int32)) * (a4 + (1 : Int32))))), sv (.int (a4 + (1 : Int32)))] [] h)
  else
  (gfI none h a0 [8] 1 fun x1 =>
  if (0 : Int32) < (x1 + (2 : Int32)) then
  (dv none (x1 + (2 : Int32)) <|
  some (some (.int (a3 - a3 / (x1 + (2 : Int32)) * (x1 + (2 : Int32)))), h))
  else
  (some (some (.int (0 : Int32)), h)))) :=
  (ex_unr p_52 o_52 [12] 36 rfl _ _ h).trans rfl

theorem p_53 : prg 53 = (k_53, 1) := rfl
theorem o_53 : okc k_53 = true := by decide +kernel
set_option maxRecDepth 100000 in
theorem e_53 (d : Nat) (a0 : Nat) (h : MHeap) : call (d + 1) 53 [.ref a0] h = (
  cV (call d 1003 [.ref a0] h) fun h1 =>
  pfI none h1 a0 [9] 0 (0 : Int32) fun h2 =>
  nwA none h2 100 (160 : Int32) (.int 0) fun o3 h4 =>
  pfV none h4 a0 [9] 1 (.ref o3) fun h5 =>
  nwA none h5 100 (161 : Int32) (.int 0) fun o6 h7 =>
  pfV none h7 a0 [9] 2 (.ref o6) fun h8 =>
  nwA none h8 100 (161 : Int32) (.int 0) fun o9 h10 =>
  pfV none h10 a0 [9] 3 (.ref o9) fun h11 =>
  nwA none h11 100 (160 : Int32) (.int 0) fun o12 h13 =>
  pfV none h13 a0 [9] 4 (.ref o12) fun h14 =>
  pfI none h14 a0 [9] 5 (0 : Int32) fun h15 =>
  pfI none h15 a0 [9] 6 (0 : Int32) fun h16 =>
  pfI none h16 a0 [9] 7 (0 : Int32) fun h17 =>
  some (none, h17)) :=
  (call_unr p_53 rfl o_53 rfl [] 36 _ h).trans rfl

theorem p_54 : prg 54 = (k_54, 2) := rfl
theorem o_54 : okc k_54 = true := by decide +kernel
set_option maxRecDepth 100000 in
theorem e_54 (d : Nat) (a0 : Nat) (a1 : Int32) (h : MHeap) : call (d + 1) 54 [.ref a0, .int a1] h = (
  gfI none h a0 [9] 0 fun x1 =>
  gfV none h a0 [9] 1 fun v2 =>
  dR none v2 fun o4 =>
  aln none h o4 fun x3 =>
  cI (call d 133 [.int x1, .int (0 : Int32), .int (x3 - (1 : Int32))] h) fun x6 h5 =>
  if x6 = (0 : Int32) then
  (some (none, h5))
  else
  (gfV none h5 a0 [9] 1 fun v7 =>
  gfI none h5 a0 [9] 0 fun x8 =>
  dR none v7 fun o10 =>
  asI none h5 o10 x8 a1 fun h9 =>
  gfI none h9 a0 [9] 0 fun x11 =>
  pfI none h9 a0 [9] 0 (x11 + (1 : Int32)) fun h12 =>
  some (none, h12))) :=
  (call_unr p_54 rfl o_54 rfl [] 29 _ h).trans rfl

theorem p_55 : prg 55 = (k_55, 1) := rfl
theorem o_55 : okc k_55 = true := by decide +kernel
set_option maxRecDepth 100000 in
theorem e_55 (d : Nat) (a0 : Nat) (h : MHeap) : call (d + 1) 55 [.ref a0] h = (
  pfI none h a0 [9] 0 (0 : Int32) fun h1 =>
  some (none, h1)) :=
  (call_unr p_55 rfl o_55 rfl [] 9 _ h).trans rfl

theorem p_56 : prg 56 = (k_56, 1) := rfl
theorem o_56 : okc k_56 = true := by decide +kernel
set_option maxRecDepth 100000 in
theorem e_56 (d : Nat) (a0 : Nat) (h : MHeap) : call (d + 1) 56 [.ref a0] h = (
  gfI none h a0 [9] 6 fun x1 =>
  gfV none h a0 [9] 3 fun v2 =>
  dR none v2 fun o4 =>
  aln none h o4 fun x3 =>
  cI (call d 133 [.int x1, .int (0 : Int32), .int (x3 - (1 : Int32))] h) fun x6 h5 =>
  if x6 = (0 : Int32) then
  (some (some (.int (0 : Int32)), h5))
  else
  (gfV none h5 a0 [9] 3 fun v7 =>
  gfI none h5 a0 [9] 6 fun x8 =>
  dR none v7 fun o10 =>
  alI none h5 o10 x8 fun x9 =>
  some (some (.int x9), h5))) :=
  (call_unr p_56 rfl o_56 rfl [] 24 _ h).trans rfl

theorem p_57 : prg 57 = (k_57, 3) := rfl
theorem o_57 : okc k_57 = true := by decide +kernel
set_option maxRecDepth 100000 in
theorem e_57 (d : Nat) (a0 : Nat) (h : MHeap) : call (d + 1) 57 [.ref a0] h = (
  vd none h a0 [9, 69] fun m1 =>
  cV (call d m1 [.ref a0] h) fun h2 =>
  pfI none h2 a0 [9] 6 (0 : Int32) fun h3 =>
  pfI none h3 a0 [9] 7 (0 : Int32) fun h4 =>
  vd none h4 a0 [9, 59] fun m5 =>
  cI (call d m5 [.ref a0, .int (0 : Int32)] h4) fun x7 h6 =>
  if x7 = (0 : Int32) then
  (some (some .null, h6))
  else
  (gfI none h6 a0 [9] 7 fun x8 =>
  vd none h6 a0 [9, 59] fun m9 =>
  cI (call d m9 [.ref a0, .int (1 : Int32)] h6) fun x11 h10 =>
  if x11 = (0 : Int32) then
  (some (some .null, h10))
  else
  (gfI none h10 a0 [9] 7 fun x12 =>
  vd none h10 a0 [9, 59] fun m13 =>
  cI (call d m13 [.ref a0, .int (2 : Int32)] h10) fun x15 h14 =>
  if x15 = (0 : Int32) then
  (some (some .null, h14))
  else
  (vd none h14 a0 [9, 58] fun m16 =>
  cI (call d m16 [.ref a0] h14) fun x18 h17 =>
  if x18 = (-1 : Int32) then
  (gfI none h17 a0 [9] 7 fun x19 =>
  if x19 < (0 : Int32) then
  (some (some .null, h17))
  else
  (nwO h17 5 [.null, .int 0, .int 0] fun o20 h21 =>
  gfV none h21 a0 [9] 4 fun v22 =>
  gfI none h21 a0 [9] 7 fun x23 =>
  cR (call d 262 [v22, .int x23] h21) fun v25 h24 =>
  cV (call d 35 [.ref o20, v25, .int x8, .int x12] h24) fun h26 =>
  some (some (.ref o20), h26)))
  else
  (some (some .null, h17)))))) :=
  (call_unr p_57 rfl o_57 rfl [] 59 _ h).trans rfl

theorem p_58 : prg 58 = (k_58, 1) := rfl
theorem o_58 : okc k_58 = true := by decide +kernel
set_option maxRecDepth 100000 in
theorem e_58 (d : Nat) (a0 : Nat) (h : MHeap) : call (d + 1) 58 [.ref a0] h = (
  gfI none h a0 [9] 6 fun x1 =>
  gfV none h a0 [9] 2 fun v2 =>
  dR none v2 fun o4 =>
  aln none h o4 fun x3 =>
  cI (call d 133 [.int x1, .int (0 : Int32), .int (x3 - (1 : Int32))] h) fun x6 h5 =>
  if x6 = (0 : Int32) then
  (some (some (.int (-1 : Int32)), h5))
  else
  (gfV none h5 a0 [9] 2 fun v7 =>
  gfI none h5 a0 [9] 6 fun x8 =>
  dR none v7 fun o10 =>
  alI none h5 o10 x8 fun x9 =>
  some (some (.int x9), h5))) :=
  (call_unr p_58 rfl o_58 rfl [] 24 _ h).trans rfl

theorem p_59 : prg 59 = (k_59, 2) := rfl
theorem o_59 : okc k_59 = true := by decide +kernel
set_option maxRecDepth 100000 in
theorem e_59 (d : Nat) (a0 : Nat) (a1 : Int32) (h : MHeap) : call (d + 1) 59 [.ref a0, .int a1] h = (
  vd none h a0 [9, 60] fun m1 =>
  cI (call d m1 [.ref a0, .int a1] h) fun x3 h2 =>
  if x3 = (0 : Int32) then
  (zr none (0 : Int32) (some (some (.int (0 : Int32)), h2)))
  else
  (vd none h2 a0 [9, 61] fun m4 =>
  cI (call d m4 [.ref a0, .int (0 : Int32), .int (0 : Int32)] h2) fun x6 h5 =>
  if x6 = (0 : Int32) then
  (zr none (0 : Int32) (some (some (.int (0 : Int32)), h5)))
  else
  (vd none h5 a0 [9, 60] fun m7 =>
  cI (call d m7 [.ref a0, .int (59 : Int32)] h5) fun x9 h8 =>
  if x9 = (0 : Int32) then
  (zr none (0 : Int32) (some (some (.int (0 : Int32)), h8)))
  else
  (zr none (1 : Int32) (some (some (.int (1 : Int32)), h8)))))) :=
  (call_unr p_59 rfl o_59 rfl [] 27 _ h).trans rfl

theorem p_60 : prg 60 = (k_60, 2) := rfl
theorem o_60 : okc k_60 = true := by decide +kernel
set_option maxRecDepth 100000 in
theorem e_60 (d : Nat) (a0 : Nat) (a1 : Int32) (h : MHeap) : call (d + 1) 60 [.ref a0, .int a1] h = (
  vd none h a0 [9, 58] fun m1 =>
  cI (call d m1 [.ref a0] h) fun x3 h2 =>
  if x3 = a1 then
  (gfI none h2 a0 [9] 6 fun x4 =>
  pfI none h2 a0 [9] 6 (x4 + (1 : Int32)) fun h5 =>
  zr none (1 : Int32) (some (some (.int (1 : Int32)), h5)))
  else
  (zr none (0 : Int32) (some (some (.int (0 : Int32)), h2)))) :=
  (call_unr p_60 rfl o_60 rfl [] 19 _ h).trans rfl

theorem p_61 : prg 61 = (k_61, 5) := rfl
theorem o_61 : okc k_61 = true := by decide +kernel
set_option maxRecDepth 100000 in
theorem e_61 (d : Nat) (a0 : Nat) (a1 : Int32) (a2 : Int32) (h : MHeap) : call (d + 1) 61 [.ref a0, .int a1, .int a2] h = (
  vd none h a0 [9, 63] fun m1 =>
  cI (call d m1 [.ref a0, .int a1, .int a2] h) fun x3 h2 =>
  if x3 = (0 : Int32) then
  (zr none (0 : Int32) (some (some (.int (0 : Int32)), h2)))
  else
  (ex d 61 13 [sv (.ref a0), sv (.int a1), sv (.int a2), sv (.int (0 : Int32)), none] [] h2)) :=
  (call_unr p_61 rfl o_61 rfl [13] 14 _ h).trans rfl
set_option maxRecDepth 100000 in
theorem e_61_13 (d : Nat) (a0 : Nat) (a1 : Int32) (a2 : Int32) (a3 : Int32) (a4 : MSl) (h : MHeap) : ex d 61 13 [sv (.ref a0), sv (.int a1), sv (.int a2), sv (.int a3), a4] [] h = (
  if a3 < (160 : Int32) then
  (vd none h a0 [9, 62] fun m1 =>
  cI (call d m1 [.ref a0, .int a1] h) fun x3 h2 =>
  if x3 = (0 : Int32) then
  (zr none (1 : Int32) (some (some (.int (1 : Int32)), h2)))
  else
  (vd none h2 a0 [9, 58] fun m4 =>
  cI (call d m4 [.ref a0] h2) fun x6 h5 =>
  gfI none h5 a0 [9] 6 fun x7 =>
  pfI none h5 a0 [9] 6 (x7 + (1 : Int32)) fun h8 =>
  vd none h8 a0 [9, 63] fun m9 =>
  cI (call d m9 [.ref a0, .int a1, .int a2] h8) fun x11 h10 =>
  if x11 = (0 : Int32) then
  (zr none (0 : Int32) (some (some (.int (0 : Int32)), h10)))
  else
  (vd none h10 a0 [9, 68] fun m12 =>
  cV (call d m12 [.ref a0, .int x6] h10) fun h13 =>
  ex d 61 13 [sv (.ref a0), sv (.int a1), sv (.int a2), sv (.int (a3 + (1 : Int32))), sv (.int x6)] [] h13)))
  else
  (zr none (1 : Int32) (some (some (.int (1 : Int32)), h)))) :=
  (ex_unr p_61 o_61 [13] 37 rfl _ _ h).trans rfl

theorem p_62 : prg 62 = (k_62, 3) := rfl
theorem o_62 : okc k_62 = true := by decide +kernel
set_option maxRecDepth 100000 in
theorem e_62 (d : Nat) (a0 : Nat) (a1 : Int32) (h : MHeap) : call (d + 1) 62 [.ref a0, .int a1] h = (
  vd none h a0 [9, 58] fun m1 =>
  cI (call d m1 [.ref a0] h) fun x3 h2 =>
  if a1 = (0 : Int32) then
  (if x3 = (3 : Int32) then
  (zr none (1 : Int32) (some (some (.int (1 : Int32)), h2)))
  else
  (zr none (0 : Int32) (some (some (.int (0 : Int32)), h2))))
  else
  (if a1 = (1 : Int32) then
  (if x3 = (4 : Int32) then
  (zr none (1 : Int32) (some (some (.int (1 : Int32)), h2)))
  else
  (zr none (0 : Int32) (some (some (.int (0 : Int32)), h2))))
  else
  (if a1 = (2 : Int32) then
  (if x3 = (43 : Int32) then
  (zr none (1 : Int32) (some (some (.int (1 : Int32)), h2)))
  else
  (if x3 = (45 : Int32) then
  (zr none (1 : Int32) (some (some (.int (1 : Int32)), h2)))
  else
  (zr none (0 : Int32) (some (some (.int (0 : Int32)), h2)))))
  else
  (if x3 = (42 : Int32) then
  (zr none (1 : Int32) (some (some (.int (1 : Int32)), h2)))
  else
  (zr none (0 : Int32) (some (some (.int (0 : Int32)), h2))))))) :=
  (call_unr p_62 rfl o_62 rfl [] 48 _ h).trans rfl

theorem p_63 : prg 63 = (k_63, 3) := rfl
theorem o_63 : okc k_63 = true := by decide +kernel
set_option maxRecDepth 100000 in
theorem e_63 (d : Nat) (a0 : Nat) (a1 : Int32) (a2 : Int32) (h : MHeap) : call (d + 1) 63 [.ref a0, .int a1, .int a2] h = (
  if a1 = (0 : Int32) then
  (vd none h a0 [9, 61] fun m1 =>
  cI (call d m1 [.ref a0, .int (1 : Int32), .int a2] h) fun x3 h2 =>
  zr none x3 (some (some (.int x3), h2)))
  else
  (if a1 = (1 : Int32) then
  (vd none h a0 [9, 58] fun m4 =>
  cI (call d m4 [.ref a0] h) fun x6 h5 =>
  if x6 = (5 : Int32) then
  (vd none h5 a0 [9, 64] fun m7 =>
  cI (call d m7 [.ref a0, .int a2] h5) fun x9 h8 =>
  zr none x9 (some (some (.int x9), h8)))
  else
  (vd none h5 a0 [9, 65] fun m10 =>
  cI (call d m10 [.ref a0, .int a2] h5) fun x12 h11 =>
  zr none x12 (some (some (.int x12), h11))))
  else
  (if a1 = (2 : Int32) then
  (vd none h a0 [9, 61] fun m13 =>
  cI (call d m13 [.ref a0, .int (3 : Int32), .int a2] h) fun x15 h14 =>
  zr none x15 (some (some (.int x15), h14)))
  else
  (vd none h a0 [9, 66] fun m16 =>
  cI (call d m16 [.ref a0, .int a2] h) fun x18 h17 =>
  zr none x18 (some (some (.int x18), h17)))))) :=
  (call_unr p_63 rfl o_63 rfl [] 34 _ h).trans rfl

theorem p_64 : prg 64 = (k_64, 2) := rfl
theorem o_64 : okc k_64 = true := by decide +kernel
set_option maxRecDepth 100000 in
theorem e_64 (d : Nat) (a0 : Nat) (a1 : Int32) (h : MHeap) : call (d + 1) 64 [.ref a0, .int a1] h = (
  if a1 < (5 : Int32) then
  (gfI none h a0 [9] 6 fun x1 =>
  pfI none h a0 [9] 6 (x1 + (1 : Int32)) fun h2 =>
  vd none h2 a0 [9, 63] fun m3 =>
  cI (call d m3 [.ref a0, .int (1 : Int32), .int (a1 + (1 : Int32))] h2) fun x5 h4 =>
  if x5 = (0 : Int32) then
  (zr none (0 : Int32) (some (some (.int (0 : Int32)), h4)))
  else
  (vd none h4 a0 [9, 68] fun m6 =>
  cV (call d m6 [.ref a0, .int (5 : Int32)] h4) fun h7 =>
  zr none (1 : Int32) (some (some (.int (1 : Int32)), h7))))
  else
  (zr none (0 : Int32) (some (some (.int (0 : Int32)), h)))) :=
  (call_unr p_64 rfl o_64 rfl [] 30 _ h).trans rfl

theorem p_65 : prg 65 = (k_65, 3) := rfl
theorem o_65 : okc k_65 = true := by decide +kernel
set_option maxRecDepth 100000 in
theorem e_65 (d : Nat) (a0 : Nat) (a1 : Int32) (h : MHeap) : call (d + 1) 65 [.ref a0, .int a1] h = (
  vd none h a0 [9, 61] fun m1 =>
  cI (call d m1 [.ref a0, .int (2 : Int32), .int a1] h) fun x3 h2 =>
  if x3 = (0 : Int32) then
  (zr none (0 : Int32) (some (some (.int (0 : Int32)), h2)))
  else
  (vd none h2 a0 [9, 58] fun m4 =>
  cI (call d m4 [.ref a0] h2) fun x6 h5 =>
  if x6 = (60 : Int32) then
  (gfI none h5 a0 [9] 6 fun x7 =>
  pfI none h5 a0 [9] 6 (x7 + (1 : Int32)) fun h8 =>
  vd none h8 a0 [9, 61] fun m9 =>
  cI (call d m9 [.ref a0, .int (2 : Int32), .int a1] h8) fun x11 h10 =>
  if x11 = (0 : Int32) then
  (zr none (0 : Int32) (some (some (.int (0 : Int32)), h10)))
  else
  (vd none h10 a0 [9, 68] fun m12 =>
  cV (call d m12 [.ref a0, .int x6] h10) fun h13 =>
  zr none (1 : Int32) (some (some (.int (1 : Int32)), h13))))
  else
  (if x6 = (61 : Int32) then
  (gfI none h5 a0 [9] 6 fun x14 =>
  pfI none h5 a0 [9] 6 (x14 + (1 : Int32)) fun h15 =>
  vd none h15 a0 [9, 61] fun m16 =>
  cI (call d m16 [.ref a0, .int (2 : Int32), .int a1] h15) fun x18 h17 =>
  if x18 = (0 : Int32) then
  (zr none (0 : Int32) (some (some (.int (0 : Int32)), h17)))
  else
  (vd none h17 a0 [9, 68] fun m19 =>
  cV (call d m19 [.ref a0, .int x6] h17) fun h20 =>
  zr none (1 : Int32) (some (some (.int (1 : Int32)), h20))))
  else
  (zr none (1 : Int32) (some (some (.int (1 : Int32)), h5)))))) :=
  (call_unr p_65 rfl o_65 rfl [] 59 _ h).trans rfl

theorem p_66 : prg 66 = (k_66, 3) := rfl
theorem o_66 : okc k_66 = true := by decide +kernel
set_option maxRecDepth 100000 in
theorem e_66 (d : Nat) (a0 : Nat) (a1 : Int32) (h : MHeap) : call (d + 1) 66 [.ref a0, .int a1] h = (
  vd none h a0 [9, 58] fun m1 =>
  cI (call d m1 [.ref a0] h) fun x3 h2 =>
  if x3 < (1000 : Int32) then
  (cI (call d 133 [.int x3, .int (6 : Int32), .int (11 : Int32)] h2) fun x5 h4 =>
  if x5 = (0 : Int32) then
  (if x3 = (45 : Int32) then
  (if a1 < (5 : Int32) then
  (gfI none h4 a0 [9] 6 fun x6 =>
  pfI none h4 a0 [9] 6 (x6 + (1 : Int32)) fun h7 =>
  if x3 = (45 : Int32) then
  (vd none h7 a0 [9, 67] fun m8 =>
  cI (call d m8 [.ref a0, .int (a1 + (1 : Int32))] h7) fun x10 h9 =>
  zr none x10 (some (some (.int x10), h9)))
  else
  (vd none h7 a0 [9, 61] fun m11 =>
  cI (call d m11 [.ref a0, .int (0 : Int32), .int (a1 + (1 : Int32))] h7) fun x13 h12 =>
  if x13 = (0 : Int32) then
  (zr none (0 : Int32) (some (some (.int (0 : Int32)), h12)))
  else
  (vd none h12 a0 [9, 60] fun m14 =>
  cI (call d m14 [.ref a0, .int (41 : Int32)] h12) fun x16 h15 =>
  if x16 = (0 : Int32) then
  (zr none (0 : Int32) (some (some (.int (0 : Int32)), h15)))
  else
  (zr none (1 : Int32) (some (some (.int (1 : Int32)), h15))))))
  else
  (zr none (0 : Int32) (some (some (.int (0 : Int32)), h4))))
  else
  (if x3 = (40 : Int32) then
  (if a1 < (5 : Int32) then
  (gfI none h4 a0 [9] 6 fun x17 =>
  pfI none h4 a0 [9] 6 (x17 + (1 : Int32)) fun h18 =>
  if x3 = (45 : Int32) then
  (vd none h18 a0 [9, 67] fun m19 =>
  cI (call d m19 [.ref a0, .int (a1 + (1 : Int32))] h18) fun x21 h20 =>
  zr none x21 (some (some (.int x21), h20)))
  else
  (vd none h18 a0 [9, 61] fun m22 =>
  cI (call d m22 [.ref a0, .int (0 : Int32), .int (a1 + (1 : Int32))] h18) fun x24 h23 =>
  if x24 = (0 : Int32) then
  (zr none (0 : Int32) (some (some (.int (0 : Int32)), h23)))
  else
  (vd none h23 a0 [9, 60] fun m25 =>
  cI (call d m25 [.ref a0, .int (41 : Int32)] h23) fun x27 h26 =>
  if x27 = (0 : Int32) then
  (zr none (0 : Int32) (some (some (.int (0 : Int32)), h26)))
  else
  (zr none (1 : Int32) (some (some (.int (1 : Int32)), h26))))))
  else
  (zr none (0 : Int32) (some (some (.int (0 : Int32)), h4))))
  else
  (zr none (0 : Int32) (some (some (.int (0 : Int32)), h4)))))
  else
  (vd none h4 a0 [9, 68] fun m28 =>
  cV (call d m28 [.ref a0, .int x3] h4) fun h29 =>
  gfI none h29 a0 [9] 6 fun x30 =>
  pfI none h29 a0 [9] 6 (x30 + (1 : Int32)) fun h31 =>
  zr none (1 : Int32) (some (some (.int (1 : Int32)), h31))))
  else
  (vd none h2 a0 [9, 68] fun m32 =>
  cV (call d m32 [.ref a0, .int x3] h2) fun h33 =>
  gfI none h33 a0 [9] 6 fun x34 =>
  pfI none h33 a0 [9] 6 (x34 + (1 : Int32)) fun h35 =>
  zr none (1 : Int32) (some (some (.int (1 : Int32)), h35)))) :=
  (call_unr p_66 rfl o_66 rfl [] 122 _ h).trans rfl

theorem p_67 : prg 67 = (k_67, 2) := rfl
theorem o_67 : okc k_67 = true := by decide +kernel
set_option maxRecDepth 100000 in
theorem e_67 (d : Nat) (a0 : Nat) (a1 : Int32) (h : MHeap) : call (d + 1) 67 [.ref a0, .int a1] h = (
  vd none h a0 [9, 66] fun m1 =>
  cI (call d m1 [.ref a0, .int a1] h) fun x3 h2 =>
  if x3 = (0 : Int32) then
  (zr none (0 : Int32) (some (some (.int (0 : Int32)), h2)))
  else
  (vd none h2 a0 [9, 68] fun m4 =>
  cV (call d m4 [.ref a0, .int (12 : Int32)] h2) fun h5 =>
  zr none (1 : Int32) (some (some (.int (1 : Int32)), h5)))) :=
  (call_unr p_67 rfl o_67 rfl [] 16 _ h).trans rfl

theorem p_68 : prg 68 = (k_68, 2) := rfl
theorem o_68 : okc k_68 = true := by decide +kernel
set_option maxRecDepth 100000 in
theorem e_68 (d : Nat) (a0 : Nat) (a1 : Int32) (h : MHeap) : call (d + 1) 68 [.ref a0, .int a1] h = (
  gfI none h a0 [9] 7 fun x1 =>
  gfV none h a0 [9] 4 fun v2 =>
  dR none v2 fun o4 =>
  aln none h o4 fun x3 =>
  cI (call d 133 [.int x1, .int (0 : Int32), .int (x3 - (1 : Int32))] h) fun x6 h5 =>
  if x6 = (0 : Int32) then
  (some (none, h5))
  else
  (gfV none h5 a0 [9] 4 fun v7 =>
  gfI none h5 a0 [9] 7 fun x8 =>
  dR none v7 fun o10 =>
  asI none h5 o10 x8 a1 fun h9 =>
  gfI none h9 a0 [9] 7 fun x11 =>
  pfI none h9 a0 [9] 7 (x11 + (1 : Int32)) fun h12 =>
  some (none, h12))) :=
  (call_unr p_68 rfl o_68 rfl [] 29 _ h).trans rfl

theorem p_69 : prg 69 = (k_69, 3) := rfl
theorem o_69 : okc k_69 = true := by decide +kernel
set_option maxRecDepth 100000 in
theorem e_69 (d : Nat) (a0 : Nat) (h : MHeap) : call (d + 1) 69 [.ref a0] h = (
  pfI none h a0 [9] 5 (0 : Int32) fun h1 =>
  ex d 69 9 [sv (.ref a0), sv (.int (1 : Int32)), sv (.int (0 : Int32))] [] h1) :=
  (call_unr p_69 rfl o_69 rfl [9] 12 _ h).trans rfl
set_option maxRecDepth 100000 in
theorem e_69_9 (d : Nat) (a0 : Nat) (a1 : Int32) (a2 : Int32) (h : MHeap) : ex d 69 9 [sv (.ref a0), sv (.int a1), sv (.int a2)] [] h = (
  if a1 = (0 : Int32) then
  (some (none, h))
  else
  (gfV none h a0 [9] 2 fun v1 =>
  dR none v1 fun o3 =>
  aln none h o3 fun x2 =>
  if a2 < x2 then
  (gfV none h a0 [9] 3 fun v4 =>
  dR none v4 fun o6 =>
  aln none h o6 fun x5 =>
  if a2 < x5 then
  (vd none h a0 [9, 70] fun m7 =>
  cV (call d m7 [.ref a0] h) fun h8 =>
  gfV none h8 a0 [9] 3 fun v9 =>
  gfI none h8 a0 [9] 5 fun x10 =>
  dR none v9 fun o12 =>
  asI none h8 o12 a2 x10 fun h11 =>
  gfV none h11 a0 [9] 2 fun v13 =>
  vd none h11 a0 [9, 71] fun m14 =>
  cI (call d m14 [.ref a0] h11) fun x16 h15 =>
  dR none v13 fun o18 =>
  asI none h15 o18 a2 x16 fun h17 =>
  gfV none h17 a0 [9] 2 fun v19 =>
  dR none v19 fun o21 =>
  alI none h17 o21 a2 fun x20 =>
  if x20 = (-1 : Int32) then
  (ex d 69 9 [sv (.ref a0), sv (.int (0 : Int32)), sv (.int (a2 + (1 : Int32)))] [] h17)
  else
  (gfV none h17 a0 [9] 2 fun v22 =>
  dR none v22 fun o24 =>
  alI none h17 o24 a2 fun x23 =>
  if x23 = (-2 : Int32) then
  (ex d 69 9 [sv (.ref a0), sv (.int (0 : Int32)), sv (.int (a2 + (1 : Int32)))] [] h17)
  else
  (ex d 69 9 [sv (.ref a0), sv (.int (1 : Int32)), sv (.int (a2 + (1 : Int32)))] [] h17)))
  else
  (some (none, h)))
  else
  (some (none, h)))) :=
  (ex_unr p_69 o_69 [9] 59 rfl _ _ h).trans rfl

theorem p_70 : prg 70 = (k_70, 1) := rfl
theorem o_70 : okc k_70 = true := by decide +kernel
set_option maxRecDepth 100000 in
theorem e_70 (d : Nat) (a0 : Nat) (h : MHeap) : call (d + 1) 70 [.ref a0] h = (
  ex d 70 0 [sv (.ref a0)] [] h) :=
  (call_unr p_70 rfl o_70 rfl [0] 0 _ h).trans rfl
set_option maxRecDepth 100000 in
theorem e_70_0 (d : Nat) (a0 : Nat) (h : MHeap) : ex d 70 0 [sv (.ref a0)] [] h = (
  gfI none h a0 [9] 5 fun x1 =>
  gfI none h a0 [9] 0 fun x2 =>
  if x1 < x2 then
  (gfI none h a0 [9] 5 fun x3 =>
  vd none h a0 [9, 75] fun m4 =>
  cI (call d m4 [.ref a0, .int x3] h) fun x6 h5 =>
  if x6 = (32 : Int32) then
  (gfI none h5 a0 [9] 5 fun x7 =>
  pfI none h5 a0 [9] 5 (x7 + (1 : Int32)) fun h8 =>
  ex d 70 0 [sv (.ref a0)] [] h8)
  else
  (gfI none h5 a0 [9] 5 fun x9 =>
  vd none h5 a0 [9, 75] fun m10 =>
  cI (call d m10 [.ref a0, .int x9] h5) fun x12 h11 =>
  if x12 = (10 : Int32) then
  (gfI none h11 a0 [9] 5 fun x13 =>
  pfI none h11 a0 [9] 5 (x13 + (1 : Int32)) fun h14 =>
  ex d 70 0 [sv (.ref a0)] [] h14)
  else
  (some (none, h11))))
  else
  (some (none, h))) :=
  (ex_unr p_70 o_70 [0] 38 rfl _ _ h).trans rfl

theorem p_71 : prg 71 = (k_71, 3) := rfl
theorem o_71 : okc k_71 = true := by decide +kernel
set_option maxRecDepth 100000 in
theorem e_71 (d : Nat) (a0 : Nat) (h : MHeap) : call (d + 1) 71 [.ref a0] h = (
  gfI none h a0 [9] 5 fun x1 =>
  gfI none h a0 [9] 0 fun x2 =>
  if x1 < x2 then
  (vd none h a0 [9, 75] fun m3 =>
  cI (call d m3 [.ref a0, .int x1] h) fun x5 h4 =>
  gfI none h4 a0 [9] 5 fun x6 =>
  pfI none h4 a0 [9] 5 (x6 + (1 : Int32)) fun h7 =>
  cI (call d 76 [.int x5] h7) fun x9 h8 =>
  if x9 = (0 : Int32) then
  (cI (call d 77 [.int x5] h8) fun x11 h10 =>
  if x11 = (0 : Int32) then
  (cI (call d 78 [.int x5] h10) fun x13 h12 =>
  if x13 = (0 : Int32) then
  (some (some (.int (-2 : Int32)), h12))
  else
  (some (some (.int x5), h12)))
  else
  (vd none h10 a0 [9, 74] fun m14 =>
  cI (call d m14 [.ref a0, .int x1] h10) fun x16 h15 =>
  some (some (.int x16), h15)))
  else
  (vd none h8 a0 [9, 72] fun m17 =>
  cI (call d m17 [.ref a0, .int x1] h8) fun x19 h18 =>
  some (some (.int x19), h18)))
  else
  (some (some (.int (-1 : Int32)), h))) :=
  (call_unr p_71 rfl o_71 rfl [] 46 _ h).trans rfl

theorem p_72 : prg 72 = (k_72, 5) := rfl
theorem o_72 : okc k_72 = true := by decide +kernel
set_option maxRecDepth 100000 in
theorem e_72 (d : Nat) (a0 : Nat) (a1 : Int32) (h : MHeap) : call (d + 1) 72 [.ref a0, .int a1] h = (
  ex d 72 0 [sv (.ref a0), sv (.int a1), none, none, none] [] h) :=
  (call_unr p_72 rfl o_72 rfl [0, 45] 0 _ h).trans rfl
set_option maxRecDepth 100000 in
theorem e_72_0 (d : Nat) (a0 : Nat) (a1 : Int32) (h : MHeap) : ex d 72 0 [sv (.ref a0), sv (.int a1), none, none, none] [] h = (
  gfI none h a0 [9] 5 fun x1 =>
  gfI none h a0 [9] 0 fun x2 =>
  if x1 < x2 then
  (gfI none h a0 [9] 5 fun x3 =>
  vd none h a0 [9, 75] fun m4 =>
  cI (call d m4 [.ref a0, .int x3] h) fun x6 h5 =>
  cI (call d 76 [.int x6] h5) fun x8 h7 =>
  if x8 = (0 : Int32) then
  (ex d 72 45 [sv (.ref a0), sv (.int a1), sv (.int (0 : Int32)), sv (.int (0 : Int32)), sv (.int (0 : Int32))] [] h7)
  else
  (gfI none h7 a0 [9] 5 fun x9 =>
  pfI none h7 a0 [9] 5 (x9 + (1 : Int32)) fun h10 =>
  ex d 72 0 [sv (.ref a0), sv (.int a1), none, none, none] [] h10))
  else
  (ex d 72 45 [sv (.ref a0), sv (.int a1), sv (.int (0 : Int32)), sv (.int (0 : Int32)), sv (.int (0 : Int32))] [] h)) :=
  (ex_unr p_72 o_72 [0, 45] 35 rfl _ _ h).trans rfl
set_option maxRecDepth 100000 in
theorem e_72_45 (d : Nat) (a0 : Nat) (a1 : Int32) (a2 : Int32) (a3 : Int32) (a4 : Int32) (h : MHeap) : ex d 72 45 [sv (.ref a0), sv (.int a1), sv (.int a2), sv (.int a3), sv (.int a4)] [] h = (
  vd none h 2 [98, 1004] fun m1 =>
  cI (call d m1 [.ref 2] h) fun x3 h2 =>
  if a4 < x3 then
  (vd none h2 2 [98, 1005] fun m4 =>
  cI (call d m4 [.ref 2, .int a4] h2) fun x6 h5 =>
  if x6 = (32 : Int32) then
  (gfI none h5 a0 [9] 5 fun x7 =>
  if (a4 - a3) = (x7 - a1) then
  (vd none h5 a0 [9, 73] fun m8 =>
  cI (call d m8 [.ref a0, .int a1, .int a3, .int a4] h5) fun x10 h9 =>
  if x10 = (0 : Int32) then
  (ex d 72 45 [sv (.ref a0), sv (.int a1), sv (.int (a2 + (1 : Int32))), sv (.int (a4 + (1 : Int32))), sv (.int (a4 + (1 : Int32)))] [] h9)
  else
  (some (some (.int a2), h9)))
  else
  (ex d 72 45 [sv (.ref a0), sv (.int a1), sv (.int (a2 + (1 : Int32))), sv (.int (a4 + (1 : Int32))), sv (.int (a4 + (1 : Int32)))] [] h5))
  else
  (ex d 72 45 [sv (.ref a0), sv (.int a1), sv (.int a2), sv (.int a3), sv (.int (a4 + (1 : Int32)))] [] h5))
  else
  (some (some (.int (-2 : Int32)), h2))) :=
  (ex_unr p_72 o_72 [0, 45] 48 rfl _ _ h).trans rfl

theorem p_73 : prg 73 = (k_73, 5) := rfl
theorem o_73 : okc k_73 = true := by decide +kernel
set_option maxRecDepth 100000 in
theorem e_73 (d : Nat) (a0 : Nat) (a1 : Int32) (a2 : Int32) (a3 : Int32) (h : MHeap) : call (d + 1) 73 [.ref a0, .int a1, .int a2, .int a3] h = (
  ex d 73 3 [sv (.ref a0), sv (.int a1), sv (.int a2), sv (.int a3), sv (.int a2)] [] h) :=
  (call_unr p_73 rfl o_73 rfl [3] 7 _ h).trans rfl
set_option maxRecDepth 100000 in
theorem e_73_3 (d : Nat) (a0 : Nat) (a1 : Int32) (a2 : Int32) (a3 : Int32) (a4 : Int32) (h : MHeap) : ex d 73 3 [sv (.ref a0), sv (.int a1), sv (.int a2), sv (.int a3), sv (.int a4)] [] h = (
  if a4 < (0 : Int32) then
  (zr none (1 : Int32) (some (some (.int (1 : Int32)), h)))
  else
  (if a4 < a3 then
  (vd none h 2 [98, 1004] fun m1 =>
  cI (call d m1 [.ref 2] h) fun x3 h2 =>
  if a4 < x3 then
  (vd none h2 2 [98, 1005] fun m4 =>
  cI (call d m4 [.ref 2, .int a4] h2) fun x6 h5 =>
  vd none h5 a0 [9, 75] fun m7 =>
  cI (call d m7 [.ref a0, .int ((a1 + a4) - a2)] h5) fun x9 h8 =>
  if x6 = x9 then
  (ex d 73 3 [sv (.ref a0), sv (.int a1), sv (.int a2), sv (.int a3), sv (.int (a4 + (1 : Int32)))] [] h8)
  else
  (zr none (0 : Int32) (some (some (.int (0 : Int32)), h8))))
  else
  (zr none (1 : Int32) (some (some (.int (1 : Int32)), h2))))
  else
  (zr none (1 : Int32) (some (some (.int (1 : Int32)), h))))) :=
  (ex_unr p_73 o_73 [3] 35 rfl _ _ h).trans rfl

theorem p_74 : prg 74 = (k_74, 4) := rfl
theorem o_74 : okc k_74 = true := by decide +kernel
set_option maxRecDepth 100000 in
theorem e_74 (d : Nat) (a0 : Nat) (a1 : Int32) (h : MHeap) : call (d + 1) 74 [.ref a0, .int a1] h = (
  ex d 74 0 [sv (.ref a0), sv (.int a1), none, none] [] h) :=
  (call_unr p_74 rfl o_74 rfl [0, 55] 0 _ h).trans rfl
set_option maxRecDepth 100000 in
theorem e_74_0 (d : Nat) (a0 : Nat) (a1 : Int32) (h : MHeap) : ex d 74 0 [sv (.ref a0), sv (.int a1), none, none] [] h = (
  gfI none h a0 [9] 5 fun x1 =>
  gfI none h a0 [9] 0 fun x2 =>
  if x1 < x2 then
  (gfI none h a0 [9] 5 fun x3 =>
  vd none h a0 [9, 75] fun m4 =>
  cI (call d m4 [.ref a0, .int x3] h) fun x6 h5 =>
  cI (call d 77 [.int x6] h5) fun x8 h7 =>
  if x8 = (0 : Int32) then
  (gfI none h7 a0 [9] 5 fun x9 =>
  if (4 : Int32) < (x9 - a1) then
  (some (some (.int (-2 : Int32)), h7))
  else
  (ex d 74 55 [sv (.ref a0), sv (.int a1), sv (.int (0 : Int32)), sv (.int a1)] [] h7))
  else
  (gfI none h7 a0 [9] 5 fun x10 =>
  pfI none h7 a0 [9] 5 (x10 + (1 : Int32)) fun h11 =>
  ex d 74 0 [sv (.ref a0), sv (.int a1), none, none] [] h11))
  else
  (gfI none h a0 [9] 5 fun x12 =>
  if (4 : Int32) < (x12 - a1) then
  (some (some (.int (-2 : Int32)), h))
  else
  (ex d 74 55 [sv (.ref a0), sv (.int a1), sv (.int (0 : Int32)), sv (.int a1)] [] h))) :=
  (ex_unr p_74 o_74 [0, 55] 47 rfl _ _ h).trans rfl
set_option maxRecDepth 100000 in
theorem e_74_55 (d : Nat) (a0 : Nat) (a1 : Int32) (a2 : Int32) (a3 : Int32) (h : MHeap) : ex d 74 55 [sv (.ref a0), sv (.int a1), sv (.int a2), sv (.int a3)] [] h = (
  gfI none h a0 [9] 5 fun x1 =>
  if a3 < x1 then
  (vd none h a0 [9, 75] fun m2 =>
  cI (call d m2 [.ref a0, .int a3] h) fun x4 h3 =>
  ex d 74 55 [sv (.ref a0), sv (.int a1), sv (.int ((((10 : Int32) * a2) + x4) - (48 : Int32))), sv (.int (a3 + (1 : Int32)))] [] h3)
  else
  (some (some (.int ((1000 : Int32) + a2)), h))) :=
  (ex_unr p_74 o_74 [0, 55] 25 rfl _ _ h).trans rfl

theorem p_75 : prg 75 = (k_75, 2) := rfl
theorem o_75 : okc k_75 = true := by decide +kernel
set_option maxRecDepth 100000 in
theorem e_75 (d : Nat) (a0 : Nat) (a1 : Int32) (h : MHeap) : call (d + 1) 75 [.ref a0, .int a1] h = (
  if a1 < (0 : Int32) then
  (some (some (.int (0 : Int32)), h))
  else
  (gfI none h a0 [9] 0 fun x1 =>
  if a1 < x1 then
  (gfV none h a0 [9] 1 fun v2 =>
  dR none v2 fun o4 =>
  aln none h o4 fun x3 =>
  if a1 < x3 then
  (gfV none h a0 [9] 1 fun v5 =>
  dR none v5 fun o7 =>
  alI none h o7 a1 fun x6 =>
  some (some (.int x6), h))
  else
  (some (some (.int (0 : Int32)), h)))
  else
  (some (some (.int (0 : Int32)), h)))) :=
  (call_unr p_75 rfl o_75 rfl [] 28 _ h).trans rfl

theorem p_76 : prg 76 = (k_76, 1) := rfl
theorem o_76 : okc k_76 = true := by decide +kernel
set_option maxRecDepth 100000 in
theorem e_76 (d : Nat) (a0 : Int32) (h : MHeap) : call (d + 1) 76 [.int a0] h = (
  if a0 < (97 : Int32) then
  (zr none (0 : Int32) (some (some (.int (0 : Int32)), h)))
  else
  (if (122 : Int32) < a0 then
  (zr none (0 : Int32) (some (some (.int (0 : Int32)), h)))
  else
  (zr none (1 : Int32) (some (some (.int (1 : Int32)), h))))) :=
  (call_unr p_76 rfl o_76 rfl [] 18 _ h).trans rfl

theorem p_77 : prg 77 = (k_77, 1) := rfl
theorem o_77 : okc k_77 = true := by decide +kernel
set_option maxRecDepth 100000 in
theorem e_77 (d : Nat) (a0 : Int32) (h : MHeap) : call (d + 1) 77 [.int a0] h = (
  if a0 < (48 : Int32) then
  (zr none (0 : Int32) (some (some (.int (0 : Int32)), h)))
  else
  (if (57 : Int32) < a0 then
  (zr none (0 : Int32) (some (some (.int (0 : Int32)), h)))
  else
  (zr none (1 : Int32) (some (some (.int (1 : Int32)), h))))) :=
  (call_unr p_77 rfl o_77 rfl [] 18 _ h).trans rfl

theorem p_78 : prg 78 = (k_78, 1) := rfl
theorem o_78 : okc k_78 = true := by decide +kernel
set_option maxRecDepth 100000 in
theorem e_78 (d : Nat) (a0 : Int32) (h : MHeap) : call (d + 1) 78 [.int a0] h = (
  if a0 = (40 : Int32) then
  (zr none (1 : Int32) (some (some (.int (1 : Int32)), h)))
  else
  (if a0 = (41 : Int32) then
  (zr none (1 : Int32) (some (some (.int (1 : Int32)), h)))
  else
  (if a0 = (42 : Int32) then
  (zr none (1 : Int32) (some (some (.int (1 : Int32)), h)))
  else
  (if a0 = (43 : Int32) then
  (zr none (1 : Int32) (some (some (.int (1 : Int32)), h)))
  else
  (if a0 = (44 : Int32) then
  (zr none (0 : Int32) (some (some (.int (0 : Int32)), h)))
  else
  (if a0 = (45 : Int32) then
  (zr none (1 : Int32) (some (some (.int (1 : Int32)), h)))
  else
  (if a0 = (46 : Int32) then
  (zr none (0 : Int32) (some (some (.int (0 : Int32)), h)))
  else
  (if a0 = (47 : Int32) then
  (zr none (0 : Int32) (some (some (.int (0 : Int32)), h)))
  else
  (if a0 = (48 : Int32) then
  (zr none (0 : Int32) (some (some (.int (0 : Int32)), h)))
  else
  (if a0 = (49 : Int32) then
  (zr none (0 : Int32) (some (some (.int (0 : Int32)), h)))
  else
  (if a0 = (50 : Int32) then
  (zr none (0 : Int32) (some (some (.int (0 : Int32)), h)))
  else
  (if a0 = (51 : Int32) then
  (zr none (0 : Int32) (some (some (.int (0 : Int32)), h)))
  else
  (if a0 = (52 : Int32) then
  (zr none (0 : Int32) (some (some (.int (0 : Int32)), h)))
  else
  (if a0 = (53 : Int32) then
  (zr none (0 : Int32) (some (some (.int (0 : Int32)), h)))
  else
  (if a0 = (54 : Int32) then
  (zr none (0 : Int32) (some (some (.int (0 : Int32)), h)))
  else
  (if a0 = (55 : Int32) then
  (zr none (0 : Int32) (some (some (.int (0 : Int32)), h)))
  else
  (if a0 = (56 : Int32) then
  (zr none (0 : Int32) (some (some (.int (0 : Int32)), h)))
  else
  (if a0 = (57 : Int32) then
  (zr none (0 : Int32) (some (some (.int (0 : Int32)), h)))
  else
  (if a0 = (58 : Int32) then
  (zr none (0 : Int32) (some (some (.int (0 : Int32)), h)))
  else
  (if a0 = (59 : Int32) then
  (zr none (1 : Int32) (some (some (.int (1 : Int32)), h)))
  else
  (if a0 = (60 : Int32) then
  (zr none (1 : Int32) (some (some (.int (1 : Int32)), h)))
  else
  (if a0 = (61 : Int32) then
  (zr none (1 : Int32) (some (some (.int (1 : Int32)), h)))
  else
  (zr none (0 : Int32) (some (some (.int (0 : Int32)), h))))))))))))))))))))))))) :=
  (call_unr p_78 rfl o_78 rfl [] 53 _ h).trans rfl

theorem p_79 : prg 79 = (k_79, 3) := rfl
theorem o_79 : okc k_79 = true := by decide +kernel
set_option maxRecDepth 100000 in
theorem e_79 (d : Nat) (a0 : Nat) (a1 : Int32) (a2 : Int32) (h : MHeap) : call (d + 1) 79 [.ref a0, .int a1, .int a2] h = (
  cV (call d 25 [.ref a0, .int a1, .int a2] h) fun h1 =>
  some (none, h1)) :=
  (call_unr p_79 rfl o_79 rfl [] 10 _ h).trans rfl

theorem p_80 : prg 80 = (k_80, 1) := rfl
theorem o_80 : okc k_80 = true := by decide +kernel
set_option maxRecDepth 100000 in
theorem e_80 (d : Nat) (a0 : Nat) (h : MHeap) : call (d + 1) 80 [.ref a0] h = (
  some (some (.int (5 : Int32)), h)) :=
  (call_unr p_80 rfl o_80 rfl [] 7 _ h).trans rfl

theorem p_81 : prg 81 = (k_81, 3) := rfl
theorem o_81 : okc k_81 = true := by decide +kernel
set_option maxRecDepth 100000 in
theorem e_81 (d : Nat) (a0 : Nat) (a1 : Int32) (a2 : Int32) (h : MHeap) : call (d + 1) 81 [.ref a0, .int a1, .int a2] h = (
  cI (call d 27 [.ref a0, .int a1, .int a2] h) fun x2 h1 =>
  gfI none h1 a0 [10] 0 fun x3 =>
  cI (call d 137 [.int x3, .int a1] h1) fun x5 h4 =>
  if x2 = x5 then
  (zr none (0 : Int32) (some (some (.int (0 : Int32)), h4)))
  else
  (zr none (1 : Int32) (some (some (.int (1 : Int32)), h4)))) :=
  (call_unr p_81 rfl o_81 rfl [] 19 _ h).trans rfl

theorem p_82 : prg 82 = (k_82, 2) := rfl
theorem o_82 : okc k_82 = true := by decide +kernel
set_option maxRecDepth 100000 in
theorem e_82 (d : Nat) (a0 : Nat) (a1 : Int32) (h : MHeap) : call (d + 1) 82 [.ref a0, .int a1] h = (
  cI (call d 31 [.ref a0, .int a1] h) fun x2 h1 =>
  some (some (.int ((1 : Int32) - x2)), h1)) :=
  (call_unr p_82 rfl o_82 rfl [] 11 _ h).trans rfl
end
section
/-! the methods 83 to 124, unrolled up to the heads of their loops -/
theorem p_83 : prg 83 = (k_83, 2) := rfl
theorem o_83 : okc k_83 = true := by decide +kernel
set_option maxRecDepth 100000 in
theorem e_83 (d : Nat) (a0 : Nat) (h : MHeap) : call (d + 1) 83 [.ref a0] h = (
  cV (call d 1003 [.ref a0] h) fun h1 =>
  nwO h1 0 [.int 0, .int 0, .int 0, .int 0, .null] fun o2 h3 =>
  cV (call d 0 [.ref o2] h3) fun h4 =>
  pfV none h4 a0 [11] 0 (.ref o2) fun h5 =>
  nwO h5 4 [.int 0, .int 0, .int 0, .int 0, .int 0, .int 0] fun o6 h7 =>
  cV (call d 33 [.ref o6] h7) fun h8 =>
  pfV none h8 a0 [11] 1 (.ref o6) fun h9 =>
  nwO h9 9 [.int 0, .null, .null, .null, .null, .int 0, .int 0, .int 0] fun o10 h11 =>
  cV (call d 53 [.ref o10] h11) fun h12 =>
  pfV none h12 a0 [11] 2 (.ref o10) fun h13 =>
  nwA none h13 102 (6 : Int32) .null fun o14 h15 =>
  pfV none h15 a0 [11] 3 (.ref o14) fun h16 =>
  nwA none h16 103 (4 : Int32) .null fun o17 h18 =>
  pfV none h18 a0 [11] 6 (.ref o17) fun h19 =>
  ex d 83 56 [sv (.ref a0), sv (.int (0 : Int32))] [] h19) :=
  (call_unr p_83 rfl o_83 rfl [56, 120] 32 _ h).trans rfl
set_option maxRecDepth 100000 in
theorem e_83_56 (d : Nat) (a0 : Nat) (a1 : Int32) (h : MHeap) : ex d 83 56 [sv (.ref a0), sv (.int a1)] [] h = (
  gfV none h a0 [11] 6 fun v1 =>
  dR none v1 fun o3 =>
  aln none h o3 fun x2 =>
  if a1 < x2 then
  (gfV none h a0 [11] 6 fun v4 =>
  nwO h 7 [.int 0, .int 0, .null] fun o5 h6 =>
  cV (call d 44 [.ref o5] h6) fun h7 =>
  dR none v4 fun o9 =>
  asV none h7 o9 a1 (.ref o5) fun h8 =>
  ex d 83 56 [sv (.ref a0), sv (.int (a1 + (1 : Int32)))] [] h8)
  else
  (nwA none h 100 (299 : Int32) (.int 0) fun o10 h11 =>
  pfV none h11 a0 [11] 7 (.ref o10) fun h12 =>
  nwA none h12 100 (33 : Int32) (.int 0) fun o13 h14 =>
  pfV none h14 a0 [11] 8 (.ref o13) fun h15 =>
  nwA none h15 100 (6 : Int32) (.int 0) fun o16 h17 =>
  pfV none h17 a0 [11] 9 (.ref o16) fun h18 =>
  nwA none h18 100 (160 : Int32) (.int 0) fun o19 h20 =>
  pfV none h20 a0 [11] 10 (.ref o19) fun h21 =>
  ex d 83 120 [sv (.ref a0), sv (.int (0 : Int32))] [] h21)) :=
  (ex_unr p_83 o_83 [56, 120] 37 rfl _ _ h).trans rfl
set_option maxRecDepth 100000 in
theorem e_83_120 (d : Nat) (a0 : Nat) (a1 : Int32) (h : MHeap) : ex d 83 120 [sv (.ref a0), sv (.int a1)] [] h = (
  vd none h 1 [98, 1004] fun m1 =>
  cI (call d m1 [.ref 1] h) fun x3 h2 =>
  if a1 < x3 then
  (gfV none h2 a0 [11] 2 fun v4 =>
  vd none h2 1 [98, 1005] fun m5 =>
  cI (call d m5 [.ref 1, .int a1] h2) fun x7 h6 =>
  dR none v4 fun o9 =>
  vd none h6 o9 [9, 54] fun m8 =>
  cV (call d m8 [.ref o9, .int x7] h6) fun h10 =>
  ex d 83 120 [sv (.ref a0), sv (.int (a1 + (1 : Int32)))] [] h10)
  else
  (gfV none h2 a0 [11] 3 fun v11 =>
  gfV none h2 a0 [11] 2 fun v12 =>
  dR none v12 fun o14 =>
  vd none h2 o14 [9, 57] fun m13 =>
  cR (call d m13 [.ref o14] h2) fun v16 h15 =>
  dR none v11 fun o18 =>
  asV none h15 o18 (0 : Int32) v16 fun h17 =>
  gfV none h17 a0 [11] 2 fun v19 =>
  dR none v19 fun o21 =>
  vd none h17 o21 [9, 55] fun m20 =>
  cV (call d m20 [.ref o21] h17) fun h22 =>
  pfI none h22 a0 [11] 4 (1 : Int32) fun h23 =>
  pfI none h23 a0 [11] 5 (0 : Int32) fun h24 =>
  some (none, h24))) :=
  (ex_unr p_83 o_83 [56, 120] 34 rfl _ _ h).trans rfl

theorem p_84 : prg 84 = (k_84, 4) := rfl
theorem o_84 : okc k_84 = true := by decide +kernel
set_option maxRecDepth 100000 in
theorem e_84 (d : Nat) (a0 : Nat) (a1 : Int32) (a2 : Int32) (h : MHeap) : call (d + 1) 84 [.ref a0, .int a1, .int a2] h = (
  cI (call d 133 [.int a1, .int (1 : Int32), .int (12 : Int32)] h) fun x2 h1 =>
  if x2 = (0 : Int32) then
  (some (some (.int (-2 : Int32)), h1))
  else
  (cI (call d 133 [.int a2, .int (1 : Int32), .int (12 : Int32)] h1) fun x4 h3 =>
  if x4 = (0 : Int32) then
  (some (some (.int (-2 : Int32)), h3))
  else
  (gfV none h3 a0 [11] 0 fun v5 =>
  dR none v5 fun o6 =>
  gfI none h3 o6 [0] 0 fun x7 =>
  gfV none h3 a0 [11] 0 fun v8 =>
  dR none v8 fun o10 =>
  vd none h3 o10 [0, 3] fun m9 =>
  cV (call d m9 [.ref o10, .int a1, .int a2, .int (0 : Int32)] h3) fun h11 =>
  some (some (.int x7), h11)))) :=
  (call_unr p_84 rfl o_84 rfl [] 31 _ h).trans rfl

theorem p_85 : prg 85 = (k_85, 2) := rfl
theorem o_85 : okc k_85 = true := by decide +kernel
set_option maxRecDepth 100000 in
theorem e_85 (d : Nat) (a0 : Nat) (a1 : Int32) (h : MHeap) : call (d + 1) 85 [.ref a0, .int a1] h = (
  gfV none h a0 [11] 0 fun v1 =>
  dR none v1 fun o3 =>
  vd none h o3 [0, 6] fun m2 =>
  cI (call d m2 [.ref o3, .int a1] h) fun x5 h4 =>
  if x5 = (0 : Int32) then
  (some (some (.int (-2 : Int32)), h4))
  else
  (gfV none h4 a0 [11] 0 fun v6 =>
  dD none v6 <|
  dR none v6 fun o7 =>
  gfI none h4 o7 [0] 2 fun x8 =>
  dR none v6 fun o10 =>
  pfI none h4 o10 [0] 2 (x8 ^^^ a1) fun h9 =>
  gfV none h9 a0 [11] 0 fun v11 =>
  dR none v11 fun o12 =>
  gfI none h9 o12 [0] 2 fun x13 =>
  some (some (.int x13), h9))) :=
  (call_unr p_85 rfl o_85 rfl [] 23 _ h).trans rfl

theorem p_86 : prg 86 = (k_86, 3) := rfl
theorem o_86 : okc k_86 = true := by decide +kernel
set_option maxRecDepth 100000 in
theorem e_86 (d : Nat) (a0 : Nat) (a1 : Int32) (a2 : Int32) (h : MHeap) : call (d + 1) 86 [.ref a0, .int a1, .int a2] h = (
  gfV none h a0 [11] 0 fun v1 =>
  dR none v1 fun o3 =>
  vd none h o3 [0, 5] fun m2 =>
  cI (call d m2 [.ref o3, .int a1] h) fun x5 h4 =>
  if x5 = (0 : Int32) then
  (some (some (.int (-5 : Int32)), h4))
  else
  (gfV none h4 a0 [11] 0 fun v6 =>
  dR none v6 fun o8 =>
  vd none h4 o8 [0, 5] fun m7 =>
  cI (call d m7 [.ref o8, .int a2] h4) fun x10 h9 =>
  if x10 = (0 : Int32) then
  (some (some (.int (-5 : Int32)), h9))
  else
  (if a1 = a2 then
  (some (some (.int (-5 : Int32)), h9))
  else
  (gfV none h9 a0 [11] 0 fun v11 =>
  dR none v11 fun o13 =>
  vd none h9 o13 [0, 7] fun m12 =>
  cI (call d m12 [.ref o13, .int a1, .int a2] h9) fun x15 h14 =>
  if x15 = (0 : Int32) then
  (some (some (.int (0 : Int32)), h14))
  else
  (gfV none h14 a0 [11] 0 fun v16 =>
  dD none v16 <|
  dR none v16 fun o17 =>
  gfI none h14 o17 [0] 2 fun x18 =>
  cI (call d 135 [.int a1] h14) fun x20 h19 =>
  cI (call d 135 [.int a2] h19) fun x22 h21 =>
  dR none v16 fun o24 =>
  pfI none h21 o24 [0] 2 (x18 ^^^ (x20 ||| x22)) fun h23 =>
  some (some (.int (1 : Int32)), h23)))))) :=
  (call_unr p_86 rfl o_86 rfl [] 45 _ h).trans rfl

theorem p_87 : prg 87 = (k_87, 2) := rfl
theorem o_87 : okc k_87 = true := by decide +kernel
set_option maxRecDepth 100000 in
theorem e_87 (d : Nat) (a0 : Nat) (a1 : Int32) (h : MHeap) : call (d + 1) 87 [.ref a0, .int a1] h = (
  if a1 = (0 : Int32) then
  (gfV none h a0 [11] 0 fun v1 =>
  dR none v1 fun o2 =>
  gfI none h o2 [0] 0 fun x3 =>
  some (some (.int x3), h))
  else
  (if a1 = (1 : Int32) then
  (gfV none h a0 [11] 0 fun v4 =>
  dR none v4 fun o5 =>
  gfI none h o5 [0] 1 fun x6 =>
  some (some (.int x6), h))
  else
  (if a1 = (2 : Int32) then
  (gfV none h a0 [11] 0 fun v7 =>
  dR none v7 fun o8 =>
  gfI none h o8 [0] 2 fun x9 =>
  some (some (.int x9), h))
  else
  (if a1 = (3 : Int32) then
  (gfV none h a0 [11] 0 fun v10 =>
  dR none v10 fun o11 =>
  gfI none h o11 [0] 3 fun x12 =>
  some (some (.int x12), h))
  else
  (if a1 = (4 : Int32) then
  (gfI none h a0 [11] 4 fun x13 =>
  some (some (.int x13), h))
  else
  (if a1 = (5 : Int32) then
  (gfI none h a0 [11] 5 fun x14 =>
  some (some (.int x14), h))
  else
  (if a1 = (6 : Int32) then
  (gfV none h a0 [11] 2 fun v15 =>
  dR none v15 fun o16 =>
  gfI none h o16 [9] 0 fun x17 =>
  some (some (.int x17), h))
  else
  (some (some (.int (-2 : Int32)), h))))))))) :=
  (call_unr p_87 rfl o_87 rfl [] 35 _ h).trans rfl

theorem p_88 : prg 88 = (k_88, 7) := rfl
theorem o_88 : okc k_88 = true := by decide +kernel
set_option maxRecDepth 100000 in
theorem e_88 (d : Nat) (a0 : Nat) (a1 : Int32) (a2 : Int32) (a3 : Int32) (a4 : Int32) (a5 : Int32) (a6 : Int32) (h : MHeap) : call (d + 1) 88 [.ref a0, .int a1, .int a2, .int a3, .int a4, .int a5, .int a6] h = (
  cI (call d 133 [.int a1, .int (1 : Int32), .int (5 : Int32)] h) fun x2 h1 =>
  if x2 = (0 : Int32) then
  (some (some (.int (-2 : Int32)), h1))
  else
  (cI (call d 134 [.int a2] h1) fun x4 h3 =>
  if x4 = (0 : Int32) then
  (some (some (.int (-2 : Int32)), h3))
  else
  (cI (call d 134 [.int a3] h3) fun x6 h5 =>
  if x6 = (0 : Int32) then
  (some (some (.int (-2 : Int32)), h5))
  else
  (cI (call d 134 [.int a4] h5) fun x8 h7 =>
  if x8 = (0 : Int32) then
  (some (some (.int (-2 : Int32)), h7))
  else
  (cI (call d 134 [.int a5] h7) fun x10 h9 =>
  if x10 = (0 : Int32) then
  (some (some (.int (-2 : Int32)), h9))
  else
  (cI (call d 134 [.int a6] h9) fun x12 h11 =>
  if x12 = (0 : Int32) then
  (some (some (.int (-2 : Int32)), h11))
  else
  (gfV none h11 a0 [11] 2 fun v13 =>
  dR none v13 fun o14 =>
  gfI none h11 o14 [9] 0 fun x15 =>
  if ((160 : Int32) - x15) < a1 then
  (some (some (.int (-4 : Int32)), h11))
  else
  (gfV none h11 a0 [11] 2 fun v16 =>
  dR none v16 fun o18 =>
  vd none h11 o18 [9, 54] fun m17 =>
  cV (call d m17 [.ref o18, .int a2] h11) fun h19 =>
  if (1 : Int32) < a1 then
  (gfV none h19 a0 [11] 2 fun v20 =>
  dR none v20 fun o22 =>
  vd none h19 o22 [9, 54] fun m21 =>
  cV (call d m21 [.ref o22, .int a3] h19) fun h23 =>
  if (2 : Int32) < a1 then
  (gfV none h23 a0 [11] 2 fun v24 =>
  dR none v24 fun o26 =>
  vd none h23 o26 [9, 54] fun m25 =>
  cV (call d m25 [.ref o26, .int a4] h23) fun h27 =>
  if (3 : Int32) < a1 then
  (gfV none h27 a0 [11] 2 fun v28 =>
  dR none v28 fun o30 =>
  vd none h27 o30 [9, 54] fun m29 =>
  cV (call d m29 [.ref o30, .int a5] h27) fun h31 =>
  if (4 : Int32) < a1 then
  (gfV none h31 a0 [11] 2 fun v32 =>
  dR none v32 fun o34 =>
  vd none h31 o34 [9, 54] fun m33 =>
  cV (call d m33 [.ref o34, .int a6] h31) fun h35 =>
  ex d 88 131 [sv (.ref a0), sv (.int a1), sv (.int a2), sv (.int a3), sv (.int a4), sv (.int a5), sv (.int a6)] [] h35)
  else
  (ex d 88 131 [sv (.ref a0), sv (.int a1), sv (.int a2), sv (.int a3), sv (.int a4), sv (.int a5), sv (.int a6)] [] h31))
  else
  (if (4 : Int32) < a1 then
  (gfV none h27 a0 [11] 2 fun v36 =>
  dR none v36 fun o38 =>
  vd none h27 o38 [9, 54] fun m37 =>
  cV (call d m37 [.ref o38, .int a6] h27) fun h39 =>
  ex d 88 131 [sv (.ref a0), sv (.int a1), sv (.int a2), sv (.int a3), sv (.int a4), sv (.int a5), sv (.int a6)] [] h39)
  else
  (ex d 88 131 [sv (.ref a0), sv (.int a1), sv (.int a2), sv (.int a3), sv (.int a4), sv (.int a5), sv (.int a6)] [] h27)))
  else
  (if (3 : Int32) < a1 then
  (gfV none h23 a0 [11] 2 fun v40 =>
  dR none v40 fun o42 =>
  vd none h23 o42 [9, 54] fun m41 =>
  cV (call d m41 [.ref o42, .int a5] h23) fun h43 =>
  if (4 : Int32) < a1 then
  (gfV none h43 a0 [11] 2 fun v44 =>
  dR none v44 fun o46 =>
  vd none h43 o46 [9, 54] fun m45 =>
  cV (call d m45 [.ref o46, .int a6] h43) fun h47 =>
  ex d 88 131 [sv (.ref a0), sv (.int a1), sv (.int a2), sv (.int a3), sv (.int a4), sv (.int a5), sv (.int a6)] [] h47)
  else
  (ex d 88 131 [sv (.ref a0), sv (.int a1), sv (.int a2), sv (.int a3), sv (.int a4), sv (.int a5), sv (.int a6)] [] h43))
  else
  (if (4 : Int32) < a1 then
  (gfV none h23 a0 [11] 2 fun v48 =>
  dR none v48 fun o50 =>
  vd none h23 o50 [9, 54] fun m49 =>
  cV (call d m49 [.ref o50, .int a6] h23) fun h51 =>
  ex d 88 131 [sv (.ref a0), sv (.int a1), sv (.int a2), sv (.int a3), sv (.int a4), sv (.int a5), sv (.int a6)] [] h51)
  else
  (ex d 88 131 [sv (.ref a0), sv (.int a1), sv (.int a2), sv (.int a3), sv (.int a4), sv (.int a5), sv (.int a6)] [] h23))))
  else
  (if (2 : Int32) < a1 then
  (gfV none h19 a0 [11] 2 fun v52 =>
  dR none v52 fun o54 =>
  vd none h19 o54 [9, 54] fun m53 =>
  cV (call d m53 [.ref o54, .int a4] h19) fun h55 =>
  if (3 : Int32) < a1 then
  (gfV none h55 a0 [11] 2 fun v56 =>
  dR none v56 fun o58 =>
  vd none h55 o58 [9, 54] fun m57 =>
  cV (call d m57 [.ref o58, .int a5] h55) fun h59 =>
  if (4 : Int32) < a1 then
  (gfV none h59 a0 [11] 2 fun v60 =>
  dR none v60 fun o62 =>
  vd none h59 o62 [9, 54] fun m61 =>
  cV (call d m61 [.ref o62, .int a6] h59) fun h63 =>
  ex d 88 131 [sv (.ref a0), sv (.int a1), sv (.int a2), sv (.int a3), sv (.int a4), sv (.int a5), sv (.int a6)] [] h63)
  else
  (ex d 88 131 [sv (.ref a0), sv (.int a1), sv (.int a2), sv (.int a3), sv (.int a4), sv (.int a5), sv (.int a6)] [] h59))
  else
  (if (4 : Int32) < a1 then
  (gfV none h55 a0 [11] 2 fun v64 =>
  dR none v64 fun o66 =>
  vd none h55 o66 [9, 54] fun m65 =>
  cV (call d m65 [.ref o66, .int a6] h55) fun h67 =>
  ex d 88 131 [sv (.ref a0), sv (.int a1), sv (.int a2), sv (.int a3), sv (.int a4), sv (.int a5), sv (.int a6)] [] h67)
  else
  (ex d 88 131 [sv (.ref a0), sv (.int a1), sv (.int a2), sv (.int a3), sv (.int a4), sv (.int a5), sv (.int a6)] [] h55)))
  else
  (if (3 : Int32) < a1 then
  (gfV none h19 a0 [11] 2 fun v68 =>
  dR none v68 fun o70 =>
  vd none h19 o70 [9, 54] fun m69 =>
  cV (call d m69 [.ref o70, .int a5] h19) fun h71 =>
  if (4 : Int32) < a1 then
  (gfV none h71 a0 [11] 2 fun v72 =>
  dR none v72 fun o74 =>
  vd none h71 o74 [9, 54] fun m73 =>
  cV (call d m73 [.ref o74, .int a6] h71) fun h75 =>
  ex d 88 131 [sv (.ref a0), sv (.int a1), sv (.int a2), sv (.int a3), sv (.int a4), sv (.int a5), sv (.int a6)] [] h75)
  else
  (ex d 88 131 [sv (.ref a0), sv (.int a1), sv (.int a2), sv (.int a3), sv (.int a4), sv (.int a5), sv (.int a6)] [] h71))
  else
  (if (4 : Int32) < a1 then
  (gfV none h19 a0 [11] 2 fun v76 =>
  dR none v76 fun o78 =>
  vd none h19 o78 [9, 54] fun m77 =>
  cV (call d m77 [.ref o78, .int a6] h19) fun h79 =>
  ex d 88 131 [sv (.ref a0), sv (.int a1), sv (.int a2), sv (.int a3), sv (.int a4), sv (.int a5), sv (.int a6)] [] h79)
  else
  (ex d 88 131 [sv (.ref a0), sv (.int a1), sv (.int a2), sv (.int a3), sv (.int a4), sv (.int a5), sv (.int a6)] [] h19)))))))))))) :=
  (call_unr p_88 rfl o_88 rfl [131] 155 _ h).trans rfl
set_option maxRecDepth 100000 in
theorem e_88_131 (d : Nat) (a0 : Nat) (a1 : Int32) (a2 : Int32) (a3 : Int32) (a4 : Int32) (a5 : Int32) (a6 : Int32) (h : MHeap) : ex d 88 131 [sv (.ref a0), sv (.int a1), sv (.int a2), sv (.int a3), sv (.int a4), sv (.int a5), sv (.int a6)] [] h = (
  gfV none h a0 [11] 2 fun v1 =>
  dR none v1 fun o2 =>
  gfI none h o2 [9] 0 fun x3 =>
  some (some (.int x3), h)) :=
  (ex_unr p_88 o_88 [131] 9 rfl _ _ h).trans rfl

theorem p_89 : prg 89 = (k_89, 2) := rfl
theorem o_89 : okc k_89 = true := by decide +kernel
set_option maxRecDepth 100000 in
theorem e_89 (d : Nat) (a0 : Nat) (h : MHeap) : call (d + 1) 89 [.ref a0] h = (
  gfI none h a0 [11] 4 fun x1 =>
  if x1 < (0 : Int32) then
  (some (some (.int (-4 : Int32)), h))
  else
  (gfI none h a0 [11] 4 fun x2 =>
  gfV none h a0 [11] 3 fun v3 =>
  dR none v3 fun o5 =>
  aln none h o5 fun x4 =>
  if x2 < x4 then
  (gfV none h a0 [11] 2 fun v6 =>
  dR none v6 fun o8 =>
  vd none h o8 [9, 57] fun m7 =>
  cR (call d m7 [.ref o8] h) fun v10 h9 =>
  dA none v10 <|
  gfV none h9 a0 [11] 2 fun v11 =>
  dR none v11 fun o13 =>
  vd none h9 o13 [9, 55] fun m12 =>
  cV (call d m12 [.ref o13] h9) fun h14 =>
  dA none v10 <|
  dN none v10 (
  gfV none h14 a0 [11] 2 fun v15 =>
  dR none v15 fun o17 =>
  vd none h14 o17 [9, 56] fun m16 =>
  cI (call d m16 [.ref o17] h14) fun x19 h18 =>
  some (some (.int ((-100 : Int32) - x19)), h18)) (
  gfV none h14 a0 [11] 3 fun v20 =>
  gfI none h14 a0 [11] 4 fun x21 =>
  dA none v10 <|
  dR none v20 fun o23 =>
  asV none h14 o23 x21 v10 fun h22 =>
  gfI none h22 a0 [11] 4 fun x24 =>
  pfI none h22 a0 [11] 4 (x24 + (1 : Int32)) fun h25 =>
  gfI none h25 a0 [11] 4 fun x26 =>
  some (some (.int (x26 - (1 : Int32))), h25)))
  else
  (some (some (.int (-4 : Int32)), h)))) :=
  (call_unr p_89 rfl o_89 rfl [] 50 _ h).trans rfl

theorem p_90 : prg 90 = (k_90, 3) := rfl
theorem o_90 : okc k_90 = true := by decide +kernel
set_option maxRecDepth 100000 in
theorem e_90 (d : Nat) (a0 : Nat) (a1 : Int32) (h : MHeap) : call (d + 1) 90 [.ref a0, .int a1] h = (
  gfI none h a0 [11] 4 fun x1 =>
  cI (call d 133 [.int a1, .int (0 : Int32), .int (x1 - (1 : Int32))] h) fun x3 h2 =>
  if x3 = (0 : Int32) then
  (some (some (.int (-2 : Int32)), h2))
  else
  (gfI none h2 a0 [11] 5 fun x4 =>
  pfI none h2 a0 [11] 5 a1 fun h5 =>
  some (some (.int x4), h5))) :=
  (call_unr p_90 rfl o_90 rfl [] 23 _ h).trans rfl

theorem p_91 : prg 91 = (k_91, 3) := rfl
theorem o_91 : okc k_91 = true := by decide +kernel
set_option maxRecDepth 100000 in
theorem e_91 (d : Nat) (a0 : Nat) (a1 : Int32) (a2 : Int32) (h : MHeap) : call (d + 1) 91 [.ref a0, .int a1, .int a2] h = (
  gfV none h a0 [11] 0 fun v1 =>
  dR none v1 fun o3 =>
  vd none h o3 [0, 5] fun m2 =>
  cI (call d m2 [.ref o3, .int a2] h) fun x5 h4 =>
  if x5 = (0 : Int32) then
  (some (some (.int (-5 : Int32)), h4))
  else
  (cI (call d 133 [.int a1, .int (0 : Int32), .int (2 : Int32)] h4) fun x7 h6 =>
  if x7 = (0 : Int32) then
  (some (some (.int (-7 : Int32)), h6))
  else
  (gfV none h6 a0 [11] 0 fun v8 =>
  dR none v8 fun o10 =>
  vd none h6 o10 [0, 19] fun m9 =>
  cI (call d m9 [.ref o10] h6) fun x12 h11 =>
  vd none h11 a0 [11, 143] fun m13 =>
  cI (call d m13 [.ref a0, .int a1, .int a2, .int x12] h11) fun x15 h14 =>
  some (some (.int x15), h14)))) :=
  (call_unr p_91 rfl o_91 rfl [] 27 _ h).trans rfl

theorem p_92 : prg 92 = (k_92, 4) := rfl
theorem o_92 : okc k_92 = true := by decide +kernel
set_option maxRecDepth 100000 in
theorem e_92 (d : Nat) (a0 : Nat) (a1 : Int32) (a2 : Int32) (a3 : Int32) (h : MHeap) : call (d + 1) 92 [.ref a0, .int a1, .int a2, .int a3] h = (
  cI (call d 133 [.int a1, .int (0 : Int32), .int (5 : Int32)] h) fun x2 h1 =>
  if x2 = (0 : Int32) then
  (some (some (.int (-2 : Int32)), h1))
  else
  (cI (call d 133 [.int a2, .int (0 : Int32), .int (4095 : Int32)] h1) fun x4 h3 =>
  if x4 = (0 : Int32) then
  (some (some (.int (-2 : Int32)), h3))
  else
  (cI (call d 133 [.int a3, .int (0 : Int32), .int (9 : Int32)] h3) fun x6 h5 =>
  if x6 = (0 : Int32) then
  (some (some (.int (-2 : Int32)), h5))
  else
  (gfV none h5 a0 [11] 0 fun v7 =>
  dR none v7 fun o9 =>
  vd none h5 o9 [0, 11] fun m8 =>
  cI (call d m8 [.ref o9] h5) fun x11 h10 =>
  if x11 = (0 : Int32) then
  (some (some (.int (-4 : Int32)), h10))
  else
  (gfV none h10 a0 [11] 0 fun v12 =>
  cR (call d 161 [.int a1, .int a2, .int a3] h10) fun v14 h13 =>
  dR none v12 fun o16 =>
  vd none h13 o16 [0, 12] fun m15 =>
  cV (call d m15 [.ref o16, v14] h13) fun h17 =>
  gfV none h17 a0 [11] 0 fun v18 =>
  dR none v18 fun o19 =>
  gfI none h17 o19 [0] 3 fun x20 =>
  some (some (.int (x20 - (1 : Int32))), h17)))))) :=
  (call_unr p_92 rfl o_92 rfl [] 45 _ h).trans rfl

theorem p_93 : prg 93 = (k_93, 1) := rfl
theorem o_93 : okc k_93 = true := by decide +kernel
set_option maxRecDepth 100000 in
theorem e_93 (d : Nat) (a0 : Nat) (h : MHeap) : call (d + 1) 93 [.ref a0] h = (
  gfV none h a0 [11] 0 fun v1 =>
  dR none v1 fun o2 =>
  gfI none h o2 [0] 3 fun x3 =>
  if x3 < (1 : Int32) then
  (some (some (.int (-3 : Int32)), h))
  else
  (gfV none h a0 [11] 0 fun v4 =>
  gfV none h a0 [11] 0 fun v5 =>
  dR none v5 fun o6 =>
  gfI none h o6 [0] 3 fun x7 =>
  dR none v4 fun o9 =>
  vd none h o9 [0, 13] fun m8 =>
  cV (call d m8 [.ref o9, .int (x7 - (1 : Int32))] h) fun h10 =>
  gfV none h10 a0 [11] 1 fun v11 =>
  dR none v11 fun o12 =>
  gfI none h10 o12 [4] 4 fun x13 =>
  gfV none h10 a0 [11] 0 fun v14 =>
  dR none v14 fun o15 =>
  gfI none h10 o15 [0] 3 fun x16 =>
  if x16 < x13 then
  (gfV none h10 a0 [11] 1 fun v17 =>
  zr none (0 : Int32) <|
  dR none v17 fun o19 =>
  pfI none h10 o19 [4] 0 (0 : Int32) fun h18 =>
  gfV none h18 a0 [11] 0 fun v20 =>
  dR none v20 fun o21 =>
  gfI none h18 o21 [0] 3 fun x22 =>
  some (some (.int x22), h18))
  else
  (gfV none h10 a0 [11] 0 fun v23 =>
  dR none v23 fun o24 =>
  gfI none h10 o24 [0] 3 fun x25 =>
  some (some (.int x25), h10)))) :=
  (call_unr p_93 rfl o_93 rfl [] 39 _ h).trans rfl

theorem p_94 : prg 94 = (k_94, 4) := rfl
theorem o_94 : okc k_94 = true := by decide +kernel
set_option maxRecDepth 100000 in
theorem e_94 (d : Nat) (a0 : Nat) (a1 : Int32) (a2 : Int32) (h : MHeap) : call (d + 1) 94 [.ref a0, .int a1, .int a2] h = (
  gfV none h a0 [11] 0 fun v1 =>
  dR none v1 fun o3 =>
  vd none h o3 [0, 14] fun m2 =>
  cR (call d m2 [.ref o3, .int a1] h) fun v5 h4 =>
  dA none v5 <|
  dA none v5 <|
  dN none v5 (
  some (some (.int (-5 : Int32)), h4)) (
  if a2 = (0 : Int32) then
  (dA none v5 <|
  dR none v5 fun o7 =>
  vd none h4 o7 [1, 23, 2, 26, 3, 29, 6, 42, 8, 51, 10, 80] fun m6 =>
  cI (call d m6 [.ref o7] h4) fun x9 h8 =>
  some (some (.int x9), h8))
  else
  (if a2 = (1 : Int32) then
  (dA none v5 <|
  dR none v5 fun o10 =>
  gfI none h4 o10 [1, 2, 3, 6, 8, 10] 0 fun x11 =>
  some (some (.int x11), h4))
  else
  (if a2 = (2 : Int32) then
  (dA none v5 <|
  dR none v5 fun o12 =>
  gfI none h4 o12 [1, 2, 3, 6, 8, 10] 1 fun x13 =>
  some (some (.int x13), h4))
  else
  (if a2 = (3 : Int32) then
  (dA none v5 <|
  dR none v5 fun o14 =>
  gfI none h4 o14 [1, 2, 3, 6, 8, 10] 2 fun x15 =>
  some (some (.int x15), h4))
  else
  (if a2 = (4 : Int32) then
  (dA none v5 <|
  gfV none h4 a0 [11] 0 fun v16 =>
  dR none v16 fun o17 =>
  gfI none h4 o17 [0] 2 fun x18 =>
  dR none v5 fun o20 =>
  vd none h4 o20 [1, 31, 2, 31, 3, 31, 6, 31, 8, 52, 10, 82] fun m19 =>
  cI (call d m19 [.ref o20, .int x18] h4) fun x22 h21 =>
  some (some (.int x22), h21))
  else
  (some (some (.int (-7 : Int32)), h4)))))))) :=
  (call_unr p_94 rfl o_94 rfl [] 36 _ h).trans rfl

theorem p_95 : prg 95 = (k_95, 2) := rfl
theorem o_95 : okc k_95 = true := by decide +kernel
set_option maxRecDepth 100000 in
theorem e_95 (d : Nat) (a0 : Nat) (a1 : Int32) (h : MHeap) : call (d + 1) 95 [.ref a0, .int a1] h = (
  if a1 = (0 : Int32) then
  (gfV none h a0 [11] 0 fun v1 =>
  gfV none h a0 [11] 0 fun v2 =>
  dR none v2 fun o3 =>
  gfI none h o3 [0] 2 fun x4 =>
  dR none v1 fun o6 =>
  vd none h o6 [0, 16] fun m5 =>
  cI (call d m5 [.ref o6, .int x4] h) fun x8 h7 =>
  some (some (.int x8), h7))
  else
  (if a1 = (1 : Int32) then
  (gfV none h a0 [11] 0 fun v9 =>
  gfV none h a0 [11] 0 fun v10 =>
  dR none v10 fun o11 =>
  gfI none h o11 [0] 2 fun x12 =>
  dR none v9 fun o14 =>
  vd none h o14 [0, 18] fun m13 =>
  cI (call d m13 [.ref o14, .int x12] h) fun x16 h15 =>
  some (some (.int x16), h15))
  else
  (if a1 = (2 : Int32) then
  (gfV none h a0 [11] 0 fun v17 =>
  dR none v17 fun o19 =>
  vd none h o19 [0, 19] fun m18 =>
  cI (call d m18 [.ref o19] h) fun x21 h20 =>
  some (some (.int x21), h20))
  else
  (some (some (.int (-2 : Int32)), h))))) :=
  (call_unr p_95 rfl o_95 rfl [] 27 _ h).trans rfl

theorem p_96 : prg 96 = (k_96, 2) := rfl
theorem o_96 : okc k_96 = true := by decide +kernel
set_option maxRecDepth 100000 in
theorem e_96 (d : Nat) (a0 : Nat) (a1 : Int32) (h : MHeap) : call (d + 1) 96 [.ref a0, .int a1] h = (
  gfV none h a0 [11] 0 fun v1 =>
  dR none v1 fun o3 =>
  vd none h o3 [0, 6] fun m2 =>
  cI (call d m2 [.ref o3, .int a1] h) fun x5 h4 =>
  if x5 = (0 : Int32) then
  (some (some (.int (-2 : Int32)), h4))
  else
  (gfV none h4 a0 [11] 0 fun v6 =>
  gfV none h4 a0 [11] 0 fun v7 =>
  dR none v7 fun o8 =>
  gfI none h4 o8 [0] 2 fun x9 =>
  dR none v6 fun o11 =>
  vd none h4 o11 [0, 16] fun m10 =>
  cI (call d m10 [.ref o11, .int (x9 ^^^ a1)] h4) fun x13 h12 =>
  some (some (.int x13), h12))) :=
  (call_unr p_96 rfl o_96 rfl [] 21 _ h).trans rfl

theorem p_97 : prg 97 = (k_97, 1) := rfl
theorem o_97 : okc k_97 = true := by decide +kernel
set_option maxRecDepth 100000 in
theorem e_97 (d : Nat) (a0 : Nat) (h : MHeap) : call (d + 1) 97 [.ref a0] h = (
  gfV none h a0 [11] 0 fun v1 =>
  dR none v1 fun o2 =>
  gfI none h o2 [0] 2 fun x3 =>
  vd none h a0 [11, 144] fun m4 =>
  cI (call d m4 [.ref a0, .int x3] h) fun x6 h5 =>
  some (some (.int x6), h5)) :=
  (call_unr p_97 rfl o_97 rfl [] 11 _ h).trans rfl

theorem p_98 : prg 98 = (k_98, 5) := rfl
theorem o_98 : okc k_98 = true := by decide +kernel
set_option maxRecDepth 100000 in
theorem e_98 (d : Nat) (a0 : Nat) (a1 : Int32) (h : MHeap) : call (d + 1) 98 [.ref a0, .int a1] h = (
  cI (call d 133 [.int a1, .int (0 : Int32), .int (1 : Int32)] h) fun x2 h1 =>
  if x2 = (0 : Int32) then
  (some (some (.int (-2 : Int32)), h1))
  else
  (ex d 98 16 [sv (.ref a0), sv (.int a1), sv (.int (0 : Int32)), sv (.int (0 : Int32)), none] [] h1)) :=
  (call_unr p_98 rfl o_98 rfl [16, 32] 16 _ h).trans rfl
set_option maxRecDepth 100000 in
theorem e_98_16 (d : Nat) (a0 : Nat) (a1 : Int32) (a2 : Int32) (a3 : Int32) (a4 : MSl) (h : MHeap) : ex d 98 16 [sv (.ref a0), sv (.int a1), sv (.int a2), sv (.int a3), a4] [] h = (
  gfV none h a0 [11] 0 fun v1 =>
  dR none v1 fun o2 =>
  gfI none h o2 [0] 0 fun x3 =>
  if a3 < x3 then
  (ex d 98 32 [sv (.ref a0), sv (.int a1), sv (.int a2), sv (.int a3), sv (.int (a3 + (1 : Int32)))] [] h)
  else
  (if a1 = (0 : Int32) then
  (some (some (.int a2), h))
  else
  (some (some (.int (-1 : Int32)), h)))) :=
  (ex_unr p_98 o_98 [16, 32] 21 rfl _ _ h).trans rfl
set_option maxRecDepth 100000 in
theorem e_98_32 (d : Nat) (a0 : Nat) (a1 : Int32) (a2 : Int32) (a3 : Int32) (a4 : Int32) (h : MHeap) : ex d 98 32 [sv (.ref a0), sv (.int a1), sv (.int a2), sv (.int a3), sv (.int a4)] [] h = (
  gfV none h a0 [11] 0 fun v1 =>
  dR none v1 fun o2 =>
  gfI none h o2 [0] 0 fun x3 =>
  if a4 < x3 then
  (gfV none h a0 [11] 0 fun v4 =>
  gfV none h a0 [11] 0 fun v5 =>
  dR none v5 fun o6 =>
  gfI none h o6 [0] 2 fun x7 =>
  cI (call d 135 [.int a3] h) fun x9 h8 =>
  cI (call d 135 [.int a4] h8) fun x11 h10 =>
  dR none v4 fun o13 =>
  vd none h10 o13 [0, 21] fun m12 =>
  cI (call d m12 [.ref o13, .int ((x7 ^^^ x9) ^^^ x11)] h10) fun x15 h14 =>
  if x15 = (0 : Int32) then
  (ex d 98 32 [sv (.ref a0), sv (.int a1), sv (.int a2), sv (.int a3), sv (.int (a4 + (1 : Int32)))] [] h14)
  else
  (if a1 = (1 : Int32) then
  (cI (call d 141 [.int a3, .int a4] h14) fun x17 h16 =>
  some (some (.int x17), h16))
  else
  (ex d 98 32 [sv (.ref a0), sv (.int a1), sv (.int (a2 + (1 : Int32))), sv (.int a3), sv (.int (a4 + (1 : Int32)))] [] h14)))
  else
  (ex d 98 16 [sv (.ref a0), sv (.int a1), sv (.int a2), sv (.int (a3 + (1 : Int32))), sv (.int a4)] [] h)) :=
  (ex_unr p_98 o_98 [16, 32] 37 rfl _ _ h).trans rfl

theorem p_99 : prg 99 = (k_99, 5) := rfl
theorem o_99 : okc k_99 = true := by decide +kernel
set_option maxRecDepth 100000 in
theorem e_99 (d : Nat) (a0 : Nat) (a1 : Int32) (h : MHeap) : call (d + 1) 99 [.ref a0, .int a1] h = (
  cI (call d 133 [.int a1, .int (0 : Int32), .int (12 : Int32)] h) fun x2 h1 =>
  if x2 = (0 : Int32) then
  (some (some (.int (-2 : Int32)), h1))
  else
  (gfV none h1 a0 [11] 0 fun v3 =>
  gfV none h1 a0 [11] 0 fun v4 =>
  dR none v4 fun o5 =>
  gfI none h1 o5 [0] 2 fun x6 =>
  dR none v3 fun o8 =>
  vd none h1 o8 [0, 16] fun m7 =>
  cI (call d m7 [.ref o8, .int x6] h1) fun x10 h9 =>
  ex d 99 33 [sv (.ref a0), sv (.int a1), sv (.int x10), sv (.int (0 : Int32)), sv (.int (0 : Int32))] [] h9)) :=
  (call_unr p_99 rfl o_99 rfl [33] 23 _ h).trans rfl
set_option maxRecDepth 100000 in
theorem e_99_33 (d : Nat) (a0 : Nat) (a1 : Int32) (a2 : Int32) (a3 : Int32) (a4 : Int32) (h : MHeap) : ex d 99 33 [sv (.ref a0), sv (.int a1), sv (.int a2), sv (.int a3), sv (.int a4)] [] h = (
  gfV none h a0 [11] 0 fun v1 =>
  dR none v1 fun o3 =>
  vd none h o3 [0, 4] fun m2 =>
  cI (call d m2 [.ref o3] h) fun x5 h4 =>
  if x5 < a4 then
  (some (some (.int a3), h4))
  else
  (cI (call d 260 [.int a4] h4) fun x7 h6 =>
  if x7 = a1 then
  (gfV none h6 a0 [11] 0 fun v8 =>
  gfV none h6 a0 [11] 0 fun v9 =>
  dR none v9 fun o10 =>
  gfI none h6 o10 [0] 2 fun x11 =>
  dR none v8 fun o13 =>
  vd none h6 o13 [0, 20] fun m12 =>
  cI (call d m12 [.ref o13, .int (x11 ^^^ a4), .int a2] h6) fun x15 h14 =>
  if x15 = (0 : Int32) then
  (ex d 99 33 [sv (.ref a0), sv (.int a1), sv (.int a2), sv (.int a3), sv (.int (a4 + (1 : Int32)))] [] h14)
  else
  (ex d 99 33 [sv (.ref a0), sv (.int a1), sv (.int a2), sv (.int (a3 + (1 : Int32))), sv (.int (a4 + (1 : Int32)))] [] h14))
  else
  (ex d 99 33 [sv (.ref a0), sv (.int a1), sv (.int a2), sv (.int a3), sv (.int (a4 + (1 : Int32)))] [] h6))) :=
  (ex_unr p_99 o_99 [33] 33 rfl _ _ h).trans rfl

theorem p_100 : prg 100 = (k_100, 3) := rfl
theorem o_100 : okc k_100 = true := by decide +kernel
set_option maxRecDepth 100000 in
theorem e_100 (d : Nat) (a0 : Nat) (a1 : Int32) (h : MHeap) : call (d + 1) 100 [.ref a0, .int a1] h = (
  cI (call d 133 [.int a1, .int (0 : Int32), .int (1 : Int32)] h) fun x2 h1 =>
  if x2 = (0 : Int32) then
  (some (some (.int (-2 : Int32)), h1))
  else
  (gfV none h1 a0 [11] 0 fun v3 =>
  dR none v3 fun o5 =>
  vd none h1 o5 [0, 4] fun m4 =>
  cI (call d m4 [.ref o5] h1) fun x7 h6 =>
  gfV none h6 a0 [11] 0 fun v8 =>
  gfV none h6 a0 [11] 0 fun v9 =>
  dR none v9 fun o10 =>
  gfI none h6 o10 [0] 2 fun x11 =>
  dR none v8 fun o13 =>
  vd none h6 o13 [0, 16] fun m12 =>
  cI (call d m12 [.ref o13, .int x11] h6) fun x15 h14 =>
  vd none h14 a0 [11, 145] fun m16 =>
  cI (call d m16 [.ref a0, .int (1 : Int32), .int x7, .int x15] h14) fun x18 h17 =>
  if a1 = (0 : Int32) then
  (cI (call d 138 [.int x18] h17) fun x20 h19 =>
  some (some (.int x20), h19))
  else
  (some (some (.int x18), h17)))) :=
  (call_unr p_100 rfl o_100 rfl [] 33 _ h).trans rfl

theorem p_101 : prg 101 = (k_101, 2) := rfl
theorem o_101 : okc k_101 = true := by decide +kernel
set_option maxRecDepth 100000 in
theorem e_101 (d : Nat) (a0 : Nat) (a1 : Int32) (h : MHeap) : call (d + 1) 101 [.ref a0, .int a1] h = (
  if a1 = (0 : Int32) then
  (vd none h a0 [11, 146] fun m1 =>
  cI (call d m1 [.ref a0] h) fun x3 h2 =>
  some (some (.int x3), h2))
  else
  (if a1 = (1 : Int32) then
  (vd none h a0 [11, 147] fun m4 =>
  cI (call d m4 [.ref a0] h) fun x6 h5 =>
  some (some (.int x6), h5))
  else
  (some (some (.int (-2 : Int32)), h)))) :=
  (call_unr p_101 rfl o_101 rfl [] 15 _ h).trans rfl

theorem p_102 : prg 102 = (k_102, 4) := rfl
theorem o_102 : okc k_102 = true := by decide +kernel
set_option maxRecDepth 100000 in
theorem e_102 (d : Nat) (a0 : Nat) (a1 : Int32) (h : MHeap) : call (d + 1) 102 [.ref a0, .int a1] h = (
  cI (call d 133 [.int a1, .int (0 : Int32), .int (3 : Int32)] h) fun x2 h1 =>
  if x2 = (0 : Int32) then
  (some (some (.int (-2 : Int32)), h1))
  else
  (ex d 102 16 [sv (.ref a0), sv (.int a1), sv (.int (0 : Int32)), sv (.int (0 : Int32))] [] h1)) :=
  (call_unr p_102 rfl o_102 rfl [16] 16 _ h).trans rfl
set_option maxRecDepth 100000 in
theorem e_102_16 (d : Nat) (a0 : Nat) (a1 : Int32) (a2 : Int32) (a3 : Int32) (h : MHeap) : ex d 102 16 [sv (.ref a0), sv (.int a1), sv (.int a2), sv (.int a3)] [] h = (
  gfV none h a0 [11] 0 fun v1 =>
  dR none v1 fun o3 =>
  vd none h o3 [0, 4] fun m2 =>
  cI (call d m2 [.ref o3] h) fun x5 h4 =>
  if x5 < a3 then
  (some (some (.int a2), h4))
  else
  (cI (call d 260 [.int a3] h4) fun x7 h6 =>
  if a1 < x7 then
  (ex d 102 16 [sv (.ref a0), sv (.int a1), sv (.int a2), sv (.int (a3 + (1 : Int32)))] [] h6)
  else
  (gfV none h6 a0 [11] 0 fun v8 =>
  gfV none h6 a0 [11] 0 fun v9 =>
  dR none v9 fun o10 =>
  gfI none h6 o10 [0] 2 fun x11 =>
  dR none v8 fun o13 =>
  vd none h6 o13 [0, 16] fun m12 =>
  cI (call d m12 [.ref o13, .int (x11 ^^^ a3)] h6) fun x15 h14 =>
  vd none h14 a0 [11, 148] fun m16 =>
  cI (call d m16 [.ref a0, .int a2, .int x15] h14) fun x18 h17 =>
  ex d 102 16 [sv (.ref a0), sv (.int a1), sv (.int x18), sv (.int (a3 + (1 : Int32)))] [] h17))) :=
  (ex_unr p_102 o_102 [16] 32 rfl _ _ h).trans rfl

theorem p_103 : prg 103 = (k_103, 4) := rfl
theorem o_103 : okc k_103 = true := by decide +kernel
set_option maxRecDepth 100000 in
theorem e_103 (d : Nat) (a0 : Nat) (a1 : Int32) (a2 : Int32) (h : MHeap) : call (d + 1) 103 [.ref a0, .int a1, .int a2] h = (
  gfV none h a0 [11] 0 fun v1 =>
  dR none v1 fun o3 =>
  vd none h o3 [0, 6] fun m2 =>
  cI (call d m2 [.ref o3, .int a1] h) fun x5 h4 =>
  if x5 = (0 : Int32) then
  (some (some (.int (-2 : Int32)), h4))
  else
  (cI (call d 133 [.int a2, .int (0 : Int32), .int (1 : Int32)] h4) fun x7 h6 =>
  if x7 = (0 : Int32) then
  (some (some (.int (-7 : Int32)), h6))
  else
  (vd none h6 a0 [11, 145] fun m8 =>
  cI (call d m8 [.ref a0, .int (0 : Int32), .int a1, .int (0 : Int32)] h6) fun x10 h9 =>
  if a2 = (0 : Int32) then
  (cI (call d 138 [.int x10] h9) fun x12 h11 =>
  some (some (.int x12), h11))
  else
  (some (some (.int x10), h9))))) :=
  (call_unr p_103 rfl o_103 rfl [] 33 _ h).trans rfl

theorem p_104 : prg 104 = (k_104, 3) := rfl
theorem o_104 : okc k_104 = true := by decide +kernel
set_option maxRecDepth 100000 in
theorem e_104 (d : Nat) (a0 : Nat) (a1 : Int32) (h : MHeap) : call (d + 1) 104 [.ref a0, .int a1] h = (
  gfV none h a0 [11] 0 fun v1 =>
  dR none v1 fun o3 =>
  vd none h o3 [0, 6] fun m2 =>
  cI (call d m2 [.ref o3, .int a1] h) fun x5 h4 =>
  if x5 = (0 : Int32) then
  (some (some (.int (-2 : Int32)), h4))
  else
  (vd none h4 a0 [11, 145] fun m6 =>
  cI (call d m6 [.ref a0, .int (0 : Int32), .int a1, .int (0 : Int32)] h4) fun x8 h7 =>
  if x8 = (-1 : Int32) then
  (some (some (.int (-1 : Int32)), h7))
  else
  (gfV none h7 a0 [11] 0 fun v9 =>
  dD none v9 <|
  dR none v9 fun o10 =>
  gfI none h7 o10 [0] 2 fun x11 =>
  dR none v9 fun o13 =>
  pfI none h7 o13 [0] 2 (x11 ^^^ x8) fun h12 =>
  cI (call d 138 [.int x8] h12) fun x15 h14 =>
  some (some (.int x15), h14)))) :=
  (call_unr p_104 rfl o_104 rfl [] 33 _ h).trans rfl

theorem p_105 : prg 105 = (k_105, 3) := rfl
theorem o_105 : okc k_105 = true := by decide +kernel
set_option maxRecDepth 100000 in
theorem e_105 (d : Nat) (a0 : Nat) (a1 : Int32) (h : MHeap) : call (d + 1) 105 [.ref a0, .int a1] h = (
  cI (call d 133 [.int a1, .int (0 : Int32), .int (9999 : Int32)] h) fun x2 h1 =>
  if x2 = (0 : Int32) then
  (some (some (.int (-2 : Int32)), h1))
  else
  (ex d 105 16 [sv (.ref a0), sv (.int a1), sv (.int (0 : Int32))] [] h1)) :=
  (call_unr p_105 rfl o_105 rfl [16] 14 _ h).trans rfl
set_option maxRecDepth 100000 in
theorem e_105_16 (d : Nat) (a0 : Nat) (a1 : Int32) (a2 : Int32) (h : MHeap) : ex d 105 16 [sv (.ref a0), sv (.int a1), sv (.int a2)] [] h = (
  if a2 < (31 : Int32) then
  (if ((1 : Int32) <<< (a2 &&& 31)) < ((a1 + a2) + (1 : Int32)) then
  (ex d 105 16 [sv (.ref a0), sv (.int a1), sv (.int (a2 + (1 : Int32)))] [] h)
  else
  (some (some (.int a2), h)))
  else
  (some (some (.int a2), h))) :=
  (ex_unr p_105 o_105 [16] 23 rfl _ _ h).trans rfl

theorem p_106 : prg 106 = (k_106, 2) := rfl
theorem o_106 : okc k_106 = true := by decide +kernel
set_option maxRecDepth 100000 in
theorem e_106 (d : Nat) (a0 : Nat) (a1 : Int32) (h : MHeap) : call (d + 1) 106 [.ref a0, .int a1] h = (
  cI (call d 133 [.int a1, .int (1 : Int32), .int (99999 : Int32)] h) fun x2 h1 =>
  if x2 = (0 : Int32) then
  (some (some (.int (-2 : Int32)), h1))
  else
  (cI (call d 260 [.int a1] h1) fun x4 h3 =>
  if x4 = (1 : Int32) then
  (some (some (.int (1 : Int32)), h3))
  else
  (some (some (.int (0 : Int32)), h3)))) :=
  (call_unr p_106 rfl o_106 rfl [] 21 _ h).trans rfl

theorem p_107 : prg 107 = (k_107, 1) := rfl
theorem o_107 : okc k_107 = true := by decide +kernel
set_option maxRecDepth 100000 in
theorem e_107 (d : Nat) (a0 : Nat) (h : MHeap) : call (d + 1) 107 [.ref a0] h = (
  vd none h a0 [11, 150] fun m1 =>
  cI (call d m1 [.ref a0] h) fun x3 h2 =>
  if x3 = (0 : Int32) then
  (some (some (.int (-3 : Int32)), h2))
  else
  (vd none h2 a0 [11, 151] fun m4 =>
  cI (call d m4 [.ref a0] h2) fun x6 h5 =>
  some (some (.int x6), h5))) :=
  (call_unr p_107 rfl o_107 rfl [] 13 _ h).trans rfl

theorem p_108 : prg 108 = (k_108, 2) := rfl
theorem o_108 : okc k_108 = true := by decide +kernel
set_option maxRecDepth 100000 in
theorem e_108 (d : Nat) (a0 : Nat) (a1 : Int32) (h : MHeap) : call (d + 1) 108 [.ref a0, .int a1] h = (
  gfV none h a0 [11] 0 fun v1 =>
  dR none v1 fun o3 =>
  vd none h o3 [0, 5] fun m2 =>
  cI (call d m2 [.ref o3, .int a1] h) fun x5 h4 =>
  if x5 = (0 : Int32) then
  (some (some (.int (-2 : Int32)), h4))
  else
  (vd none h4 a0 [11, 150] fun m6 =>
  cI (call d m6 [.ref a0] h4) fun x8 h7 =>
  if x8 = (0 : Int32) then
  (some (some (.int (-3 : Int32)), h7))
  else
  (vd none h7 a0 [11, 151] fun m9 =>
  cI (call d m9 [.ref a0] h7) fun x11 h10 =>
  some (some (.int (x11 ^^^ a1)), h10)))) :=
  (call_unr p_108 rfl o_108 rfl [] 22 _ h).trans rfl

theorem p_109 : prg 109 = (k_109, 7) := rfl
theorem o_109 : okc k_109 = true := by decide +kernel
set_option maxRecDepth 100000 in
theorem e_109 (d : Nat) (a0 : Nat) (a1 : Int32) (h : MHeap) : call (d + 1) 109 [.ref a0, .int a1] h = (
  cI (call d 133 [.int a1, .int (0 : Int32), .int (2 : Int32)] h) fun x2 h1 =>
  if x2 = (0 : Int32) then
  (some (some (.int (-2 : Int32)), h1))
  else
  (gfV none h1 a0 [11] 0 fun v3 =>
  gfV none h1 a0 [11] 0 fun v4 =>
  dR none v4 fun o5 =>
  gfI none h1 o5 [0] 2 fun x6 =>
  dR none v3 fun o8 =>
  vd none h1 o8 [0, 16] fun m7 =>
  cI (call d m7 [.ref o8, .int x6] h1) fun x10 h9 =>
  ex d 109 32 [sv (.ref a0), sv (.int a1), sv (.int x10), sv (.int (0 : Int32)), sv (.int (0 : Int32)), none, none] [] h9)) :=
  (call_unr p_109 rfl o_109 rfl [32] 23 _ h).trans rfl
set_option maxRecDepth 100000 in
theorem e_109_32 (d : Nat) (a0 : Nat) (a1 : Int32) (a2 : Int32) (a3 : Int32) (a4 : Int32) (a5 : MSl) (a6 : MSl) (h : MHeap) : ex d 109 32 [sv (.ref a0), sv (.int a1), sv (.int a2), sv (.int a3), sv (.int a4), a5, a6] [] h = (
  gfV none h a0 [11] 0 fun v1 =>
  dR none v1 fun o2 =>
  gfI none h o2 [0] 0 fun x3 =>
  if a4 < (x3 - (1 : Int32)) then
  (gfV none h a0 [11] 0 fun v4 =>
  dR none v4 fun o6 =>
  vd none h o6 [0, 7] fun m5 =>
  cI (call d m5 [.ref o6, .int a4, .int (a4 + (1 : Int32))] h) fun x8 h7 =>
  if x8 = (0 : Int32) then
  (ex d 109 32 [sv (.ref a0), sv (.int a1), sv (.int a2), sv (.int a3), sv (.int (a4 + (1 : Int32))), a5, a6] [] h7)
  else
  (gfV none h7 a0 [11] 0 fun v9 =>
  dR none v9 fun o10 =>
  gfI none h7 o10 [0] 2 fun x11 =>
  cI (call d 135 [.int a4] h7) fun x13 h12 =>
  cI (call d 135 [.int (a4 + (1 : Int32))] h12) fun x15 h14 =>
  if a1 = (2 : Int32) then
  (gfV none h14 a0 [11] 0 fun v16 =>
  dR none v16 fun o18 =>
  vd none h14 o18 [0, 21] fun m17 =>
  cI (call d m17 [.ref o18, .int ((x11 ^^^ x13) ^^^ x15)] h14) fun x20 h19 =>
  if x20 = (0 : Int32) then
  (ex d 109 32 [sv (.ref a0), sv (.int a1), sv (.int a2), sv (.int (a3 ||| (0 : Int32))), sv (.int (a4 + (1 : Int32))), sv (.int ((x11 ^^^ x13) ^^^ x15)), sv (.int x20)] [] h19)
  else
  (cI (call d 135 [.int a4] h19) fun x22 h21 =>
  ex d 109 32 [sv (.ref a0), sv (.int a1), sv (.int a2), sv (.int (a3 ||| x22)), sv (.int (a4 + (1 : Int32))), sv (.int ((x11 ^^^ x13) ^^^ x15)), sv (.int x20)] [] h21))
  else
  (gfV none h14 a0 [11] 0 fun v23 =>
  dR none v23 fun o25 =>
  vd none h14 o25 [0, 20] fun m24 =>
  cI (call d m24 [.ref o25, .int ((x11 ^^^ x13) ^^^ x15), .int a2] h14) fun x27 h26 =>
  if a1 = (0 : Int32) then
  (if x27 = (1 : Int32) then
  (if (1 : Int32) = (0 : Int32) then
  (ex d 109 32 [sv (.ref a0), sv (.int a1), sv (.int a2), sv (.int (a3 ||| (0 : Int32))), sv (.int (a4 + (1 : Int32))), sv (.int ((x11 ^^^ x13) ^^^ x15)), sv (.int (1 : Int32))] [] h26)
  else
  (cI (call d 135 [.int a4] h26) fun x29 h28 =>
  ex d 109 32 [sv (.ref a0), sv (.int a1), sv (.int a2), sv (.int (a3 ||| x29)), sv (.int (a4 + (1 : Int32))), sv (.int ((x11 ^^^ x13) ^^^ x15)), sv (.int (1 : Int32))] [] h28))
  else
  (if (0 : Int32) = (0 : Int32) then
  (ex d 109 32 [sv (.ref a0), sv (.int a1), sv (.int a2), sv (.int (a3 ||| (0 : Int32))), sv (.int (a4 + (1 : Int32))), sv (.int ((x11 ^^^ x13) ^^^ x15)), sv (.int (0 : Int32))] [] h26)
  else
  (cI (call d 135 [.int a4] h26) fun x31 h30 =>
  ex d 109 32 [sv (.ref a0), sv (.int a1), sv (.int a2), sv (.int (a3 ||| x31)), sv (.int (a4 + (1 : Int32))), sv (.int ((x11 ^^^ x13) ^^^ x15)), sv (.int (0 : Int32))] [] h30)))
  else
  (if x27 = (0 : Int32) then
  (if (1 : Int32) = (0 : Int32) then
  (ex d 109 32 [sv (.ref a0), sv (.int a1), sv (.int a2), sv (.int (a3 ||| (0 : Int32))), sv (.int (a4 + (1 : Int32))), sv (.int ((x11 ^^^ x13) ^^^ x15)), sv (.int (1 : Int32))] [] h26)
  else
  (cI (call d 135 [.int a4] h26) fun x33 h32 =>
  ex d 109 32 [sv (.ref a0), sv (.int a1), sv (.int a2), sv (.int (a3 ||| x33)), sv (.int (a4 + (1 : Int32))), sv (.int ((x11 ^^^ x13) ^^^ x15)), sv (.int (1 : Int32))] [] h32))
  else
  (if (0 : Int32) = (0 : Int32) then
  (ex d 109 32 [sv (.ref a0), sv (.int a1), sv (.int a2), sv (.int (a3 ||| (0 : Int32))), sv (.int (a4 + (1 : Int32))), sv (.int ((x11 ^^^ x13) ^^^ x15)), sv (.int (0 : Int32))] [] h26)
  else
  (cI (call d 135 [.int a4] h26) fun x35 h34 =>
  ex d 109 32 [sv (.ref a0), sv (.int a1), sv (.int a2), sv (.int (a3 ||| x35)), sv (.int (a4 + (1 : Int32))), sv (.int ((x11 ^^^ x13) ^^^ x15)), sv (.int (0 : Int32))] [] h34))))))
  else
  (some (some (.int a3), h))) :=
  (ex_unr p_109 o_109 [32] 142 rfl _ _ h).trans rfl

theorem p_110 : prg 110 = (k_110, 8) := rfl
theorem o_110 : okc k_110 = true := by decide +kernel
set_option maxRecDepth 100000 in
theorem e_110 (d : Nat) (a0 : Nat) (a1 : Int32) (a2 : Int32) (h : MHeap) : call (d + 1) 110 [.ref a0, .int a1, .int a2] h = (
  gfV none h a0 [11] 0 fun v1 =>
  dR none v1 fun o3 =>
  vd none h o3 [0, 8] fun m2 =>
  cI (call d m2 [.ref o3, .int a1] h) fun x5 h4 =>
  if x5 = (0 : Int32) then
  (some (some (.int (-5 : Int32)), h4))
  else
  (cI (call d 133 [.int a2, .int (0 : Int32), .int (2 : Int32)] h4) fun x7 h6 =>
  if x7 = (0 : Int32) then
  (some (some (.int (-7 : Int32)), h6))
  else
  (gfV none h6 a0 [11] 0 fun v8 =>
  dR none v8 fun o9 =>
  gfI none h6 o9 [0] 2 fun x10 =>
  ex d 110 50 [sv (.ref a0), sv (.int a1), sv (.int a2), sv (.int x5), sv (.int (x10 &&& (x5 ^^^ (-1 : Int32)))), sv (.int (0 : Int32)), sv (.int (-1 : Int32)), sv (.int (0 : Int32))] [] h6))) :=
  (call_unr p_110 rfl o_110 rfl [50] 35 _ h).trans rfl
set_option maxRecDepth 100000 in
theorem e_110_50 (d : Nat) (a0 : Nat) (a1 : Int32) (a2 : Int32) (a3 : Int32) (a4 : Int32) (a5 : Int32) (a6 : Int32) (a7 : Int32) (h : MHeap) : ex d 110 50 [sv (.ref a0), sv (.int a1), sv (.int a2), sv (.int a3), sv (.int a4), sv (.int a5), sv (.int a6), sv (.int a7)] [] h = (
  if a3 < a7 then
  (if a2 = (2 : Int32) then
  (if a5 = (1 : Int32) then
  (gfV none h a0 [11] 0 fun v1 =>
  dR none v1 fun o2 =>
  gfI none h o2 [0] 2 fun x3 =>
  if a6 = (x3 &&& a3) then
  (some (some (.int (1 : Int32)), h))
  else
  (some (some (.int (0 : Int32)), h)))
  else
  (some (some (.int (0 : Int32)), h)))
  else
  (if a2 = (0 : Int32) then
  (some (some (.int a5), h))
  else
  (some (some (.int a6), h))))
  else
  (if (a7 &&& (a3 ^^^ (-1 : Int32))) = (0 : Int32) then
  (gfV none h a0 [11] 0 fun v4 =>
  dR none v4 fun o6 =>
  vd none h o6 [0, 21] fun m5 =>
  cI (call d m5 [.ref o6, .int (a4 ||| a7)] h) fun x8 h7 =>
  if x8 = (0 : Int32) then
  (ex d 110 50 [sv (.ref a0), sv (.int a1), sv (.int a2), sv (.int a3), sv (.int a4), sv (.int a5), sv (.int a6), sv (.int (a7 + (1 : Int32)))] [] h7)
  else
  (if a5 = (0 : Int32) then
  (ex d 110 50 [sv (.ref a0), sv (.int a1), sv (.int a2), sv (.int a3), sv (.int a4), sv (.int (a5 + (1 : Int32))), sv (.int a7), sv (.int (a7 + (1 : Int32)))] [] h7)
  else
  (ex d 110 50 [sv (.ref a0), sv (.int a1), sv (.int a2), sv (.int a3), sv (.int a4), sv (.int (a5 + (1 : Int32))), sv (.int a6), sv (.int (a7 + (1 : Int32)))] [] h7)))
  else
  (ex d 110 50 [sv (.ref a0), sv (.int a1), sv (.int a2), sv (.int a3), sv (.int a4), sv (.int a5), sv (.int a6), sv (.int (a7 + (1 : Int32)))] [] h))) :=
  (ex_unr p_110 o_110 [50] 65 rfl _ _ h).trans rfl

theorem p_111 : prg 111 = (k_111, 2) := rfl
theorem o_111 : okc k_111 = true := by decide +kernel
set_option maxRecDepth 100000 in
theorem e_111 (d : Nat) (a0 : Nat) (a1 : Int32) (h : MHeap) : call (d + 1) 111 [.ref a0, .int a1] h = (
  gfV none h a0 [11] 0 fun v1 =>
  dR none v1 fun o2 =>
  gfI none h o2 [0] 0 fun x3 =>
  cI (call d 133 [.int a1, .int (0 : Int32), .int (x3 - (1 : Int32))] h) fun x5 h4 =>
  if x5 = (0 : Int32) then
  (some (some (.int (-2 : Int32)), h4))
  else
  (gfV none h4 a0 [11] 0 fun v6 =>
  gfV none h4 a0 [11] 0 fun v7 =>
  dR none v7 fun o9 =>
  vd none h4 o9 [0, 9] fun m8 =>
  cI (call d m8 [.ref o9, .int a1] h4) fun x11 h10 =>
  dR none v6 fun o13 =>
  pfI none h10 o13 [0] 2 x11 fun h12 =>
  gfV none h12 a0 [11] 0 fun v14 =>
  dR none v14 fun o15 =>
  gfI none h12 o15 [0] 2 fun x16 =>
  some (some (.int x16), h12))) :=
  (call_unr p_111 rfl o_111 rfl [] 27 _ h).trans rfl

theorem p_112 : prg 112 = (k_112, 7) := rfl
theorem o_112 : okc k_112 = true := by decide +kernel
set_option maxRecDepth 100000 in
theorem e_112 (d : Nat) (a0 : Nat) (a1 : Int32) (h : MHeap) : call (d + 1) 112 [.ref a0, .int a1] h = (
  cI (call d 133 [.int a1, .int (0 : Int32), .int (2 : Int32)] h) fun x2 h1 =>
  if x2 = (0 : Int32) then
  (some (some (.int (-2 : Int32)), h1))
  else
  (gfV none h1 a0 [11] 0 fun v3 =>
  gfV none h1 a0 [11] 0 fun v4 =>
  dR none v4 fun o5 =>
  gfI none h1 o5 [0] 2 fun x6 =>
  dR none v3 fun o8 =>
  vd none h1 o8 [0, 16] fun m7 =>
  cI (call d m7 [.ref o8, .int x6] h1) fun x10 h9 =>
  ex d 112 32 [sv (.ref a0), sv (.int a1), sv (.int x10), sv (.int (0 : Int32)), sv (.int (1 : Int32)), none, none] [] h9)) :=
  (call_unr p_112 rfl o_112 rfl [32] 23 _ h).trans rfl
set_option maxRecDepth 100000 in
theorem e_112_32 (d : Nat) (a0 : Nat) (a1 : Int32) (a2 : Int32) (a3 : Int32) (a4 : Int32) (a5 : MSl) (a6 : MSl) (h : MHeap) : ex d 112 32 [sv (.ref a0), sv (.int a1), sv (.int a2), sv (.int a3), sv (.int a4), a5, a6] [] h = (
  gfV none h a0 [11] 0 fun v1 =>
  dR none v1 fun o2 =>
  gfI none h o2 [0] 0 fun x3 =>
  if a4 < x3 then
  (gfV none h a0 [11] 0 fun v4 =>
  dR none v4 fun o6 =>
  vd none h o6 [0, 9] fun m5 =>
  cI (call d m5 [.ref o6, .int a4] h) fun x8 h7 =>
  if a1 = (2 : Int32) then
  (gfV none h7 a0 [11] 0 fun v9 =>
  dR none v9 fun o10 =>
  gfI none h7 o10 [0] 2 fun x11 =>
  if x8 = x11 then
  (if (1 : Int32) = (0 : Int32) then
  (ex d 112 32 [sv (.ref a0), sv (.int a1), sv (.int a2), sv (.int (a3 ||| (0 : Int32))), sv (.int (a4 + (1 : Int32))), sv (.int x8), sv (.int (1 : Int32))] [] h7)
  else
  (cI (call d 135 [.int a4] h7) fun x13 h12 =>
  ex d 112 32 [sv (.ref a0), sv (.int a1), sv (.int a2), sv (.int (a3 ||| x13)), sv (.int (a4 + (1 : Int32))), sv (.int x8), sv (.int (1 : Int32))] [] h12))
  else
  (if (0 : Int32) = (0 : Int32) then
  (ex d 112 32 [sv (.ref a0), sv (.int a1), sv (.int a2), sv (.int (a3 ||| (0 : Int32))), sv (.int (a4 + (1 : Int32))), sv (.int x8), sv (.int (0 : Int32))] [] h7)
  else
  (cI (call d 135 [.int a4] h7) fun x15 h14 =>
  ex d 112 32 [sv (.ref a0), sv (.int a1), sv (.int a2), sv (.int (a3 ||| x15)), sv (.int (a4 + (1 : Int32))), sv (.int x8), sv (.int (0 : Int32))] [] h14)))
  else
  (gfV none h7 a0 [11] 0 fun v16 =>
  if a1 = (0 : Int32) then
  (dR none v16 fun o18 =>
  vd none h7 o18 [0, 20] fun m17 =>
  cI (call d m17 [.ref o18, .int x8, .int a2] h7) fun x20 h19 =>
  if x20 = (0 : Int32) then
  (ex d 112 32 [sv (.ref a0), sv (.int a1), sv (.int a2), sv (.int (a3 ||| (0 : Int32))), sv (.int (a4 + (1 : Int32))), sv (.int x8), sv (.int x20)] [] h19)
  else
  (cI (call d 135 [.int a4] h19) fun x22 h21 =>
  ex d 112 32 [sv (.ref a0), sv (.int a1), sv (.int a2), sv (.int (a3 ||| x22)), sv (.int (a4 + (1 : Int32))), sv (.int x8), sv (.int x20)] [] h21))
  else
  (dR none v16 fun o24 =>
  vd none h7 o24 [0, 20] fun m23 =>
  cI (call d m23 [.ref o24, .int x8, .int (0 : Int32)] h7) fun x26 h25 =>
  if x26 = (0 : Int32) then
  (ex d 112 32 [sv (.ref a0), sv (.int a1), sv (.int a2), sv (.int (a3 ||| (0 : Int32))), sv (.int (a4 + (1 : Int32))), sv (.int x8), sv (.int x26)] [] h25)
  else
  (cI (call d 135 [.int a4] h25) fun x28 h27 =>
  ex d 112 32 [sv (.ref a0), sv (.int a1), sv (.int a2), sv (.int (a3 ||| x28)), sv (.int (a4 + (1 : Int32))), sv (.int x8), sv (.int x26)] [] h27))))
  else
  (some (some (.int a3), h))) :=
  (ex_unr p_112 o_112 [32] 103 rfl _ _ h).trans rfl

theorem p_113 : prg 113 = (k_113, 3) := rfl
theorem o_113 : okc k_113 = true := by decide +kernel
set_option maxRecDepth 100000 in
theorem e_113 (d : Nat) (a0 : Nat) (a1 : Int32) (a2 : Int32) (h : MHeap) : call (d + 1) 113 [.ref a0, .int a1, .int a2] h = (
  gfV none h a0 [11] 0 fun v1 =>
  dR none v1 fun o3 =>
  vd none h o3 [0, 5] fun m2 =>
  cI (call d m2 [.ref o3, .int a1] h) fun x5 h4 =>
  if x5 = (0 : Int32) then
  (some (some (.int (-5 : Int32)), h4))
  else
  (gfV none h4 a0 [11] 0 fun v6 =>
  dR none v6 fun o8 =>
  vd none h4 o8 [0, 5] fun m7 =>
  cI (call d m7 [.ref o8, .int a2] h4) fun x10 h9 =>
  if x10 = (0 : Int32) then
  (some (some (.int (-5 : Int32)), h9))
  else
  (gfV none h9 a0 [11] 0 fun v11 =>
  gfV none h9 a0 [11] 0 fun v12 =>
  dR none v12 fun o14 =>
  vd none h9 o14 [0, 10] fun m13 =>
  cI (call d m13 [.ref o14, .int a1, .int a2] h9) fun x16 h15 =>
  dR none v11 fun o18 =>
  pfI none h15 o18 [0] 2 x16 fun h17 =>
  gfV none h17 a0 [11] 0 fun v19 =>
  dR none v19 fun o20 =>
  gfI none h17 o20 [0] 2 fun x21 =>
  some (some (.int x21), h17)))) :=
  (call_unr p_113 rfl o_113 rfl [] 31 _ h).trans rfl

theorem p_114 : prg 114 = (k_114, 7) := rfl
theorem o_114 : okc k_114 = true := by decide +kernel
set_option maxRecDepth 100000 in
theorem e_114 (d : Nat) (a0 : Nat) (a1 : Int32) (h : MHeap) : call (d + 1) 114 [.ref a0, .int a1] h = (
  cI (call d 133 [.int a1, .int (0 : Int32), .int (1 : Int32)] h) fun x2 h1 =>
  if x2 = (0 : Int32) then
  (some (some (.int (-2 : Int32)), h1))
  else
  (gfV none h1 a0 [11] 0 fun v3 =>
  gfV none h1 a0 [11] 0 fun v4 =>
  dR none v4 fun o5 =>
  gfI none h1 o5 [0] 2 fun x6 =>
  dR none v3 fun o8 =>
  vd none h1 o8 [0, 16] fun m7 =>
  cI (call d m7 [.ref o8, .int x6] h1) fun x10 h9 =>
  ex d 114 32 [sv (.ref a0), sv (.int a1), sv (.int x10), sv (.int (0 : Int32)), sv (.int (0 : Int32)), none, none] [] h9)) :=
  (call_unr p_114 rfl o_114 rfl [32, 47] 23 _ h).trans rfl
set_option maxRecDepth 100000 in
theorem e_114_32 (d : Nat) (a0 : Nat) (a1 : Int32) (a2 : Int32) (a3 : Int32) (a4 : Int32) (a5 : MSl) (a6 : MSl) (h : MHeap) : ex d 114 32 [sv (.ref a0), sv (.int a1), sv (.int a2), sv (.int a3), sv (.int a4), a5, a6] [] h = (
  gfV none h a0 [11] 0 fun v1 =>
  dR none v1 fun o2 =>
  gfI none h o2 [0] 0 fun x3 =>
  if a4 < x3 then
  (ex d 114 47 [sv (.ref a0), sv (.int a1), sv (.int a2), sv (.int a3), sv (.int a4), sv (.int (0 : Int32)), a6] [] h)
  else
  (some (some (.int a3), h))) :=
  (ex_unr p_114 o_114 [32, 47] 14 rfl _ _ h).trans rfl
set_option maxRecDepth 100000 in
theorem e_114_47 (d : Nat) (a0 : Nat) (a1 : Int32) (a2 : Int32) (a3 : Int32) (a4 : Int32) (a5 : Int32) (a6 : MSl) (h : MHeap) : ex d 114 47 [sv (.ref a0), sv (.int a1), sv (.int a2), sv (.int a3), sv (.int a4), sv (.int a5), a6] [] h = (
  gfV none h a0 [11] 0 fun v1 =>
  dR none v1 fun o2 =>
  gfI none h o2 [0] 0 fun x3 =>
  if a5 < x3 then
  (gfV none h a0 [11] 0 fun v4 =>
  dR none v4 fun o6 =>
  vd none h o6 [0, 10] fun m5 =>
  cI (call d m5 [.ref o6, .int a4, .int a5] h) fun x8 h7 =>
  gfV none h7 a0 [11] 0 fun v9 =>
  dR none v9 fun o10 =>
  gfI none h7 o10 [0] 2 fun x11 =>
  if x8 = x11 then
  (ex d 114 47 [sv (.ref a0), sv (.int a1), sv (.int a2), sv (.int a3), sv (.int a4), sv (.int (a5 + (1 : Int32))), sv (.int x8)] [] h7)
  else
  (gfV none h7 a0 [11] 0 fun v12 =>
  dR none v12 fun o14 =>
  vd none h7 o14 [0, 20] fun m13 =>
  cI (call d m13 [.ref o14, .int x8, .int a2] h7) fun x16 h15 =>
  if a1 = (1 : Int32) then
  (if x16 = (1 : Int32) then
  (ex d 114 47 [sv (.ref a0), sv (.int a1), sv (.int a2), sv (.int (a3 + (1 : Int32))), sv (.int a4), sv (.int (a5 + (1 : Int32))), sv (.int x8)] [] h15)
  else
  (ex d 114 47 [sv (.ref a0), sv (.int a1), sv (.int a2), sv (.int a3), sv (.int a4), sv (.int (a5 + (1 : Int32))), sv (.int x8)] [] h15))
  else
  (if x16 = (0 : Int32) then
  (ex d 114 47 [sv (.ref a0), sv (.int a1), sv (.int a2), sv (.int (a3 + (1 : Int32))), sv (.int a4), sv (.int (a5 + (1 : Int32))), sv (.int x8)] [] h15)
  else
  (ex d 114 47 [sv (.ref a0), sv (.int a1), sv (.int a2), sv (.int a3), sv (.int a4), sv (.int (a5 + (1 : Int32))), sv (.int x8)] [] h15))))
  else
  (ex d 114 32 [sv (.ref a0), sv (.int a1), sv (.int a2), sv (.int a3), sv (.int (a4 + (1 : Int32))), sv (.int a5), a6] [] h)) :=
  (ex_unr p_114 o_114 [32, 47] 48 rfl _ _ h).trans rfl

theorem p_115 : prg 115 = (k_115, 2) := rfl
theorem o_115 : okc k_115 = true := by decide +kernel
set_option maxRecDepth 100000 in
theorem e_115 (d : Nat) (a0 : Nat) (a1 : Int32) (h : MHeap) : call (d + 1) 115 [.ref a0, .int a1] h = (
  vd none h a0 [11, 152] fun m1 =>
  cV (call d m1 [.ref a0] h) fun h2 =>
  if a1 = (0 : Int32) then
  (vd none h2 a0 [11, 153] fun m3 =>
  cI (call d m3 [.ref a0] h2) fun x5 h4 =>
  some (some (.int x5), h4))
  else
  (if a1 = (1 : Int32) then
  (vd none h2 a0 [11, 153] fun m6 =>
  cI (call d m6 [.ref a0] h2) fun x8 h7 =>
  vd none h7 a0 [11, 154] fun m9 =>
  cI (call d m9 [.ref a0, .int x8] h7) fun x11 h10 =>
  some (some (.int x11), h10))
  else
  (if a1 = (2 : Int32) then
  (vd none h2 a0 [11, 155] fun m12 =>
  cI (call d m12 [.ref a0] h2) fun x14 h13 =>
  some (some (.int x14), h13))
  else
  (some (some (.int (-2 : Int32)), h2))))) :=
  (call_unr p_115 rfl o_115 rfl [] 22 _ h).trans rfl

theorem p_116 : prg 116 = (k_116, 3) := rfl
theorem o_116 : okc k_116 = true := by decide +kernel
set_option maxRecDepth 100000 in
theorem e_116 (d : Nat) (a0 : Nat) (a1 : Int32) (h : MHeap) : call (d + 1) 116 [.ref a0, .int a1] h = (
  vd none h a0 [11, 152] fun m1 =>
  cV (call d m1 [.ref a0] h) fun h2 =>
  vd none h2 a0 [11, 153] fun m3 =>
  cI (call d m3 [.ref a0] h2) fun x5 h4 =>
  cI (call d 133 [.int a1, .int (0 : Int32), .int (1 : Int32)] h4) fun x7 h6 =>
  if x7 = (0 : Int32) then
  (some (some (.long (-4611686018427387904 : Int64)), h6))
  else
  (if x5 = (-1 : Int32) then
  (some (some (.long (-4611686018427387904 : Int64)), h6))
  else
  (vd none h6 a0 [11, 154] fun m8 =>
  cI (call d m8 [.ref a0, .int x5] h6) fun x10 h9 =>
  vd none h9 a0 [11, 155] fun m11 =>
  cI (call d m11 [.ref a0] h9) fun x13 h12 =>
  cJ (call d 142 [.int x10, .int x13, .int a1] h12) fun y15 h14 =>
  some (some (.long y15), h14)))) :=
  (call_unr p_116 rfl o_116 rfl [] 30 _ h).trans rfl

theorem p_117 : prg 117 = (k_117, 9) := rfl
theorem o_117 : okc k_117 = true := by decide +kernel
set_option maxRecDepth 100000 in
theorem e_117 (d : Nat) (a0 : Nat) (a1 : Int32) (h : MHeap) : call (d + 1) 117 [.ref a0, .int a1] h = (
  cI (call d 133 [.int a1, .int (0 : Int32), .int (1 : Int32)] h) fun x2 h1 =>
  if x2 = (0 : Int32) then
  (some (some (.int (-2 : Int32)), h1))
  else
  (gfV none h1 a0 [11] 0 fun v3 =>
  dR none v3 fun o4 =>
  gfI none h1 o4 [0] 2 fun x5 =>
  vd none h1 a0 [11, 144] fun m6 =>
  cI (call d m6 [.ref a0, .int x5] h1) fun x8 h7 =>
  gfV none h7 a0 [11] 0 fun v9 =>
  dR none v9 fun o11 =>
  vd none h7 o11 [0, 19] fun m10 =>
  cI (call d m10 [.ref o11] h7) fun x13 h12 =>
  ex d 117 44 [sv (.ref a0), sv (.int a1), sv (.int x8), sv (.int x13), sv (.int (-1 : Int32)), sv (.int (0 : Int32)), sv (.int (0 : Int32)), sv (.int (0 : Int32)), none] [] h12)) :=
  (call_unr p_117 rfl o_117 rfl [44] 30 _ h).trans rfl
set_option maxRecDepth 100000 in
theorem e_117_44 (d : Nat) (a0 : Nat) (a1 : Int32) (a2 : Int32) (a3 : Int32) (a4 : Int32) (a5 : Int32) (a6 : Int32) (a7 : Int32) (a8 : MSl) (h : MHeap) : ex d 117 44 [sv (.ref a0), sv (.int a1), sv (.int a2), sv (.int a3), sv (.int a4), sv (.int a5), sv (.int a6), sv (.int a7), a8] [] h = (
  gfV none h a0 [11] 0 fun v1 =>
  dR none v1 fun o2 =>
  gfI none h o2 [0] 0 fun x3 =>
  if a7 < x3 then
  (cI (call d 137 [.int a2, .int a7] h) fun x5 h4 =>
  if x5 = (0 : Int32) then
  (ex d 117 44 [sv (.ref a0), sv (.int a1), sv (.int a2), sv (.int a3), sv (.int a4), sv (.int a5), sv (.int a6), sv (.int (a7 + (1 : Int32))), a8] [] h4)
  else
  (vd none h4 a0 [11, 143] fun m6 =>
  cI (call d m6 [.ref a0, .int (2 : Int32), .int a7, .int a3] h4) fun x8 h7 =>
  if a4 = (-1 : Int32) then
  (ex d 117 44 [sv (.ref a0), sv (.int a1), sv (.int a2), sv (.int a3), sv (.int a7), sv (.int x8), sv (.int (a6 + x8)), sv (.int (a7 + (1 : Int32))), sv (.int x8)] [] h7)
  else
  (if x8 < a5 then
  (ex d 117 44 [sv (.ref a0), sv (.int a1), sv (.int a2), sv (.int a3), sv (.int a7), sv (.int x8), sv (.int (a6 + x8)), sv (.int (a7 + (1 : Int32))), sv (.int x8)] [] h7)
  else
  (ex d 117 44 [sv (.ref a0), sv (.int a1), sv (.int a2), sv (.int a3), sv (.int a4), sv (.int a5), sv (.int (a6 + x8)), sv (.int (a7 + (1 : Int32))), sv (.int x8)] [] h7))))
  else
  (if a1 = (0 : Int32) then
  (some (some (.int a4), h))
  else
  (some (some (.int a6), h)))) :=
  (ex_unr p_117 o_117 [44] 53 rfl _ _ h).trans rfl

theorem p_118 : prg 118 = (k_118, 3) := rfl
theorem o_118 : okc k_118 = true := by decide +kernel
set_option maxRecDepth 100000 in
theorem e_118 (d : Nat) (a0 : Nat) (h : MHeap) : call (d + 1) 118 [.ref a0] h = (
  gfV none h a0 [11] 0 fun v1 =>
  dR none v1 fun o2 =>
  gfI none h o2 [0] 2 fun x3 =>
  vd none h a0 [11, 149] fun m4 =>
  cI (call d m4 [.ref a0, .int x3] h) fun x6 h5 =>
  ex d 118 14 [sv (.ref a0), sv (.int x6), sv (.int (0 : Int32))] [] h5) :=
  (call_unr p_118 rfl o_118 rfl [14] 13 _ h).trans rfl
set_option maxRecDepth 100000 in
theorem e_118_14 (d : Nat) (a0 : Nat) (a1 : Int32) (a2 : Int32) (h : MHeap) : ex d 118 14 [sv (.ref a0), sv (.int a1), sv (.int a2)] [] h = (
  gfV none h a0 [11] 0 fun v1 =>
  dR none v1 fun o2 =>
  gfI none h o2 [0] 0 fun x3 =>
  if a2 < x3 then
  (gfV none h a0 [11] 0 fun v4 =>
  dR none v4 fun o5 =>
  gfI none h o5 [0] 2 fun x6 =>
  cI (call d 135 [.int a2] h) fun x8 h7 =>
  vd none h7 a0 [11, 149] fun m9 =>
  cI (call d m9 [.ref a0, .int (x6 ^^^ x8)] h7) fun x11 h10 =>
  ex d 118 14 [sv (.ref a0), sv (.int (a1 ||| x11)), sv (.int (a2 + (1 : Int32)))] [] h10)
  else
  (some (some (.int a1), h))) :=
  (ex_unr p_118 o_118 [14] 25 rfl _ _ h).trans rfl

theorem p_119 : prg 119 = (k_119, 5) := rfl
theorem o_119 : okc k_119 = true := by decide +kernel
set_option maxRecDepth 100000 in
theorem e_119 (d : Nat) (a0 : Nat) (h : MHeap) : call (d + 1) 119 [.ref a0] h = (
  gfV none h a0 [11] 0 fun v1 =>
  gfV none h a0 [11] 0 fun v2 =>
  dR none v2 fun o3 =>
  gfI none h o3 [0] 2 fun x4 =>
  dR none v1 fun o6 =>
  vd none h o6 [0, 16] fun m5 =>
  cI (call d m5 [.ref o6, .int x4] h) fun x8 h7 =>
  gfV none h7 a0 [11] 0 fun v9 =>
  dR none v9 fun o11 =>
  vd none h7 o11 [0, 15] fun m10 =>
  cI (call d m10 [.ref o11] h7) fun x13 h12 =>
  ex d 119 25 [sv (.ref a0), sv (.int x8), sv (.int x13), sv (.int (0 : Int32)), none] [] h12) :=
  (call_unr p_119 rfl o_119 rfl [25] 18 _ h).trans rfl
set_option maxRecDepth 100000 in
theorem e_119_25 (d : Nat) (a0 : Nat) (a1 : Int32) (a2 : Int32) (a3 : Int32) (a4 : MSl) (h : MHeap) : ex d 119 25 [sv (.ref a0), sv (.int a1), sv (.int a2), sv (.int a3), a4] [] h = (
  gfV none h a0 [11] 0 fun v1 =>
  dR none v1 fun o3 =>
  vd none h o3 [0, 4] fun m2 =>
  cI (call d m2 [.ref o3] h) fun x5 h4 =>
  if x5 < a3 then
  (some (some (.int a2), h4))
  else
  (gfV none h4 a0 [11] 0 fun v6 =>
  dR none v6 fun o8 =>
  vd none h4 o8 [0, 17] fun m7 =>
  cI (call d m7 [.ref o8, .int a3, .int a1] h4) fun x10 h9 =>
  cI (call d 260 [.int x10] h9) fun x12 h11 =>
  if x12 = (1 : Int32) then
  (ex d 119 25 [sv (.ref a0), sv (.int a1), sv (.int (a2 &&& (x10 ^^^ (-1 : Int32)))), sv (.int (a3 + (1 : Int32))), sv (.int x10)] [] h11)
  else
  (ex d 119 25 [sv (.ref a0), sv (.int a1), sv (.int a2), sv (.int (a3 + (1 : Int32))), sv (.int x10)] [] h11))) :=
  (ex_unr p_119 o_119 [25] 32 rfl _ _ h).trans rfl

theorem p_120 : prg 120 = (k_120, 3) := rfl
theorem o_120 : okc k_120 = true := by decide +kernel
set_option maxRecDepth 100000 in
theorem e_120 (d : Nat) (a0 : Nat) (a1 : Int32) (h : MHeap) : call (d + 1) 120 [.ref a0, .int a1] h = (
  vd none h a0 [11, 157] fun m1 =>
  cI (call d m1 [.ref a0, .int a1] h) fun x3 h2 =>
  if x3 = (0 : Int32) then
  (gfV none h2 a0 [11] 0 fun v4 =>
  gfV none h2 a0 [11] 0 fun v5 =>
  dR none v5 fun o6 =>
  gfI none h2 o6 [0] 2 fun x7 =>
  vd none h2 a0 [11, 158] fun m8 =>
  cI (call d m8 [.ref a0, .int a1] h2) fun x10 h9 =>
  dR none v4 fun o12 =>
  vd none h9 o12 [0, 17] fun m11 =>
  cI (call d m11 [.ref o12, .int x7, .int x10] h9) fun x14 h13 =>
  cI (call d 139 [.int x14] h13) fun x16 h15 =>
  some (some (.int x16), h15))
  else
  (some (some (.int x3), h2))) :=
  (call_unr p_120 rfl o_120 rfl [] 24 _ h).trans rfl

theorem p_121 : prg 121 = (k_121, 10) := rfl
theorem o_121 : okc k_121 = true := by decide +kernel
set_option maxRecDepth 100000 in
theorem e_121 (d : Nat) (a0 : Nat) (a1 : Int32) (a2 : Int32) (h : MHeap) : call (d + 1) 121 [.ref a0, .int a1, .int a2] h = (
  vd none h a0 [11, 157] fun m1 =>
  cI (call d m1 [.ref a0, .int a1] h) fun x3 h2 =>
  if x3 = (0 : Int32) then
  (cI (call d 133 [.int a2, .int (0 : Int32), .int (3 : Int32)] h2) fun x5 h4 =>
  if x5 = (0 : Int32) then
  (some (some (.int (-7 : Int32)), h4))
  else
  (vd none h4 a0 [11, 158] fun m6 =>
  cI (call d m6 [.ref a0, .int a1] h4) fun x8 h7 =>
  gfV none h7 a0 [11] 0 fun v9 =>
  dR none v9 fun o11 =>
  vd none h7 o11 [0, 4] fun m10 =>
  cI (call d m10 [.ref o11] h7) fun x13 h12 =>
  ex d 121 52 [sv (.ref a0), sv (.int a1), sv (.int a2), sv (.int x3), sv (.int x8), sv (.int (0 : Int32)), sv (.int (-1 : Int32)), sv (.int x13), sv (.int (0 : Int32)), sv (.int (0 : Int32))] [] h12))
  else
  (some (some (.int x3), h2))) :=
  (call_unr p_121 rfl o_121 rfl [52] 36 _ h).trans rfl
set_option maxRecDepth 100000 in
theorem e_121_52 (d : Nat) (a0 : Nat) (a1 : Int32) (a2 : Int32) (a3 : Int32) (a4 : Int32) (a5 : Int32) (a6 : Int32) (a7 : Int32) (a8 : Int32) (a9 : Int32) (h : MHeap) : ex d 121 52 [sv (.ref a0), sv (.int a1), sv (.int a2), sv (.int a3), sv (.int a4), sv (.int a5), sv (.int a6), sv (.int a7), sv (.int a8), sv (.int a9)] [] h = (
  gfV none h a0 [11] 0 fun v1 =>
  dR none v1 fun o3 =>
  vd none h o3 [0, 4] fun m2 =>
  cI (call d m2 [.ref o3] h) fun x5 h4 =>
  if x5 < a9 then
  (if a2 = (0 : Int32) then
  (some (some (.int a5), h4))
  else
  (if a2 = (1 : Int32) then
  (some (some (.int a6), h4))
  else
  (if a2 = (2 : Int32) then
  (if a5 = (0 : Int32) then
  (some (some (.int (0 : Int32)), h4))
  else
  (some (some (.int a7), h4)))
  else
  (some (some (.int a8), h4)))))
  else
  (gfV none h4 a0 [11] 0 fun v6 =>
  dR none v6 fun o8 =>
  vd none h4 o8 [0, 20] fun m7 =>
  cI (call d m7 [.ref o8, .int a9, .int a4] h4) fun x10 h9 =>
  if x10 = (0 : Int32) then
  (ex d 121 52 [sv (.ref a0), sv (.int a1), sv (.int a2), sv (.int a3), sv (.int a4), sv (.int a5), sv (.int a6), sv (.int a7), sv (.int a8), sv (.int (a9 + (1 : Int32)))] [] h9)
  else
  (if a5 = (0 : Int32) then
  (ex d 121 52 [sv (.ref a0), sv (.int a1), sv (.int a2), sv (.int a3), sv (.int a4), sv (.int (a5 + (1 : Int32))), sv (.int a9), sv (.int (a7 &&& a9)), sv (.int (a8 ||| a9)), sv (.int (a9 + (1 : Int32)))] [] h9)
  else
  (ex d 121 52 [sv (.ref a0), sv (.int a1), sv (.int a2), sv (.int a3), sv (.int a4), sv (.int (a5 + (1 : Int32))), sv (.int a6), sv (.int (a7 &&& a9)), sv (.int (a8 ||| a9)), sv (.int (a9 + (1 : Int32)))] [] h9)))) :=
  (ex_unr p_121 o_121 [52] 62 rfl _ _ h).trans rfl

theorem p_122 : prg 122 = (k_122, 6) := rfl
theorem o_122 : okc k_122 = true := by decide +kernel
set_option maxRecDepth 100000 in
theorem e_122 (d : Nat) (a0 : Nat) (a1 : Int32) (a2 : Int32) (a3 : Int32) (h : MHeap) : call (d + 1) 122 [.ref a0, .int a1, .int a2, .int a3] h = (
  vd none h a0 [11, 157] fun m1 =>
  cI (call d m1 [.ref a0, .int a1] h) fun x3 h2 =>
  if x3 = (0 : Int32) then
  (gfV none h2 a0 [11] 0 fun v4 =>
  dR none v4 fun o6 =>
  vd none h2 o6 [0, 6] fun m5 =>
  cI (call d m5 [.ref o6, .int a2] h2) fun x8 h7 =>
  if x8 = (0 : Int32) then
  (some (some (.int (-7 : Int32)), h7))
  else
  (cI (call d 133 [.int a3, .int (0 : Int32), .int (1 : Int32)] h7) fun x10 h9 =>
  if x10 = (0 : Int32) then
  (some (some (.int (-7 : Int32)), h9))
  else
  (vd none h9 a0 [11, 158] fun m11 =>
  cI (call d m11 [.ref a0, .int a1] h9) fun x13 h12 =>
  vd none h12 a0 [11, 145] fun m14 =>
  cI (call d m14 [.ref a0, .int (0 : Int32), .int a2, .int x13] h12) fun x16 h15 =>
  if a3 = (0 : Int32) then
  (cI (call d 138 [.int x16] h15) fun x18 h17 =>
  some (some (.int x18), h17))
  else
  (some (some (.int x16), h15)))))
  else
  (some (some (.int x3), h2))) :=
  (call_unr p_122 rfl o_122 rfl [] 43 _ h).trans rfl

theorem p_123 : prg 123 = (k_123, 5) := rfl
theorem o_123 : okc k_123 = true := by decide +kernel
set_option maxRecDepth 100000 in
theorem e_123 (d : Nat) (a0 : Nat) (a1 : Int32) (h : MHeap) : call (d + 1) 123 [.ref a0, .int a1] h = (
  vd none h a0 [11, 156] fun m1 =>
  cR (call d m1 [.ref a0, .int a1] h) fun v3 h2 =>
  dA none v3 <|
  dA none v3 <|
  dN none v3 (
  some (some (.int (-2 : Int32)), h2)) (
  dA none v3 <|
  gfV none h2 a0 [11] 0 fun v4 =>
  dR none v4 fun o5 =>
  gfI none h2 o5 [0] 3 fun x6 =>
  dR none v3 fun o8 =>
  vd none h2 o8 [7, 46] fun m7 =>
  cV (call d m7 [.ref o8, .int (2 : Int32), .int x6] h2) fun h9 =>
  gfV none h9 a0 [11] 0 fun v10 =>
  gfV none h9 a0 [11] 0 fun v11 =>
  dR none v11 fun o12 =>
  gfI none h9 o12 [0] 2 fun x13 =>
  dR none v10 fun o15 =>
  vd none h9 o15 [0, 16] fun m14 =>
  cI (call d m14 [.ref o15, .int x13] h9) fun x17 h16 =>
  ex d 123 43 [sv (.ref a0), sv (.int a1), sv v3, sv (.int x17), sv (.int (0 : Int32))] [] h16)) :=
  (call_unr p_123 rfl o_123 rfl [43] 28 _ h).trans rfl
set_option maxRecDepth 100000 in
theorem e_123_43 (d : Nat) (a0 : Nat) (a1 : Int32) (a2 : Value) (a3 : Int32) (a4 : Int32) (h : MHeap) : ex d 123 43 [sv (.ref a0), sv (.int a1), sv a2, sv (.int a3), sv (.int a4)] [] h = (
  gfV none h a0 [11] 0 fun v1 =>
  dR none v1 fun o2 =>
  gfI none h o2 [0] 3 fun x3 =>
  if a4 < x3 then
  (dA none a2 <|
  cI (call d 140 [.int a3, .int a4] h) fun x5 h4 =>
  dR none a2 fun o7 =>
  vd none h4 o7 [7, 49] fun m6 =>
  cV (call d m6 [.ref o7, .int a4, .int x5] h4) fun h8 =>
  ex d 123 43 [sv (.ref a0), sv (.int a1), sv a2, sv (.int a3), sv (.int (a4 + (1 : Int32)))] [] h8)
  else
  (gfV none h a0 [11] 0 fun v9 =>
  dR none v9 fun o10 =>
  gfI none h o10 [0] 3 fun x11 =>
  some (some (.int x11), h))) :=
  (ex_unr p_123 o_123 [43] 22 rfl _ _ h).trans rfl

theorem p_124 : prg 124 = (k_124, 4) := rfl
theorem o_124 : okc k_124 = true := by decide +kernel
set_option maxRecDepth 100000 in
theorem e_124 (d : Nat) (a0 : Nat) (a1 : Int32) (a2 : Int32) (h : MHeap) : call (d + 1) 124 [.ref a0, .int a1, .int a2] h = (
  cI (call d 133 [.int a1, .int (0 : Int32), .int (99999 : Int32)] h) fun x2 h1 =>
  if x2 = (0 : Int32) then
  (some (some (.int (-2 : Int32)), h1))
  else
  (cI (call d 133 [.int a2, .int (0 : Int32), .int (1 : Int32)] h1) fun x4 h3 =>
  if x4 = (0 : Int32) then
  (some (some (.int (-2 : Int32)), h3))
  else
  (vd none h3 a0 [11, 159] fun m5 =>
  cI (call d m5 [.ref a0, .int a1] h3) fun x7 h6 =>
  if a2 = (0 : Int32) then
  (some (some (.int x7), h6))
  else
  (vd none h6 a0 [11, 160] fun m8 =>
  cI (call d m8 [.ref a0, .int x7] h6) fun x10 h9 =>
  if x10 = (0 : Int32) then
  (some (some (.int (0 : Int32)), h9))
  else
  (some (some (.int (1 : Int32)), h9)))))) :=
  (call_unr p_124 rfl o_124 rfl [] 36 _ h).trans rfl
end
section
/-! the methods 125 to 164, unrolled up to the heads of their loops -/
theorem p_125 : prg 125 = (k_125, 6) := rfl
theorem o_125 : okc k_125 = true := by decide +kernel
set_option maxRecDepth 100000 in
theorem e_125 (d : Nat) (a0 : Nat) (a1 : Int32) (a2 : Int32) (a3 : Int32) (h : MHeap) : call (d + 1) 125 [.ref a0, .int a1, .int a2, .int a3] h = (
  cI (call d 133 [.int a1, .int (0 : Int32), .int (99999 : Int32)] h) fun x2 h1 =>
  if x2 = (0 : Int32) then
  (some (some (.long (-4611686018427387904 : Int64)), h1))
  else
  (cI (call d 133 [.int a2, .int (1 : Int32), .int (50 : Int32)] h1) fun x4 h3 =>
  if x4 = (0 : Int32) then
  (some (some (.long (-4611686018427387904 : Int64)), h3))
  else
  (cI (call d 133 [.int a3, .int (0 : Int32), .int (1 : Int32)] h3) fun x6 h5 =>
  if x6 = (0 : Int32) then
  (some (some (.long (-4611686018427387904 : Int64)), h5))
  else
  (ex d 125 39 [sv (.ref a0), sv (.int a1), sv (.int a2), sv (.int a3), sv (.int (0 : Int32)), sv (.int (0 : Int32))] [] h5)))) :=
  (call_unr p_125 rfl o_125 rfl [39] 30 _ h).trans rfl
set_option maxRecDepth 100000 in
theorem e_125_39 (d : Nat) (a0 : Nat) (a1 : Int32) (a2 : Int32) (a3 : Int32) (a4 : Int32) (a5 : Int32) (h : MHeap) : ex d 125 39 [sv (.ref a0), sv (.int a1), sv (.int a2), sv (.int a3), sv (.int a4), sv (.int a5)] [] h = (
  if a5 < a2 then
  (vd none h a0 [11, 159] fun m1 =>
  cI (call d m1 [.ref a0, .int (a1 + a5)] h) fun x3 h2 =>
  vd none h2 a0 [11, 160] fun m4 =>
  cI (call d m4 [.ref a0, .int x3] h2) fun x6 h5 =>
  if x6 = (0 : Int32) then
  (ex d 125 39 [sv (.ref a0), sv (.int a1), sv (.int a2), sv (.int a3), sv (.int a4), sv (.int (a5 + (1 : Int32)))] [] h5)
  else
  (ex d 125 39 [sv (.ref a0), sv (.int a1), sv (.int a2), sv (.int a3), sv (.int (a4 + (1 : Int32))), sv (.int (a5 + (1 : Int32)))] [] h5))
  else
  (cJ (call d 142 [.int a4, .int a2, .int a3] h) fun y8 h7 =>
  some (some (.long y8), h7))) :=
  (ex_unr p_125 o_125 [39] 26 rfl _ _ h).trans rfl

theorem p_126 : prg 126 = (k_126, 1) := rfl
theorem o_126 : okc k_126 = true := by decide +kernel
set_option maxRecDepth 100000 in
theorem e_126 (d : Nat) (a0 : Nat) (h : MHeap) : call (d + 1) 126 [.ref a0] h = (
  gfV none h a0 [11] 1 fun v1 =>
  gfV none h a0 [11] 0 fun v2 =>
  gfI none h a0 [11] 5 fun x3 =>
  dR none v1 fun o5 =>
  vd none h o5 [4, 34] fun m4 =>
  cV (call d m4 [.ref o5, v2, .int x3] h) fun h6 =>
  gfV none h6 a0 [11] 0 fun v7 =>
  dR none v7 fun o8 =>
  gfI none h6 o8 [0] 2 fun x9 =>
  some (some (.int x9), h6)) :=
  (call_unr p_126 rfl o_126 rfl [] 16 _ h).trans rfl

theorem p_127 : prg 127 = (k_127, 1) := rfl
theorem o_127 : okc k_127 = true := by decide +kernel
set_option maxRecDepth 100000 in
theorem e_127 (d : Nat) (a0 : Nat) (h : MHeap) : call (d + 1) 127 [.ref a0] h = (
  gfV none h a0 [11] 1 fun v1 =>
  dR none v1 fun o2 =>
  gfI none h o2 [4] 0 fun x3 =>
  if x3 = (0 : Int32) then
  (some (some (.int (-3 : Int32)), h))
  else
  (gfV none h a0 [11] 0 fun v4 =>
  gfV none h a0 [11] 1 fun v5 =>
  dR none v5 fun o6 =>
  gfI none h o6 [4] 4 fun x7 =>
  dR none v4 fun o9 =>
  vd none h o9 [0, 13] fun m8 =>
  cV (call d m8 [.ref o9, .int x7] h) fun h10 =>
  gfV none h10 a0 [11] 0 fun v11 =>
  gfV none h10 a0 [11] 1 fun v12 =>
  dR none v12 fun o13 =>
  gfI none h10 o13 [4] 1 fun x14 =>
  gfV none h10 a0 [11] 1 fun v15 =>
  dR none v15 fun o16 =>
  gfI none h10 o16 [4] 2 fun x17 =>
  gfV none h10 a0 [11] 1 fun v18 =>
  dR none v18 fun o19 =>
  gfI none h10 o19 [4] 3 fun x20 =>
  dR none v11 fun o22 =>
  vd none h10 o22 [0, 3] fun m21 =>
  cV (call d m21 [.ref o22, .int x14, .int x17, .int x20] h10) fun h23 =>
  gfV none h23 a0 [11] 1 fun v24 =>
  dR none v24 fun o25 =>
  gfI none h23 o25 [4] 5 fun x26 =>
  pfI none h23 a0 [11] 5 x26 fun h27 =>
  gfV none h27 a0 [11] 0 fun v28 =>
  dR none v28 fun o29 =>
  gfI none h27 o29 [0] 2 fun x30 =>
  some (some (.int x30), h27))) :=
  (call_unr p_127 rfl o_127 rfl [] 38 _ h).trans rfl

theorem p_128 : prg 128 = (k_128, 5) := rfl
theorem o_128 : okc k_128 = true := by decide +kernel
set_option maxRecDepth 100000 in
theorem e_128 (d : Nat) (a0 : Nat) (a1 : Int32) (a2 : Int32) (a3 : Int32) (h : MHeap) : call (d + 1) 128 [.ref a0, .int a1, .int a2, .int a3] h = (
  vd none h a0 [11, 156] fun m1 =>
  cR (call d m1 [.ref a0, .int a1] h) fun v3 h2 =>
  dA none v3 <|
  dA none v3 <|
  dN none v3 (
  some (some (.int (-2 : Int32)), h2)) (
  cI (call d 133 [.int a2, .int (-1 : Int32), .int (2 : Int32)] h2) fun x5 h4 =>
  if x5 = (0 : Int32) then
  (some (some (.int (-2 : Int32)), h4))
  else
  (if a2 = (-1 : Int32) then
  (dA none v3 <|
  dR none v3 fun o7 =>
  vd none h4 o7 [7, 46] fun m6 =>
  cV (call d m6 [.ref o7, .int (-1 : Int32), .int (0 : Int32)] h4) fun h8 =>
  some (some (.int (1 : Int32)), h8))
  else
  (if (40 : Int32) < a3 then
  (some (some (.int (-2 : Int32)), h4))
  else
  (if a3 < (0 : Int32) then
  (some (some (.int (-14 : Int32)), h4))
  else
  (dA none v3 <|
  dR none v3 fun o10 =>
  vd none h4 o10 [7, 46] fun m9 =>
  cV (call d m9 [.ref o10, .int a2, .int a3] h4) fun h11 =>
  some (some (.int (1 : Int32)), h11))))))) :=
  (call_unr p_128 rfl o_128 rfl [] 44 _ h).trans rfl

theorem p_129 : prg 129 = (k_129, 5) := rfl
theorem o_129 : okc k_129 = true := by decide +kernel
set_option maxRecDepth 100000 in
theorem e_129 (d : Nat) (a0 : Nat) (a1 : Int32) (a2 : Int32) (a3 : Int32) (h : MHeap) : call (d + 1) 129 [.ref a0, .int a1, .int a2, .int a3] h = (
  vd none h a0 [11, 156] fun m1 =>
  cR (call d m1 [.ref a0, .int a1] h) fun v3 h2 =>
  dA none v3 <|
  dA none v3 <|
  dN none v3 (
  some (some (.int (-2 : Int32)), h2)) (
  dA none v3 <|
  dR none v3 fun o5 =>
  vd none h2 o5 [7, 45] fun m4 =>
  cI (call d m4 [.ref o5] h2) fun x7 h6 =>
  if x7 = (0 : Int32) then
  (dA none v3 <|
  dR none v3 fun o8 =>
  gfI none h6 o8 [7] 1 fun x9 =>
  cI (call d 133 [.int a2, .int (0 : Int32), .int (x9 - (1 : Int32))] h6) fun x11 h10 =>
  if x11 = (0 : Int32) then
  (some (some (.int (-12 : Int32)), h10))
  else
  (dA none v3 <|
  dR none v3 fun o13 =>
  vd none h10 o13 [7, 49] fun m12 =>
  cV (call d m12 [.ref o13, .int a2, .int a3] h10) fun h14 =>
  some (some (.int (1 : Int32)), h14)))
  else
  (some (some (.int (-11 : Int32)), h6)))) :=
  (call_unr p_129 rfl o_129 rfl [] 34 _ h).trans rfl

theorem p_130 : prg 130 = (k_130, 8) := rfl
theorem o_130 : okc k_130 = true := by decide +kernel
set_option maxRecDepth 100000 in
theorem e_130 (d : Nat) (a0 : Nat) (a1 : Int32) (a2 : Int32) (a3 : Int32) (a4 : Int32) (a5 : Int32) (h : MHeap) : call (d + 1) 130 [.ref a0, .int a1, .int a2, .int a3, .int a4, .int a5] h = (
  vd none h a0 [11, 156] fun m1 =>
  cR (call d m1 [.ref a0, .int a1] h) fun v3 h2 =>
  dA none v3 <|
  vd none h2 a0 [11, 156] fun m4 =>
  cR (call d m4 [.ref a0, .int a3] h2) fun v6 h5 =>
  dA none v6 <|
  dA none v3 <|
  dN none v3 (
  some (some (.int (-2 : Int32)), h5)) (
  dA none v6 <|
  dN none v6 (
  some (some (.int (-2 : Int32)), h5)) (
  dA none v3 <|
  dR none v3 fun o8 =>
  vd none h5 o8 [7, 45] fun m7 =>
  cI (call d m7 [.ref o8] h5) fun x10 h9 =>
  if x10 = (0 : Int32) then
  (dA none v6 <|
  dR none v6 fun o12 =>
  vd none h9 o12 [7, 45] fun m11 =>
  cI (call d m11 [.ref o12] h9) fun x14 h13 =>
  if x14 = (0 : Int32) then
  (dA none v3 <|
  dR none v3 fun o15 =>
  gfI none h13 o15 [7] 0 fun x16 =>
  dA none v6 <|
  dR none v6 fun o17 =>
  gfI none h13 o17 [7] 0 fun x18 =>
  if x16 = x18 then
  (dA none v3 <|
  dR none v3 fun o20 =>
  vd none h13 o20 [7, 47] fun m19 =>
  cI (call d m19 [.ref o20, .int a2, .int a5] h13) fun x22 h21 =>
  if x22 = (0 : Int32) then
  (some (some (.int (-12 : Int32)), h21))
  else
  (dA none v6 <|
  dR none v6 fun o24 =>
  vd none h21 o24 [7, 47] fun m23 =>
  cI (call d m23 [.ref o24, .int a4, .int a5] h21) fun x26 h25 =>
  if x26 = (0 : Int32) then
  (some (some (.int (-12 : Int32)), h25))
  else
  (dA none v3 <|
  dR none v3 fun o27 =>
  gfV none h25 o27 [7] 2 fun v28 =>
  dA none v6 <|
  dR none v6 fun o29 =>
  gfV none h25 o29 [7] 2 fun v30 =>
  cV (call d 1002 [v28, .int a2, v30, .int a4, .int a5] h25) fun h31 =>
  some (some (.int a5), h31))))
  else
  (some (some (.int (-13 : Int32)), h13)))
  else
  (some (some (.int (-11 : Int32)), h13)))
  else
  (some (some (.int (-11 : Int32)), h9))))) :=
  (call_unr p_130 rfl o_130 rfl [] 62 _ h).trans rfl

theorem p_131 : prg 131 = (k_131, 9) := rfl
theorem o_131 : okc k_131 = true := by decide +kernel
set_option maxRecDepth 100000 in
theorem e_131 (d : Nat) (a0 : Nat) (a1 : Int32) (a2 : Int32) (a3 : Int32) (a4 : Int32) (h : MHeap) : call (d + 1) 131 [.ref a0, .int a1, .int a2, .int a3, .int a4] h = (
  vd none h a0 [11, 156] fun m1 =>
  cR (call d m1 [.ref a0, .int a1] h) fun v3 h2 =>
  dA none v3 <|
  dA none v3 <|
  dN none v3 (
  some (some (.int (-2 : Int32)), h2)) (
  cI (call d 133 [.int a2, .int (0 : Int32), .int (2 : Int32)] h2) fun x5 h4 =>
  if x5 = (0 : Int32) then
  (some (some (.int (-2 : Int32)), h4))
  else
  (cI (call d 133 [.int a4, .int (0 : Int32), .int (7 : Int32)] h4) fun x7 h6 =>
  if x7 = (0 : Int32) then
  (some (some (.int (-2 : Int32)), h6))
  else
  (dA none v3 <|
  dR none v3 fun o9 =>
  vd none h6 o9 [7, 45] fun m8 =>
  cI (call d m8 [.ref o9] h6) fun x11 h10 =>
  if x11 = (0 : Int32) then
  (dA none v3 <|
  dR none v3 fun o12 =>
  gfI none h10 o12 [7] 0 fun x13 =>
  if x13 = a2 then
  (ex d 131 67 [sv (.ref a0), sv (.int a1), sv (.int a2), sv (.int a3), sv (.int a4), sv v3, sv (.int (0 : Int32)), sv (.int a3), sv (.int (0 : Int32))] [] h10)
  else
  (some (some (.int (-13 : Int32)), h10)))
  else
  (some (some (.int (-11 : Int32)), h10)))))) :=
  (call_unr p_131 rfl o_131 rfl [67] 44 _ h).trans rfl
set_option maxRecDepth 100000 in
theorem e_131_67 (d : Nat) (a0 : Nat) (a1 : Int32) (a2 : Int32) (a3 : Int32) (a4 : Int32) (a5 : Value) (a6 : Int32) (a7 : Int32) (a8 : Int32) (h : MHeap) : ex d 131 67 [sv (.ref a0), sv (.int a1), sv (.int a2), sv (.int a3), sv (.int a4), sv a5, sv (.int a6), sv (.int a7), sv (.int a8)] [] h = (
  if a8 < a4 then
  (dA none a5 <|
  dR none a5 fun o2 =>
  vd none h o2 [7, 47] fun m1 =>
  cI (call d m1 [.ref o2, .int a7, .int (3 : Int32)] h) fun x4 h3 =>
  if x4 = (0 : Int32) then
  (some (some (.int (-12 : Int32)), h3))
  else
  (dA none a5 <|
  dR none a5 fun o6 =>
  vd none h3 o6 [7, 48] fun m5 =>
  cI (call d m5 [.ref o6, .int a7] h3) fun x8 h7 =>
  dA none a5 <|
  dR none a5 fun o10 =>
  vd none h7 o10 [7, 48] fun m9 =>
  cI (call d m9 [.ref o10, .int (a7 + (1 : Int32))] h7) fun x12 h11 =>
  dA none a5 <|
  dR none a5 fun o14 =>
  vd none h11 o14 [7, 48] fun m13 =>
  cI (call d m13 [.ref o14, .int (a7 + (2 : Int32))] h11) fun x16 h15 =>
  vd none h15 a0 [11, 92] fun m17 =>
  cI (call d m17 [.ref a0, .int x8, .int x12, .int x16] h15) fun x19 h18 =>
  if x19 < (0 : Int32) then
  (ex d 131 67 [sv (.ref a0), sv (.int a1), sv (.int a2), sv (.int a3), sv (.int a4), sv a5, sv (.int a6), sv (.int (a7 + (3 : Int32))), sv (.int (a8 + (1 : Int32)))] [] h18)
  else
  (ex d 131 67 [sv (.ref a0), sv (.int a1), sv (.int a2), sv (.int a3), sv (.int a4), sv a5, sv (.int (a6 + (1 : Int32))), sv (.int (a7 + (3 : Int32))), sv (.int (a8 + (1 : Int32)))] [] h18)))
  else
  (some (some (.int a6), h))) :=
  (ex_unr p_131 o_131 [67] 40 rfl _ _ h).trans rfl

theorem p_132 : prg 132 = (k_132, 3) := rfl
theorem o_132 : okc k_132 = true := by decide +kernel
set_option maxRecDepth 100000 in
theorem e_132 (d : Nat) (a0 : Nat) (a1 : Int32) (a2 : Int32) (h : MHeap) : call (d + 1) 132 [.ref a0, .int a1, .int a2] h = (
  cI (call d 133 [.int a2, .int (0 : Int32), .int (6 : Int32)] h) fun x2 h1 =>
  if x2 = (0 : Int32) then
  (some (some (.int (-2 : Int32)), h1))
  else
  (cI (call d 133 [.int a1, .int (0 : Int32), .int (18 : Int32)] h1) fun x4 h3 =>
  if x4 = (0 : Int32) then
  (some (some (.int (-12 : Int32)), h3))
  else
  (if a1 < (12 : Int32) then
  (vd none h3 a0 [11, 163] fun m5 =>
  cI (call d m5 [.ref a0, .int a1, .int a2] h3) fun x7 h6 =>
  some (some (.int x7), h6))
  else
  (vd none h3 a0 [11, 164] fun m8 =>
  cI (call d m8 [.ref a0, .int (a1 - (12 : Int32)), .int a2] h3) fun x10 h9 =>
  some (some (.int x10), h9))))) :=
  (call_unr p_132 rfl o_132 rfl [] 35 _ h).trans rfl

theorem p_133 : prg 133 = (k_133, 3) := rfl
theorem o_133 : okc k_133 = true := by decide +kernel
set_option maxRecDepth 100000 in
theorem e_133 (d : Nat) (a0 : Int32) (a1 : Int32) (a2 : Int32) (h : MHeap) : call (d + 1) 133 [.int a0, .int a1, .int a2] h = (
  if a0 < a1 then
  (zr none (0 : Int32) (some (some (.int (0 : Int32)), h)))
  else
  (if a2 < a0 then
  (zr none (0 : Int32) (some (some (.int (0 : Int32)), h)))
  else
  (zr none (1 : Int32) (some (some (.int (1 : Int32)), h))))) :=
  (call_unr p_133 rfl o_133 rfl [] 18 _ h).trans rfl

theorem p_134 : prg 134 = (k_134, 1) := rfl
theorem o_134 : okc k_134 = true := by decide +kernel
set_option maxRecDepth 100000 in
theorem e_134 (d : Nat) (a0 : Int32) (h : MHeap) : call (d + 1) 134 [.int a0] h = (
  cI (call d 133 [.int a0, .int (0 : Int32), .int (255 : Int32)] h) fun x2 h1 =>
  zr none x2 (some (some (.int x2), h1))) :=
  (call_unr p_134 rfl o_134 rfl [] 10 _ h).trans rfl

theorem p_135 : prg 135 = (k_135, 1) := rfl
theorem o_135 : okc k_135 = true := by decide +kernel
set_option maxRecDepth 100000 in
theorem e_135 (d : Nat) (a0 : Int32) (h : MHeap) : call (d + 1) 135 [.int a0] h = (
  some (some (.int ((1 : Int32) <<< (a0 &&& 31))), h)) :=
  (call_unr p_135 rfl o_135 rfl [] 9 _ h).trans rfl

theorem p_136 : prg 136 = (k_136, 1) := rfl
theorem o_136 : okc k_136 = true := by decide +kernel
set_option maxRecDepth 100000 in
theorem e_136 (d : Nat) (a0 : Int32) (h : MHeap) : call (d + 1) 136 [.int a0] h = (
  some (some (.int (((1 : Int32) <<< (a0 &&& 31)) - (1 : Int32))), h)) :=
  (call_unr p_136 rfl o_136 rfl [] 11 _ h).trans rfl

theorem p_137 : prg 137 = (k_137, 2) := rfl
theorem o_137 : okc k_137 = true := by decide +kernel
set_option maxRecDepth 100000 in
theorem e_137 (d : Nat) (a0 : Int32) (a1 : Int32) (h : MHeap) : call (d + 1) 137 [.int a0, .int a1] h = (
  if ((a0 >>> (a1 &&& 31)) &&& (1 : Int32)) = (0 : Int32) then
  (zr none (0 : Int32) (some (some (.int (0 : Int32)), h)))
  else
  (zr none (1 : Int32) (some (some (.int (1 : Int32)), h)))) :=
  (call_unr p_137 rfl o_137 rfl [] 16 _ h).trans rfl

theorem p_138 : prg 138 = (k_138, 1) := rfl
theorem o_138 : okc k_138 = true := by decide +kernel
set_option maxRecDepth 100000 in
theorem e_138 (d : Nat) (a0 : Int32) (h : MHeap) : call (d + 1) 138 [.int a0] h = (
  if a0 = (-1 : Int32) then
  (some (some (.int (-1 : Int32)), h))
  else
  (cI (call d 260 [.int a0] h) fun x2 h1 =>
  some (some (.int x2), h1))) :=
  (call_unr p_138 rfl o_138 rfl [] 14 _ h).trans rfl

theorem p_139 : prg 139 = (k_139, 2) := rfl
theorem o_139 : okc k_139 = true := by decide +kernel
set_option maxRecDepth 100000 in
theorem e_139 (d : Nat) (a0 : Int32) (h : MHeap) : call (d + 1) 139 [.int a0] h = (
  ex d 139 2 [sv (.int a0), sv (.int (0 : Int32))] [] h) :=
  (call_unr p_139 rfl o_139 rfl [2] 7 _ h).trans rfl
set_option maxRecDepth 100000 in
theorem e_139_2 (d : Nat) (a0 : Int32) (a1 : Int32) (h : MHeap) : ex d 139 2 [sv (.int a0), sv (.int a1)] [] h = (
  if a1 < (32 : Int32) then
  (cI (call d 137 [.int a0, .int a1] h) fun x2 h1 =>
  if x2 = (0 : Int32) then
  (ex d 139 2 [sv (.int a0), sv (.int (a1 + (1 : Int32)))] [] h1)
  else
  (some (some (.int a1), h1)))
  else
  (some (some (.int (-1 : Int32)), h))) :=
  (ex_unr p_139 o_139 [2] 18 rfl _ _ h).trans rfl

theorem p_140 : prg 140 = (k_140, 2) := rfl
theorem o_140 : okc k_140 = true := by decide +kernel
set_option maxRecDepth 100000 in
theorem e_140 (d : Nat) (a0 : Int32) (a1 : Int32) (h : MHeap) : call (d + 1) 140 [.int a0, .int a1] h = (
  some (some (.int ((a0 >>> (((4 : Int32) * a1) &&& 31)) &&& (15 : Int32))), h)) :=
  (call_unr p_140 rfl o_140 rfl [] 13 _ h).trans rfl

theorem p_141 : prg 141 = (k_141, 2) := rfl
theorem o_141 : okc k_141 = true := by decide +kernel
set_option maxRecDepth 100000 in
theorem e_141 (d : Nat) (a0 : Int32) (a1 : Int32) (h : MHeap) : call (d + 1) 141 [.int a0, .int a1] h = (
  some (some (.int (((100 : Int32) * a0) + a1)), h)) :=
  (call_unr p_141 rfl o_141 rfl [] 11 _ h).trans rfl

theorem p_142 : prg 142 = (k_142, 7) := rfl
theorem o_142 : okc k_142 = true := by decide +kernel
set_option maxRecDepth 100000 in
theorem e_142 (d : Nat) (a0 : Int32) (a1 : Int32) (a2 : Int32) (h : MHeap) : call (d + 1) 142 [.int a0, .int a1, .int a2] h = (
  ex d 142 8 [sv (.int a0), sv (.int a1), sv (.int a2), sv (.int a1), sv (.int a0), sv (.int (0 : Int32)), none] [] h) :=
  (call_unr p_142 rfl o_142 rfl [8] 11 _ h).trans rfl
set_option maxRecDepth 100000 in
theorem e_142_8 (d : Nat) (a0 : Int32) (a1 : Int32) (a2 : Int32) (a3 : Int32) (a4 : Int32) (a5 : Int32) (a6 : MSl) (h : MHeap) : ex d 142 8 [sv (.int a0), sv (.int a1), sv (.int a2), sv (.int a3), sv (.int a4), sv (.int a5), a6] [] h = (
  if a5 < (64 : Int32) then
  (if a4 = (0 : Int32) then
  (if a2 = (0 : Int32) then
  (if a3 = (0 : Int32) then
  (some (some (.long (Int32.toInt64 a0)), h))
  else
  (dv none a3 <|
  some (some (.long (Int32.toInt64 (a0 / a3))), h)))
  else
  (if a3 = (0 : Int32) then
  (some (some (.long (Int32.toInt64 a1)), h))
  else
  (dv none a3 <|
  some (some (.long (Int32.toInt64 (a1 / a3))), h))))
  else
  (dv none a4 <|
  ex d 142 8 [sv (.int a0), sv (.int a1), sv (.int a2), sv (.int a4), sv (.int (a3 - a3 / a4 * a4)), sv (.int (a5 + (1 : Int32))), sv (.int (a3 - a3 / a4 * a4))] [] h))
  else
  (if a2 = (0 : Int32) then
  (if a3 = (0 : Int32) then
  (some (some (.long (Int32.toInt64 a0)), h))
  else
  (dv none a3 <|
  some (some (.long (Int32.toInt64 (a0 / a3))), h)))
  else
  (if a3 = (0 : Int32) then
  (some (some (.long (Int32.toInt64 a1)), h))
  else
  (dv none a3 <|
  some (some (.long (Int32.toInt64 (a1 / a3))), h))))) :=
  (ex_unr p_142 o_142 [8] 78 rfl _ _ h).trans rfl

theorem p_143 : prg 143 = (k_143, 5) := rfl
theorem o_143 : okc k_143 = true := by decide +kernel
set_option maxRecDepth 100000 in
theorem e_143 (d : Nat) (a0 : Nat) (a1 : Int32) (a2 : Int32) (a3 : Int32) (h : MHeap) : call (d + 1) 143 [.ref a0, .int a1, .int a2, .int a3] h = (
  gfI none h a0 [11] 5 fun x1 =>
  gfV none h a0 [11] 3 fun v2 =>
  dR none v2 fun o4 =>
  aln none h o4 fun x3 =>
  cI (call d 133 [.int x1, .int (0 : Int32), .int (x3 - (1 : Int32))] h) fun x6 h5 =>
  if x6 = (0 : Int32) then
  (some (some (.int (0 : Int32)), h5))
  else
  (gfV none h5 a0 [11] 3 fun v7 =>
  gfI none h5 a0 [11] 5 fun x8 =>
  dR none v7 fun o10 =>
  alV none h5 o10 x8 fun v9 =>
  dA none v9 <|
  dA none v9 <|
  dN none v9 (
  some (some (.int (0 : Int32)), h5)) (
  gfV none h5 a0 [11] 9 fun v11 =>
  dR none v11 fun o13 =>
  asI none h5 o13 (0 : Int32) a2 fun h12 =>
  gfV none h12 a0 [11] 9 fun v14 =>
  gfV none h12 a0 [11] 0 fun v15 =>
  dR none v15 fun o16 =>
  gfI none h12 o16 [0] 1 fun x17 =>
  cI (call d 1 [.int a2, .int x17] h12) fun x19 h18 =>
  dR none v14 fun o21 =>
  asI none h18 o21 (1 : Int32) x19 fun h20 =>
  gfV none h20 a0 [11] 9 fun v22 =>
  gfV none h20 a0 [11] 0 fun v23 =>
  dR none v23 fun o24 =>
  gfI none h20 o24 [0] 1 fun x25 =>
  cI (call d 2 [.int a2, .int x25] h20) fun x27 h26 =>
  dR none v22 fun o29 =>
  asI none h26 o29 (2 : Int32) x27 fun h28 =>
  gfV none h28 a0 [11] 9 fun v30 =>
  gfV none h28 a0 [11] 0 fun v31 =>
  dR none v31 fun o32 =>
  gfI none h28 o32 [0] 2 fun x33 =>
  cI (call d 137 [.int x33, .int a2] h28) fun x35 h34 =>
  if x35 = (0 : Int32) then
  (dR none v30 fun o37 =>
  asI none h34 o37 (3 : Int32) (0 : Int32) fun h36 =>
  gfV none h36 a0 [11] 9 fun v38 =>
  gfV none h36 a0 [11] 0 fun v39 =>
  dR none v39 fun o40 =>
  gfI none h36 o40 [0] 0 fun x41 =>
  dR none v38 fun o43 =>
  asI none h36 o43 (4 : Int32) x41 fun h42 =>
  gfV none h42 a0 [11] 9 fun v44 =>
  dR none v44 fun o46 =>
  asI none h42 o46 (5 : Int32) a3 fun h45 =>
  dA none v9 <|
  gfV none h45 a0 [11] 9 fun v47 =>
  gfV none h45 a0 [11] 10 fun v48 =>
  dR none v9 fun o50 =>
  vd none h45 o50 [5, 36] fun m49 =>
  cI (call d m49 [.ref o50, .int a1, v47, v48] h45) fun x52 h51 =>
  cI (call d 1001 [.int (99 : Int32), .int x52] h51) fun x54 h53 =>
  cI (call d 1000 [.int (0 : Int32), .int x54] h53) fun x56 h55 =>
  some (some (.int x56), h55))
  else
  (dR none v30 fun o58 =>
  asI none h34 o58 (3 : Int32) (1 : Int32) fun h57 =>
  gfV none h57 a0 [11] 9 fun v59 =>
  gfV none h57 a0 [11] 0 fun v60 =>
  dR none v60 fun o61 =>
  gfI none h57 o61 [0] 0 fun x62 =>
  dR none v59 fun o64 =>
  asI none h57 o64 (4 : Int32) x62 fun h63 =>
  gfV none h63 a0 [11] 9 fun v65 =>
  dR none v65 fun o67 =>
  asI none h63 o67 (5 : Int32) a3 fun h66 =>
  dA none v9 <|
  gfV none h66 a0 [11] 9 fun v68 =>
  gfV none h66 a0 [11] 10 fun v69 =>
  dR none v9 fun o71 =>
  vd none h66 o71 [5, 36] fun m70 =>
  cI (call d m70 [.ref o71, .int a1, v68, v69] h66) fun x73 h72 =>
  cI (call d 1001 [.int (99 : Int32), .int x73] h72) fun x75 h74 =>
  cI (call d 1000 [.int (0 : Int32), .int x75] h74) fun x77 h76 =>
  some (some (.int x77), h76))))) :=
  (call_unr p_143 rfl o_143 rfl [] 117 _ h).trans rfl

theorem p_144 : prg 144 = (k_144, 4) := rfl
theorem o_144 : okc k_144 = true := by decide +kernel
set_option maxRecDepth 100000 in
theorem e_144 (d : Nat) (a0 : Nat) (a1 : Int32) (h : MHeap) : call (d + 1) 144 [.ref a0, .int a1] h = (
  ex d 144 4 [sv (.ref a0), sv (.int a1), sv (.int (0 : Int32)), sv (.int (0 : Int32))] [] h) :=
  (call_unr p_144 rfl o_144 rfl [4] 9 _ h).trans rfl
set_option maxRecDepth 100000 in
theorem e_144_4 (d : Nat) (a0 : Nat) (a1 : Int32) (a2 : Int32) (a3 : Int32) (h : MHeap) : ex d 144 4 [sv (.ref a0), sv (.int a1), sv (.int a2), sv (.int a3)] [] h = (
  gfV none h a0 [11] 0 fun v1 =>
  dR none v1 fun o2 =>
  gfI none h o2 [0] 0 fun x3 =>
  if a3 < x3 then
  (gfV none h a0 [11] 0 fun v4 =>
  cI (call d 135 [.int a3] h) fun x6 h5 =>
  dR none v4 fun o8 =>
  vd none h5 o8 [0, 21] fun m7 =>
  cI (call d m7 [.ref o8, .int (a1 ^^^ x6)] h5) fun x10 h9 =>
  if x10 = (0 : Int32) then
  (ex d 144 4 [sv (.ref a0), sv (.int a1), sv (.int (a2 ||| (0 : Int32))), sv (.int (a3 + (1 : Int32)))] [] h9)
  else
  (cI (call d 135 [.int a3] h9) fun x12 h11 =>
  ex d 144 4 [sv (.ref a0), sv (.int a1), sv (.int (a2 ||| x12)), sv (.int (a3 + (1 : Int32)))] [] h11))
  else
  (some (some (.int a2), h))) :=
  (ex_unr p_144 o_144 [4] 33 rfl _ _ h).trans rfl

theorem p_145 : prg 145 = (k_145, 7) := rfl
theorem o_145 : okc k_145 = true := by decide +kernel
set_option maxRecDepth 100000 in
theorem e_145 (d : Nat) (a0 : Nat) (a1 : Int32) (a2 : Int32) (a3 : Int32) (h : MHeap) : call (d + 1) 145 [.ref a0, .int a1, .int a2, .int a3] h = (
  ex d 145 6 [sv (.ref a0), sv (.int a1), sv (.int a2), sv (.int a3), sv (.int (-1 : Int32)), sv (.int a1), none] [] h) :=
  (call_unr p_145 rfl o_145 rfl [6] 9 _ h).trans rfl
set_option maxRecDepth 100000 in
theorem e_145_6 (d : Nat) (a0 : Nat) (a1 : Int32) (a2 : Int32) (a3 : Int32) (a4 : Int32) (a5 : Int32) (a6 : MSl) (h : MHeap) : ex d 145 6 [sv (.ref a0), sv (.int a1), sv (.int a2), sv (.int a3), sv (.int a4), sv (.int a5), a6] [] h = (
  if a2 < a5 then
  (some (some (.int a4), h))
  else
  (if a4 = (-1 : Int32) then
  (if (a5 &&& (a2 ^^^ (-1 : Int32))) = (0 : Int32) then
  (if (1 : Int32) = (0 : Int32) then
  (ex d 145 6 [sv (.ref a0), sv (.int a1), sv (.int a2), sv (.int a3), sv (.int a4), sv (.int (a5 + (1 : Int32))), sv (.int (1 : Int32))] [] h)
  else
  (gfV none h a0 [11] 0 fun v1 =>
  gfV none h a0 [11] 0 fun v2 =>
  dR none v2 fun o3 =>
  gfI none h o3 [0] 2 fun x4 =>
  dR none v1 fun o6 =>
  vd none h o6 [0, 20] fun m5 =>
  cI (call d m5 [.ref o6, .int (x4 ^^^ a5), .int a3] h) fun x8 h7 =>
  if x8 = (0 : Int32) then
  (ex d 145 6 [sv (.ref a0), sv (.int a1), sv (.int a2), sv (.int a3), sv (.int a4), sv (.int (a5 + (1 : Int32))), sv (.int (1 : Int32))] [] h7)
  else
  (ex d 145 6 [sv (.ref a0), sv (.int a1), sv (.int a2), sv (.int a3), sv (.int a5), sv (.int (a5 + (1 : Int32))), sv (.int (1 : Int32))] [] h7)))
  else
  (ex d 145 6 [sv (.ref a0), sv (.int a1), sv (.int a2), sv (.int a3), sv (.int a4), sv (.int (a5 + (1 : Int32))), sv (.int (1 : Int32))] [] h))
  else
  (cI (call d 260 [.int a5] h) fun x10 h9 =>
  cI (call d 260 [.int a4] h9) fun x12 h11 =>
  if x10 < x12 then
  (if (a5 &&& (a2 ^^^ (-1 : Int32))) = (0 : Int32) then
  (if (1 : Int32) = (0 : Int32) then
  (ex d 145 6 [sv (.ref a0), sv (.int a1), sv (.int a2), sv (.int a3), sv (.int a4), sv (.int (a5 + (1 : Int32))), sv (.int (1 : Int32))] [] h11)
  else
  (gfV none h11 a0 [11] 0 fun v13 =>
  gfV none h11 a0 [11] 0 fun v14 =>
  dR none v14 fun o15 =>
  gfI none h11 o15 [0] 2 fun x16 =>
  dR none v13 fun o18 =>
  vd none h11 o18 [0, 20] fun m17 =>
  cI (call d m17 [.ref o18, .int (x16 ^^^ a5), .int a3] h11) fun x20 h19 =>
  if x20 = (0 : Int32) then
  (ex d 145 6 [sv (.ref a0), sv (.int a1), sv (.int a2), sv (.int a3), sv (.int a4), sv (.int (a5 + (1 : Int32))), sv (.int (1 : Int32))] [] h19)
  else
  (ex d 145 6 [sv (.ref a0), sv (.int a1), sv (.int a2), sv (.int a3), sv (.int a5), sv (.int (a5 + (1 : Int32))), sv (.int (1 : Int32))] [] h19)))
  else
  (ex d 145 6 [sv (.ref a0), sv (.int a1), sv (.int a2), sv (.int a3), sv (.int a4), sv (.int (a5 + (1 : Int32))), sv (.int (1 : Int32))] [] h11))
  else
  (if (a5 &&& (a2 ^^^ (-1 : Int32))) = (0 : Int32) then
  (if (0 : Int32) = (0 : Int32) then
  (ex d 145 6 [sv (.ref a0), sv (.int a1), sv (.int a2), sv (.int a3), sv (.int a4), sv (.int (a5 + (1 : Int32))), sv (.int (0 : Int32))] [] h11)
  else
  (gfV none h11 a0 [11] 0 fun v21 =>
  gfV none h11 a0 [11] 0 fun v22 =>
  dR none v22 fun o23 =>
  gfI none h11 o23 [0] 2 fun x24 =>
  dR none v21 fun o26 =>
  vd none h11 o26 [0, 20] fun m25 =>
  cI (call d m25 [.ref o26, .int (x24 ^^^ a5), .int a3] h11) fun x28 h27 =>
  if x28 = (0 : Int32) then
  (ex d 145 6 [sv (.ref a0), sv (.int a1), sv (.int a2), sv (.int a3), sv (.int a4), sv (.int (a5 + (1 : Int32))), sv (.int (0 : Int32))] [] h27)
  else
  (ex d 145 6 [sv (.ref a0), sv (.int a1), sv (.int a2), sv (.int a3), sv (.int a5), sv (.int (a5 + (1 : Int32))), sv (.int (0 : Int32))] [] h27)))
  else
  (ex d 145 6 [sv (.ref a0), sv (.int a1), sv (.int a2), sv (.int a3), sv (.int a4), sv (.int (a5 + (1 : Int32))), sv (.int (0 : Int32))] [] h11))))) :=
  (ex_unr p_145 o_145 [6] 110 rfl _ _ h).trans rfl

theorem p_146 : prg 146 = (k_146, 3) := rfl
theorem o_146 : okc k_146 = true := by decide +kernel
set_option maxRecDepth 100000 in
theorem e_146 (d : Nat) (a0 : Nat) (h : MHeap) : call (d + 1) 146 [.ref a0] h = (
  ex d 146 4 [sv (.ref a0), sv (.int (0 : Int32)), sv (.int (0 : Int32))] [] h) :=
  (call_unr p_146 rfl o_146 rfl [4] 9 _ h).trans rfl
set_option maxRecDepth 100000 in
theorem e_146_4 (d : Nat) (a0 : Nat) (a1 : Int32) (a2 : Int32) (h : MHeap) : ex d 146 4 [sv (.ref a0), sv (.int a1), sv (.int a2)] [] h = (
  gfV none h a0 [11] 0 fun v1 =>
  dR none v1 fun o2 =>
  gfI none h o2 [0] 0 fun x3 =>
  if a2 < x3 then
  (gfV none h a0 [11] 0 fun v4 =>
  gfV none h a0 [11] 0 fun v5 =>
  dR none v5 fun o6 =>
  gfI none h o6 [0] 2 fun x7 =>
  cI (call d 135 [.int a2] h) fun x9 h8 =>
  dR none v4 fun o11 =>
  vd none h8 o11 [0, 16] fun m10 =>
  cI (call d m10 [.ref o11, .int (x7 ^^^ x9)] h8) fun x13 h12 =>
  vd none h12 a0 [11, 148] fun m14 =>
  cI (call d m14 [.ref a0, .int a1, .int x13] h12) fun x16 h15 =>
  ex d 146 4 [sv (.ref a0), sv (.int x16), sv (.int (a2 + (1 : Int32)))] [] h15)
  else
  (some (some (.int a1), h))) :=
  (ex_unr p_146 o_146 [4] 27 rfl _ _ h).trans rfl

theorem p_147 : prg 147 = (k_147, 4) := rfl
theorem o_147 : okc k_147 = true := by decide +kernel
set_option maxRecDepth 100000 in
theorem e_147 (d : Nat) (a0 : Nat) (h : MHeap) : call (d + 1) 147 [.ref a0] h = (
  ex d 147 2 [sv (.ref a0), sv (.int (0 : Int32)), none, none] [] h) :=
  (call_unr p_147 rfl o_147 rfl [2, 37] 7 _ h).trans rfl
set_option maxRecDepth 100000 in
theorem e_147_2 (d : Nat) (a0 : Nat) (a1 : Int32) (a2 : MSl) (a3 : MSl) (h : MHeap) : ex d 147 2 [sv (.ref a0), sv (.int a1), a2, a3] [] h = (
  gfV none h a0 [11] 0 fun v1 =>
  dR none v1 fun o2 =>
  gfI none h o2 [0] 0 fun x3 =>
  if a1 < x3 then
  (gfV none h a0 [11] 0 fun v4 =>
  gfV none h a0 [11] 0 fun v5 =>
  dR none v5 fun o6 =>
  gfI none h o6 [0] 2 fun x7 =>
  cI (call d 135 [.int a1] h) fun x9 h8 =>
  dR none v4 fun o11 =>
  vd none h8 o11 [0, 16] fun m10 =>
  cI (call d m10 [.ref o11, .int (x7 ^^^ x9)] h8) fun x13 h12 =>
  ex d 147 37 [sv (.ref a0), sv (.int a1), sv (.int x13), sv (.int (a1 + (1 : Int32)))] [] h12)
  else
  (some (some (.int (-1 : Int32)), h))) :=
  (ex_unr p_147 o_147 [2, 37] 26 rfl _ _ h).trans rfl
set_option maxRecDepth 100000 in
theorem e_147_37 (d : Nat) (a0 : Nat) (a1 : Int32) (a2 : Int32) (a3 : Int32) (h : MHeap) : ex d 147 37 [sv (.ref a0), sv (.int a1), sv (.int a2), sv (.int a3)] [] h = (
  gfV none h a0 [11] 0 fun v1 =>
  dR none v1 fun o2 =>
  gfI none h o2 [0] 0 fun x3 =>
  if a3 < x3 then
  (gfV none h a0 [11] 0 fun v4 =>
  gfV none h a0 [11] 0 fun v5 =>
  dR none v5 fun o6 =>
  gfI none h o6 [0] 2 fun x7 =>
  cI (call d 135 [.int a3] h) fun x9 h8 =>
  dR none v4 fun o11 =>
  vd none h8 o11 [0, 20] fun m10 =>
  cI (call d m10 [.ref o11, .int (x7 ^^^ x9), .int a2] h8) fun x13 h12 =>
  if x13 = (0 : Int32) then
  (ex d 147 37 [sv (.ref a0), sv (.int a1), sv (.int a2), sv (.int (a3 + (1 : Int32)))] [] h12)
  else
  (cI (call d 141 [.int a1, .int a3] h12) fun x15 h14 =>
  some (some (.int x15), h14)))
  else
  (ex d 147 2 [sv (.ref a0), sv (.int (a1 + (1 : Int32))), sv (.int a2), sv (.int a3)] [] h)) :=
  (ex_unr p_147 o_147 [2, 37] 29 rfl _ _ h).trans rfl

theorem p_148 : prg 148 = (k_148, 4) := rfl
theorem o_148 : okc k_148 = true := by decide +kernel
set_option maxRecDepth 100000 in
theorem e_148 (d : Nat) (a0 : Nat) (a1 : Int32) (a2 : Int32) (h : MHeap) : call (d + 1) 148 [.ref a0, .int a1, .int a2] h = (
  ex d 148 2 [sv (.ref a0), sv (.int a1), sv (.int a2), sv (.int (0 : Int32))] [] h) :=
  (call_unr p_148 rfl o_148 rfl [2] 7 _ h).trans rfl
set_option maxRecDepth 100000 in
theorem e_148_2 (d : Nat) (a0 : Nat) (a1 : Int32) (a2 : Int32) (a3 : Int32) (h : MHeap) : ex d 148 2 [sv (.ref a0), sv (.int a1), sv (.int a2), sv (.int a3)] [] h = (
  if a3 < a1 then
  (gfV none h a0 [11] 7 fun v1 =>
  dR none v1 fun o3 =>
  aln none h o3 fun x2 =>
  if a3 < x2 then
  (gfV none h a0 [11] 7 fun v4 =>
  dR none v4 fun o6 =>
  alI none h o6 a3 fun x5 =>
  if x5 = a2 then
  (some (some (.int a1), h))
  else
  (ex d 148 2 [sv (.ref a0), sv (.int a1), sv (.int a2), sv (.int (a3 + (1 : Int32)))] [] h))
  else
  (gfV none h a0 [11] 7 fun v7 =>
  dR none v7 fun o9 =>
  aln none h o9 fun x8 =>
  cI (call d 133 [.int a1, .int (0 : Int32), .int (x8 - (1 : Int32))] h) fun x11 h10 =>
  if x11 = (0 : Int32) then
  (some (some (.int a1), h10))
  else
  (gfV none h10 a0 [11] 7 fun v12 =>
  dR none v12 fun o14 =>
  asI none h10 o14 a1 a2 fun h13 =>
  some (some (.int (a1 + (1 : Int32))), h13))))
  else
  (gfV none h a0 [11] 7 fun v15 =>
  dR none v15 fun o17 =>
  aln none h o17 fun x16 =>
  cI (call d 133 [.int a1, .int (0 : Int32), .int (x16 - (1 : Int32))] h) fun x19 h18 =>
  if x19 = (0 : Int32) then
  (some (some (.int a1), h18))
  else
  (gfV none h18 a0 [11] 7 fun v20 =>
  dR none v20 fun o22 =>
  asI none h18 o22 a1 a2 fun h21 =>
  some (some (.int (a1 + (1 : Int32))), h21)))) :=
  (ex_unr p_148 o_148 [2] 63 rfl _ _ h).trans rfl

theorem p_149 : prg 149 = (k_149, 3) := rfl
theorem o_149 : okc k_149 = true := by decide +kernel
set_option maxRecDepth 100000 in
theorem e_149 (d : Nat) (a0 : Nat) (a1 : Int32) (h : MHeap) : call (d + 1) 149 [.ref a0, .int a1] h = (
  gfV none h a0 [11] 0 fun v1 =>
  dR none v1 fun o3 =>
  vd none h o3 [0, 18] fun m2 =>
  cI (call d m2 [.ref o3, .int a1] h) fun x5 h4 =>
  if x5 = (0 : Int32) then
  (gfV none h4 a0 [11] 0 fun v6 =>
  dR none v6 fun o8 =>
  vd none h4 o8 [0, 15] fun m7 =>
  cI (call d m7 [.ref o8] h4) fun x10 h9 =>
  some (some (.int x10), h9))
  else
  (cI (call d 260 [.int x5] h4) fun x12 h11 =>
  if x12 = (1 : Int32) then
  (some (some (.int x5), h11))
  else
  (some (some (.int (0 : Int32)), h11)))) :=
  (call_unr p_149 rfl o_149 rfl [] 25 _ h).trans rfl

theorem p_150 : prg 150 = (k_150, 1) := rfl
theorem o_150 : okc k_150 = true := by decide +kernel
set_option maxRecDepth 100000 in
theorem e_150 (d : Nat) (a0 : Nat) (h : MHeap) : call (d + 1) 150 [.ref a0] h = (
  gfV none h a0 [11] 0 fun v1 =>
  dR none v1 fun o2 =>
  gfI none h o2 [0] 0 fun x3 =>
  if (8 : Int32) < x3 then
  (zr none (0 : Int32) (some (some (.int (0 : Int32)), h)))
  else
  (gfV none h a0 [11] 0 fun v4 =>
  dR none v4 fun o5 =>
  gfI none h o5 [0] 0 fun x6 =>
  cI (call d 260 [.int x6] h) fun x8 h7 =>
  if x8 = (1 : Int32) then
  (zr none (1 : Int32) (some (some (.int (1 : Int32)), h7)))
  else
  (zr none (0 : Int32) (some (some (.int (0 : Int32)), h7))))) :=
  (call_unr p_150 rfl o_150 rfl [] 23 _ h).trans rfl

theorem p_151 : prg 151 = (k_151, 3) := rfl
theorem o_151 : okc k_151 = true := by decide +kernel
set_option maxRecDepth 100000 in
theorem e_151 (d : Nat) (a0 : Nat) (h : MHeap) : call (d + 1) 151 [.ref a0] h = (
  ex d 151 4 [sv (.ref a0), sv (.int (0 : Int32)), sv (.int (0 : Int32))] [] h) :=
  (call_unr p_151 rfl o_151 rfl [4] 9 _ h).trans rfl
set_option maxRecDepth 100000 in
theorem e_151_4 (d : Nat) (a0 : Nat) (a1 : Int32) (a2 : Int32) (h : MHeap) : ex d 151 4 [sv (.ref a0), sv (.int a1), sv (.int a2)] [] h = (
  gfV none h a0 [11] 0 fun v1 =>
  dR none v1 fun o2 =>
  gfI none h o2 [0] 0 fun x3 =>
  if a2 < x3 then
  (gfV none h a0 [11] 0 fun v4 =>
  dR none v4 fun o5 =>
  gfI none h o5 [0] 2 fun x6 =>
  cI (call d 137 [.int x6, .int a2] h) fun x8 h7 =>
  if x8 = (0 : Int32) then
  (ex d 151 4 [sv (.ref a0), sv (.int (a1 ^^^ (0 : Int32))), sv (.int (a2 + (1 : Int32)))] [] h7)
  else
  (ex d 151 4 [sv (.ref a0), sv (.int (a1 ^^^ a2)), sv (.int (a2 + (1 : Int32)))] [] h7))
  else
  (some (some (.int a1), h))) :=
  (ex_unr p_151 o_151 [4] 30 rfl _ _ h).trans rfl

theorem p_152 : prg 152 = (k_152, 4) := rfl
theorem o_152 : okc k_152 = true := by decide +kernel
set_option maxRecDepth 100000 in
theorem e_152 (d : Nat) (a0 : Nat) (h : MHeap) : call (d + 1) 152 [.ref a0] h = (
  gfV none h a0 [11] 8 fun v1 =>
  cV (call d 261 [v1, .int (0 : Int32)] h) fun h2 =>
  gfV none h2 a0 [11] 0 fun v3 =>
  dR none v3 fun o5 =>
  vd none h2 o5 [0, 19] fun m4 =>
  cI (call d m4 [.ref o5] h2) fun x7 h6 =>
  gfV none h6 a0 [11] 8 fun v8 =>
  gfV none h6 a0 [11] 0 fun v9 =>
  gfV none h6 a0 [11] 0 fun v10 =>
  dR none v10 fun o11 =>
  gfI none h6 o11 [0] 2 fun x12 =>
  dR none v9 fun o14 =>
  vd none h6 o14 [0, 21] fun m13 =>
  cI (call d m13 [.ref o14, .int x12] h6) fun x16 h15 =>
  if x16 = (0 : Int32) then
  (dR none v8 fun o18 =>
  asI none h15 o18 (0 : Int32) (0 : Int32) fun h17 =>
  ex d 152 47 [sv (.ref a0), sv (.int x7), sv (.int (0 : Int32)), none] [] h17)
  else
  (dR none v8 fun o20 =>
  asI none h15 o20 (0 : Int32) (100 : Int32) fun h19 =>
  ex d 152 47 [sv (.ref a0), sv (.int x7), sv (.int (0 : Int32)), none] [] h19)) :=
  (call_unr p_152 rfl o_152 rfl [47, 107, 184, 185] 32 _ h).trans rfl
set_option maxRecDepth 100000 in
theorem e_152_47 (d : Nat) (a0 : Nat) (a1 : Int32) (a2 : Int32) (a3 : MSl) (h : MHeap) : ex d 152 47 [sv (.ref a0), sv (.int a1), sv (.int a2), a3] [] h = (
  if a2 < (12 : Int32) then
  (gfV none h a0 [11] 0 fun v1 =>
  dR none v1 fun o3 =>
  vd none h o3 [0, 5] fun m2 =>
  cI (call d m2 [.ref o3, .int a2] h) fun x5 h4 =>
  if x5 = (0 : Int32) then
  (ex d 152 107 [sv (.ref a0), sv (.int a1), sv (.int a2), a3] [] h4)
  else
  (gfV none h4 a0 [11] 0 fun v6 =>
  dR none v6 fun o7 =>
  gfI none h4 o7 [0] 2 fun x8 =>
  cI (call d 135 [.int a2] h4) fun x10 h9 =>
  gfV none h9 a0 [11] 8 fun v11 =>
  gfV none h9 a0 [11] 0 fun v12 =>
  dR none v12 fun o14 =>
  vd none h9 o14 [0, 21] fun m13 =>
  cI (call d m13 [.ref o14, .int (x8 ^^^ x10)] h9) fun x16 h15 =>
  if x16 = (0 : Int32) then
  (dR none v11 fun o18 =>
  asI none h15 o18 ((1 : Int32) + a2) (0 : Int32) fun h17 =>
  ex d 152 107 [sv (.ref a0), sv (.int a1), sv (.int a2), sv (.int (x8 ^^^ x10))] [] h17)
  else
  (vd none h15 a0 [11, 143] fun m19 =>
  cI (call d m19 [.ref a0, .int (0 : Int32), .int a2, .int a1] h15) fun x21 h20 =>
  dR none v11 fun o23 =>
  asI none h20 o23 ((1 : Int32) + a2) x21 fun h22 =>
  ex d 152 107 [sv (.ref a0), sv (.int a1), sv (.int a2), sv (.int (x8 ^^^ x10))] [] h22)))
  else
  (some (none, h))) :=
  (ex_unr p_152 o_152 [47, 107, 184, 185] 40 rfl _ _ h).trans rfl
set_option maxRecDepth 100000 in
theorem e_152_107 (d : Nat) (a0 : Nat) (a1 : Int32) (a2 : Int32) (a3 : MSl) (h : MHeap) : ex d 152 107 [sv (.ref a0), sv (.int a1), sv (.int a2), a3] [] h = (
  gfV none h a0 [11] 0 fun v1 =>
  dR none v1 fun o3 =>
  vd none h o3 [0, 5] fun m2 =>
  cI (call d m2 [.ref o3, .int (a2 + (1 : Int32))] h) fun x5 h4 =>
  if x5 = (0 : Int32) then
  (ex d 152 185 [sv (.ref a0), sv (.int a1), sv (.int a2), a3] [] h4)
  else
  (gfV none h4 a0 [11] 0 fun v6 =>
  dR none v6 fun o8 =>
  vd none h4 o8 [0, 7] fun m7 =>
  cI (call d m7 [.ref o8, .int a2, .int (a2 + (1 : Int32))] h4) fun x10 h9 =>
  if x10 = (0 : Int32) then
  (ex d 152 185 [sv (.ref a0), sv (.int a1), sv (.int a2), a3] [] h9)
  else
  (gfV none h9 a0 [11] 0 fun v11 =>
  dR none v11 fun o12 =>
  gfI none h9 o12 [0] 2 fun x13 =>
  cI (call d 135 [.int a2] h9) fun x15 h14 =>
  cI (call d 135 [.int (a2 + (1 : Int32))] h14) fun x17 h16 =>
  gfV none h16 a0 [11] 8 fun v18 =>
  gfV none h16 a0 [11] 0 fun v19 =>
  dR none v19 fun o21 =>
  vd none h16 o21 [0, 21] fun m20 =>
  cI (call d m20 [.ref o21, .int ((x13 ^^^ x15) ^^^ x17)] h16) fun x23 h22 =>
  if x23 = (0 : Int32) then
  (ex d 152 184 [sv (.ref a0), sv (.int a1), sv (.int a2), sv (.int ((x13 ^^^ x15) ^^^ x17))] [.int (0 : Int32), .int ((21 : Int32) + a2), v18] h22)
  else
  (vd none h22 a0 [11, 143] fun m24 =>
  cI (call d m24 [.ref a0, .int (1 : Int32), .int a2, .int a1] h22) fun x26 h25 =>
  ex d 152 184 [sv (.ref a0), sv (.int a1), sv (.int a2), sv (.int ((x13 ^^^ x15) ^^^ x17))] [.int x26, .int ((21 : Int32) + a2), v18] h25)))) :=
  (ex_unr p_152 o_152 [47, 107, 184, 185] 49 rfl _ _ h).trans rfl
set_option maxRecDepth 100000 in
theorem e_152_184 (d : Nat) (a0 : Nat) (a1 : Int32) (a2 : Int32) (a3 : Int32) (s0 : Int32) (s1 : Int32) (s2 : Value) (h : MHeap) : ex d 152 184 [sv (.ref a0), sv (.int a1), sv (.int a2), sv (.int a3)] [.int s0, .int s1, s2] h = (
  dR none s2 fun o2 =>
  asI none h o2 s1 s0 fun h1 =>
  ex d 152 185 [sv (.ref a0), sv (.int a1), sv (.int a2), sv (.int a3)] [] h1) :=
  (ex_unr p_152 o_152 [47, 107, 184, 185] 6 rfl _ _ h).trans rfl
set_option maxRecDepth 100000 in
theorem e_152_185 (d : Nat) (a0 : Nat) (a1 : Int32) (a2 : Int32) (a3 : MSl) (h : MHeap) : ex d 152 185 [sv (.ref a0), sv (.int a1), sv (.int a2), a3] [] h = (
  ex d 152 47 [sv (.ref a0), sv (.int a1), sv (.int (a2 + (1 : Int32))), a3] [] h) :=
  (ex_unr p_152 o_152 [47, 107, 184, 185] 7 rfl _ _ h).trans rfl

theorem p_153 : prg 153 = (k_153, 4) := rfl
theorem o_153 : okc k_153 = true := by decide +kernel
set_option maxRecDepth 100000 in
theorem e_153 (d : Nat) (a0 : Nat) (h : MHeap) : call (d + 1) 153 [.ref a0] h = (
  ex d 153 6 [sv (.ref a0), sv (.int (-1 : Int32)), sv (.int (0 : Int32)), sv (.int (0 : Int32))] [] h) :=
  (call_unr p_153 rfl o_153 rfl [6] 11 _ h).trans rfl
set_option maxRecDepth 100000 in
theorem e_153_6 (d : Nat) (a0 : Nat) (a1 : Int32) (a2 : Int32) (a3 : Int32) (h : MHeap) : ex d 153 6 [sv (.ref a0), sv (.int a1), sv (.int a2), sv (.int a3)] [] h = (
  gfV none h a0 [11] 8 fun v1 =>
  dR none v1 fun o3 =>
  aln none h o3 fun x2 =>
  if a3 < x2 then
  (gfV none h a0 [11] 8 fun v4 =>
  dR none v4 fun o6 =>
  alI none h o6 a3 fun x5 =>
  if a2 < x5 then
  (gfV none h a0 [11] 8 fun v7 =>
  dR none v7 fun o9 =>
  alI none h o9 a3 fun x8 =>
  ex d 153 6 [sv (.ref a0), sv (.int a3), sv (.int x8), sv (.int (a3 + (1 : Int32)))] [] h)
  else
  (ex d 153 6 [sv (.ref a0), sv (.int a1), sv (.int a2), sv (.int (a3 + (1 : Int32)))] [] h))
  else
  (some (some (.int a1), h))) :=
  (ex_unr p_153 o_153 [6] 29 rfl _ _ h).trans rfl

theorem p_154 : prg 154 = (k_154, 2) := rfl
theorem o_154 : okc k_154 = true := by decide +kernel
set_option maxRecDepth 100000 in
theorem e_154 (d : Nat) (a0 : Nat) (a1 : Int32) (h : MHeap) : call (d + 1) 154 [.ref a0, .int a1] h = (
  gfV none h a0 [11] 8 fun v1 =>
  dR none v1 fun o3 =>
  aln none h o3 fun x2 =>
  cI (call d 133 [.int a1, .int (0 : Int32), .int (x2 - (1 : Int32))] h) fun x5 h4 =>
  if x5 = (0 : Int32) then
  (some (some (.int (0 : Int32)), h4))
  else
  (gfV none h4 a0 [11] 8 fun v6 =>
  dR none v6 fun o8 =>
  alI none h4 o8 a1 fun x7 =>
  some (some (.int x7), h4))) :=
  (call_unr p_154 rfl o_154 rfl [] 22 _ h).trans rfl

theorem p_155 : prg 155 = (k_155, 6) := rfl
theorem o_155 : okc k_155 = true := by decide +kernel
set_option maxRecDepth 100000 in
theorem e_155 (d : Nat) (a0 : Nat) (h : MHeap) : call (d + 1) 155 [.ref a0] h = (
  gfV none h a0 [11] 8 fun v1 =>
  dA none v1 <|
  dA none v1 <|
  dR none v1 fun o3 =>
  aln none h o3 fun x2 =>
  ex d 155 13 [sv (.ref a0), sv (.int (0 : Int32)), sv v1, sv (.int x2), sv (.int (0 : Int32)), none] [] h) :=
  (call_unr p_155 rfl o_155 rfl [13] 15 _ h).trans rfl
set_option maxRecDepth 100000 in
theorem e_155_13 (d : Nat) (a0 : Nat) (a1 : Int32) (a2 : Value) (a3 : Int32) (a4 : Int32) (a5 : MSl) (h : MHeap) : ex d 155 13 [sv (.ref a0), sv (.int a1), sv a2, sv (.int a3), sv (.int a4), a5] [] h = (
  if a4 < a3 then
  (dA none a2 <|
  dR none a2 fun o2 =>
  alI none h o2 a4 fun x1 =>
  ex d 155 13 [sv (.ref a0), sv (.int (a1 + x1)), sv a2, sv (.int a3), sv (.int (a4 + (1 : Int32))), sv (.int x1)] [] h)
  else
  (some (some (.int a1), h))) :=
  (ex_unr p_155 o_155 [13] 20 rfl _ _ h).trans rfl

theorem p_156 : prg 156 = (k_156, 2) := rfl
theorem o_156 : okc k_156 = true := by decide +kernel
set_option maxRecDepth 100000 in
theorem e_156 (d : Nat) (a0 : Nat) (a1 : Int32) (h : MHeap) : call (d + 1) 156 [.ref a0, .int a1] h = (
  gfV none h a0 [11] 6 fun v1 =>
  dR none v1 fun o3 =>
  aln none h o3 fun x2 =>
  cI (call d 133 [.int a1, .int (0 : Int32), .int (x2 - (1 : Int32))] h) fun x5 h4 =>
  if x5 = (0 : Int32) then
  (some (some .null, h4))
  else
  (gfV none h4 a0 [11] 6 fun v6 =>
  dR none v6 fun o8 =>
  alV none h4 o8 a1 fun v7 =>
  dA none v7 <|
  some (some v7, h4))) :=
  (call_unr p_156 rfl o_156 rfl [] 22 _ h).trans rfl

theorem p_157 : prg 157 = (k_157, 3) := rfl
theorem o_157 : okc k_157 = true := by decide +kernel
set_option maxRecDepth 100000 in
theorem e_157 (d : Nat) (a0 : Nat) (a1 : Int32) (h : MHeap) : call (d + 1) 157 [.ref a0, .int a1] h = (
  vd none h a0 [11, 156] fun m1 =>
  cR (call d m1 [.ref a0, .int a1] h) fun v3 h2 =>
  dA none v3 <|
  dA none v3 <|
  dN none v3 (
  some (some (.int (-2 : Int32)), h2)) (
  dA none v3 <|
  dR none v3 fun o5 =>
  vd none h2 o5 [7, 45] fun m4 =>
  cI (call d m4 [.ref o5] h2) fun x7 h6 =>
  if x7 = (0 : Int32) then
  (dA none v3 <|
  dR none v3 fun o8 =>
  gfI none h6 o8 [7] 1 fun x9 =>
  gfV none h6 a0 [11] 0 fun v10 =>
  dR none v10 fun o11 =>
  gfI none h6 o11 [0] 3 fun x12 =>
  if x9 = x12 then
  (some (some (.int (0 : Int32)), h6))
  else
  (some (some (.int (-2 : Int32)), h6)))
  else
  (some (some (.int (-11 : Int32)), h6)))) :=
  (call_unr p_157 rfl o_157 rfl [] 29 _ h).trans rfl

theorem p_158 : prg 158 = (k_158, 6) := rfl
theorem o_158 : okc k_158 = true := by decide +kernel
set_option maxRecDepth 100000 in
theorem e_158 (d : Nat) (a0 : Nat) (a1 : Int32) (h : MHeap) : call (d + 1) 158 [.ref a0, .int a1] h = (
  vd none h a0 [11, 156] fun m1 =>
  cR (call d m1 [.ref a0, .int a1] h) fun v3 h2 =>
  dA none v3 <|
  ex d 158 11 [sv (.ref a0), sv (.int a1), sv v3, sv (.int (0 : Int32)), sv (.int (0 : Int32)), none] [] h2) :=
  (call_unr p_158 rfl o_158 rfl [11] 13 _ h).trans rfl
set_option maxRecDepth 100000 in
theorem e_158_11 (d : Nat) (a0 : Nat) (a1 : Int32) (a2 : Value) (a3 : Int32) (a4 : Int32) (a5 : MSl) (h : MHeap) : ex d 158 11 [sv (.ref a0), sv (.int a1), sv a2, sv (.int a3), sv (.int a4), a5] [] h = (
  gfV none h a0 [11] 0 fun v1 =>
  dR none v1 fun o2 =>
  gfI none h o2 [0] 3 fun x3 =>
  if a4 < x3 then
  (dA none a2 <|
  dN none a2 (
  cI (call d 133 [.int (15 : Int32), .int (0 : Int32), .int (15 : Int32)] h) fun x5 h4 =>
  if x5 = (0 : Int32) then
  (ex d 158 11 [sv (.ref a0), sv (.int a1), sv a2, sv (.int (a3 ||| ((15 : Int32) <<< (((4 : Int32) * a4) &&& 31)))), sv (.int (a4 + (1 : Int32))), sv (.int (15 : Int32))] [] h4)
  else
  (ex d 158 11 [sv (.ref a0), sv (.int a1), sv a2, sv (.int (a3 ||| ((15 : Int32) <<< (((4 : Int32) * a4) &&& 31)))), sv (.int (a4 + (1 : Int32))), sv (.int (15 : Int32))] [] h4)) (
  dA none a2 <|
  dR none a2 fun o7 =>
  vd none h o7 [7, 48] fun m6 =>
  cI (call d m6 [.ref o7, .int a4] h) fun x9 h8 =>
  cI (call d 133 [.int x9, .int (0 : Int32), .int (15 : Int32)] h8) fun x11 h10 =>
  if x11 = (0 : Int32) then
  (ex d 158 11 [sv (.ref a0), sv (.int a1), sv a2, sv (.int (a3 ||| ((15 : Int32) <<< (((4 : Int32) * a4) &&& 31)))), sv (.int (a4 + (1 : Int32))), sv (.int x9)] [] h10)
  else
  (ex d 158 11 [sv (.ref a0), sv (.int a1), sv a2, sv (.int (a3 ||| (x9 <<< (((4 : Int32) * a4) &&& 31)))), sv (.int (a4 + (1 : Int32))), sv (.int x9)] [] h10)))
  else
  (some (some (.int a3), h))) :=
  (ex_unr p_158 o_158 [11] 71 rfl _ _ h).trans rfl

theorem p_159 : prg 159 = (k_159, 4) := rfl
theorem o_159 : okc k_159 = true := by decide +kernel
set_option maxRecDepth 100000 in
theorem e_159 (d : Nat) (a0 : Nat) (a1 : Int32) (h : MHeap) : call (d + 1) 159 [.ref a0, .int a1] h = (
  dvL none (2147483647 : Int64) <|
  gfV none h a0 [11] 0 fun v1 =>
  dR none v1 fun o2 =>
  gfI none h o2 [0] 0 fun x3 =>
  if (0 : Int32) < x3 then
  (gfV none h a0 [11] 0 fun v4 =>
  dR none v4 fun o5 =>
  gfI none h o5 [0] 0 fun x6 =>
  dvL none (Int32.toInt64 x6) <|
  some (some (.int (Int64.toInt32 (((((Int32.toInt64 a1) + (1 : Int64)) * (48271 : Int64)) - (((Int32.toInt64 a1) + (1 : Int64)) * (48271 : Int64)) / (2147483647 : Int64) * (2147483647 : Int64)) - ((((Int32.toInt64 a1) + (1 : Int64)) * (48271 : Int64)) - (((Int32.toInt64 a1) + (1 : Int64)) * (48271 : Int64)) / (2147483647 : Int64) * (2147483647 : Int64)) / (Int32.toInt64 x6) * (Int32.toInt64 x6)))), h))
  else
  (some (some (.int (0 : Int32)), h))) :=
  (call_unr p_159 rfl o_159 rfl [] 29 _ h).trans rfl

theorem p_160 : prg 160 = (k_160, 2) := rfl
theorem o_160 : okc k_160 = true := by decide +kernel
set_option maxRecDepth 100000 in
theorem e_160 (d : Nat) (a0 : Nat) (a1 : Int32) (h : MHeap) : call (d + 1) 160 [.ref a0, .int a1] h = (
  gfV none h a0 [11] 0 fun v1 =>
  dR none v1 fun o2 =>
  gfI none h o2 [0] 2 fun x3 =>
  cI (call d 135 [.int a1] h) fun x5 h4 =>
  vd none h4 a0 [11, 144] fun m6 =>
  cI (call d m6 [.ref a0, .int (x3 ^^^ x5)] h4) fun x8 h7 =>
  cI (call d 135 [.int a1] h7) fun x10 h9 =>
  if x8 = x10 then
  (zr none (1 : Int32) (some (some (.int (1 : Int32)), h9)))
  else
  (zr none (0 : Int32) (some (some (.int (0 : Int32)), h9)))) :=
  (call_unr p_160 rfl o_160 rfl [] 21 _ h).trans rfl

theorem p_161 : prg 161 = (k_161, 3) := rfl
theorem o_161 : okc k_161 = true := by decide +kernel
set_option maxRecDepth 100000 in
theorem e_161 (d : Nat) (a0 : Int32) (a1 : Int32) (a2 : Int32) (h : MHeap) : call (d + 1) 161 [.int a0, .int a1, .int a2] h = (
  if a0 = (1 : Int32) then
  (nwO h 6 [.int 0, .int 0, .int 0] fun o1 h2 =>
  cV (call d 41 [.ref o1, .int a1, .int a2] h2) fun h3 =>
  some (some (.ref o1), h3))
  else
  (if a0 = (2 : Int32) then
  (nwO h 2 [.int 0, .int 0, .int 0] fun o4 h5 =>
  cV (call d 25 [.ref o4, .int a1, .int a2] h5) fun h6 =>
  some (some (.ref o4), h6))
  else
  (if a0 = (3 : Int32) then
  (nwO h 1 [.int 0, .int 0, .int 0] fun o7 h8 =>
  cV (call d 22 [.ref o7, .int a1, .int a2] h8) fun h9 =>
  some (some (.ref o7), h9))
  else
  (if a0 = (4 : Int32) then
  (nwO h 8 [.int 0, .int 0, .int 0] fun o10 h11 =>
  cV (call d 50 [.ref o10, .int a1, .int a2] h11) fun h12 =>
  some (some (.ref o10), h12))
  else
  (if a0 = (5 : Int32) then
  (nwO h 10 [.int 0, .int 0, .int 0] fun o13 h14 =>
  cV (call d 79 [.ref o13, .int a1, .int a2] h14) fun h15 =>
  some (some (.ref o13), h15))
  else
  (nwO h 3 [.int 0, .int 0, .int 0] fun o16 h17 =>
  cV (call d 28 [.ref o16, .int a1, .int a2] h17) fun h18 =>
  some (some (.ref o16), h18))))))) :=
  (call_unr p_161 rfl o_161 rfl [] 43 _ h).trans rfl

theorem p_162 : prg 162 = (k_162, 2) := rfl
theorem o_162 : okc k_162 = true := by decide +kernel
set_option maxRecDepth 100000 in
theorem e_162 (d : Nat) (a0 : Nat) (a1 : Int32) (h : MHeap) : call (d + 1) 162 [.ref a0, .int a1] h = (
  if a1 = (0 : Int32) then
  (zr none (1 : Int32) (some (some (.int (1 : Int32)), h)))
  else
  (if a1 = (1 : Int32) then
  (inO none h a0 [1, 6] [2, 3, 8, 10] fun x1 =>
  zr none x1 (some (some (.int x1), h)))
  else
  (if a1 = (2 : Int32) then
  (inO none h a0 [2, 10] [1, 3, 6, 8] fun x2 =>
  zr none x2 (some (some (.int x2), h)))
  else
  (if a1 = (3 : Int32) then
  (inO none h a0 [1] [2, 3, 6, 8, 10] fun x3 =>
  zr none x3 (some (some (.int x3), h)))
  else
  (if a1 = (4 : Int32) then
  (inO none h a0 [8] [1, 2, 3, 6, 10] fun x4 =>
  zr none x4 (some (some (.int x4), h)))
  else
  (if a1 = (5 : Int32) then
  (inO none h a0 [10] [1, 2, 3, 6, 8] fun x5 =>
  zr none x5 (some (some (.int x5), h)))
  else
  (zr none (0 : Int32) (some (some (.int (0 : Int32)), h))))))))) :=
  (call_unr p_162 rfl o_162 rfl [] 26 _ h).trans rfl

theorem p_163 : prg 163 = (k_163, 3) := rfl
theorem o_163 : okc k_163 = true := by decide +kernel
set_option maxRecDepth 100000 in
theorem e_163 (d : Nat) (a0 : Nat) (a1 : Int32) (a2 : Int32) (h : MHeap) : call (d + 1) 163 [.ref a0, .int a1, .int a2] h = (
  gfV none h a0 [11] 0 fun v1 =>
  dR none v1 fun o3 =>
  vd none h o3 [0, 5] fun m2 =>
  cI (call d m2 [.ref o3, .int a1] h) fun x5 h4 =>
  if x5 = (0 : Int32) then
  (some (some (.int (-11 : Int32)), h4))
  else
  (if a2 = (6 : Int32) then
  (gfV none h4 a0 [11] 0 fun v6 =>
  dR none v6 fun o7 =>
  gfI none h4 o7 [0] 2 fun x8 =>
  cI (call d 137 [.int x8, .int a1] h4) fun x10 h9 =>
  if x10 = (0 : Int32) then
  (some (some (.int (0 : Int32)), h9))
  else
  (some (some (.int (1 : Int32)), h9)))
  else
  (some (some (.int (-13 : Int32)), h4)))) :=
  (call_unr p_163 rfl o_163 rfl [] 28 _ h).trans rfl

theorem p_164 : prg 164 = (k_164, 4) := rfl
theorem o_164 : okc k_164 = true := by decide +kernel
set_option maxRecDepth 100000 in
theorem e_164 (d : Nat) (a0 : Nat) (a1 : Int32) (a2 : Int32) (h : MHeap) : call (d + 1) 164 [.ref a0, .int a1, .int a2] h = (
  gfV none h a0 [11] 0 fun v1 =>
  dR none v1 fun o3 =>
  vd none h o3 [0, 14] fun m2 =>
  cR (call d m2 [.ref o3, .int a1] h) fun v5 h4 =>
  dA none v5 <|
  dA none v5 <|
  dN none v5 (
  some (some (.int (-11 : Int32)), h4)) (
  dA none v5 <|
  cI (call d 162 [v5, .int a2] h4) fun x7 h6 =>
  if x7 = (0 : Int32) then
  (some (some (.int (-13 : Int32)), h6))
  else
  (some (some (.int a1), h6)))) :=
  (call_unr p_164 rfl o_164 rfl [] 23 _ h).trans rfl
end
section
/-! the methods 165 to 214, unrolled up to the heads of their loops -/
theorem p_165 : prg 165 = (k_165, 2) := rfl
theorem o_165 : okc k_165 = true := by decide +kernel
set_option maxRecDepth 100000 in
theorem e_165 (d : Nat) (a0 : Nat) (h : MHeap) : call (d + 1) 165 [.ref a0] h = (
  cV (call d 1003 [.ref a0] h) fun h1 =>
  pfI none h1 a0 [12] 0 (9 : Int32) fun h2 =>
  pfI none h2 a0 [12] 1 (3 : Int32) fun h3 =>
  nwA none h3 100 (7 : Int32) (.int 0) fun o4 h5 =>
  pfV none h5 a0 [12] 4 (.ref o4) fun h6 =>
  nwA none h6 100 (7 : Int32) (.int 0) fun o7 h8 =>
  pfV none h8 a0 [12] 5 (.ref o7) fun h9 =>
  nwA none h9 100 (7 : Int32) (.int 0) fun o10 h11 =>
  pfV none h11 a0 [12] 6 (.ref o10) fun h12 =>
  nwA none h12 100 (160 : Int32) (.int 0) fun o13 h14 =>
  pfV none h14 a0 [12] 7 (.ref o13) fun h15 =>
  ex d 165 48 [sv (.ref a0), none] [] h15) :=
  (call_unr p_165 rfl o_165 rfl [48, 85, 124, 157, 193, 229, 265, 301, 338, 369, 405, 441, 477, 513, 549, 585, 621, 657, 693, 729, 765, 801, 837, 873, 915, 951, 969] 29 _ h).trans rfl
set_option maxRecDepth 100000 in
theorem e_165_48 (d : Nat) (a0 : Nat) (h : MHeap) : ex d 165 48 [sv (.ref a0), none] [] h = (
  nwA none h 100 (1200 : Int32) (.int 0) fun o1 h2 =>
  pfV none h2 a0 [12] 9 (.ref o1) fun h3 =>
  nwA none h3 100 (24 : Int32) (.int 0) fun o4 h5 =>
  pfV none h5 a0 [12] 10 (.ref o4) fun h6 =>
  nwA none h6 100 (4 : Int32) (.int 0) fun o7 h8 =>
  asI none h8 o7 (0 : Int32) (-1 : Int32) fun h9 =>
  asI none h9 o7 (1 : Int32) (-1 : Int32) fun h10 =>
  asI none h10 o7 (2 : Int32) (-1 : Int32) fun h11 =>
  asI none h11 o7 (3 : Int32) (-1 : Int32) fun h12 =>
  ex d 165 85 [sv (.ref a0), none] [.ref o7, .ref a0] h12) :=
  (ex_unr p_165 o_165 [48, 85, 124, 157, 193, 229, 265, 301, 338, 369, 405, 441, 477, 513, 549, 585, 621, 657, 693, 729, 765, 801, 837, 873, 915, 951, 969] 32 rfl _ _ h).trans rfl
set_option maxRecDepth 100000 in
theorem e_165_85 (d : Nat) (a0 : Nat) (s0 : Nat) (s1 : Nat) (h : MHeap) : ex d 165 85 [sv (.ref a0), none] [.ref s0, .ref s1] h = (
  pfV none h s1 [12] 19 (.ref s0) fun h1 =>
  nwA none h1 100 (4 : Int32) (.int 0) fun o2 h3 =>
  pfV none h3 a0 [12] 20 (.ref o2) fun h4 =>
  nwA none h4 100 (160 : Int32) (.int 0) fun o5 h6 =>
  pfV none h6 a0 [12] 21 (.ref o5) fun h7 =>
  nwA none h7 100 (37 : Int32) (.int 0) fun o8 h9 =>
  asI none h9 o8 (0 : Int32) (116 : Int32) fun h10 =>
  asI none h10 o8 (1 : Int32) (117 : Int32) fun h11 =>
  asI none h11 o8 (2 : Int32) (114 : Int32) fun h12 =>
  ex d 165 124 [sv (.ref a0), none] [.ref o8, .ref a0] h12) :=
  (ex_unr p_165 o_165 [48, 85, 124, 157, 193, 229, 265, 301, 338, 369, 405, 441, 477, 513, 549, 585, 621, 657, 693, 729, 765, 801, 837, 873, 915, 951, 969] 29 rfl _ _ h).trans rfl
set_option maxRecDepth 100000 in
theorem e_165_124 (d : Nat) (a0 : Nat) (s0 : Nat) (s1 : Nat) (h : MHeap) : ex d 165 124 [sv (.ref a0), none] [.ref s0, .ref s1] h = (
  asI none h s0 (3 : Int32) (110 : Int32) fun h1 =>
  asI none h1 s0 (4 : Int32) (115 : Int32) fun h2 =>
  asI none h2 s0 (5 : Int32) (32 : Int32) fun h3 =>
  asI none h3 s0 (6 : Int32) (49 : Int32) fun h4 =>
  asI none h4 s0 (7 : Int32) (48 : Int32) fun h5 =>
  asI none h5 s0 (8 : Int32) (32 : Int32) fun h6 =>
  ex d 165 157 [sv (.ref a0), none] [.ref s0, .ref s1] h6) :=
  (ex_unr p_165 o_165 [48, 85, 124, 157, 193, 229, 265, 301, 338, 369, 405, 441, 477, 513, 549, 585, 621, 657, 693, 729, 765, 801, 837, 873, 915, 951, 969] 29 rfl _ _ h).trans rfl
set_option maxRecDepth 100000 in
theorem e_165_157 (d : Nat) (a0 : Nat) (s0 : Nat) (s1 : Nat) (h : MHeap) : ex d 165 157 [sv (.ref a0), none] [.ref s0, .ref s1] h = (
  asI none h s0 (9 : Int32) (59 : Int32) fun h1 =>
  asI none h1 s0 (10 : Int32) (32 : Int32) fun h2 =>
  asI none h2 s0 (11 : Int32) (115 : Int32) fun h3 =>
  asI none h3 s0 (12 : Int32) (119 : Int32) fun h4 =>
  asI none h4 s0 (13 : Int32) (97 : Int32) fun h5 =>
  asI none h5 s0 (14 : Int32) (112 : Int32) fun h6 =>
  ex d 165 193 [sv (.ref a0), none] [.ref s0, .ref s1] h6) :=
  (ex_unr p_165 o_165 [48, 85, 124, 157, 193, 229, 265, 301, 338, 369, 405, 441, 477, 513, 549, 585, 621, 657, 693, 729, 765, 801, 837, 873, 915, 951, 969] 29 rfl _ _ h).trans rfl
set_option maxRecDepth 100000 in
theorem e_165_193 (d : Nat) (a0 : Nat) (s0 : Nat) (s1 : Nat) (h : MHeap) : ex d 165 193 [sv (.ref a0), none] [.ref s0, .ref s1] h = (
  asI none h s0 (15 : Int32) (115 : Int32) fun h1 =>
  asI none h1 s0 (16 : Int32) (32 : Int32) fun h2 =>
  asI none h2 s0 (17 : Int32) (53 : Int32) fun h3 =>
  asI none h3 s0 (18 : Int32) (32 : Int32) fun h4 =>
  asI none h4 s0 (19 : Int32) (59 : Int32) fun h5 =>
  asI none h5 s0 (20 : Int32) (32 : Int32) fun h6 =>
  ex d 165 229 [sv (.ref a0), none] [.ref s0, .ref s1] h6) :=
  (ex_unr p_165 o_165 [48, 85, 124, 157, 193, 229, 265, 301, 338, 369, 405, 441, 477, 513, 549, 585, 621, 657, 693, 729, 765, 801, 837, 873, 915, 951, 969] 29 rfl _ _ h).trans rfl
set_option maxRecDepth 100000 in
theorem e_165_229 (d : Nat) (a0 : Nat) (s0 : Nat) (s1 : Nat) (h : MHeap) : ex d 165 229 [sv (.ref a0), none] [.ref s0, .ref s1] h = (
  asI none h s0 (21 : Int32) (108 : Int32) fun h1 =>
  asI none h1 s0 (22 : Int32) (111 : Int32) fun h2 =>
  asI none h2 s0 (23 : Int32) (111 : Int32) fun h3 =>
  asI none h3 s0 (24 : Int32) (107 : Int32) fun h4 =>
  asI none h4 s0 (25 : Int32) (115 : Int32) fun h5 =>
  asI none h5 s0 (26 : Int32) (32 : Int32) fun h6 =>
  ex d 165 265 [sv (.ref a0), none] [.ref s0, .ref s1] h6) :=
  (ex_unr p_165 o_165 [48, 85, 124, 157, 193, 229, 265, 301, 338, 369, 405, 441, 477, 513, 549, 585, 621, 657, 693, 729, 765, 801, 837, 873, 915, 951, 969] 29 rfl _ _ h).trans rfl
set_option maxRecDepth 100000 in
theorem e_165_265 (d : Nat) (a0 : Nat) (s0 : Nat) (s1 : Nat) (h : MHeap) : ex d 165 265 [sv (.ref a0), none] [.ref s0, .ref s1] h = (
  asI none h s0 (27 : Int32) (49 : Int32) fun h1 =>
  asI none h1 s0 (28 : Int32) (32 : Int32) fun h2 =>
  asI none h2 s0 (29 : Int32) (43 : Int32) fun h3 =>
  asI none h3 s0 (30 : Int32) (32 : Int32) fun h4 =>
  asI none h4 s0 (31 : Int32) (109 : Int32) fun h5 =>
  asI none h5 s0 (32 : Int32) (97 : Int32) fun h6 =>
  ex d 165 301 [sv (.ref a0), none] [.ref s0, .ref s1] h6) :=
  (ex_unr p_165 o_165 [48, 85, 124, 157, 193, 229, 265, 301, 338, 369, 405, 441, 477, 513, 549, 585, 621, 657, 693, 729, 765, 801, 837, 873, 915, 951, 969] 29 rfl _ _ h).trans rfl
set_option maxRecDepth 100000 in
theorem e_165_301 (d : Nat) (a0 : Nat) (s0 : Nat) (s1 : Nat) (h : MHeap) : ex d 165 301 [sv (.ref a0), none] [.ref s0, .ref s1] h = (
  asI none h s0 (33 : Int32) (110 : Int32) fun h1 =>
  asI none h1 s0 (34 : Int32) (121 : Int32) fun h2 =>
  asI none h2 s0 (35 : Int32) (32 : Int32) fun h3 =>
  asI none h3 s0 (36 : Int32) (59 : Int32) fun h4 =>
  pfV none h4 s1 [12] 22 (.ref s0) fun h5 =>
  nwA none h5 100 (96 : Int32) (.int 0) fun o6 h7 =>
  asI none h7 o6 (0 : Int32) (116 : Int32) fun h8 =>
  ex d 165 338 [sv (.ref a0), none] [.ref o6, .ref a0] h8) :=
  (ex_unr p_165 o_165 [48, 85, 124, 157, 193, 229, 265, 301, 338, 369, 405, 441, 477, 513, 549, 585, 621, 657, 693, 729, 765, 801, 837, 873, 915, 951, 969] 29 rfl _ _ h).trans rfl
set_option maxRecDepth 100000 in
theorem e_165_338 (d : Nat) (a0 : Nat) (s0 : Nat) (s1 : Nat) (h : MHeap) : ex d 165 338 [sv (.ref a0), none] [.ref s0, .ref s1] h = (
  asI none h s0 (1 : Int32) (117 : Int32) fun h1 =>
  asI none h1 s0 (2 : Int32) (114 : Int32) fun h2 =>
  asI none h2 s0 (3 : Int32) (110 : Int32) fun h3 =>
  asI none h3 s0 (4 : Int32) (115 : Int32) fun h4 =>
  asI none h4 s0 (5 : Int32) (32 : Int32) fun h5 =>
  asI none h5 s0 (6 : Int32) (32 : Int32) fun h6 =>
  ex d 165 369 [sv (.ref a0), none] [.ref s0, .ref s1] h6) :=
  (ex_unr p_165 o_165 [48, 85, 124, 157, 193, 229, 265, 301, 338, 369, 405, 441, 477, 513, 549, 585, 621, 657, 693, 729, 765, 801, 837, 873, 915, 951, 969] 29 rfl _ _ h).trans rfl
set_option maxRecDepth 100000 in
theorem e_165_369 (d : Nat) (a0 : Nat) (s0 : Nat) (s1 : Nat) (h : MHeap) : ex d 165 369 [sv (.ref a0), none] [.ref s0, .ref s1] h = (
  asI none h s0 (7 : Int32) (32 : Int32) fun h1 =>
  asI none h1 s0 (8 : Int32) (115 : Int32) fun h2 =>
  asI none h2 s0 (9 : Int32) (119 : Int32) fun h3 =>
  asI none h3 s0 (10 : Int32) (97 : Int32) fun h4 =>
  asI none h4 s0 (11 : Int32) (112 : Int32) fun h5 =>
  asI none h5 s0 (12 : Int32) (115 : Int32) fun h6 =>
  ex d 165 405 [sv (.ref a0), none] [.ref s0, .ref s1] h6) :=
  (ex_unr p_165 o_165 [48, 85, 124, 157, 193, 229, 265, 301, 338, 369, 405, 441, 477, 513, 549, 585, 621, 657, 693, 729, 765, 801, 837, 873, 915, 951, 969] 29 rfl _ _ h).trans rfl
set_option maxRecDepth 100000 in
theorem e_165_405 (d : Nat) (a0 : Nat) (s0 : Nat) (s1 : Nat) (h : MHeap) : ex d 165 405 [sv (.ref a0), none] [.ref s0, .ref s1] h = (
  asI none h s0 (13 : Int32) (32 : Int32) fun h1 =>
  asI none h1 s0 (14 : Int32) (32 : Int32) fun h2 =>
  asI none h2 s0 (15 : Int32) (32 : Int32) fun h3 =>
  asI none h3 s0 (16 : Int32) (108 : Int32) fun h4 =>
  asI none h4 s0 (17 : Int32) (111 : Int32) fun h5 =>
  asI none h5 s0 (18 : Int32) (111 : Int32) fun h6 =>
  ex d 165 441 [sv (.ref a0), none] [.ref s0, .ref s1] h6) :=
  (ex_unr p_165 o_165 [48, 85, 124, 157, 193, 229, 265, 301, 338, 369, 405, 441, 477, 513, 549, 585, 621, 657, 693, 729, 765, 801, 837, 873, 915, 951, 969] 29 rfl _ _ h).trans rfl
set_option maxRecDepth 100000 in
theorem e_165_441 (d : Nat) (a0 : Nat) (s0 : Nat) (s1 : Nat) (h : MHeap) : ex d 165 441 [sv (.ref a0), none] [.ref s0, .ref s1] h = (
  asI none h s0 (19 : Int32) (107 : Int32) fun h1 =>
  asI none h1 s0 (20 : Int32) (115 : Int32) fun h2 =>
  asI none h2 s0 (21 : Int32) (32 : Int32) fun h3 =>
  asI none h3 s0 (22 : Int32) (32 : Int32) fun h4 =>
  asI none h4 s0 (23 : Int32) (32 : Int32) fun h5 =>
  asI none h5 s0 (24 : Int32) (99 : Int32) fun h6 =>
  ex d 165 477 [sv (.ref a0), none] [.ref s0, .ref s1] h6) :=
  (ex_unr p_165 o_165 [48, 85, 124, 157, 193, 229, 265, 301, 338, 369, 405, 441, 477, 513, 549, 585, 621, 657, 693, 729, 765, 801, 837, 873, 915, 951, 969] 29 rfl _ _ h).trans rfl
set_option maxRecDepth 100000 in
theorem e_165_477 (d : Nat) (a0 : Nat) (s0 : Nat) (s1 : Nat) (h : MHeap) : ex d 165 477 [sv (.ref a0), none] [.ref s0, .ref s1] h = (
  asI none h s0 (25 : Int32) (97 : Int32) fun h1 =>
  asI none h1 s0 (26 : Int32) (114 : Int32) fun h2 =>
  asI none h2 s0 (27 : Int32) (100 : Int32) fun h3 =>
  asI none h3 s0 (28 : Int32) (32 : Int32) fun h4 =>
  asI none h4 s0 (29 : Int32) (32 : Int32) fun h5 =>
  asI none h5 s0 (30 : Int32) (32 : Int32) fun h6 =>
  ex d 165 513 [sv (.ref a0), none] [.ref s0, .ref s1] h6) :=
  (ex_unr p_165 o_165 [48, 85, 124, 157, 193, 229, 265, 301, 338, 369, 405, 441, 477, 513, 549, 585, 621, 657, 693, 729, 765, 801, 837, 873, 915, 951, 969] 29 rfl _ _ h).trans rfl
set_option maxRecDepth 100000 in
theorem e_165_513 (d : Nat) (a0 : Nat) (s0 : Nat) (s1 : Nat) (h : MHeap) : ex d 165 513 [sv (.ref a0), none] [.ref s0, .ref s1] h = (
  asI none h s0 (31 : Int32) (32 : Int32) fun h1 =>
  asI none h1 s0 (32 : Int32) (114 : Int32) fun h2 =>
  asI none h2 s0 (33 : Int32) (111 : Int32) fun h3 =>
  asI none h3 s0 (34 : Int32) (119 : Int32) fun h4 =>
  asI none h4 s0 (35 : Int32) (32 : Int32) fun h5 =>
  asI none h5 s0 (36 : Int32) (32 : Int32) fun h6 =>
  ex d 165 549 [sv (.ref a0), none] [.ref s0, .ref s1] h6) :=
  (ex_unr p_165 o_165 [48, 85, 124, 157, 193, 229, 265, 301, 338, 369, 405, 441, 477, 513, 549, 585, 621, 657, 693, 729, 765, 801, 837, 873, 915, 951, 969] 29 rfl _ _ h).trans rfl
set_option maxRecDepth 100000 in
theorem e_165_549 (d : Nat) (a0 : Nat) (s0 : Nat) (s1 : Nat) (h : MHeap) : ex d 165 549 [sv (.ref a0), none] [.ref s0, .ref s1] h = (
  asI none h s0 (37 : Int32) (32 : Int32) fun h1 =>
  asI none h1 s0 (38 : Int32) (32 : Int32) fun h2 =>
  asI none h2 s0 (39 : Int32) (32 : Int32) fun h3 =>
  asI none h3 s0 (40 : Int32) (99 : Int32) fun h4 =>
  asI none h4 s0 (41 : Int32) (111 : Int32) fun h5 =>
  asI none h5 s0 (42 : Int32) (108 : Int32) fun h6 =>
  ex d 165 585 [sv (.ref a0), none] [.ref s0, .ref s1] h6) :=
  (ex_unr p_165 o_165 [48, 85, 124, 157, 193, 229, 265, 301, 338, 369, 405, 441, 477, 513, 549, 585, 621, 657, 693, 729, 765, 801, 837, 873, 915, 951, 969] 29 rfl _ _ h).trans rfl
set_option maxRecDepth 100000 in
theorem e_165_585 (d : Nat) (a0 : Nat) (s0 : Nat) (s1 : Nat) (h : MHeap) : ex d 165 585 [sv (.ref a0), none] [.ref s0, .ref s1] h = (
  asI none h s0 (43 : Int32) (117 : Int32) fun h1 =>
  asI none h1 s0 (44 : Int32) (109 : Int32) fun h2 =>
  asI none h2 s0 (45 : Int32) (110 : Int32) fun h3 =>
  asI none h3 s0 (46 : Int32) (32 : Int32) fun h4 =>
  asI none h4 s0 (47 : Int32) (32 : Int32) fun h5 =>
  asI none h5 s0 (48 : Int32) (98 : Int32) fun h6 =>
  ex d 165 621 [sv (.ref a0), none] [.ref s0, .ref s1] h6) :=
  (ex_unr p_165 o_165 [48, 85, 124, 157, 193, 229, 265, 301, 338, 369, 405, 441, 477, 513, 549, 585, 621, 657, 693, 729, 765, 801, 837, 873, 915, 951, 969] 29 rfl _ _ h).trans rfl
set_option maxRecDepth 100000 in
theorem e_165_621 (d : Nat) (a0 : Nat) (s0 : Nat) (s1 : Nat) (h : MHeap) : ex d 165 621 [sv (.ref a0), none] [.ref s0, .ref s1] h = (
  asI none h s0 (49 : Int32) (97 : Int32) fun h1 =>
  asI none h1 s0 (50 : Int32) (99 : Int32) fun h2 =>
  asI none h2 s0 (51 : Int32) (107 : Int32) fun h3 =>
  asI none h3 s0 (52 : Int32) (32 : Int32) fun h4 =>
  asI none h4 s0 (53 : Int32) (32 : Int32) fun h5 =>
  asI none h5 s0 (54 : Int32) (32 : Int32) fun h6 =>
  ex d 165 657 [sv (.ref a0), none] [.ref s0, .ref s1] h6) :=
  (ex_unr p_165 o_165 [48, 85, 124, 157, 193, 229, 265, 301, 338, 369, 405, 441, 477, 513, 549, 585, 621, 657, 693, 729, 765, 801, 837, 873, 915, 951, 969] 29 rfl _ _ h).trans rfl
set_option maxRecDepth 100000 in
theorem e_165_657 (d : Nat) (a0 : Nat) (s0 : Nat) (s1 : Nat) (h : MHeap) : ex d 165 657 [sv (.ref a0), none] [.ref s0, .ref s1] h = (
  asI none h s0 (55 : Int32) (32 : Int32) fun h1 =>
  asI none h1 s0 (56 : Int32) (109 : Int32) fun h2 =>
  asI none h2 s0 (57 : Int32) (97 : Int32) fun h3 =>
  asI none h3 s0 (58 : Int32) (110 : Int32) fun h4 =>
  asI none h4 s0 (59 : Int32) (121 : Int32) fun h5 =>
  asI none h5 s0 (60 : Int32) (32 : Int32) fun h6 =>
  ex d 165 693 [sv (.ref a0), none] [.ref s0, .ref s1] h6) :=
  (ex_unr p_165 o_165 [48, 85, 124, 157, 193, 229, 265, 301, 338, 369, 405, 441, 477, 513, 549, 585, 621, 657, 693, 729, 765, 801, 837, 873, 915, 951, 969] 29 rfl _ _ h).trans rfl
set_option maxRecDepth 100000 in
theorem e_165_693 (d : Nat) (a0 : Nat) (s0 : Nat) (s1 : Nat) (h : MHeap) : ex d 165 693 [sv (.ref a0), none] [.ref s0, .ref s1] h = (
  asI none h s0 (61 : Int32) (32 : Int32) fun h1 =>
  asI none h1 s0 (62 : Int32) (32 : Int32) fun h2 =>
  asI none h2 s0 (63 : Int32) (32 : Int32) fun h3 =>
  asI none h3 s0 (64 : Int32) (102 : Int32) fun h4 =>
  asI none h4 s0 (65 : Int32) (97 : Int32) fun h5 =>
  asI none h5 s0 (66 : Int32) (105 : Int32) fun h6 =>
  ex d 165 729 [sv (.ref a0), none] [.ref s0, .ref s1] h6) :=
  (ex_unr p_165 o_165 [48, 85, 124, 157, 193, 229, 265, 301, 338, 369, 405, 441, 477, 513, 549, 585, 621, 657, 693, 729, 765, 801, 837, 873, 915, 951, 969] 29 rfl _ _ h).trans rfl
set_option maxRecDepth 100000 in
theorem e_165_729 (d : Nat) (a0 : Nat) (s0 : Nat) (s1 : Nat) (h : MHeap) : ex d 165 729 [sv (.ref a0), none] [.ref s0, .ref s1] h = (
  asI none h s0 (67 : Int32) (108 : Int32) fun h1 =>
  asI none h1 s0 (68 : Int32) (115 : Int32) fun h2 =>
  asI none h2 s0 (69 : Int32) (32 : Int32) fun h3 =>
  asI none h3 s0 (70 : Int32) (32 : Int32) fun h4 =>
  asI none h4 s0 (71 : Int32) (32 : Int32) fun h5 =>
  asI none h5 s0 (72 : Int32) (111 : Int32) fun h6 =>
  ex d 165 765 [sv (.ref a0), none] [.ref s0, .ref s1] h6) :=
  (ex_unr p_165 o_165 [48, 85, 124, 157, 193, 229, 265, 301, 338, 369, 405, 441, 477, 513, 549, 585, 621, 657, 693, 729, 765, 801, 837, 873, 915, 951, 969] 29 rfl _ _ h).trans rfl
set_option maxRecDepth 100000 in
theorem e_165_765 (d : Nat) (a0 : Nat) (s0 : Nat) (s1 : Nat) (h : MHeap) : ex d 165 765 [sv (.ref a0), none] [.ref s0, .ref s1] h = (
  asI none h s0 (73 : Int32) (114 : Int32) fun h1 =>
  asI none h1 s0 (74 : Int32) (32 : Int32) fun h2 =>
  asI none h2 s0 (75 : Int32) (32 : Int32) fun h3 =>
  asI none h3 s0 (76 : Int32) (32 : Int32) fun h4 =>
  asI none h4 s0 (77 : Int32) (32 : Int32) fun h5 =>
  asI none h5 s0 (78 : Int32) (32 : Int32) fun h6 =>
  ex d 165 801 [sv (.ref a0), none] [.ref s0, .ref s1] h6) :=
  (ex_unr p_165 o_165 [48, 85, 124, 157, 193, 229, 265, 301, 338, 369, 405, 441, 477, 513, 549, 585, 621, 657, 693, 729, 765, 801, 837, 873, 915, 951, 969] 29 rfl _ _ h).trans rfl
set_option maxRecDepth 100000 in
theorem e_165_801 (d : Nat) (a0 : Nat) (s0 : Nat) (s1 : Nat) (h : MHeap) : ex d 165 801 [sv (.ref a0), none] [.ref s0, .ref s1] h = (
  asI none h s0 (79 : Int32) (32 : Int32) fun h1 =>
  asI none h1 s0 (80 : Int32) (97 : Int32) fun h2 =>
  asI none h2 s0 (81 : Int32) (110 : Int32) fun h3 =>
  asI none h3 s0 (82 : Int32) (100 : Int32) fun h4 =>
  asI none h4 s0 (83 : Int32) (32 : Int32) fun h5 =>
  asI none h5 s0 (84 : Int32) (32 : Int32) fun h6 =>
  ex d 165 837 [sv (.ref a0), none] [.ref s0, .ref s1] h6) :=
  (ex_unr p_165 o_165 [48, 85, 124, 157, 193, 229, 265, 301, 338, 369, 405, 441, 477, 513, 549, 585, 621, 657, 693, 729, 765, 801, 837, 873, 915, 951, 969] 29 rfl _ _ h).trans rfl
set_option maxRecDepth 100000 in
theorem e_165_837 (d : Nat) (a0 : Nat) (s0 : Nat) (s1 : Nat) (h : MHeap) : ex d 165 837 [sv (.ref a0), none] [.ref s0, .ref s1] h = (
  asI none h s0 (85 : Int32) (32 : Int32) fun h1 =>
  asI none h1 s0 (86 : Int32) (32 : Int32) fun h2 =>
  asI none h2 s0 (87 : Int32) (32 : Int32) fun h3 =>
  asI none h3 s0 (88 : Int32) (110 : Int32) fun h4 =>
  asI none h4 s0 (89 : Int32) (111 : Int32) fun h5 =>
  asI none h5 s0 (90 : Int32) (116 : Int32) fun h6 =>
  ex d 165 873 [sv (.ref a0), none] [.ref s0, .ref s1] h6) :=
  (ex_unr p_165 o_165 [48, 85, 124, 157, 193, 229, 265, 301, 338, 369, 405, 441, 477, 513, 549, 585, 621, 657, 693, 729, 765, 801, 837, 873, 915, 951, 969] 29 rfl _ _ h).trans rfl
set_option maxRecDepth 100000 in
theorem e_165_873 (d : Nat) (a0 : Nat) (s0 : Nat) (s1 : Nat) (h : MHeap) : ex d 165 873 [sv (.ref a0), none] [.ref s0, .ref s1] h = (
  asI none h s0 (91 : Int32) (32 : Int32) fun h1 =>
  asI none h1 s0 (92 : Int32) (32 : Int32) fun h2 =>
  asI none h2 s0 (93 : Int32) (32 : Int32) fun h3 =>
  asI none h3 s0 (94 : Int32) (32 : Int32) fun h4 =>
  asI none h4 s0 (95 : Int32) (32 : Int32) fun h5 =>
  pfV none h5 s1 [12] 27 (.ref s0) fun h6 =>
  nwA none h6 100 (200 : Int32) (.int 0) fun o7 h8 =>
  pfV none h8 a0 [12] 28 (.ref o7) fun h9 =>
  ex d 165 915 [sv (.ref a0), none] [] h9) :=
  (ex_unr p_165 o_165 [48, 85, 124, 157, 193, 229, 265, 301, 338, 369, 405, 441, 477, 513, 549, 585, 621, 657, 693, 729, 765, 801, 837, 873, 915, 951, 969] 30 rfl _ _ h).trans rfl
set_option maxRecDepth 100000 in
theorem e_165_915 (d : Nat) (a0 : Nat) (h : MHeap) : ex d 165 915 [sv (.ref a0), none] [] h = (
  nwA none h 100 (200 : Int32) (.int 0) fun o1 h2 =>
  pfV none h2 a0 [12] 32 (.ref o1) fun h3 =>
  nwA none h3 100 (6 : Int32) (.int 0) fun o4 h5 =>
  pfV none h5 a0 [12] 33 (.ref o4) fun h6 =>
  nwA none h6 100 (7 : Int32) (.int 0) fun o7 h8 =>
  pfV none h8 a0 [12] 34 (.ref o7) fun h9 =>
  nwA none h9 100 (300 : Int32) (.int 0) fun o10 h11 =>
  pfV none h11 a0 [12] 35 (.ref o10) fun h12 =>
  ex d 165 951 [sv (.ref a0), sv (.int (0 : Int32))] [] h12) :=
  (ex_unr p_165 o_165 [48, 85, 124, 157, 193, 229, 265, 301, 338, 369, 405, 441, 477, 513, 549, 585, 621, 657, 693, 729, 765, 801, 837, 873, 915, 951, 969] 23 rfl _ _ h).trans rfl
set_option maxRecDepth 100000 in
theorem e_165_951 (d : Nat) (a0 : Nat) (a1 : Int32) (h : MHeap) : ex d 165 951 [sv (.ref a0), sv (.int a1)] [] h = (
  if a1 < (37 : Int32) then
  (gfV none h a0 [12] 7 fun v1 =>
  gfV none h a0 [12] 22 fun v2 =>
  dR none v2 fun o4 =>
  alI none h o4 a1 fun x3 =>
  dR none v1 fun o6 =>
  asI none h o6 a1 x3 fun h5 =>
  ex d 165 969 [sv (.ref a0), sv (.int a1)] [] h5)
  else
  (pfI none h a0 [12] 8 (37 : Int32) fun h7 =>
  vd none h7 a0 [12, 190] fun m8 =>
  cI (call d m8 [.ref a0] h7) fun x10 h9 =>
  some (none, h9))) :=
  (ex_unr p_165 o_165 [48, 85, 124, 157, 193, 229, 265, 301, 338, 369, 405, 441, 477, 513, 549, 585, 621, 657, 693, 729, 765, 801, 837, 873, 915, 951, 969] 23 rfl _ _ h).trans rfl
set_option maxRecDepth 100000 in
theorem e_165_969 (d : Nat) (a0 : Nat) (a1 : Int32) (h : MHeap) : ex d 165 969 [sv (.ref a0), sv (.int a1)] [] h = (
  ex d 165 951 [sv (.ref a0), sv (.int (a1 + (1 : Int32)))] [] h) :=
  (ex_unr p_165 o_165 [48, 85, 124, 157, 193, 229, 265, 301, 338, 369, 405, 441, 477, 513, 549, 585, 621, 657, 693, 729, 765, 801, 837, 873, 915, 951, 969] 7 rfl _ _ h).trans rfl

theorem p_166 : prg 166 = (k_166, 3) := rfl
theorem o_166 : okc k_166 = true := by decide +kernel
set_option maxRecDepth 100000 in
theorem e_166 (d : Nat) (a0 : Int32) (a1 : Int32) (a2 : Int32) (h : MHeap) : call (d + 1) 166 [.int a0, .int a1, .int a2] h = (
  if a0 < a1 then
  (zr none (0 : Int32) (some (some (.int (0 : Int32)), h)))
  else
  (if a2 < a0 then
  (zr none (0 : Int32) (some (some (.int (0 : Int32)), h)))
  else
  (zr none (1 : Int32) (some (some (.int (1 : Int32)), h))))) :=
  (call_unr p_166 rfl o_166 rfl [] 18 _ h).trans rfl

theorem p_167 : prg 167 = (k_167, 3) := rfl
theorem o_167 : okc k_167 = true := by decide +kernel
set_option maxRecDepth 100000 in
theorem e_167 (d : Nat) (a0 : Int32) (a1 : Int32) (a2 : Int32) (h : MHeap) : call (d + 1) 167 [.int a0, .int a1, .int a2] h = (
  if a0 < a1 then
  (some (some (.int a1), h))
  else
  (if a2 < a0 then
  (some (some (.int a2), h))
  else
  (some (some (.int a0), h)))) :=
  (call_unr p_167 rfl o_167 rfl [] 19 _ h).trans rfl

theorem p_168 : prg 168 = (k_168, 3) := rfl
theorem o_168 : okc k_168 = true := by decide +kernel
set_option maxRecDepth 100000 in
theorem e_168 (d : Nat) (a0 : Int32) (h : MHeap) : call (d + 1) 168 [.int a0] h = (
  ex d 168 4 [sv (.int a0), sv (.int (0 : Int32)), sv (.int (0 : Int32))] [] h) :=
  (call_unr p_168 rfl o_168 rfl [4] 9 _ h).trans rfl
set_option maxRecDepth 100000 in
theorem e_168_4 (d : Nat) (a0 : Int32) (a1 : Int32) (a2 : Int32) (h : MHeap) : ex d 168 4 [sv (.int a0), sv (.int a1), sv (.int a2)] [] h = (
  if a2 < (12 : Int32) then
  (ex d 168 4 [sv (.int a0), sv (.int (a1 + ((a0 >>> (a2 &&& 31)) &&& (1 : Int32)))), sv (.int (a2 + (1 : Int32)))] [] h)
  else
  (some (some (.int a1), h))) :=
  (ex_unr p_168 o_168 [4] 20 rfl _ _ h).trans rfl

theorem p_169 : prg 169 = (k_169, 2) := rfl
theorem o_169 : okc k_169 = true := by decide +kernel
set_option maxRecDepth 100000 in
theorem e_169 (d : Nat) (a0 : Nat) (a1 : Int32) (h : MHeap) : call (d + 1) 169 [.ref a0, .int a1] h = (
  gfI none h a0 [12] 0 fun x1 =>
  cI (call d 166 [.int a1, .int (0 : Int32), .int (x1 - (1 : Int32))] h) fun x3 h2 =>
  zr none x3 (some (some (.int x3), h2))) :=
  (call_unr p_169 rfl o_169 rfl [] 13 _ h).trans rfl

theorem p_170 : prg 170 = (k_170, 2) := rfl
theorem o_170 : okc k_170 = true := by decide +kernel
set_option maxRecDepth 100000 in
theorem e_170 (d : Nat) (a0 : Nat) (a1 : Int32) (h : MHeap) : call (d + 1) 170 [.ref a0, .int a1] h = (
  gfI none h a0 [12] 3 fun x1 =>
  cI (call d 166 [.int a1, .int (0 : Int32), .int (x1 - (1 : Int32))] h) fun x3 h2 =>
  zr none x3 (some (some (.int x3), h2))) :=
  (call_unr p_170 rfl o_170 rfl [] 13 _ h).trans rfl

theorem p_171 : prg 171 = (k_171, 1) := rfl
theorem o_171 : okc k_171 = true := by decide +kernel
set_option maxRecDepth 100000 in
theorem e_171 (d : Nat) (a0 : Nat) (h : MHeap) : call (d + 1) 171 [.ref a0] h = (
  gfI none h a0 [12] 0 fun x1 =>
  some (some (.int (((1 : Int32) <<< (x1 &&& 31)) - (1 : Int32))), h)) :=
  (call_unr p_171 rfl o_171 rfl [] 12 _ h).trans rfl

theorem p_172 : prg 172 = (k_172, 2) := rfl
theorem o_172 : okc k_172 = true := by decide +kernel
set_option maxRecDepth 100000 in
theorem e_172 (d : Nat) (a0 : Nat) (a1 : Int32) (h : MHeap) : call (d + 1) 172 [.ref a0, .int a1] h = (
  vd none h a0 [12, 171] fun m1 =>
  cI (call d m1 [.ref a0] h) fun x3 h2 =>
  cI (call d 166 [.int a1, .int (0 : Int32), .int x3] h2) fun x5 h4 =>
  zr none x5 (some (some (.int x5), h4))) :=
  (call_unr p_172 rfl o_172 rfl [] 11 _ h).trans rfl

theorem p_173 : prg 173 = (k_173, 4) := rfl
theorem o_173 : okc k_173 = true := by decide +kernel
set_option maxRecDepth 100000 in
theorem e_173 (d : Nat) (a0 : Nat) (a1 : Int32) (a2 : Int32) (h : MHeap) : call (d + 1) 173 [.ref a0, .int a1, .int a2] h = (
  cI (call d 166 [.int a1, .int (1 : Int32), .int (12 : Int32)] h) fun x2 h1 =>
  if x2 = (0 : Int32) then
  (some (some (.int (-2 : Int32)), h1))
  else
  (cI (call d 166 [.int a2, .int (1 : Int32), .int (12 : Int32)] h1) fun x4 h3 =>
  if x4 = (0 : Int32) then
  (some (some (.int (-2 : Int32)), h3))
  else
  (gfI none h3 a0 [12] 0 fun x5 =>
  pfI none h3 a0 [12] 0 a1 fun h6 =>
  pfI none h6 a0 [12] 1 a2 fun h7 =>
  pfI none h7 a0 [12] 2 (0 : Int32) fun h8 =>
  some (some (.int x5), h8)))) :=
  (call_unr p_173 rfl o_173 rfl [] 33 _ h).trans rfl

theorem p_174 : prg 174 = (k_174, 2) := rfl
theorem o_174 : okc k_174 = true := by decide +kernel
set_option maxRecDepth 100000 in
theorem e_174 (d : Nat) (a0 : Nat) (a1 : Int32) (h : MHeap) : call (d + 1) 174 [.ref a0, .int a1] h = (
  vd none h a0 [12, 172] fun m1 =>
  cI (call d m1 [.ref a0, .int a1] h) fun x3 h2 =>
  if x3 = (0 : Int32) then
  (some (some (.int (-2 : Int32)), h2))
  else
  (gfI none h2 a0 [12] 2 fun x4 =>
  pfI none h2 a0 [12] 2 (x4 ^^^ a1) fun h5 =>
  gfI none h5 a0 [12] 2 fun x6 =>
  some (some (.int x6), h5))) :=
  (call_unr p_174 rfl o_174 rfl [] 20 _ h).trans rfl

theorem p_175 : prg 175 = (k_175, 3) := rfl
theorem o_175 : okc k_175 = true := by decide +kernel
set_option maxRecDepth 100000 in
theorem e_175 (d : Nat) (a0 : Int32) (a1 : Int32) (a2 : Int32) (h : MHeap) : call (d + 1) 175 [.int a0, .int a1, .int a2] h = (
  if ((a0 >>> (a1 &&& 31)) &&& (1 : Int32)) = ((a0 >>> (a2 &&& 31)) &&& (1 : Int32)) then
  (some (some (.int a0), h))
  else
  (some (some (.int (a0 ^^^ (((1 : Int32) <<< (a1 &&& 31)) ||| ((1 : Int32) <<< (a2 &&& 31))))), h))) :=
  (call_unr p_175 rfl o_175 rfl [] 29 _ h).trans rfl

theorem p_176 : prg 176 = (k_176, 4) := rfl
theorem o_176 : okc k_176 = true := by decide +kernel
set_option maxRecDepth 100000 in
theorem e_176 (d : Nat) (a0 : Nat) (a1 : Int32) (a2 : Int32) (h : MHeap) : call (d + 1) 176 [.ref a0, .int a1, .int a2] h = (
  vd none h a0 [12, 169] fun m1 =>
  cI (call d m1 [.ref a0, .int a1] h) fun x3 h2 =>
  if x3 = (0 : Int32) then
  (some (some (.int (-5 : Int32)), h2))
  else
  (vd none h2 a0 [12, 169] fun m4 =>
  cI (call d m4 [.ref a0, .int a2] h2) fun x6 h5 =>
  if x6 = (0 : Int32) then
  (some (some (.int (-5 : Int32)), h5))
  else
  (if a1 = a2 then
  (some (some (.int (-5 : Int32)), h5))
  else
  (gfI none h5 a0 [12] 2 fun x7 =>
  gfI none h5 a0 [12] 2 fun x8 =>
  cI (call d 175 [.int x8, .int a1, .int a2] h5) fun x10 h9 =>
  pfI none h9 a0 [12] 2 x10 fun h11 =>
  gfI none h11 a0 [12] 2 fun x12 =>
  if x12 = x7 then
  (some (some (.int (0 : Int32)), h11))
  else
  (some (some (.int (1 : Int32)), h11)))))) :=
  (call_unr p_176 rfl o_176 rfl [] 41 _ h).trans rfl

theorem p_177 : prg 177 = (k_177, 2) := rfl
theorem o_177 : okc k_177 = true := by decide +kernel
set_option maxRecDepth 100000 in
theorem e_177 (d : Nat) (a0 : Nat) (a1 : Int32) (h : MHeap) : call (d + 1) 177 [.ref a0, .int a1] h = (
  if a1 = (0 : Int32) then
  (gfI none h a0 [12] 0 fun x1 =>
  some (some (.int x1), h))
  else
  (if a1 = (1 : Int32) then
  (gfI none h a0 [12] 1 fun x2 =>
  some (some (.int x2), h))
  else
  (if a1 = (2 : Int32) then
  (gfI none h a0 [12] 2 fun x3 =>
  some (some (.int x3), h))
  else
  (if a1 = (3 : Int32) then
  (gfI none h a0 [12] 3 fun x4 =>
  some (some (.int x4), h))
  else
  (if a1 = (4 : Int32) then
  (gfI none h a0 [12] 11 fun x5 =>
  some (some (.int x5), h))
  else
  (if a1 = (5 : Int32) then
  (gfI none h a0 [12] 12 fun x6 =>
  some (some (.int x6), h))
  else
  (if a1 = (6 : Int32) then
  (gfI none h a0 [12] 8 fun x7 =>
  some (some (.int x7), h))
  else
  (some (some (.int (-2 : Int32)), h))))))))) :=
  (call_unr p_177 rfl o_177 rfl [] 30 _ h).trans rfl

theorem p_178 : prg 178 = (k_178, 1) := rfl
theorem o_178 : okc k_178 = true := by decide +kernel
set_option maxRecDepth 100000 in
theorem e_178 (d : Nat) (a0 : Int32) (h : MHeap) : call (d + 1) 178 [.int a0] h = (
  cI (call d 166 [.int a0, .int (0 : Int32), .int (255 : Int32)] h) fun x2 h1 =>
  zr none x2 (some (some (.int x2), h1))) :=
  (call_unr p_178 rfl o_178 rfl [] 10 _ h).trans rfl

theorem p_179 : prg 179 = (k_179, 8) := rfl
theorem o_179 : okc k_179 = true := by decide +kernel
set_option maxRecDepth 100000 in
theorem e_179 (d : Nat) (a0 : Nat) (a1 : Int32) (a2 : Int32) (a3 : Int32) (a4 : Int32) (a5 : Int32) (a6 : Int32) (h : MHeap) : call (d + 1) 179 [.ref a0, .int a1, .int a2, .int a3, .int a4, .int a5, .int a6] h = (
  cI (call d 166 [.int a1, .int (1 : Int32), .int (5 : Int32)] h) fun x2 h1 =>
  if x2 = (0 : Int32) then
  (some (some (.int (-2 : Int32)), h1))
  else
  (cI (call d 178 [.int a2] h1) fun x4 h3 =>
  if x4 = (0 : Int32) then
  (some (some (.int (-2 : Int32)), h3))
  else
  (cI (call d 178 [.int a3] h3) fun x6 h5 =>
  if x6 = (0 : Int32) then
  (some (some (.int (-2 : Int32)), h5))
  else
  (cI (call d 178 [.int a4] h5) fun x8 h7 =>
  if x8 = (0 : Int32) then
  (some (some (.int (-2 : Int32)), h7))
  else
  (cI (call d 178 [.int a5] h7) fun x10 h9 =>
  if x10 = (0 : Int32) then
  (some (some (.int (-2 : Int32)), h9))
  else
  (cI (call d 178 [.int a6] h9) fun x12 h11 =>
  if x12 = (0 : Int32) then
  (some (some (.int (-2 : Int32)), h11))
  else
  (gfI none h11 a0 [12] 8 fun x13 =>
  if (160 : Int32) < (x13 + a1) then
  (some (some (.int (-4 : Int32)), h11))
  else
  (ex d 179 68 [sv (.ref a0), sv (.int a1), sv (.int a2), sv (.int a3), sv (.int a4), sv (.int a5), sv (.int a6), sv (.int (0 : Int32))] [] h11)))))))) :=
  (call_unr p_179 rfl o_179 rfl [68] 47 _ h).trans rfl
set_option maxRecDepth 100000 in
theorem e_179_68 (d : Nat) (a0 : Nat) (a1 : Int32) (a2 : Int32) (a3 : Int32) (a4 : Int32) (a5 : Int32) (a6 : Int32) (a7 : Int32) (h : MHeap) : ex d 179 68 [sv (.ref a0), sv (.int a1), sv (.int a2), sv (.int a3), sv (.int a4), sv (.int a5), sv (.int a6), sv (.int a7)] [] h = (
  if a7 < a1 then
  (gfV none h a0 [12] 7 fun v1 =>
  gfI none h a0 [12] 8 fun x2 =>
  if a7 = (0 : Int32) then
  (dR none v1 fun o4 =>
  asI none h o4 x2 a2 fun h3 =>
  gfI none h3 a0 [12] 8 fun x5 =>
  pfI none h3 a0 [12] 8 (x5 + (1 : Int32)) fun h6 =>
  ex d 179 68 [sv (.ref a0), sv (.int a1), sv (.int a2), sv (.int a3), sv (.int a4), sv (.int a5), sv (.int a6), sv (.int (a7 + (1 : Int32)))] [] h6)
  else
  (if a7 = (1 : Int32) then
  (dR none v1 fun o8 =>
  asI none h o8 x2 a3 fun h7 =>
  gfI none h7 a0 [12] 8 fun x9 =>
  pfI none h7 a0 [12] 8 (x9 + (1 : Int32)) fun h10 =>
  ex d 179 68 [sv (.ref a0), sv (.int a1), sv (.int a2), sv (.int a3), sv (.int a4), sv (.int a5), sv (.int a6), sv (.int (a7 + (1 : Int32)))] [] h10)
  else
  (if a7 = (2 : Int32) then
  (dR none v1 fun o12 =>
  asI none h o12 x2 a4 fun h11 =>
  gfI none h11 a0 [12] 8 fun x13 =>
  pfI none h11 a0 [12] 8 (x13 + (1 : Int32)) fun h14 =>
  ex d 179 68 [sv (.ref a0), sv (.int a1), sv (.int a2), sv (.int a3), sv (.int a4), sv (.int a5), sv (.int a6), sv (.int (a7 + (1 : Int32)))] [] h14)
  else
  (if a7 = (3 : Int32) then
  (dR none v1 fun o16 =>
  asI none h o16 x2 a5 fun h15 =>
  gfI none h15 a0 [12] 8 fun x17 =>
  pfI none h15 a0 [12] 8 (x17 + (1 : Int32)) fun h18 =>
  ex d 179 68 [sv (.ref a0), sv (.int a1), sv (.int a2), sv (.int a3), sv (.int a4), sv (.int a5), sv (.int a6), sv (.int (a7 + (1 : Int32)))] [] h18)
  else
  (dR none v1 fun o20 =>
  asI none h o20 x2 a6 fun h19 =>
  gfI none h19 a0 [12] 8 fun x21 =>
  pfI none h19 a0 [12] 8 (x21 + (1 : Int32)) fun h22 =>
  ex d 179 68 [sv (.ref a0), sv (.int a1), sv (.int a2), sv (.int a3), sv (.int a4), sv (.int a5), sv (.int a6), sv (.int (a7 + (1 : Int32)))] [] h22)))))
  else
  (gfI none h a0 [12] 8 fun x23 =>
  some (some (.int x23), h))) :=
  (ex_unr p_179 o_179 [68] 80 rfl _ _ h).trans rfl

theorem p_180 : prg 180 = (k_180, 6) := rfl
theorem o_180 : okc k_180 = true := by decide +kernel
set_option maxRecDepth 100000 in
theorem e_180 (d : Nat) (a0 : Nat) (a1 : Int32) (a2 : Int32) (h : MHeap) : call (d + 1) 180 [.ref a0, .int a1, .int a2] h = (
  ex d 180 2 [sv (.ref a0), sv (.int a1), sv (.int a2), sv (.int (0 : Int32)), none, none] [] h) :=
  (call_unr p_180 rfl o_180 rfl [2, 26] 7 _ h).trans rfl
set_option maxRecDepth 100000 in
theorem e_180_2 (d : Nat) (a0 : Nat) (a1 : Int32) (a2 : Int32) (a3 : Int32) (a4 : MSl) (a5 : MSl) (h : MHeap) : ex d 180 2 [sv (.ref a0), sv (.int a1), sv (.int a2), sv (.int a3), a4, a5] [] h = (
  if a3 < (12 : Int32) then
  (if (8 : Int32) < (a2 - a1) then
  (ex d 180 26 [sv (.ref a0), sv (.int a1), sv (.int a2), sv (.int a3), sv (.int (0 : Int32)), sv (.int (0 : Int32))] [] h)
  else
  (ex d 180 26 [sv (.ref a0), sv (.int a1), sv (.int a2), sv (.int a3), sv (.int (1 : Int32)), sv (.int (0 : Int32))] [] h))
  else
  (some (some (.int (12 : Int32)), h))) :=
  (ex_unr p_180 o_180 [2, 26] 24 rfl _ _ h).trans rfl
set_option maxRecDepth 100000 in
theorem e_180_26 (d : Nat) (a0 : Nat) (a1 : Int32) (a2 : Int32) (a3 : Int32) (a4 : Int32) (a5 : Int32) (h : MHeap) : ex d 180 26 [sv (.ref a0), sv (.int a1), sv (.int a2), sv (.int a3), sv (.int a4), sv (.int a5)] [] h = (
  if a5 < (8 : Int32) then
  (if a4 = (0 : Int32) then
  (if a4 = (0 : Int32) then
  (ex d 180 2 [sv (.ref a0), sv (.int a1), sv (.int a2), sv (.int (a3 + (1 : Int32))), sv (.int a4), sv (.int a5)] [] h)
  else
  (some (some (.int a3), h)))
  else
  (gfV none h a0 [12] 27 fun v1 =>
  dR none v1 fun o3 =>
  alI none h o3 (((8 : Int32) * a3) + a5) fun x2 =>
  if (a1 + a5) < a2 then
  (gfV none h a0 [12] 7 fun v4 =>
  dR none v4 fun o6 =>
  alI none h o6 (a1 + a5) fun x5 =>
  if x2 = x5 then
  (ex d 180 26 [sv (.ref a0), sv (.int a1), sv (.int a2), sv (.int a3), sv (.int (1 : Int32)), sv (.int (a5 + (1 : Int32)))] [] h)
  else
  (ex d 180 26 [sv (.ref a0), sv (.int a1), sv (.int a2), sv (.int a3), sv (.int (0 : Int32)), sv (.int (a5 + (1 : Int32)))] [] h))
  else
  (if x2 = (32 : Int32) then
  (ex d 180 26 [sv (.ref a0), sv (.int a1), sv (.int a2), sv (.int a3), sv (.int (1 : Int32)), sv (.int (a5 + (1 : Int32)))] [] h)
  else
  (ex d 180 26 [sv (.ref a0), sv (.int a1), sv (.int a2), sv (.int a3), sv (.int (0 : Int32)), sv (.int (a5 + (1 : Int32)))] [] h))))
  else
  (if a4 = (0 : Int32) then
  (ex d 180 2 [sv (.ref a0), sv (.int a1), sv (.int a2), sv (.int (a3 + (1 : Int32))), sv (.int a4), sv (.int a5)] [] h)
  else
  (some (some (.int a3), h)))) :=
  (ex_unr p_180 o_180 [2, 26] 63 rfl _ _ h).trans rfl

theorem p_181 : prg 181 = (k_181, 3) := rfl
theorem o_181 : okc k_181 = true := by decide +kernel
set_option maxRecDepth 100000 in
theorem e_181 (d : Nat) (a0 : Nat) (h : MHeap) : call (d + 1) 181 [.ref a0] h = (
  ex d 181 0 [sv (.ref a0), none, none] [] h) :=
  (call_unr p_181 rfl o_181 rfl [0, 103, 211, 230, 374, 379, 390] 0 _ h).trans rfl
set_option maxRecDepth 100000 in
theorem e_181_0 (d : Nat) (a0 : Nat) (h : MHeap) : ex d 181 0 [sv (.ref a0), none, none] [] h = (
  gfI none h a0 [12] 23 fun x1 =>
  gfI none h a0 [12] 8 fun x2 =>
  if x1 < x2 then
  (gfV none h a0 [12] 7 fun v3 =>
  gfI none h a0 [12] 23 fun x4 =>
  dR none v3 fun o6 =>
  alI none h o6 x4 fun x5 =>
  if x5 = (32 : Int32) then
  (gfI none h a0 [12] 23 fun x7 =>
  pfI none h a0 [12] 23 (x7 + (1 : Int32)) fun h8 =>
  ex d 181 0 [sv (.ref a0), none, none] [] h8)
  else
  (gfV none h a0 [12] 7 fun v9 =>
  gfI none h a0 [12] 23 fun x10 =>
  dR none v9 fun o12 =>
  alI none h o12 x10 fun x11 =>
  if x11 = (10 : Int32) then
  (gfI none h a0 [12] 23 fun x13 =>
  pfI none h a0 [12] 23 (x13 + (1 : Int32)) fun h14 =>
  ex d 181 0 [sv (.ref a0), none, none] [] h14)
  else
  (gfI none h a0 [12] 23 fun x15 =>
  pfI none h a0 [12] 24 x15 fun h16 =>
  pfI none h16 a0 [12] 25 (0 : Int32) fun h17 =>
  pfI none h17 a0 [12] 26 (0 : Int32) fun h18 =>
  gfI none h18 a0 [12] 23 fun x19 =>
  gfI none h18 a0 [12] 8 fun x20 =>
  if x19 = x20 then
  (some (none, h18))
  else
  (gfV none h18 a0 [12] 7 fun v21 =>
  gfI none h18 a0 [12] 23 fun x22 =>
  dR none v21 fun o24 =>
  alI none h18 o24 x22 fun x23 =>
  cI (call d 166 [.int x23, .int (97 : Int32), .int (122 : Int32)] h18) fun x26 h25 =>
  if x26 = (0 : Int32) then
  (cI (call d 166 [.int x23, .int (48 : Int32), .int (57 : Int32)] h25) fun x28 h27 =>
  if x28 = (0 : Int32) then
  (if x23 = (40 : Int32) then
  (ex d 181 374 [sv (.ref a0), sv (.int x23), none] [] h27)
  else
  (if x23 = (41 : Int32) then
  (ex d 181 374 [sv (.ref a0), sv (.int x23), none] [] h27)
  else
  (if x23 = (59 : Int32) then
  (ex d 181 374 [sv (.ref a0), sv (.int x23), none] [] h27)
  else
  (if x23 = (43 : Int32) then
  (ex d 181 374 [sv (.ref a0), sv (.int x23), none] [] h27)
  else
  (if x23 = (45 : Int32) then
  (ex d 181 374 [sv (.ref a0), sv (.int x23), none] [] h27)
  else
  (if x23 = (42 : Int32) then
  (ex d 181 374 [sv (.ref a0), sv (.int x23), none] [] h27)
  else
  (if x23 = (60 : Int32) then
  (ex d 181 374 [sv (.ref a0), sv (.int x23), none] [] h27)
  else
  (if x23 = (61 : Int32) then
  (ex d 181 374 [sv (.ref a0), sv (.int x23), none] [] h27)
  else
  (ex d 181 379 [sv (.ref a0), sv (.int x23), none] [.int (0 : Int32)] h27)))))))))
  else
  (ex d 181 230 [sv (.ref a0), sv (.int x23), sv (.int (0 : Int32))] [] h27))
  else
  (ex d 181 103 [sv (.ref a0), sv (.int x23), none] [] h25)))))
  else
  (gfI none h a0 [12] 23 fun x29 =>
  pfI none h a0 [12] 24 x29 fun h30 =>
  pfI none h30 a0 [12] 25 (0 : Int32) fun h31 =>
  pfI none h31 a0 [12] 26 (0 : Int32) fun h32 =>
  gfI none h32 a0 [12] 23 fun x33 =>
  gfI none h32 a0 [12] 8 fun x34 =>
  if x33 = x34 then
  (some (none, h32))
  else
  (gfV none h32 a0 [12] 7 fun v35 =>
  gfI none h32 a0 [12] 23 fun x36 =>
  dR none v35 fun o38 =>
  alI none h32 o38 x36 fun x37 =>
  cI (call d 166 [.int x37, .int (97 : Int32), .int (122 : Int32)] h32) fun x40 h39 =>
  if x40 = (0 : Int32) then
  (cI (call d 166 [.int x37, .int (48 : Int32), .int (57 : Int32)] h39) fun x42 h41 =>
  if x42 = (0 : Int32) then
  (if x37 = (40 : Int32) then
  (ex d 181 374 [sv (.ref a0), sv (.int x37), none] [] h41)
  else
  (if x37 = (41 : Int32) then
  (ex d 181 374 [sv (.ref a0), sv (.int x37), none] [] h41)
  else
  (if x37 = (59 : Int32) then
  (ex d 181 374 [sv (.ref a0), sv (.int x37), none] [] h41)
  else
  (if x37 = (43 : Int32) then
  (ex d 181 374 [sv (.ref a0), sv (.int x37), none] [] h41)
  else
  (if x37 = (45 : Int32) then
  (ex d 181 374 [sv (.ref a0), sv (.int x37), none] [] h41)
  else
  (if x37 = (42 : Int32) then
  (ex d 181 374 [sv (.ref a0), sv (.int x37), none] [] h41)
  else
  (if x37 = (60 : Int32) then
  (ex d 181 374 [sv (.ref a0), sv (.int x37), none] [] h41)
  else
  (if x37 = (61 : Int32) then
  (ex d 181 374 [sv (.ref a0), sv (.int x37), none] [] h41)
  else
  (ex d 181 379 [sv (.ref a0), sv (.int x37), none] [.int (0 : Int32)] h41)))))))))
  else
  (ex d 181 230 [sv (.ref a0), sv (.int x37), sv (.int (0 : Int32))] [] h41))
  else
  (ex d 181 103 [sv (.ref a0), sv (.int x37), none] [] h39)))) :=
  (ex_unr p_181 o_181 [0, 103, 211, 230, 374, 379, 390] 156 rfl _ _ h).trans rfl
set_option maxRecDepth 100000 in
theorem e_181_103 (d : Nat) (a0 : Nat) (a1 : Int32) (h : MHeap) : ex d 181 103 [sv (.ref a0), sv (.int a1), none] [] h = (
  gfI none h a0 [12] 23 fun x1 =>
  gfI none h a0 [12] 8 fun x2 =>
  if x1 < x2 then
  (gfV none h a0 [12] 7 fun v3 =>
  gfI none h a0 [12] 23 fun x4 =>
  dR none v3 fun o6 =>
  alI none h o6 x4 fun x5 =>
  cI (call d 166 [.int x5, .int (97 : Int32), .int (122 : Int32)] h) fun x8 h7 =>
  if x8 = (0 : Int32) then
  (gfI none h7 a0 [12] 24 fun x9 =>
  gfI none h7 a0 [12] 23 fun x10 =>
  vd none h7 a0 [12, 180] fun m11 =>
  cI (call d m11 [.ref a0, .int x9, .int x10] h7) fun x13 h12 =>
  if x13 < (3 : Int32) then
  (pfI none h12 a0 [12] 25 (3 : Int32) fun h14 =>
  if x13 < (3 : Int32) then
  (ex d 181 211 [sv (.ref a0), sv (.int a1), sv (.int x13)] [.int x13, .ref a0] h14)
  else
  (ex d 181 211 [sv (.ref a0), sv (.int a1), sv (.int x13)] [.int (x13 - (3 : Int32)), .ref a0] h14))
  else
  (if x13 < (9 : Int32) then
  (pfI none h12 a0 [12] 25 (2 : Int32) fun h15 =>
  if x13 < (3 : Int32) then
  (ex d 181 211 [sv (.ref a0), sv (.int a1), sv (.int x13)] [.int x13, .ref a0] h15)
  else
  (ex d 181 211 [sv (.ref a0), sv (.int a1), sv (.int x13)] [.int (x13 - (3 : Int32)), .ref a0] h15))
  else
  (if x13 = (12 : Int32) then
  (pfI none h12 a0 [12] 25 (-1 : Int32) fun h16 =>
  if x13 < (3 : Int32) then
  (ex d 181 211 [sv (.ref a0), sv (.int a1), sv (.int x13)] [.int x13, .ref a0] h16)
  else
  (ex d 181 211 [sv (.ref a0), sv (.int a1), sv (.int x13)] [.int (x13 - (3 : Int32)), .ref a0] h16))
  else
  (pfI none h12 a0 [12] 25 (((4 : Int32) + x13) - (9 : Int32)) fun h17 =>
  if x13 < (3 : Int32) then
  (ex d 181 211 [sv (.ref a0), sv (.int a1), sv (.int x13)] [.int x13, .ref a0] h17)
  else
  (ex d 181 211 [sv (.ref a0), sv (.int a1), sv (.int x13)] [.int (x13 - (3 : Int32)), .ref a0] h17)))))
  else
  (gfI none h7 a0 [12] 23 fun x18 =>
  pfI none h7 a0 [12] 23 (x18 + (1 : Int32)) fun h19 =>
  ex d 181 103 [sv (.ref a0), sv (.int a1), none] [] h19))
  else
  (gfI none h a0 [12] 24 fun x20 =>
  gfI none h a0 [12] 23 fun x21 =>
  vd none h a0 [12, 180] fun m22 =>
  cI (call d m22 [.ref a0, .int x20, .int x21] h) fun x24 h23 =>
  if x24 < (3 : Int32) then
  (pfI none h23 a0 [12] 25 (3 : Int32) fun h25 =>
  if x24 < (3 : Int32) then
  (ex d 181 211 [sv (.ref a0), sv (.int a1), sv (.int x24)] [.int x24, .ref a0] h25)
  else
  (ex d 181 211 [sv (.ref a0), sv (.int a1), sv (.int x24)] [.int (x24 - (3 : Int32)), .ref a0] h25))
  else
  (if x24 < (9 : Int32) then
  (pfI none h23 a0 [12] 25 (2 : Int32) fun h26 =>
  if x24 < (3 : Int32) then
  (ex d 181 211 [sv (.ref a0), sv (.int a1), sv (.int x24)] [.int x24, .ref a0] h26)
  else
  (ex d 181 211 [sv (.ref a0), sv (.int a1), sv (.int x24)] [.int (x24 - (3 : Int32)), .ref a0] h26))
  else
  (if x24 = (12 : Int32) then
  (pfI none h23 a0 [12] 25 (-1 : Int32) fun h27 =>
  if x24 < (3 : Int32) then
  (ex d 181 211 [sv (.ref a0), sv (.int a1), sv (.int x24)] [.int x24, .ref a0] h27)
  else
  (ex d 181 211 [sv (.ref a0), sv (.int a1), sv (.int x24)] [.int (x24 - (3 : Int32)), .ref a0] h27))
  else
  (pfI none h23 a0 [12] 25 (((4 : Int32) + x24) - (9 : Int32)) fun h28 =>
  if x24 < (3 : Int32) then
  (ex d 181 211 [sv (.ref a0), sv (.int a1), sv (.int x24)] [.int x24, .ref a0] h28)
  else
  (ex d 181 211 [sv (.ref a0), sv (.int a1), sv (.int x24)] [.int (x24 - (3 : Int32)), .ref a0] h28)))))) :=
  (ex_unr p_181 o_181 [0, 103, 211, 230, 374, 379, 390] 162 rfl _ _ h).trans rfl
set_option maxRecDepth 100000 in
theorem e_181_211 (d : Nat) (a0 : Nat) (a1 : Int32) (a2 : Int32) (s0 : Int32) (s1 : Nat) (h : MHeap) : ex d 181 211 [sv (.ref a0), sv (.int a1), sv (.int a2)] [.int s0, .ref s1] h = (
  pfI none h s1 [12] 26 s0 fun h1 =>
  some (none, h1)) :=
  (ex_unr p_181 o_181 [0, 103, 211, 230, 374, 379, 390] 8 rfl _ _ h).trans rfl
set_option maxRecDepth 100000 in
theorem e_181_230 (d : Nat) (a0 : Nat) (a1 : Int32) (a2 : Int32) (h : MHeap) : ex d 181 230 [sv (.ref a0), sv (.int a1), sv (.int a2)] [] h = (
  gfI none h a0 [12] 23 fun x1 =>
  gfI none h a0 [12] 8 fun x2 =>
  if x1 < x2 then
  (gfV none h a0 [12] 7 fun v3 =>
  gfI none h a0 [12] 23 fun x4 =>
  dR none v3 fun o6 =>
  alI none h o6 x4 fun x5 =>
  cI (call d 166 [.int x5, .int (48 : Int32), .int (57 : Int32)] h) fun x8 h7 =>
  if x8 = (0 : Int32) then
  (if (4 : Int32) < a2 then
  (pfI none h7 a0 [12] 25 (-1 : Int32) fun h9 =>
  some (none, h9))
  else
  (pfI none h7 a0 [12] 25 (1 : Int32) fun h10 =>
  some (none, h10)))
  else
  (if a2 < (4 : Int32) then
  (gfI none h7 a0 [12] 26 fun x11 =>
  gfV none h7 a0 [12] 7 fun v12 =>
  gfI none h7 a0 [12] 23 fun x13 =>
  dR none v12 fun o15 =>
  alI none h7 o15 x13 fun x14 =>
  pfI none h7 a0 [12] 26 ((((10 : Int32) * x11) + x14) - (48 : Int32)) fun h16 =>
  gfI none h16 a0 [12] 23 fun x17 =>
  pfI none h16 a0 [12] 23 (x17 + (1 : Int32)) fun h18 =>
  ex d 181 230 [sv (.ref a0), sv (.int a1), sv (.int (a2 + (1 : Int32)))] [] h18)
  else
  (pfI none h7 a0 [12] 26 (0 : Int32) fun h19 =>
  gfI none h19 a0 [12] 23 fun x20 =>
  pfI none h19 a0 [12] 23 (x20 + (1 : Int32)) fun h21 =>
  ex d 181 230 [sv (.ref a0), sv (.int a1), sv (.int (a2 + (1 : Int32)))] [] h21)))
  else
  (if (4 : Int32) < a2 then
  (pfI none h a0 [12] 25 (-1 : Int32) fun h22 =>
  some (none, h22))
  else
  (pfI none h a0 [12] 25 (1 : Int32) fun h23 =>
  some (none, h23)))) :=
  (ex_unr p_181 o_181 [0, 103, 211, 230, 374, 379, 390] 81 rfl _ _ h).trans rfl
set_option maxRecDepth 100000 in
theorem e_181_374 (d : Nat) (a0 : Nat) (a1 : Int32) (h : MHeap) : ex d 181 374 [sv (.ref a0), sv (.int a1), none] [] h = (
  ex d 181 379 [sv (.ref a0), sv (.int a1), none] [.int (1 : Int32)] h) :=
  (ex_unr p_181 o_181 [0, 103, 211, 230, 374, 379, 390] 7 rfl _ _ h).trans rfl
set_option maxRecDepth 100000 in
theorem e_181_379 (d : Nat) (a0 : Nat) (a1 : Int32) (s0 : Int32) (h : MHeap) : ex d 181 379 [sv (.ref a0), sv (.int a1), none] [.int s0] h = (
  if s0 = (0 : Int32) then
  (ex d 181 390 [sv (.ref a0), sv (.int a1), sv (.int s0)] [.int (-1 : Int32), .ref a0] h)
  else
  (ex d 181 390 [sv (.ref a0), sv (.int a1), sv (.int s0)] [.int a1, .ref a0] h)) :=
  (ex_unr p_181 o_181 [0, 103, 211, 230, 374, 379, 390] 12 rfl _ _ h).trans rfl
set_option maxRecDepth 100000 in
theorem e_181_390 (d : Nat) (a0 : Nat) (a1 : Int32) (a2 : Int32) (s0 : Int32) (s1 : Nat) (h : MHeap) : ex d 181 390 [sv (.ref a0), sv (.int a1), sv (.int a2)] [.int s0, .ref s1] h = (
  pfI none h s1 [12] 25 s0 fun h1 =>
  gfI none h1 a0 [12] 23 fun x2 =>
  pfI none h1 a0 [12] 23 (x2 + (1 : Int32)) fun h3 =>
  some (none, h3)) :=
  (ex_unr p_181 o_181 [0, 103, 211, 230, 374, 379, 390] 13 rfl _ _ h).trans rfl

theorem p_182 : prg 182 = (k_182, 1) := rfl
theorem o_182 : okc k_182 = true := by decide +kernel
set_option maxRecDepth 100000 in
theorem e_182 (d : Nat) (a0 : Int32) (h : MHeap) : call (d + 1) 182 [.int a0] h = (
  if a0 = (0 : Int32) then
  (some (some (.int (0 : Int32)), h))
  else
  (if a0 = (11 : Int32) then
  (some (some (.int (1 : Int32)), h))
  else
  (if a0 = (12 : Int32) then
  (some (some (.int (2 : Int32)), h))
  else
  (if a0 = (13 : Int32) then
  (some (some (.int (3 : Int32)), h))
  else
  (if (15 : Int32) < a0 then
  (if (17 : Int32) < a0 then
  (if a0 = (18 : Int32) then
  (some (some (.int (6 : Int32)), h))
  else
  (some (some (.int (7 : Int32)), h)))
  else
  (some (some (.int (5 : Int32)), h)))
  else
  (some (some (.int (4 : Int32)), h))))))) :=
  (call_unr p_182 rfl o_182 rfl [] 48 _ h).trans rfl

theorem p_183 : prg 183 = (k_183, 2) := rfl
theorem o_183 : okc k_183 = true := by decide +kernel
set_option maxRecDepth 100000 in
theorem e_183 (d : Nat) (a0 : Nat) (a1 : Int32) (h : MHeap) : call (d + 1) 183 [.ref a0, .int a1] h = (
  gfV none h a0 [12] 9 fun v1 =>
  gfI none h a0 [12] 11 fun x2 =>
  gfI none h a0 [12] 31 fun x3 =>
  dR none v1 fun o5 =>
  asI none h o5 (((200 : Int32) * x2) + x3) a1 fun h4 =>
  gfI none h4 a0 [12] 31 fun x6 =>
  pfI none h4 a0 [12] 31 (x6 + (1 : Int32)) fun h7 =>
  some (none, h7)) :=
  (call_unr p_183 rfl o_183 rfl [] 23 _ h).trans rfl

theorem p_184 : prg 184 = (k_184, 3) := rfl
theorem o_184 : okc k_184 = true := by decide +kernel
set_option maxRecDepth 100000 in
theorem e_184 (d : Nat) (a0 : Nat) (a1 : Int32) (h : MHeap) : call (d + 1) 184 [.ref a0, .int a1] h = (
  ex d 184 0 [sv (.ref a0), sv (.int a1), none] [] h) :=
  (call_unr p_184 rfl o_184 rfl [0] 0 _ h).trans rfl
set_option maxRecDepth 100000 in
theorem e_184_0 (d : Nat) (a0 : Nat) (a1 : Int32) (a2 : MSl) (h : MHeap) : ex d 184 0 [sv (.ref a0), sv (.int a1), a2] [] h = (
  gfI none h a0 [12] 29 fun x1 =>
  if (0 : Int32) < x1 then
  (gfV none h a0 [12] 28 fun v2 =>
  gfI none h a0 [12] 29 fun x3 =>
  dR none v2 fun o5 =>
  alI none h o5 (x3 - (1 : Int32)) fun x4 =>
  cI (call d 182 [.int x4] h) fun x7 h6 =>
  if x7 < a1 then
  (some (none, h6))
  else
  (gfI none h6 a0 [12] 29 fun x8 =>
  pfI none h6 a0 [12] 29 (x8 - (1 : Int32)) fun h9 =>
  gfV none h9 a0 [12] 28 fun v10 =>
  gfI none h9 a0 [12] 29 fun x11 =>
  dR none v10 fun o13 =>
  alI none h9 o13 x11 fun x12 =>
  gfI none h9 a0 [12] 30 fun x14 =>
  if x12 = (13 : Int32) then
  (pfI none h9 a0 [12] 30 (x14 - (1 : Int32)) fun h15 =>
  vd none h15 a0 [12, 183] fun m16 =>
  cV (call d m16 [.ref a0, .int x12] h15) fun h17 =>
  ex d 184 0 [sv (.ref a0), sv (.int a1), sv (.int x12)] [] h17)
  else
  (if x12 = (19 : Int32) then
  (pfI none h9 a0 [12] 30 (x14 - (1 : Int32)) fun h18 =>
  vd none h18 a0 [12, 183] fun m19 =>
  cV (call d m19 [.ref a0, .int x12] h18) fun h20 =>
  ex d 184 0 [sv (.ref a0), sv (.int a1), sv (.int x12)] [] h20)
  else
  (pfI none h9 a0 [12] 30 (x14 - (0 : Int32)) fun h21 =>
  vd none h21 a0 [12, 183] fun m22 =>
  cV (call d m22 [.ref a0, .int x12] h21) fun h23 =>
  ex d 184 0 [sv (.ref a0), sv (.int a1), sv (.int x12)] [] h23))))
  else
  (some (none, h))) :=
  (ex_unr p_184 o_184 [0] 64 rfl _ _ h).trans rfl

theorem p_185 : prg 185 = (k_185, 2) := rfl
theorem o_185 : okc k_185 = true := by decide +kernel
set_option maxRecDepth 100000 in
theorem e_185 (d : Nat) (a0 : Nat) (a1 : Int32) (h : MHeap) : call (d + 1) 185 [.ref a0, .int a1] h = (
  gfV none h a0 [12] 28 fun v1 =>
  gfI none h a0 [12] 29 fun x2 =>
  dR none v1 fun o4 =>
  asI none h o4 x2 a1 fun h3 =>
  gfI none h3 a0 [12] 29 fun x5 =>
  pfI none h3 a0 [12] 29 (x5 + (1 : Int32)) fun h6 =>
  some (none, h6)) :=
  (call_unr p_185 rfl o_185 rfl [] 18 _ h).trans rfl

theorem p_186 : prg 186 = (k_186, 2) := rfl
theorem o_186 : okc k_186 = true := by decide +kernel
set_option maxRecDepth 100000 in
theorem e_186 (d : Nat) (a0 : Nat) (a1 : Int32) (h : MHeap) : call (d + 1) 186 [.ref a0, .int a1] h = (
  gfI none h a0 [12] 30 fun x1 =>
  if x1 = (5 : Int32) then
  (zr none (0 : Int32) (some (some (.int (0 : Int32)), h)))
  else
  (gfI none h a0 [12] 30 fun x2 =>
  pfI none h a0 [12] 30 (x2 + (1 : Int32)) fun h3 =>
  vd none h3 a0 [12, 185] fun m4 =>
  cV (call d m4 [.ref a0, .int a1] h3) fun h5 =>
  zr none (1 : Int32) (some (some (.int (1 : Int32)), h5)))) :=
  (call_unr p_186 rfl o_186 rfl [] 22 _ h).trans rfl

theorem p_187 : prg 187 = (k_187, 2) := rfl
theorem o_187 : okc k_187 = true := by decide +kernel
set_option maxRecDepth 100000 in
theorem e_187 (d : Nat) (a0 : Nat) (a1 : Int32) (h : MHeap) : call (d + 1) 187 [.ref a0, .int a1] h = (
  cI (call d 182 [.int a1] h) fun x2 h1 =>
  if x2 = (4 : Int32) then
  (vd none h1 a0 [12, 184] fun m3 =>
  cV (call d m3 [.ref a0, .int (5 : Int32)] h1) fun h4 =>
  cI (call d 182 [.int a1] h4) fun x6 h5 =>
  if x6 = (4 : Int32) then
  (gfI none h5 a0 [12] 29 fun x7 =>
  if (0 : Int32) < x7 then
  (gfV none h5 a0 [12] 28 fun v8 =>
  gfI none h5 a0 [12] 29 fun x9 =>
  dR none v8 fun o11 =>
  alI none h5 o11 (x9 - (1 : Int32)) fun x10 =>
  cI (call d 182 [.int x10] h5) fun x13 h12 =>
  if x13 = (4 : Int32) then
  (zr none (0 : Int32) (some (some (.int (0 : Int32)), h12)))
  else
  (vd none h12 a0 [12, 185] fun m14 =>
  cV (call d m14 [.ref a0, .int a1] h12) fun h15 =>
  zr none (1 : Int32) (some (some (.int (1 : Int32)), h15))))
  else
  (vd none h5 a0 [12, 185] fun m16 =>
  cV (call d m16 [.ref a0, .int a1] h5) fun h17 =>
  zr none (1 : Int32) (some (some (.int (1 : Int32)), h17))))
  else
  (vd none h5 a0 [12, 185] fun m18 =>
  cV (call d m18 [.ref a0, .int a1] h5) fun h19 =>
  zr none (1 : Int32) (some (some (.int (1 : Int32)), h19))))
  else
  (cI (call d 182 [.int a1] h1) fun x21 h20 =>
  vd none h20 a0 [12, 184] fun m22 =>
  cV (call d m22 [.ref a0, .int x21] h20) fun h23 =>
  cI (call d 182 [.int a1] h23) fun x25 h24 =>
  if x25 = (4 : Int32) then
  (gfI none h24 a0 [12] 29 fun x26 =>
  if (0 : Int32) < x26 then
  (gfV none h24 a0 [12] 28 fun v27 =>
  gfI none h24 a0 [12] 29 fun x28 =>
  dR none v27 fun o30 =>
  alI none h24 o30 (x28 - (1 : Int32)) fun x29 =>
  cI (call d 182 [.int x29] h24) fun x32 h31 =>
  if x32 = (4 : Int32) then
  (zr none (0 : Int32) (some (some (.int (0 : Int32)), h31)))
  else
  (vd none h31 a0 [12, 185] fun m33 =>
  cV (call d m33 [.ref a0, .int a1] h31) fun h34 =>
  zr none (1 : Int32) (some (some (.int (1 : Int32)), h34))))
  else
  (vd none h24 a0 [12, 185] fun m35 =>
  cV (call d m35 [.ref a0, .int a1] h24) fun h36 =>
  zr none (1 : Int32) (some (some (.int (1 : Int32)), h36))))
  else
  (vd none h24 a0 [12, 185] fun m37 =>
  cV (call d m37 [.ref a0, .int a1] h24) fun h38 =>
  zr none (1 : Int32) (some (some (.int (1 : Int32)), h38))))) :=
  (call_unr p_187 rfl o_187 rfl [] 84 _ h).trans rfl

theorem p_188 : prg 188 = (k_188, 1) := rfl
theorem o_188 : okc k_188 = true := by decide +kernel
set_option maxRecDepth 100000 in
theorem e_188 (d : Nat) (a0 : Nat) (h : MHeap) : call (d + 1) 188 [.ref a0] h = (
  gfI none h a0 [12] 25 fun x1 =>
  if x1 = (4 : Int32) then
  (some (some (.int (11 : Int32)), h))
  else
  (gfI none h a0 [12] 25 fun x2 =>
  if x2 = (5 : Int32) then
  (some (some (.int (12 : Int32)), h))
  else
  (gfI none h a0 [12] 25 fun x3 =>
  if x3 = (60 : Int32) then
  (some (some (.int (14 : Int32)), h))
  else
  (gfI none h a0 [12] 25 fun x4 =>
  if x4 = (61 : Int32) then
  (some (some (.int (15 : Int32)), h))
  else
  (gfI none h a0 [12] 25 fun x5 =>
  if x5 = (43 : Int32) then
  (some (some (.int (16 : Int32)), h))
  else
  (gfI none h a0 [12] 25 fun x6 =>
  if x6 = (45 : Int32) then
  (some (some (.int (17 : Int32)), h))
  else
  (gfI none h a0 [12] 25 fun x7 =>
  if x7 = (42 : Int32) then
  (some (some (.int (18 : Int32)), h))
  else
  (some (some (.int (-1 : Int32)), h))))))))) :=
  (call_unr p_188 rfl o_188 rfl [] 56 _ h).trans rfl

theorem p_189 : prg 189 = (k_189, 4) := rfl
theorem o_189 : okc k_189 = true := by decide +kernel
set_option maxRecDepth 100000 in
theorem e_189 (d : Nat) (a0 : Nat) (h : MHeap) : call (d + 1) 189 [.ref a0] h = (
  pfI none h a0 [12] 29 (0 : Int32) fun h1 =>
  pfI none h1 a0 [12] 30 (0 : Int32) fun h2 =>
  ex d 189 14 [sv (.ref a0), sv (.int (1 : Int32)), sv (.int (1 : Int32)), none] [] h2) :=
  (call_unr p_189 rfl o_189 rfl [14, 38, 61] 15 _ h).trans rfl
set_option maxRecDepth 100000 in
theorem e_189_14 (d : Nat) (a0 : Nat) (a1 : Int32) (a2 : Int32) (a3 : MSl) (h : MHeap) : ex d 189 14 [sv (.ref a0), sv (.int a1), sv (.int a2), a3] [] h = (
  vd none h a0 [12, 181] fun m1 =>
  cV (call d m1 [.ref a0] h) fun h2 =>
  if a1 = (0 : Int32) then
  (gfI none h2 a0 [12] 25 fun x3 =>
  if x3 = (59 : Int32) then
  (vd none h2 a0 [12, 184] fun m4 =>
  cV (call d m4 [.ref a0, .int (1 : Int32)] h2) fun h5 =>
  gfI none h5 a0 [12] 29 fun x6 =>
  if x6 = (0 : Int32) then
  (zr none (1 : Int32) (some (some (.int (1 : Int32)), h5)))
  else
  (zr none (0 : Int32) (some (some (.int (0 : Int32)), h5))))
  else
  (gfI none h2 a0 [12] 25 fun x7 =>
  if x7 = (41 : Int32) then
  (vd none h2 a0 [12, 184] fun m8 =>
  cV (call d m8 [.ref a0, .int (1 : Int32)] h2) fun h9 =>
  gfI none h9 a0 [12] 29 fun x10 =>
  if x10 = (0 : Int32) then
  (zr none (0 : Int32) (some (some (.int (0 : Int32)), h9)))
  else
  (gfI none h9 a0 [12] 29 fun x11 =>
  pfI none h9 a0 [12] 29 (x11 - (1 : Int32)) fun h12 =>
  gfI none h12 a0 [12] 30 fun x13 =>
  pfI none h12 a0 [12] 30 (x13 - (1 : Int32)) fun h14 =>
  vd none h14 a0 [12, 184] fun m15 =>
  cV (call d m15 [.ref a0, .int (7 : Int32)] h14) fun h16 =>
  ex d 189 14 [sv (.ref a0), sv (.int a1), sv (.int a2), a3] [] h16))
  else
  (vd none h2 a0 [12, 188] fun m17 =>
  cI (call d m17 [.ref a0] h2) fun x19 h18 =>
  if x19 = (-1 : Int32) then
  (zr none (0 : Int32) (some (some (.int (0 : Int32)), h18)))
  else
  (vd none h18 a0 [12, 187] fun m20 =>
  cI (call d m20 [.ref a0, .int x19] h18) fun x22 h21 =>
  if x22 = (0 : Int32) then
  (zr none (0 : Int32) (some (some (.int (0 : Int32)), h21)))
  else
  (if (12 : Int32) < x19 then
  (ex d 189 14 [sv (.ref a0), sv (.int (1 : Int32)), sv (.int (0 : Int32)), sv (.int x19)] [] h21)
  else
  (ex d 189 14 [sv (.ref a0), sv (.int (1 : Int32)), sv (.int (1 : Int32)), sv (.int x19)] [] h21))))))
  else
  (gfI none h2 a0 [12] 25 fun x23 =>
  if x23 = (1 : Int32) then
  (ex d 189 38 [sv (.ref a0), sv (.int a1), sv (.int a2), a3] [] h2)
  else
  (gfI none h2 a0 [12] 25 fun x24 =>
  if x24 = (2 : Int32) then
  (ex d 189 38 [sv (.ref a0), sv (.int a1), sv (.int a2), a3] [] h2)
  else
  (gfI none h2 a0 [12] 25 fun x25 =>
  if x25 = (6 : Int32) then
  (if a2 = (0 : Int32) then
  (gfI none h2 a0 [12] 25 fun x26 =>
  if x26 = (45 : Int32) then
  (vd none h2 a0 [12, 186] fun m27 =>
  cI (call d m27 [.ref a0, .int (19 : Int32)] h2) fun x29 h28 =>
  if x29 = (0 : Int32) then
  (zr none (0 : Int32) (some (some (.int (0 : Int32)), h28)))
  else
  (ex d 189 14 [sv (.ref a0), sv (.int a1), sv (.int (0 : Int32)), a3] [] h28))
  else
  (gfI none h2 a0 [12] 25 fun x30 =>
  if x30 = (40 : Int32) then
  (vd none h2 a0 [12, 186] fun m31 =>
  cI (call d m31 [.ref a0, .int (0 : Int32)] h2) fun x33 h32 =>
  if x33 = (0 : Int32) then
  (zr none (0 : Int32) (some (some (.int (0 : Int32)), h32)))
  else
  (ex d 189 14 [sv (.ref a0), sv (.int a1), sv (.int (1 : Int32)), a3] [] h32))
  else
  (zr none (0 : Int32) (some (some (.int (0 : Int32)), h2)))))
  else
  (vd none h2 a0 [12, 186] fun m34 =>
  cI (call d m34 [.ref a0, .int (13 : Int32)] h2) fun x36 h35 =>
  if x36 = (0 : Int32) then
  (zr none (0 : Int32) (some (some (.int (0 : Int32)), h35)))
  else
  (ex d 189 14 [sv (.ref a0), sv (.int a1), sv (.int a2), a3] [] h35)))
  else
  (gfI none h2 a0 [12] 25 fun x37 =>
  if x37 = (45 : Int32) then
  (vd none h2 a0 [12, 186] fun m38 =>
  cI (call d m38 [.ref a0, .int (19 : Int32)] h2) fun x40 h39 =>
  if x40 = (0 : Int32) then
  (zr none (0 : Int32) (some (some (.int (0 : Int32)), h39)))
  else
  (ex d 189 14 [sv (.ref a0), sv (.int a1), sv (.int (0 : Int32)), a3] [] h39))
  else
  (gfI none h2 a0 [12] 25 fun x41 =>
  if x41 = (40 : Int32) then
  (vd none h2 a0 [12, 186] fun m42 =>
  cI (call d m42 [.ref a0, .int (0 : Int32)] h2) fun x44 h43 =>
  if x44 = (0 : Int32) then
  (zr none (0 : Int32) (some (some (.int (0 : Int32)), h43)))
  else
  (ex d 189 14 [sv (.ref a0), sv (.int a1), sv (.int (1 : Int32)), a3] [] h43))
  else
  (zr none (0 : Int32) (some (some (.int (0 : Int32)), h2))))))))) :=
  (ex_unr p_189 o_189 [14, 38, 61] 154 rfl _ _ h).trans rfl
set_option maxRecDepth 100000 in
theorem e_189_38 (d : Nat) (a0 : Nat) (a1 : Int32) (a2 : Int32) (a3 : MSl) (h : MHeap) : ex d 189 38 [sv (.ref a0), sv (.int a1), sv (.int a2), a3] [] h = (
  gfI none h a0 [12] 25 fun x1 =>
  if x1 = (1 : Int32) then
  (gfI none h a0 [12] 26 fun x2 =>
  ex d 189 61 [sv (.ref a0), sv (.int a1), sv (.int a2), a3] [.int ((100000 : Int32) + x2), .ref a0] h)
  else
  (gfI none h a0 [12] 26 fun x3 =>
  ex d 189 61 [sv (.ref a0), sv (.int a1), sv (.int a2), a3] [.int x3, .ref a0] h)) :=
  (ex_unr p_189 o_189 [14, 38, 61] 17 rfl _ _ h).trans rfl
set_option maxRecDepth 100000 in
theorem e_189_61 (d : Nat) (a0 : Nat) (a1 : Int32) (a2 : Int32) (a3 : MSl) (s0 : Int32) (s1 : Nat) (h : MHeap) : ex d 189 61 [sv (.ref a0), sv (.int a1), sv (.int a2), a3] [.int s0, .ref s1] h = (
  vd none h s1 [12, 183] fun m1 =>
  cV (call d m1 [.ref s1, .int s0] h) fun h2 =>
  vd none h2 a0 [12, 184] fun m3 =>
  cV (call d m3 [.ref a0, .int (7 : Int32)] h2) fun h4 =>
  ex d 189 14 [sv (.ref a0), sv (.int (0 : Int32)), sv (.int a2), a3] [] h4) :=
  (ex_unr p_189 o_189 [14, 38, 61] 12 rfl _ _ h).trans rfl

theorem p_190 : prg 190 = (k_190, 3) := rfl
theorem o_190 : okc k_190 = true := by decide +kernel
set_option maxRecDepth 100000 in
theorem e_190 (d : Nat) (a0 : Nat) (h : MHeap) : call (d + 1) 190 [.ref a0] h = (
  gfI none h a0 [12] 11 fun x1 =>
  if x1 = (6 : Int32) then
  (some (some (.int (-4 : Int32)), h))
  else
  (pfI none h a0 [12] 23 (0 : Int32) fun h2 =>
  pfI none h2 a0 [12] 31 (0 : Int32) fun h3 =>
  ex d 190 26 [sv (.ref a0), sv (.int (1 : Int32)), sv (.int (0 : Int32))] [] h3)) :=
  (call_unr p_190 rfl o_190 rfl [26, 93, 94, 122] 21 _ h).trans rfl
set_option maxRecDepth 100000 in
theorem e_190_26 (d : Nat) (a0 : Nat) (a1 : Int32) (a2 : Int32) (h : MHeap) : ex d 190 26 [sv (.ref a0), sv (.int a1), sv (.int a2)] [] h = (
  if a2 < (3 : Int32) then
  (if a1 = (0 : Int32) then
  (if a1 = (0 : Int32) then
  (ex d 190 122 [sv (.ref a0), sv (.int a1), sv (.int a2)] [] h)
  else
  (vd none h a0 [12, 181] fun m1 =>
  cV (call d m1 [.ref a0] h) fun h2 =>
  gfI none h2 a0 [12] 25 fun x3 =>
  if x3 = (0 : Int32) then
  (ex d 190 122 [sv (.ref a0), sv (.int (1 : Int32)), sv (.int a2)] [] h2)
  else
  (ex d 190 122 [sv (.ref a0), sv (.int (0 : Int32)), sv (.int a2)] [] h2)))
  else
  (vd none h a0 [12, 181] fun m4 =>
  cV (call d m4 [.ref a0] h) fun h5 =>
  gfI none h5 a0 [12] 25 fun x6 =>
  if x6 = (3 : Int32) then
  (gfI none h5 a0 [12] 26 fun x7 =>
  if x7 = a2 then
  (gfV none h5 a0 [12] 10 fun v8 =>
  gfI none h5 a0 [12] 11 fun x9 =>
  gfI none h5 a0 [12] 31 fun x10 =>
  dR none v8 fun o12 =>
  asI none h5 o12 (((4 : Int32) * x9) + a2) x10 fun h11 =>
  if (1 : Int32) = (0 : Int32) then
  (ex d 190 93 [sv (.ref a0), sv (.int (1 : Int32)), sv (.int a2)] [] h11)
  else
  (vd none h11 a0 [12, 189] fun m13 =>
  cI (call d m13 [.ref a0] h11) fun x15 h14 =>
  if x15 = (0 : Int32) then
  (ex d 190 93 [sv (.ref a0), sv (.int (1 : Int32)), sv (.int a2)] [] h14)
  else
  (ex d 190 94 [sv (.ref a0), sv (.int (1 : Int32)), sv (.int a2)] [.int (1 : Int32)] h14)))
  else
  (gfV none h5 a0 [12] 10 fun v16 =>
  gfI none h5 a0 [12] 11 fun x17 =>
  gfI none h5 a0 [12] 31 fun x18 =>
  dR none v16 fun o20 =>
  asI none h5 o20 (((4 : Int32) * x17) + a2) x18 fun h19 =>
  if (0 : Int32) = (0 : Int32) then
  (ex d 190 93 [sv (.ref a0), sv (.int (0 : Int32)), sv (.int a2)] [] h19)
  else
  (vd none h19 a0 [12, 189] fun m21 =>
  cI (call d m21 [.ref a0] h19) fun x23 h22 =>
  if x23 = (0 : Int32) then
  (ex d 190 93 [sv (.ref a0), sv (.int (0 : Int32)), sv (.int a2)] [] h22)
  else
  (ex d 190 94 [sv (.ref a0), sv (.int (0 : Int32)), sv (.int a2)] [.int (1 : Int32)] h22))))
  else
  (gfV none h5 a0 [12] 10 fun v24 =>
  gfI none h5 a0 [12] 11 fun x25 =>
  gfI none h5 a0 [12] 31 fun x26 =>
  dR none v24 fun o28 =>
  asI none h5 o28 (((4 : Int32) * x25) + a2) x26 fun h27 =>
  if (0 : Int32) = (0 : Int32) then
  (ex d 190 93 [sv (.ref a0), sv (.int (0 : Int32)), sv (.int a2)] [] h27)
  else
  (vd none h27 a0 [12, 189] fun m29 =>
  cI (call d m29 [.ref a0] h27) fun x31 h30 =>
  if x31 = (0 : Int32) then
  (ex d 190 93 [sv (.ref a0), sv (.int (0 : Int32)), sv (.int a2)] [] h30)
  else
  (ex d 190 94 [sv (.ref a0), sv (.int (0 : Int32)), sv (.int a2)] [.int (1 : Int32)] h30)))))
  else
  (if a1 = (0 : Int32) then
  (ex d 190 122 [sv (.ref a0), sv (.int a1), sv (.int a2)] [] h)
  else
  (vd none h a0 [12, 181] fun m32 =>
  cV (call d m32 [.ref a0] h) fun h33 =>
  gfI none h33 a0 [12] 25 fun x34 =>
  if x34 = (0 : Int32) then
  (ex d 190 122 [sv (.ref a0), sv (.int (1 : Int32)), sv (.int a2)] [] h33)
  else
  (ex d 190 122 [sv (.ref a0), sv (.int (0 : Int32)), sv (.int a2)] [] h33)))) :=
  (ex_unr p_190 o_190 [26, 93, 94, 122] 105 rfl _ _ h).trans rfl
set_option maxRecDepth 100000 in
theorem e_190_93 (d : Nat) (a0 : Nat) (a1 : Int32) (a2 : Int32) (h : MHeap) : ex d 190 93 [sv (.ref a0), sv (.int a1), sv (.int a2)] [] h = (
  ex d 190 94 [sv (.ref a0), sv (.int a1), sv (.int a2)] [.int (0 : Int32)] h) :=
  (ex_unr p_190 o_190 [26, 93, 94, 122] 6 rfl _ _ h).trans rfl
set_option maxRecDepth 100000 in
theorem e_190_94 (d : Nat) (a0 : Nat) (a1 : Int32) (a2 : Int32) (s0 : Int32) (h : MHeap) : ex d 190 94 [sv (.ref a0), sv (.int a1), sv (.int a2)] [.int s0] h = (
  ex d 190 26 [sv (.ref a0), sv (.int s0), sv (.int (a2 + (1 : Int32)))] [] h) :=
  (ex_unr p_190 o_190 [26, 93, 94, 122] 8 rfl _ _ h).trans rfl
set_option maxRecDepth 100000 in
theorem e_190_122 (d : Nat) (a0 : Nat) (a1 : Int32) (a2 : Int32) (h : MHeap) : ex d 190 122 [sv (.ref a0), sv (.int a1), sv (.int a2)] [] h = (
  gfV none h a0 [12] 10 fun v1 =>
  gfI none h a0 [12] 11 fun x2 =>
  gfI none h a0 [12] 31 fun x3 =>
  dR none v1 fun o5 =>
  asI none h o5 (((4 : Int32) * x2) + (3 : Int32)) x3 fun h4 =>
  pfI none h4 a0 [12] 8 (0 : Int32) fun h6 =>
  if a1 = (0 : Int32) then
  (gfI none h6 a0 [12] 24 fun x7 =>
  some (some (.int ((-100 : Int32) - x7)), h6))
  else
  (gfI none h6 a0 [12] 11 fun x8 =>
  pfI none h6 a0 [12] 11 (x8 + (1 : Int32)) fun h9 =>
  gfI none h9 a0 [12] 11 fun x10 =>
  some (some (.int (x10 - (1 : Int32))), h9))) :=
  (ex_unr p_190 o_190 [26, 93, 94, 122] 37 rfl _ _ h).trans rfl

theorem p_191 : prg 191 = (k_191, 3) := rfl
theorem o_191 : okc k_191 = true := by decide +kernel
set_option maxRecDepth 100000 in
theorem e_191 (d : Nat) (a0 : Int32) (a1 : Int32) (a2 : Int32) (h : MHeap) : call (d + 1) 191 [.int a0, .int a1, .int a2] h = (
  if a0 = (11 : Int32) then
  (if a1 = (0 : Int32) then
  (if a2 = (0 : Int32) then
  (some (some (.int (0 : Int32)), h))
  else
  (some (some (.int (1 : Int32)), h)))
  else
  (some (some (.int (1 : Int32)), h)))
  else
  (if a0 = (12 : Int32) then
  (if a1 = (0 : Int32) then
  (some (some (.int (0 : Int32)), h))
  else
  (if a2 = (0 : Int32) then
  (some (some (.int (0 : Int32)), h))
  else
  (some (some (.int (1 : Int32)), h))))
  else
  (if a0 = (13 : Int32) then
  (some (some (.int (a1 * a2)), h))
  else
  (if a0 = (14 : Int32) then
  (if a1 < a2 then
  (some (some (.int (1 : Int32)), h))
  else
  (some (some (.int (0 : Int32)), h)))
  else
  (if a0 = (15 : Int32) then
  (if a1 = a2 then
  (some (some (.int (1 : Int32)), h))
  else
  (some (some (.int (0 : Int32)), h)))
  else
  (if a0 = (16 : Int32) then
  (some (some (.int (a1 + a2)), h))
  else
  (if a0 = (17 : Int32) then
  (some (some (.int (a1 - a2)), h))
  else
  (some (some (.int (a1 * a2)), h))))))))) :=
  (call_unr p_191 rfl o_191 rfl [] 62 _ h).trans rfl

theorem p_192 : prg 192 = (k_192, 5) := rfl
theorem o_192 : okc k_192 = true := by decide +kernel
set_option maxRecDepth 100000 in
theorem e_192 (d : Nat) (a0 : Nat) (a1 : Int32) (h : MHeap) : call (d + 1) 192 [.ref a0, .int a1] h = (
  gfV none h a0 [12] 10 fun v1 =>
  gfI none h a0 [12] 12 fun x2 =>
  dR none v1 fun o4 =>
  alI none h o4 (((4 : Int32) * x2) + a1) fun x3 =>
  ex d 192 16 [sv (.ref a0), sv (.int a1), sv (.int (0 : Int32)), sv (.int x3), none] [] h) :=
  (call_unr p_192 rfl o_192 rfl [16] 17 _ h).trans rfl
set_option maxRecDepth 100000 in
theorem e_192_16 (d : Nat) (a0 : Nat) (a1 : Int32) (a2 : Int32) (a3 : Int32) (a4 : MSl) (h : MHeap) : ex d 192 16 [sv (.ref a0), sv (.int a1), sv (.int a2), sv (.int a3), a4] [] h = (
  gfV none h a0 [12] 10 fun v1 =>
  gfI none h a0 [12] 12 fun x2 =>
  dR none v1 fun o4 =>
  alI none h o4 ((((4 : Int32) * x2) + a1) + (1 : Int32)) fun x3 =>
  if a3 < x3 then
  (gfV none h a0 [12] 9 fun v5 =>
  gfI none h a0 [12] 12 fun x6 =>
  dR none v5 fun o8 =>
  alI none h o8 (((200 : Int32) * x6) + a3) fun x7 =>
  if x7 < (100000 : Int32) then
  (if x7 < (11 : Int32) then
  (gfV none h a0 [12] 32 fun v9 =>
  if x7 < (11 : Int32) then
  (gfV none h a0 [12] 33 fun v10 =>
  dR none v10 fun o12 =>
  alI none h o12 x7 fun x11 =>
  dR none v9 fun o14 =>
  asI none h o14 a2 x11 fun h13 =>
  ex d 192 16 [sv (.ref a0), sv (.int a1), sv (.int (a2 + (1 : Int32))), sv (.int (a3 + (1 : Int32))), sv (.int x7)] [] h13)
  else
  (dR none v9 fun o16 =>
  asI none h o16 a2 (x7 - (100000 : Int32)) fun h15 =>
  ex d 192 16 [sv (.ref a0), sv (.int a1), sv (.int (a2 + (1 : Int32))), sv (.int (a3 + (1 : Int32))), sv (.int x7)] [] h15))
  else
  (if x7 = (13 : Int32) then
  (gfV none h a0 [12] 32 fun v17 =>
  gfV none h a0 [12] 32 fun v18 =>
  dR none v18 fun o20 =>
  alI none h o20 (a2 - (1 : Int32)) fun x19 =>
  if x19 = (0 : Int32) then
  (dR none v17 fun o22 =>
  asI none h o22 (a2 - (1 : Int32)) (1 : Int32) fun h21 =>
  ex d 192 16 [sv (.ref a0), sv (.int a1), sv (.int a2), sv (.int (a3 + (1 : Int32))), sv (.int x7)] [] h21)
  else
  (dR none v17 fun o24 =>
  asI none h o24 (a2 - (1 : Int32)) (0 : Int32) fun h23 =>
  ex d 192 16 [sv (.ref a0), sv (.int a1), sv (.int a2), sv (.int (a3 + (1 : Int32))), sv (.int x7)] [] h23))
  else
  (if x7 = (19 : Int32) then
  (gfV none h a0 [12] 32 fun v25 =>
  gfV none h a0 [12] 32 fun v26 =>
  dR none v26 fun o28 =>
  alI none h o28 (a2 - (1 : Int32)) fun x27 =>
  dR none v25 fun o30 =>
  asI none h o30 (a2 - (1 : Int32)) (-x27) fun h29 =>
  ex d 192 16 [sv (.ref a0), sv (.int a1), sv (.int a2), sv (.int (a3 + (1 : Int32))), sv (.int x7)] [] h29)
  else
  (gfV none h a0 [12] 32 fun v31 =>
  gfV none h a0 [12] 32 fun v32 =>
  dR none v32 fun o34 =>
  alI none h o34 ((a2 + (-1 : Int32)) - (1 : Int32)) fun x33 =>
  gfV none h a0 [12] 32 fun v35 =>
  dR none v35 fun o37 =>
  alI none h o37 (a2 + (-1 : Int32)) fun x36 =>
  cI (call d 191 [.int x7, .int x33, .int x36] h) fun x39 h38 =>
  dR none v31 fun o41 =>
  asI none h38 o41 ((a2 + (-1 : Int32)) - (1 : Int32)) x39 fun h40 =>
  ex d 192 16 [sv (.ref a0), sv (.int a1), sv (.int (a2 + (-1 : Int32))), sv (.int (a3 + (1 : Int32))), sv (.int x7)] [] h40))))
  else
  (gfV none h a0 [12] 32 fun v42 =>
  if x7 < (11 : Int32) then
  (gfV none h a0 [12] 33 fun v43 =>
  dR none v43 fun o45 =>
  alI none h o45 x7 fun x44 =>
  dR none v42 fun o47 =>
  asI none h o47 a2 x44 fun h46 =>
  ex d 192 16 [sv (.ref a0), sv (.int a1), sv (.int (a2 + (1 : Int32))), sv (.int (a3 + (1 : Int32))), sv (.int x7)] [] h46)
  else
  (dR none v42 fun o49 =>
  asI none h o49 a2 (x7 - (100000 : Int32)) fun h48 =>
  ex d 192 16 [sv (.ref a0), sv (.int a1), sv (.int (a2 + (1 : Int32))), sv (.int (a3 + (1 : Int32))), sv (.int x7)] [] h48)))
  else
  (gfV none h a0 [12] 32 fun v50 =>
  dR none v50 fun o52 =>
  alI none h o52 (0 : Int32) fun x51 =>
  some (some (.int x51), h))) :=
  (ex_unr p_192 o_192 [16] 153 rfl _ _ h).trans rfl

theorem p_193 : prg 193 = (k_193, 3) := rfl
theorem o_193 : okc k_193 = true := by decide +kernel
set_option maxRecDepth 100000 in
theorem e_193 (d : Nat) (a0 : Nat) (a1 : Int32) (h : MHeap) : call (d + 1) 193 [.ref a0, .int a1] h = (
  gfI none h a0 [12] 11 fun x1 =>
  cI (call d 166 [.int a1, .int (0 : Int32), .int (x1 - (1 : Int32))] h) fun x3 h2 =>
  if x3 = (0 : Int32) then
  (some (some (.int (-2 : Int32)), h2))
  else
  (gfI none h2 a0 [12] 12 fun x4 =>
  pfI none h2 a0 [12] 12 a1 fun h5 =>
  some (some (.int x4), h5))) :=
  (call_unr p_193 rfl o_193 rfl [] 23 _ h).trans rfl

theorem p_194 : prg 194 = (k_194, 3) := rfl
theorem o_194 : okc k_194 = true := by decide +kernel
set_option maxRecDepth 100000 in
theorem e_194 (d : Nat) (a0 : Nat) (a1 : Int32) (a2 : Int32) (h : MHeap) : call (d + 1) 194 [.ref a0, .int a1, .int a2] h = (
  gfV none h a0 [12] 33 fun v1 =>
  dR none v1 fun o3 =>
  asI none h o3 (0 : Int32) a2 fun h2 =>
  gfV none h2 a0 [12] 33 fun v4 =>
  gfI none h2 a0 [12] 1 fun x5 =>
  dv none x5 <|
  dR none v4 fun o7 =>
  asI none h2 o7 (1 : Int32) (a2 / x5) fun h6 =>
  gfV none h6 a0 [12] 33 fun v8 =>
  gfI none h6 a0 [12] 1 fun x9 =>
  dv none x9 <|
  dR none v8 fun o11 =>
  asI none h6 o11 (2 : Int32) (a2 - a2 / x9 * x9) fun h10 =>
  gfV none h10 a0 [12] 33 fun v12 =>
  gfI none h10 a0 [12] 2 fun x13 =>
  dR none v12 fun o15 =>
  asI none h10 o15 (3 : Int32) ((x13 >>> (a2 &&& 31)) &&& (1 : Int32)) fun h14 =>
  gfV none h14 a0 [12] 33 fun v16 =>
  gfI none h14 a0 [12] 0 fun x17 =>
  dR none v16 fun o19 =>
  asI none h14 o19 (4 : Int32) x17 fun h18 =>
  gfV none h18 a0 [12] 33 fun v20 =>
  gfI none h18 a0 [12] 2 fun x21 =>
  vd none h18 a0 [12, 202] fun m22 =>
  cI (call d m22 [.ref a0, .int x21] h18) fun x24 h23 =>
  vd none h23 a0 [12, 205] fun m25 =>
  cI (call d m25 [.ref a0, .int x24] h23) fun x27 h26 =>
  dR none v20 fun o29 =>
  asI none h26 o29 (5 : Int32) x27 fun h28 =>
  vd none h28 a0 [12, 192] fun m30 =>
  cI (call d m30 [.ref a0, .int a1] h28) fun x32 h31 =>
  cI (call d 167 [.int x32, .int (0 : Int32), .int (99 : Int32)] h31) fun x34 h33 =>
  some (some (.int x34), h33)) :=
  (call_unr p_194 rfl o_194 rfl [] 59 _ h).trans rfl

theorem p_195 : prg 195 = (k_195, 3) := rfl
theorem o_195 : okc k_195 = true := by decide +kernel
set_option maxRecDepth 100000 in
theorem e_195 (d : Nat) (a0 : Nat) (a1 : Int32) (a2 : Int32) (h : MHeap) : call (d + 1) 195 [.ref a0, .int a1, .int a2] h = (
  vd none h a0 [12, 169] fun m1 =>
  cI (call d m1 [.ref a0, .int a2] h) fun x3 h2 =>
  if x3 = (0 : Int32) then
  (some (some (.int (-5 : Int32)), h2))
  else
  (cI (call d 166 [.int a1, .int (0 : Int32), .int (2 : Int32)] h2) fun x5 h4 =>
  if x5 = (0 : Int32) then
  (some (some (.int (-7 : Int32)), h4))
  else
  (vd none h4 a0 [12, 194] fun m6 =>
  cI (call d m6 [.ref a0, .int a1, .int a2] h4) fun x8 h7 =>
  some (some (.int x8), h7)))) :=
  (call_unr p_195 rfl o_195 rfl [] 25 _ h).trans rfl

theorem p_196 : prg 196 = (k_196, 3) := rfl
theorem o_196 : okc k_196 = true := by decide +kernel
set_option maxRecDepth 100000 in
theorem e_196 (d : Nat) (a0 : Int32) (a1 : Int32) (a2 : Int32) (h : MHeap) : call (d + 1) 196 [.int a0, .int a1, .int a2] h = (
  cI (call d 166 [.int a0, .int (0 : Int32), .int (5 : Int32)] h) fun x2 h1 =>
  if x2 = (0 : Int32) then
  (zr none (0 : Int32) (some (some (.int (0 : Int32)), h1)))
  else
  (cI (call d 166 [.int a1, .int (0 : Int32), .int (4095 : Int32)] h1) fun x4 h3 =>
  if x4 = (0 : Int32) then
  (zr none (0 : Int32) (some (some (.int (0 : Int32)), h3)))
  else
  (cI (call d 166 [.int a2, .int (0 : Int32), .int (9 : Int32)] h3) fun x6 h5 =>
  if x6 = (0 : Int32) then
  (zr none (0 : Int32) (some (some (.int (0 : Int32)), h5)))
  else
  (zr none (1 : Int32) (some (some (.int (1 : Int32)), h5)))))) :=
  (call_unr p_196 rfl o_196 rfl [] 29 _ h).trans rfl

theorem p_197 : prg 197 = (k_197, 4) := rfl
theorem o_197 : okc k_197 = true := by decide +kernel
set_option maxRecDepth 100000 in
theorem e_197 (d : Nat) (a0 : Nat) (a1 : Int32) (a2 : Int32) (a3 : Int32) (h : MHeap) : call (d + 1) 197 [.ref a0, .int a1, .int a2, .int a3] h = (
  cI (call d 196 [.int a1, .int a2, .int a3] h) fun x2 h1 =>
  if x2 = (0 : Int32) then
  (some (some (.int (-2 : Int32)), h1))
  else
  (gfI none h1 a0 [12] 3 fun x3 =>
  if x3 = (7 : Int32) then
  (some (some (.int (-4 : Int32)), h1))
  else
  (gfV none h1 a0 [12] 4 fun v4 =>
  gfI none h1 a0 [12] 3 fun x5 =>
  dR none v4 fun o7 =>
  asI none h1 o7 x5 a1 fun h6 =>
  gfV none h6 a0 [12] 5 fun v8 =>
  gfI none h6 a0 [12] 3 fun x9 =>
  dR none v8 fun o11 =>
  asI none h6 o11 x9 a2 fun h10 =>
  gfV none h10 a0 [12] 6 fun v12 =>
  gfI none h10 a0 [12] 3 fun x13 =>
  dR none v12 fun o15 =>
  asI none h10 o15 x13 a3 fun h14 =>
  gfI none h14 a0 [12] 3 fun x16 =>
  pfI none h14 a0 [12] 3 (x16 + (1 : Int32)) fun h17 =>
  gfI none h17 a0 [12] 3 fun x18 =>
  some (some (.int (x18 - (1 : Int32))), h17)))) :=
  (call_unr p_197 rfl o_197 rfl [] 47 _ h).trans rfl

theorem p_198 : prg 198 = (k_198, 1) := rfl
theorem o_198 : okc k_198 = true := by decide +kernel
set_option maxRecDepth 100000 in
theorem e_198 (d : Nat) (a0 : Nat) (h : MHeap) : call (d + 1) 198 [.ref a0] h = (
  gfI none h a0 [12] 3 fun x1 =>
  if x1 = (0 : Int32) then
  (some (some (.int (-3 : Int32)), h))
  else
  (gfI none h a0 [12] 3 fun x2 =>
  pfI none h a0 [12] 3 (x2 - (1 : Int32)) fun h3 =>
  gfI none h3 a0 [12] 13 fun x4 =>
  if x4 = (0 : Int32) then
  (zr none (0 : Int32) <|
  pfI none h3 a0 [12] 13 (0 : Int32) fun h5 =>
  gfI none h5 a0 [12] 3 fun x6 =>
  some (some (.int x6), h5))
  else
  (gfI none h3 a0 [12] 17 fun x7 =>
  gfI none h3 a0 [12] 3 fun x8 =>
  if x8 < x7 then
  (zr none (0 : Int32) <|
  pfI none h3 a0 [12] 13 (0 : Int32) fun h9 =>
  gfI none h9 a0 [12] 3 fun x10 =>
  some (some (.int x10), h9))
  else
  (zr none (1 : Int32) <|
  pfI none h3 a0 [12] 13 (1 : Int32) fun h11 =>
  gfI none h11 a0 [12] 3 fun x12 =>
  some (some (.int x12), h11))))) :=
  (call_unr p_198 rfl o_198 rfl [] 41 _ h).trans rfl

theorem p_199 : prg 199 = (k_199, 5) := rfl
theorem o_199 : okc k_199 = true := by decide +kernel
set_option maxRecDepth 100000 in
theorem e_199 (d : Nat) (a0 : Nat) (a1 : Int32) (a2 : Int32) (h : MHeap) : call (d + 1) 199 [.ref a0, .int a1, .int a2] h = (
  gfV none h a0 [12] 5 fun v1 =>
  dR none v1 fun o3 =>
  alI none h o3 a1 fun x2 =>
  if ((x2 >>> (a2 &&& 31)) &&& (1 : Int32)) = (1 : Int32) then
  (gfV none h a0 [12] 6 fun v4 =>
  dR none v4 fun o6 =>
  alI none h o6 a1 fun x5 =>
  dv none (4 : Int32) <|
  if ((a2 >>> ((x5 - x5 / (4 : Int32) * (4 : Int32)) &&& 31)) &&& (1 : Int32)) = (1 : Int32) then
  (ex d 199 41 [sv (.ref a0), sv (.int a1), sv (.int a2), sv (.int (1 : Int32)), none] [.int (1 : Int32)] h)
  else
  (ex d 199 41 [sv (.ref a0), sv (.int a1), sv (.int a2), sv (.int (1 : Int32)), none] [.int (0 : Int32)] h))
  else
  (gfV none h a0 [12] 6 fun v7 =>
  dR none v7 fun o9 =>
  alI none h o9 a1 fun x8 =>
  dv none (4 : Int32) <|
  if ((a2 >>> ((x8 - x8 / (4 : Int32) * (4 : Int32)) &&& 31)) &&& (1 : Int32)) = (1 : Int32) then
  (ex d 199 41 [sv (.ref a0), sv (.int a1), sv (.int a2), sv (.int (0 : Int32)), none] [.int (1 : Int32)] h)
  else
  (ex d 199 41 [sv (.ref a0), sv (.int a1), sv (.int a2), sv (.int (0 : Int32)), none] [.int (0 : Int32)] h))) :=
  (call_unr p_199 rfl o_199 rfl [41, 104, 128, 140] 50 _ h).trans rfl
set_option maxRecDepth 100000 in
theorem e_199_41 (d : Nat) (a0 : Nat) (a1 : Int32) (a2 : Int32) (a3 : Int32) (s0 : Int32) (h : MHeap) : ex d 199 41 [sv (.ref a0), sv (.int a1), sv (.int a2), sv (.int a3), none] [.int s0] h = (
  gfV none h a0 [12] 4 fun v1 =>
  dR none v1 fun o3 =>
  alI none h o3 a1 fun x2 =>
  if x2 = (1 : Int32) then
  (gfI none h a0 [12] 1 fun x4 =>
  dv none x4 <|
  gfV none h a0 [12] 6 fun v5 =>
  dR none v5 fun o7 =>
  alI none h o7 a1 fun x6 =>
  if (a2 / x4) = x6 then
  (ex d 199 104 [sv (.ref a0), sv (.int a1), sv (.int a2), sv (.int a3), sv (.int s0)] [.int (1 : Int32)] h)
  else
  (ex d 199 104 [sv (.ref a0), sv (.int a1), sv (.int a2), sv (.int a3), sv (.int s0)] [.int (0 : Int32)] h))
  else
  (if x2 = (2 : Int32) then
  (zr none s0 (some (some (.int s0), h)))
  else
  (if x2 = (3 : Int32) then
  (gfI none h a0 [12] 1 fun x8 =>
  dv none x8 <|
  gfV none h a0 [12] 6 fun v9 =>
  dR none v9 fun o11 =>
  alI none h o11 a1 fun x10 =>
  if (a2 - a2 / x8 * x8) = x10 then
  (ex d 199 128 [sv (.ref a0), sv (.int a1), sv (.int a2), sv (.int a3), sv (.int s0)] [.int (1 : Int32)] h)
  else
  (ex d 199 128 [sv (.ref a0), sv (.int a1), sv (.int a2), sv (.int a3), sv (.int s0)] [.int (0 : Int32)] h))
  else
  (if x2 = (4 : Int32) then
  (zr none a3 (some (some (.int a3), h)))
  else
  (if x2 = (5 : Int32) then
  (if s0 = a3 then
  (ex d 199 140 [sv (.ref a0), sv (.int a1), sv (.int a2), sv (.int a3), sv (.int s0)] [.int (0 : Int32)] h)
  else
  (ex d 199 140 [sv (.ref a0), sv (.int a1), sv (.int a2), sv (.int a3), sv (.int s0)] [.int (1 : Int32)] h))
  else
  (zr none a3 (some (some (.int a3), h)))))))) :=
  (ex_unr p_199 o_199 [41, 104, 128, 140] 47 rfl _ _ h).trans rfl
set_option maxRecDepth 100000 in
theorem e_199_104 (d : Nat) (a0 : Nat) (a1 : Int32) (a2 : Int32) (a3 : Int32) (a4 : Int32) (s0 : Int32) (h : MHeap) : ex d 199 104 [sv (.ref a0), sv (.int a1), sv (.int a2), sv (.int a3), sv (.int a4)] [.int s0] h = (
  zr none s0 (some (some (.int s0), h))) :=
  (ex_unr p_199 o_199 [41, 104, 128, 140] 6 rfl _ _ h).trans rfl
set_option maxRecDepth 100000 in
theorem e_199_128 (d : Nat) (a0 : Nat) (a1 : Int32) (a2 : Int32) (a3 : Int32) (a4 : Int32) (s0 : Int32) (h : MHeap) : ex d 199 128 [sv (.ref a0), sv (.int a1), sv (.int a2), sv (.int a3), sv (.int a4)] [.int s0] h = (
  zr none s0 (some (some (.int s0), h))) :=
  (ex_unr p_199 o_199 [41, 104, 128, 140] 6 rfl _ _ h).trans rfl
set_option maxRecDepth 100000 in
theorem e_199_140 (d : Nat) (a0 : Nat) (a1 : Int32) (a2 : Int32) (a3 : Int32) (a4 : Int32) (s0 : Int32) (h : MHeap) : ex d 199 140 [sv (.ref a0), sv (.int a1), sv (.int a2), sv (.int a3), sv (.int a4)] [.int s0] h = (
  zr none s0 (some (some (.int s0), h))) :=
  (ex_unr p_199 o_199 [41, 104, 128, 140] 6 rfl _ _ h).trans rfl

theorem p_200 : prg 200 = (k_200, 4) := rfl
theorem o_200 : okc k_200 = true := by decide +kernel
set_option maxRecDepth 100000 in
theorem e_200 (d : Nat) (a0 : Nat) (a1 : Int32) (h : MHeap) : call (d + 1) 200 [.ref a0, .int a1] h = (
  ex d 200 4 [sv (.ref a0), sv (.int a1), sv (.int (0 : Int32)), sv (.int (0 : Int32))] [] h) :=
  (call_unr p_200 rfl o_200 rfl [4] 9 _ h).trans rfl
set_option maxRecDepth 100000 in
theorem e_200_4 (d : Nat) (a0 : Nat) (a1 : Int32) (a2 : Int32) (a3 : Int32) (h : MHeap) : ex d 200 4 [sv (.ref a0), sv (.int a1), sv (.int a2), sv (.int a3)] [] h = (
  gfI none h a0 [12] 0 fun x1 =>
  if a3 < x1 then
  (vd none h a0 [12, 199] fun m2 =>
  cI (call d m2 [.ref a0, .int a1, .int a3] h) fun x4 h3 =>
  if x4 = (0 : Int32) then
  (ex d 200 4 [sv (.ref a0), sv (.int a1), sv (.int (a2 ||| (0 : Int32))), sv (.int (a3 + (1 : Int32)))] [] h3)
  else
  (ex d 200 4 [sv (.ref a0), sv (.int a1), sv (.int (a2 ||| ((1 : Int32) <<< (a3 &&& 31)))), sv (.int (a3 + (1 : Int32)))] [] h3))
  else
  (some (some (.int a2), h))) :=
  (ex_unr p_200 o_200 [4] 30 rfl _ _ h).trans rfl

theorem p_201 : prg 201 = (k_201, 6) := rfl
theorem o_201 : okc k_201 = true := by decide +kernel
set_option maxRecDepth 100000 in
theorem e_201 (d : Nat) (a0 : Nat) (a1 : Int32) (a2 : Int32) (a3 : Int32) (h : MHeap) : call (d + 1) 201 [.ref a0, .int a1, .int a2, .int a3] h = (
  ex d 201 6 [sv (.ref a0), sv (.int a1), sv (.int a2), sv (.int a3), sv (.int (0 : Int32)), sv (.int (0 : Int32))] [] h) :=
  (call_unr p_201 rfl o_201 rfl [6] 9 _ h).trans rfl
set_option maxRecDepth 100000 in
theorem e_201_6 (d : Nat) (a0 : Nat) (a1 : Int32) (a2 : Int32) (a3 : Int32) (a4 : Int32) (a5 : Int32) (h : MHeap) : ex d 201 6 [sv (.ref a0), sv (.int a1), sv (.int a2), sv (.int a3), sv (.int a4), sv (.int a5)] [] h = (
  gfI none h a0 [12] 0 fun x1 =>
  if a5 < x1 then
  (gfV none h a0 [12] 4 fun v2 =>
  dR none v2 fun o4 =>
  alI none h o4 a1 fun x3 =>
  if x3 = (4 : Int32) then
  (if (((a2 &&& a3) >>> (a5 &&& 31)) &&& (1 : Int32)) = (1 : Int32) then
  (ex d 201 6 [sv (.ref a0), sv (.int a1), sv (.int a2), sv (.int a3), sv (.int ((a4 + (((a2 &&& a3) >>> (a5 &&& 31)) &&& (1 : Int32))) + a5)), sv (.int (a5 + (1 : Int32)))] [] h)
  else
  (ex d 201 6 [sv (.ref a0), sv (.int a1), sv (.int a2), sv (.int a3), sv (.int ((a4 + (((a2 &&& a3) >>> (a5 &&& 31)) &&& (1 : Int32))) + (0 : Int32))), sv (.int (a5 + (1 : Int32)))] [] h))
  else
  (ex d 201 6 [sv (.ref a0), sv (.int a1), sv (.int a2), sv (.int a3), sv (.int ((a4 + (((a2 &&& a3) >>> (a5 &&& 31)) &&& (1 : Int32))) + (0 : Int32))), sv (.int (a5 + (1 : Int32)))] [] h))
  else
  (gfV none h a0 [12] 4 fun v5 =>
  dR none v5 fun o7 =>
  alI none h o7 a1 fun x6 =>
  if x6 = (4 : Int32) then
  (gfV none h a0 [12] 6 fun v8 =>
  dR none v8 fun o10 =>
  alI none h o10 a1 fun x9 =>
  dv none (x9 + (2 : Int32)) <|
  gfV none h a0 [12] 4 fun v11 =>
  dR none v11 fun o13 =>
  alI none h o13 a1 fun x12 =>
  if x12 = (5 : Int32) then
  (some (some (.int ((1 : Int32) - (a4 - a4 / (x9 + (2 : Int32)) * (x9 + (2 : Int32))))), h))
  else
  (some (some (.int (a4 - a4 / (x9 + (2 : Int32)) * (x9 + (2 : Int32)))), h)))
  else
  (dv none (2 : Int32) <|
  gfV none h a0 [12] 4 fun v14 =>
  dR none v14 fun o16 =>
  alI none h o16 a1 fun x15 =>
  if x15 = (5 : Int32) then
  (some (some (.int ((1 : Int32) - (a4 - a4 / (2 : Int32) * (2 : Int32)))), h))
  else
  (some (some (.int (a4 - a4 / (2 : Int32) * (2 : Int32))), h))))) :=
  (ex_unr p_201 o_201 [6] 96 rfl _ _ h).trans rfl

theorem p_202 : prg 202 = (k_202, 4) := rfl
theorem o_202 : okc k_202 = true := by decide +kernel
set_option maxRecDepth 100000 in
theorem e_202 (d : Nat) (a0 : Nat) (a1 : Int32) (h : MHeap) : call (d + 1) 202 [.ref a0, .int a1] h = (
  ex d 202 4 [sv (.ref a0), sv (.int a1), sv (.int (0 : Int32)), sv (.int (0 : Int32))] [] h) :=
  (call_unr p_202 rfl o_202 rfl [4] 9 _ h).trans rfl
set_option maxRecDepth 100000 in
theorem e_202_4 (d : Nat) (a0 : Nat) (a1 : Int32) (a2 : Int32) (a3 : Int32) (h : MHeap) : ex d 202 4 [sv (.ref a0), sv (.int a1), sv (.int a2), sv (.int a3)] [] h = (
  gfI none h a0 [12] 3 fun x1 =>
  if a3 < x1 then
  (vd none h a0 [12, 200] fun m2 =>
  cI (call d m2 [.ref a0, .int a3] h) fun x4 h3 =>
  vd none h3 a0 [12, 201] fun m5 =>
  cI (call d m5 [.ref a0, .int a3, .int x4, .int a1] h3) fun x7 h6 =>
  ex d 202 4 [sv (.ref a0), sv (.int a1), sv (.int (a2 ||| (x7 <<< (((4 : Int32) * a3) &&& 31)))), sv (.int (a3 + (1 : Int32)))] [] h6)
  else
  (some (some (.int a2), h))) :=
  (ex_unr p_202 o_202 [4] 27 rfl _ _ h).trans rfl

theorem p_203 : prg 203 = (k_203, 2) := rfl
theorem o_203 : okc k_203 = true := by decide +kernel
set_option maxRecDepth 100000 in
theorem e_203 (d : Nat) (a0 : Nat) (h : MHeap) : call (d + 1) 203 [.ref a0] h = (
  ex d 203 2 [sv (.ref a0), sv (.int (0 : Int32))] [] h) :=
  (call_unr p_203 rfl o_203 rfl [2] 7 _ h).trans rfl
set_option maxRecDepth 100000 in
theorem e_203_2 (d : Nat) (a0 : Nat) (a1 : Int32) (h : MHeap) : ex d 203 2 [sv (.ref a0), sv (.int a1)] [] h = (
  gfI none h a0 [12] 3 fun x1 =>
  if a1 < x1 then
  (gfV none h a0 [12] 34 fun v2 =>
  vd none h a0 [12, 200] fun m3 =>
  cI (call d m3 [.ref a0, .int a1] h) fun x5 h4 =>
  dR none v2 fun o7 =>
  asI none h4 o7 a1 x5 fun h6 =>
  ex d 203 2 [sv (.ref a0), sv (.int (a1 + (1 : Int32)))] [] h6)
  else
  (some (none, h))) :=
  (ex_unr p_203 o_203 [2] 19 rfl _ _ h).trans rfl

theorem p_204 : prg 204 = (k_204, 4) := rfl
theorem o_204 : okc k_204 = true := by decide +kernel
set_option maxRecDepth 100000 in
theorem e_204 (d : Nat) (a0 : Nat) (a1 : Int32) (h : MHeap) : call (d + 1) 204 [.ref a0, .int a1] h = (
  ex d 204 4 [sv (.ref a0), sv (.int a1), sv (.int (0 : Int32)), sv (.int (0 : Int32))] [] h) :=
  (call_unr p_204 rfl o_204 rfl [4] 9 _ h).trans rfl
set_option maxRecDepth 100000 in
theorem e_204_4 (d : Nat) (a0 : Nat) (a1 : Int32) (a2 : Int32) (a3 : Int32) (h : MHeap) : ex d 204 4 [sv (.ref a0), sv (.int a1), sv (.int a2), sv (.int a3)] [] h = (
  gfI none h a0 [12] 3 fun x1 =>
  if a3 < x1 then
  (gfV none h a0 [12] 34 fun v2 =>
  dR none v2 fun o4 =>
  alI none h o4 a3 fun x3 =>
  vd none h a0 [12, 201] fun m5 =>
  cI (call d m5 [.ref a0, .int a3, .int x3, .int a1] h) fun x7 h6 =>
  ex d 204 4 [sv (.ref a0), sv (.int a1), sv (.int (a2 ||| (x7 <<< (((4 : Int32) * a3) &&& 31)))), sv (.int (a3 + (1 : Int32)))] [] h6)
  else
  (some (some (.int a2), h))) :=
  (ex_unr p_204 o_204 [4] 28 rfl _ _ h).trans rfl

theorem p_205 : prg 205 = (k_205, 4) := rfl
theorem o_205 : okc k_205 = true := by decide +kernel
set_option maxRecDepth 100000 in
theorem e_205 (d : Nat) (a0 : Nat) (a1 : Int32) (h : MHeap) : call (d + 1) 205 [.ref a0, .int a1] h = (
  ex d 205 4 [sv (.ref a0), sv (.int a1), sv (.int (0 : Int32)), sv (.int (0 : Int32))] [] h) :=
  (call_unr p_205 rfl o_205 rfl [4] 9 _ h).trans rfl
set_option maxRecDepth 100000 in
theorem e_205_4 (d : Nat) (a0 : Nat) (a1 : Int32) (a2 : Int32) (a3 : Int32) (h : MHeap) : ex d 205 4 [sv (.ref a0), sv (.int a1), sv (.int a2), sv (.int a3)] [] h = (
  gfI none h a0 [12] 3 fun x1 =>
  if a3 < x1 then
  (if ((a1 >>> (((4 : Int32) * a3) &&& 31)) &&& (15 : Int32)) = (0 : Int32) then
  (ex d 205 4 [sv (.ref a0), sv (.int a1), sv (.int (a2 + (0 : Int32))), sv (.int (a3 + (1 : Int32)))] [] h)
  else
  (ex d 205 4 [sv (.ref a0), sv (.int a1), sv (.int (a2 + (1 : Int32))), sv (.int (a3 + (1 : Int32)))] [] h))
  else
  (some (some (.int a2), h))) :=
  (ex_unr p_205 o_205 [4] 31 rfl _ _ h).trans rfl

theorem p_206 : prg 206 = (k_206, 3) := rfl
theorem o_206 : okc k_206 = true := by decide +kernel
set_option maxRecDepth 100000 in
theorem e_206 (d : Nat) (a0 : Nat) (a1 : Int32) (a2 : Int32) (h : MHeap) : call (d + 1) 206 [.ref a0, .int a1, .int a2] h = (
  vd none h a0 [12, 170] fun m1 =>
  cI (call d m1 [.ref a0, .int a1] h) fun x3 h2 =>
  if x3 = (0 : Int32) then
  (some (some (.int (-5 : Int32)), h2))
  else
  (if a2 = (0 : Int32) then
  (gfV none h2 a0 [12] 4 fun v4 =>
  dR none v4 fun o6 =>
  alI none h2 o6 a1 fun x5 =>
  some (some (.int x5), h2))
  else
  (if a2 = (1 : Int32) then
  (gfV none h2 a0 [12] 5 fun v7 =>
  dR none v7 fun o9 =>
  alI none h2 o9 a1 fun x8 =>
  some (some (.int x8), h2))
  else
  (if a2 = (2 : Int32) then
  (gfV none h2 a0 [12] 6 fun v10 =>
  dR none v10 fun o12 =>
  alI none h2 o12 a1 fun x11 =>
  some (some (.int x11), h2))
  else
  (if a2 = (3 : Int32) then
  (vd none h2 a0 [12, 200] fun m13 =>
  cI (call d m13 [.ref a0, .int a1] h2) fun x15 h14 =>
  some (some (.int x15), h14))
  else
  (if a2 = (4 : Int32) then
  (vd none h2 a0 [12, 200] fun m16 =>
  cI (call d m16 [.ref a0, .int a1] h2) fun x18 h17 =>
  gfI none h17 a0 [12] 2 fun x19 =>
  vd none h17 a0 [12, 201] fun m20 =>
  cI (call d m20 [.ref a0, .int a1, .int x18, .int x19] h17) fun x22 h21 =>
  some (some (.int x22), h21))
  else
  (some (some (.int (-7 : Int32)), h2)))))))) :=
  (call_unr p_206 rfl o_206 rfl [] 43 _ h).trans rfl

theorem p_207 : prg 207 = (k_207, 5) := rfl
theorem o_207 : okc k_207 = true := by decide +kernel
set_option maxRecDepth 100000 in
theorem e_207 (d : Nat) (a0 : Nat) (a1 : Int32) (h : MHeap) : call (d + 1) 207 [.ref a0, .int a1] h = (
  cI (call d 166 [.int a1, .int (0 : Int32), .int (2 : Int32)] h) fun x2 h1 =>
  if x2 = (0 : Int32) then
  (some (some (.int (-2 : Int32)), h1))
  else
  (gfI none h1 a0 [12] 2 fun x3 =>
  vd none h1 a0 [12, 202] fun m4 =>
  cI (call d m4 [.ref a0, .int x3] h1) fun x6 h5 =>
  ex d 207 26 [sv (.ref a0), sv (.int a1), sv (.int x6), sv (.int (0 : Int32)), sv (.int (0 : Int32))] [] h5)) :=
  (call_unr p_207 rfl o_207 rfl [26] 21 _ h).trans rfl
set_option maxRecDepth 100000 in
theorem e_207_26 (d : Nat) (a0 : Nat) (a1 : Int32) (a2 : Int32) (a3 : Int32) (a4 : Int32) (h : MHeap) : ex d 207 26 [sv (.ref a0), sv (.int a1), sv (.int a2), sv (.int a3), sv (.int a4)] [] h = (
  gfI none h a0 [12] 3 fun x1 =>
  if a4 < x1 then
  (if ((a2 >>> (((4 : Int32) * a4) &&& 31)) &&& (15 : Int32)) = (0 : Int32) then
  (ex d 207 26 [sv (.ref a0), sv (.int a1), sv (.int a2), sv (.int (a3 ||| (0 : Int32))), sv (.int (a4 + (1 : Int32)))] [] h)
  else
  (ex d 207 26 [sv (.ref a0), sv (.int a1), sv (.int a2), sv (.int (a3 ||| ((1 : Int32) <<< (a4 &&& 31)))), sv (.int (a4 + (1 : Int32)))] [] h))
  else
  (if a1 = (0 : Int32) then
  (some (some (.int a2), h))
  else
  (if a1 = (1 : Int32) then
  (some (some (.int a3), h))
  else
  (vd none h a0 [12, 205] fun m2 =>
  cI (call d m2 [.ref a0, .int a2] h) fun x4 h3 =>
  some (some (.int x4), h3))))) :=
  (ex_unr p_207 o_207 [26] 46 rfl _ _ h).trans rfl

theorem p_208 : prg 208 = (k_208, 2) := rfl
theorem o_208 : okc k_208 = true := by decide +kernel
set_option maxRecDepth 100000 in
theorem e_208 (d : Nat) (a0 : Nat) (a1 : Int32) (h : MHeap) : call (d + 1) 208 [.ref a0, .int a1] h = (
  vd none h a0 [12, 172] fun m1 =>
  cI (call d m1 [.ref a0, .int a1] h) fun x3 h2 =>
  if x3 = (0 : Int32) then
  (some (some (.int (-2 : Int32)), h2))
  else
  (gfI none h2 a0 [12] 2 fun x4 =>
  vd none h2 a0 [12, 202] fun m5 =>
  cI (call d m5 [.ref a0, .int (x4 ^^^ a1)] h2) fun x7 h6 =>
  some (some (.int x7), h6))) :=
  (call_unr p_208 rfl o_208 rfl [] 19 _ h).trans rfl

theorem p_209 : prg 209 = (k_209, 2) := rfl
theorem o_209 : okc k_209 = true := by decide +kernel
set_option maxRecDepth 100000 in
theorem e_209 (d : Nat) (a0 : Nat) (a1 : Int32) (h : MHeap) : call (d + 1) 209 [.ref a0, .int a1] h = (
  vd none h a0 [12, 204] fun m1 =>
  cI (call d m1 [.ref a0, .int a1] h) fun x3 h2 =>
  if x3 = (0 : Int32) then
  (zr none (1 : Int32) (some (some (.int (1 : Int32)), h2)))
  else
  (zr none (0 : Int32) (some (some (.int (0 : Int32)), h2)))) :=
  (call_unr p_209 rfl o_209 rfl [] 14 _ h).trans rfl

theorem p_210 : prg 210 = (k_210, 4) := rfl
theorem o_210 : okc k_210 = true := by decide +kernel
set_option maxRecDepth 100000 in
theorem e_210 (d : Nat) (a0 : Nat) (a1 : Int32) (h : MHeap) : call (d + 1) 210 [.ref a0, .int a1] h = (
  ex d 210 4 [sv (.ref a0), sv (.int a1), sv (.int (0 : Int32)), sv (.int (0 : Int32))] [] h) :=
  (call_unr p_210 rfl o_210 rfl [4] 9 _ h).trans rfl
set_option maxRecDepth 100000 in
theorem e_210_4 (d : Nat) (a0 : Nat) (a1 : Int32) (a2 : Int32) (a3 : Int32) (h : MHeap) : ex d 210 4 [sv (.ref a0), sv (.int a1), sv (.int a2), sv (.int a3)] [] h = (
  gfI none h a0 [12] 0 fun x1 =>
  if a3 < x1 then
  (vd none h a0 [12, 209] fun m2 =>
  cI (call d m2 [.ref a0, .int (a1 ^^^ ((1 : Int32) <<< (a3 &&& 31)))] h) fun x4 h3 =>
  if x4 = (0 : Int32) then
  (ex d 210 4 [sv (.ref a0), sv (.int a1), sv (.int (a2 ||| (0 : Int32))), sv (.int (a3 + (1 : Int32)))] [] h3)
  else
  (ex d 210 4 [sv (.ref a0), sv (.int a1), sv (.int (a2 ||| ((1 : Int32) <<< (a3 &&& 31)))), sv (.int (a3 + (1 : Int32)))] [] h3))
  else
  (some (some (.int a2), h))) :=
  (ex_unr p_210 o_210 [4] 33 rfl _ _ h).trans rfl

theorem p_211 : prg 211 = (k_211, 1) := rfl
theorem o_211 : okc k_211 = true := by decide +kernel
set_option maxRecDepth 100000 in
theorem e_211 (d : Nat) (a0 : Nat) (h : MHeap) : call (d + 1) 211 [.ref a0] h = (
  vd none h a0 [12, 203] fun m1 =>
  cV (call d m1 [.ref a0] h) fun h2 =>
  gfI none h2 a0 [12] 2 fun x3 =>
  vd none h2 a0 [12, 210] fun m4 =>
  cI (call d m4 [.ref a0, .int x3] h2) fun x6 h5 =>
  some (some (.int x6), h5)) :=
  (call_unr p_211 rfl o_211 rfl [] 12 _ h).trans rfl

theorem p_212 : prg 212 = (k_212, 6) := rfl
theorem o_212 : okc k_212 = true := by decide +kernel
set_option maxRecDepth 100000 in
theorem e_212 (d : Nat) (a0 : Nat) (a1 : Int32) (h : MHeap) : call (d + 1) 212 [.ref a0, .int a1] h = (
  cI (call d 166 [.int a1, .int (0 : Int32), .int (1 : Int32)] h) fun x2 h1 =>
  if x2 = (0 : Int32) then
  (some (some (.int (-2 : Int32)), h1))
  else
  (vd none h1 a0 [12, 203] fun m3 =>
  cV (call d m3 [.ref a0] h1) fun h4 =>
  ex d 212 23 [sv (.ref a0), sv (.int a1), sv (.int (0 : Int32)), sv (.int (-1 : Int32)), sv (.int (0 : Int32)), none] [] h4)) :=
  (call_unr p_212 rfl o_212 rfl [23, 38] 20 _ h).trans rfl
set_option maxRecDepth 100000 in
theorem e_212_23 (d : Nat) (a0 : Nat) (a1 : Int32) (a2 : Int32) (a3 : Int32) (a4 : Int32) (a5 : MSl) (h : MHeap) : ex d 212 23 [sv (.ref a0), sv (.int a1), sv (.int a2), sv (.int a3), sv (.int a4), a5] [] h = (
  gfI none h a0 [12] 0 fun x1 =>
  if a4 < x1 then
  (ex d 212 38 [sv (.ref a0), sv (.int a1), sv (.int a2), sv (.int a3), sv (.int a4), sv (.int (a4 + (1 : Int32)))] [] h)
  else
  (if a1 = (0 : Int32) then
  (some (some (.int a2), h))
  else
  (some (some (.int a3), h)))) :=
  (ex_unr p_212 o_212 [23, 38] 20 rfl _ _ h).trans rfl
set_option maxRecDepth 100000 in
theorem e_212_38 (d : Nat) (a0 : Nat) (a1 : Int32) (a2 : Int32) (a3 : Int32) (a4 : Int32) (a5 : Int32) (h : MHeap) : ex d 212 38 [sv (.ref a0), sv (.int a1), sv (.int a2), sv (.int a3), sv (.int a4), sv (.int a5)] [] h = (
  gfI none h a0 [12] 0 fun x1 =>
  if a5 < x1 then
  (gfI none h a0 [12] 2 fun x2 =>
  vd none h a0 [12, 209] fun m3 =>
  cI (call d m3 [.ref a0, .int (x2 ^^^ (((1 : Int32) <<< (a4 &&& 31)) ||| ((1 : Int32) <<< (a5 &&& 31))))] h) fun x5 h4 =>
  if x5 = (0 : Int32) then
  (ex d 212 38 [sv (.ref a0), sv (.int a1), sv (.int a2), sv (.int a3), sv (.int a4), sv (.int (a5 + (1 : Int32)))] [] h4)
  else
  (if a3 = (-1 : Int32) then
  (ex d 212 38 [sv (.ref a0), sv (.int a1), sv (.int (a2 + (1 : Int32))), sv (.int (((100 : Int32) * a4) + a5)), sv (.int a4), sv (.int (a5 + (1 : Int32)))] [] h4)
  else
  (ex d 212 38 [sv (.ref a0), sv (.int a1), sv (.int (a2 + (1 : Int32))), sv (.int a3), sv (.int a4), sv (.int (a5 + (1 : Int32)))] [] h4)))
  else
  (ex d 212 23 [sv (.ref a0), sv (.int a1), sv (.int a2), sv (.int a3), sv (.int (a4 + (1 : Int32))), sv (.int a5)] [] h)) :=
  (ex_unr p_212 o_212 [23, 38] 43 rfl _ _ h).trans rfl

theorem p_213 : prg 213 = (k_213, 5) := rfl
theorem o_213 : okc k_213 = true := by decide +kernel
set_option maxRecDepth 100000 in
theorem e_213 (d : Nat) (a0 : Nat) (a1 : Int32) (h : MHeap) : call (d + 1) 213 [.ref a0, .int a1] h = (
  cI (call d 166 [.int a1, .int (0 : Int32), .int (12 : Int32)] h) fun x2 h1 =>
  if x2 = (0 : Int32) then
  (some (some (.int (-2 : Int32)), h1))
  else
  (vd none h1 a0 [12, 203] fun m3 =>
  cV (call d m3 [.ref a0] h1) fun h4 =>
  gfI none h4 a0 [12] 2 fun x5 =>
  vd none h4 a0 [12, 204] fun m6 =>
  cI (call d m6 [.ref a0, .int x5] h4) fun x8 h7 =>
  ex d 213 31 [sv (.ref a0), sv (.int a1), sv (.int x8), sv (.int (0 : Int32)), sv (.int (0 : Int32))] [] h7)) :=
  (call_unr p_213 rfl o_213 rfl [31] 23 _ h).trans rfl
set_option maxRecDepth 100000 in
theorem e_213_31 (d : Nat) (a0 : Nat) (a1 : Int32) (a2 : Int32) (a3 : Int32) (a4 : Int32) (h : MHeap) : ex d 213 31 [sv (.ref a0), sv (.int a1), sv (.int a2), sv (.int a3), sv (.int a4)] [] h = (
  vd none h a0 [12, 171] fun m1 =>
  cI (call d m1 [.ref a0] h) fun x3 h2 =>
  if x3 < a4 then
  (some (some (.int a3), h2))
  else
  (cI (call d 168 [.int a4] h2) fun x5 h4 =>
  if x5 = a1 then
  (gfI none h4 a0 [12] 2 fun x6 =>
  vd none h4 a0 [12, 204] fun m7 =>
  cI (call d m7 [.ref a0, .int (x6 ^^^ a4)] h4) fun x9 h8 =>
  if x9 = a2 then
  (ex d 213 31 [sv (.ref a0), sv (.int a1), sv (.int a2), sv (.int (a3 + (1 : Int32))), sv (.int (a4 + (1 : Int32)))] [] h8)
  else
  (ex d 213 31 [sv (.ref a0), sv (.int a1), sv (.int a2), sv (.int (a3 + (0 : Int32))), sv (.int (a4 + (1 : Int32)))] [] h8))
  else
  (ex d 213 31 [sv (.ref a0), sv (.int a1), sv (.int a2), sv (.int (a3 + (0 : Int32))), sv (.int (a4 + (1 : Int32)))] [] h4))) :=
  (ex_unr p_213 o_213 [31] 40 rfl _ _ h).trans rfl

theorem p_214 : prg 214 = (k_214, 5) := rfl
theorem o_214 : okc k_214 = true := by decide +kernel
set_option maxRecDepth 100000 in
theorem e_214 (d : Nat) (a0 : Nat) (a1 : Int32) (h : MHeap) : call (d + 1) 214 [.ref a0, .int a1] h = (
  cI (call d 166 [.int a1, .int (0 : Int32), .int (1 : Int32)] h) fun x2 h1 =>
  if x2 = (0 : Int32) then
  (some (some (.int (-2 : Int32)), h1))
  else
  (vd none h1 a0 [12, 203] fun m3 =>
  cV (call d m3 [.ref a0] h1) fun h4 =>
  gfI none h4 a0 [12] 2 fun x5 =>
  vd none h4 a0 [12, 204] fun m6 =>
  cI (call d m6 [.ref a0, .int x5] h4) fun x8 h7 =>
  ex d 214 30 [sv (.ref a0), sv (.int a1), sv (.int x8), sv (.int (-1 : Int32)), sv (.int (1 : Int32))] [] h7)) :=
  (call_unr p_214 rfl o_214 rfl [30] 23 _ h).trans rfl
set_option maxRecDepth 100000 in
theorem e_214_30 (d : Nat) (a0 : Nat) (a1 : Int32) (a2 : Int32) (a3 : Int32) (a4 : Int32) (h : MHeap) : ex d 214 30 [sv (.ref a0), sv (.int a1), sv (.int a2), sv (.int a3), sv (.int a4)] [] h = (
  vd none h a0 [12, 171] fun m1 =>
  cI (call d m1 [.ref a0] h) fun x3 h2 =>
  if x3 < a4 then
  (if a1 = (1 : Int32) then
  (some (some (.int a3), h2))
  else
  (if a3 = (-1 : Int32) then
  (some (some (.int a3), h2))
  else
  (cI (call d 168 [.int a3] h2) fun x5 h4 =>
  some (some (.int x5), h4))))
  else
  (if a3 = (-1 : Int32) then
  (gfI none h2 a0 [12] 2 fun x6 =>
  vd none h2 a0 [12, 204] fun m7 =>
  cI (call d m7 [.ref a0, .int (x6 ^^^ a4)] h2) fun x9 h8 =>
  if x9 = a2 then
  (ex d 214 30 [sv (.ref a0), sv (.int a1), sv (.int a2), sv (.int a4), sv (.int (a4 + (1 : Int32)))] [] h8)
  else
  (ex d 214 30 [sv (.ref a0), sv (.int a1), sv (.int a2), sv (.int a3), sv (.int (a4 + (1 : Int32)))] [] h8))
  else
  (cI (call d 168 [.int a4] h2) fun x11 h10 =>
  cI (call d 168 [.int a3] h10) fun x13 h12 =>
  if x11 < x13 then
  (gfI none h12 a0 [12] 2 fun x14 =>
  vd none h12 a0 [12, 204] fun m15 =>
  cI (call d m15 [.ref a0, .int (x14 ^^^ a4)] h12) fun x17 h16 =>
  if x17 = a2 then
  (ex d 214 30 [sv (.ref a0), sv (.int a1), sv (.int a2), sv (.int a4), sv (.int (a4 + (1 : Int32)))] [] h16)
  else
  (ex d 214 30 [sv (.ref a0), sv (.int a1), sv (.int a2), sv (.int a3), sv (.int (a4 + (1 : Int32)))] [] h16))
  else
  (ex d 214 30 [sv (.ref a0), sv (.int a1), sv (.int a2), sv (.int a3), sv (.int (a4 + (1 : Int32)))] [] h12)))) :=
  (ex_unr p_214 o_214 [30] 62 rfl _ _ h).trans rfl
end
section
/-! the methods 215 to 263, unrolled up to the heads of their loops -/
theorem p_215 : prg 215 = (k_215, 8) := rfl
theorem o_215 : okc k_215 = true := by decide +kernel
set_option maxRecDepth 100000 in
theorem e_215 (d : Nat) (a0 : Nat) (a1 : Int32) (h : MHeap) : call (d + 1) 215 [.ref a0, .int a1] h = (
  cI (call d 166 [.int a1, .int (0 : Int32), .int (1 : Int32)] h) fun x2 h1 =>
  if x2 = (0 : Int32) then
  (some (some (.int (-2 : Int32)), h1))
  else
  (vd none h1 a0 [12, 203] fun m3 =>
  cV (call d m3 [.ref a0] h1) fun h4 =>
  ex d 215 23 [sv (.ref a0), sv (.int a1), sv (.int (0 : Int32)), sv (.int (-1 : Int32)), sv (.int (0 : Int32)), none, none, none] [] h4)) :=
  (call_unr p_215 rfl o_215 rfl [23, 38, 120, 132] 20 _ h).trans rfl
set_option maxRecDepth 100000 in
theorem e_215_23 (d : Nat) (a0 : Nat) (a1 : Int32) (a2 : Int32) (a3 : Int32) (a4 : Int32) (a5 : MSl) (a6 : MSl) (a7 : MSl) (h : MHeap) : ex d 215 23 [sv (.ref a0), sv (.int a1), sv (.int a2), sv (.int a3), sv (.int a4), a5, a6, a7] [] h = (
  gfI none h a0 [12] 0 fun x1 =>
  if a4 < x1 then
  (ex d 215 38 [sv (.ref a0), sv (.int a1), sv (.int a2), sv (.int a3), sv (.int a4), sv (.int (1 : Int32)), sv (.int (0 : Int32)), a7] [] h)
  else
  (if a1 = (0 : Int32) then
  (some (some (.int a2), h))
  else
  (some (some (.int a3), h)))) :=
  (ex_unr p_215 o_215 [23, 38, 120, 132] 20 rfl _ _ h).trans rfl
set_option maxRecDepth 100000 in
theorem e_215_38 (d : Nat) (a0 : Nat) (a1 : Int32) (a2 : Int32) (a3 : Int32) (a4 : Int32) (a5 : Int32) (a6 : Int32) (a7 : MSl) (h : MHeap) : ex d 215 38 [sv (.ref a0), sv (.int a1), sv (.int a2), sv (.int a3), sv (.int a4), sv (.int a5), sv (.int a6), a7] [] h = (
  if a6 < a4 then
  (gfI none h a0 [12] 2 fun x1 =>
  vd none h a0 [12, 204] fun m2 =>
  cI (call d m2 [.ref a0, .int (x1 ^^^ ((1 : Int32) <<< (a6 &&& 31)))] h) fun x4 h3 =>
  gfI none h3 a0 [12] 2 fun x5 =>
  vd none h3 a0 [12, 204] fun m6 =>
  cI (call d m6 [.ref a0, .int (x5 ^^^ ((1 : Int32) <<< (a4 &&& 31)))] h3) fun x8 h7 =>
  if x4 = x8 then
  (if a5 = (0 : Int32) then
  (if (1 : Int32) = (0 : Int32) then
  (ex d 215 132 [sv (.ref a0), sv (.int a1), sv (.int a2), sv (.int a3), sv (.int a4), sv (.int (0 : Int32)), sv (.int a6), sv (.int (1 : Int32))] [.int a3] h7)
  else
  (if a3 = (-1 : Int32) then
  (ex d 215 120 [sv (.ref a0), sv (.int a1), sv (.int a2), sv (.int a3), sv (.int a4), sv (.int (0 : Int32)), sv (.int a6), sv (.int (1 : Int32))] [] h7)
  else
  (if (((100 : Int32) * a6) + a4) < a3 then
  (ex d 215 120 [sv (.ref a0), sv (.int a1), sv (.int a2), sv (.int a3), sv (.int a4), sv (.int (0 : Int32)), sv (.int a6), sv (.int (1 : Int32))] [] h7)
  else
  (ex d 215 132 [sv (.ref a0), sv (.int a1), sv (.int a2), sv (.int a3), sv (.int a4), sv (.int (0 : Int32)), sv (.int a6), sv (.int (1 : Int32))] [.int a3] h7))))
  else
  (if (1 : Int32) = (0 : Int32) then
  (if (1 : Int32) = (0 : Int32) then
  (ex d 215 132 [sv (.ref a0), sv (.int a1), sv (.int a2), sv (.int a3), sv (.int a4), sv (.int (1 : Int32)), sv (.int a6), sv (.int (1 : Int32))] [.int a3] h7)
  else
  (if a3 = (-1 : Int32) then
  (ex d 215 120 [sv (.ref a0), sv (.int a1), sv (.int a2), sv (.int a3), sv (.int a4), sv (.int (1 : Int32)), sv (.int a6), sv (.int (1 : Int32))] [] h7)
  else
  (if (((100 : Int32) * a6) + a4) < a3 then
  (ex d 215 120 [sv (.ref a0), sv (.int a1), sv (.int a2), sv (.int a3), sv (.int a4), sv (.int (1 : Int32)), sv (.int a6), sv (.int (1 : Int32))] [] h7)
  else
  (ex d 215 132 [sv (.ref a0), sv (.int a1), sv (.int a2), sv (.int a3), sv (.int a4), sv (.int (1 : Int32)), sv (.int a6), sv (.int (1 : Int32))] [.int a3] h7))))
  else
  (if (1 : Int32) = (0 : Int32) then
  (ex d 215 132 [sv (.ref a0), sv (.int a1), sv (.int a2), sv (.int a3), sv (.int a4), sv (.int (0 : Int32)), sv (.int a6), sv (.int (1 : Int32))] [.int a3] h7)
  else
  (if a3 = (-1 : Int32) then
  (ex d 215 120 [sv (.ref a0), sv (.int a1), sv (.int a2), sv (.int a3), sv (.int a4), sv (.int (0 : Int32)), sv (.int a6), sv (.int (1 : Int32))] [] h7)
  else
  (if (((100 : Int32) * a6) + a4) < a3 then
  (ex d 215 120 [sv (.ref a0), sv (.int a1), sv (.int a2), sv (.int a3), sv (.int a4), sv (.int (0 : Int32)), sv (.int a6), sv (.int (1 : Int32))] [] h7)
  else
  (ex d 215 132 [sv (.ref a0), sv (.int a1), sv (.int a2), sv (.int a3), sv (.int a4), sv (.int (0 : Int32)), sv (.int a6), sv (.int (1 : Int32))] [.int a3] h7))))))
  else
  (if a5 = (0 : Int32) then
  (if (0 : Int32) = (0 : Int32) then
  (ex d 215 132 [sv (.ref a0), sv (.int a1), sv (.int a2), sv (.int a3), sv (.int a4), sv (.int (0 : Int32)), sv (.int a6), sv (.int (0 : Int32))] [.int a3] h7)
  else
  (if a3 = (-1 : Int32) then
  (ex d 215 120 [sv (.ref a0), sv (.int a1), sv (.int a2), sv (.int a3), sv (.int a4), sv (.int (0 : Int32)), sv (.int a6), sv (.int (0 : Int32))] [] h7)
  else
  (if (((100 : Int32) * a6) + a4) < a3 then
  (ex d 215 120 [sv (.ref a0), sv (.int a1), sv (.int a2), sv (.int a3), sv (.int a4), sv (.int (0 : Int32)), sv (.int a6), sv (.int (0 : Int32))] [] h7)
  else
  (ex d 215 132 [sv (.ref a0), sv (.int a1), sv (.int a2), sv (.int a3), sv (.int a4), sv (.int (0 : Int32)), sv (.int a6), sv (.int (0 : Int32))] [.int a3] h7))))
  else
  (if (0 : Int32) = (0 : Int32) then
  (if (0 : Int32) = (0 : Int32) then
  (ex d 215 132 [sv (.ref a0), sv (.int a1), sv (.int a2), sv (.int a3), sv (.int a4), sv (.int (1 : Int32)), sv (.int a6), sv (.int (0 : Int32))] [.int a3] h7)
  else
  (if a3 = (-1 : Int32) then
  (ex d 215 120 [sv (.ref a0), sv (.int a1), sv (.int a2), sv (.int a3), sv (.int a4), sv (.int (1 : Int32)), sv (.int a6), sv (.int (0 : Int32))] [] h7)
  else
  (if (((100 : Int32) * a6) + a4) < a3 then
  (ex d 215 120 [sv (.ref a0), sv (.int a1), sv (.int a2), sv (.int a3), sv (.int a4), sv (.int (1 : Int32)), sv (.int a6), sv (.int (0 : Int32))] [] h7)
  else
  (ex d 215 132 [sv (.ref a0), sv (.int a1), sv (.int a2), sv (.int a3), sv (.int a4), sv (.int (1 : Int32)), sv (.int a6), sv (.int (0 : Int32))] [.int a3] h7))))
  else
  (if (0 : Int32) = (0 : Int32) then
  (ex d 215 132 [sv (.ref a0), sv (.int a1), sv (.int a2), sv (.int a3), sv (.int a4), sv (.int (0 : Int32)), sv (.int a6), sv (.int (0 : Int32))] [.int a3] h7)
  else
  (if a3 = (-1 : Int32) then
  (ex d 215 120 [sv (.ref a0), sv (.int a1), sv (.int a2), sv (.int a3), sv (.int a4), sv (.int (0 : Int32)), sv (.int a6), sv (.int (0 : Int32))] [] h7)
  else
  (if (((100 : Int32) * a6) + a4) < a3 then
  (ex d 215 120 [sv (.ref a0), sv (.int a1), sv (.int a2), sv (.int a3), sv (.int a4), sv (.int (0 : Int32)), sv (.int a6), sv (.int (0 : Int32))] [] h7)
  else
  (ex d 215 132 [sv (.ref a0), sv (.int a1), sv (.int a2), sv (.int a3), sv (.int a4), sv (.int (0 : Int32)), sv (.int a6), sv (.int (0 : Int32))] [.int a3] h7)))))))
  else
  (if a5 = (0 : Int32) then
  (ex d 215 23 [sv (.ref a0), sv (.int a1), sv (.int (a2 + (0 : Int32))), sv (.int a3), sv (.int (a4 + (1 : Int32))), sv (.int a5), sv (.int a6), a7] [] h)
  else
  (ex d 215 23 [sv (.ref a0), sv (.int a1), sv (.int (a2 + (1 : Int32))), sv (.int a3), sv (.int (a4 + (1 : Int32))), sv (.int a5), sv (.int a6), a7] [] h))) :=
  (ex_unr p_215 o_215 [23, 38, 120, 132] 150 rfl _ _ h).trans rfl
set_option maxRecDepth 100000 in
theorem e_215_120 (d : Nat) (a0 : Nat) (a1 : Int32) (a2 : Int32) (a3 : Int32) (a4 : Int32) (a5 : Int32) (a6 : Int32) (a7 : Int32) (h : MHeap) : ex d 215 120 [sv (.ref a0), sv (.int a1), sv (.int a2), sv (.int a3), sv (.int a4), sv (.int a5), sv (.int a6), sv (.int a7)] [] h = (
  ex d 215 132 [sv (.ref a0), sv (.int a1), sv (.int a2), sv (.int a3), sv (.int a4), sv (.int a5), sv (.int a6), sv (.int a7)] [.int (((100 : Int32) * a6) + a4)] h) :=
  (ex_unr p_215 o_215 [23, 38, 120, 132] 11 rfl _ _ h).trans rfl
set_option maxRecDepth 100000 in
theorem e_215_132 (d : Nat) (a0 : Nat) (a1 : Int32) (a2 : Int32) (a3 : Int32) (a4 : Int32) (a5 : Int32) (a6 : Int32) (a7 : Int32) (s0 : Int32) (h : MHeap) : ex d 215 132 [sv (.ref a0), sv (.int a1), sv (.int a2), sv (.int a3), sv (.int a4), sv (.int a5), sv (.int a6), sv (.int a7)] [.int s0] h = (
  ex d 215 38 [sv (.ref a0), sv (.int a1), sv (.int a2), sv (.int s0), sv (.int a4), sv (.int a5), sv (.int (a6 + (1 : Int32))), sv (.int a7)] [] h) :=
  (ex_unr p_215 o_215 [23, 38, 120, 132] 8 rfl _ _ h).trans rfl

theorem p_216 : prg 216 = (k_216, 5) := rfl
theorem o_216 : okc k_216 = true := by decide +kernel
set_option maxRecDepth 100000 in
theorem e_216 (d : Nat) (a0 : Nat) (a1 : Int32) (h : MHeap) : call (d + 1) 216 [.ref a0, .int a1] h = (
  cI (call d 166 [.int a1, .int (0 : Int32), .int (3 : Int32)] h) fun x2 h1 =>
  if x2 = (0 : Int32) then
  (some (some (.int (-2 : Int32)), h1))
  else
  (vd none h1 a0 [12, 203] fun m3 =>
  cV (call d m3 [.ref a0] h1) fun h4 =>
  ex d 216 20 [sv (.ref a0), sv (.int a1), sv (.int (0 : Int32)), sv (.int (0 : Int32)), none] [] h4)) :=
  (call_unr p_216 rfl o_216 rfl [20, 55] 18 _ h).trans rfl
set_option maxRecDepth 100000 in
theorem e_216_20 (d : Nat) (a0 : Nat) (a1 : Int32) (a2 : Int32) (a3 : Int32) (a4 : MSl) (h : MHeap) : ex d 216 20 [sv (.ref a0), sv (.int a1), sv (.int a2), sv (.int a3), a4] [] h = (
  vd none h a0 [12, 171] fun m1 =>
  cI (call d m1 [.ref a0] h) fun x3 h2 =>
  if x3 < a3 then
  (some (some (.int a2), h2))
  else
  (cI (call d 168 [.int a3] h2) fun x5 h4 =>
  if a1 < x5 then
  (ex d 216 20 [sv (.ref a0), sv (.int a1), sv (.int a2), sv (.int (a3 + (1 : Int32))), a4] [] h4)
  else
  (gfV none h4 a0 [12] 35 fun v6 =>
  gfI none h4 a0 [12] 2 fun x7 =>
  vd none h4 a0 [12, 204] fun m8 =>
  cI (call d m8 [.ref a0, .int (x7 ^^^ a3)] h4) fun x10 h9 =>
  dR none v6 fun o12 =>
  asI none h9 o12 a2 x10 fun h11 =>
  ex d 216 55 [sv (.ref a0), sv (.int a1), sv (.int a2), sv (.int a3), sv (.int (0 : Int32))] [] h11))) :=
  (ex_unr p_216 o_216 [20, 55] 29 rfl _ _ h).trans rfl
set_option maxRecDepth 100000 in
theorem e_216_55 (d : Nat) (a0 : Nat) (a1 : Int32) (a2 : Int32) (a3 : Int32) (a4 : Int32) (h : MHeap) : ex d 216 55 [sv (.ref a0), sv (.int a1), sv (.int a2), sv (.int a3), sv (.int a4)] [] h = (
  gfV none h a0 [12] 35 fun v1 =>
  dR none v1 fun o3 =>
  alI none h o3 a4 fun x2 =>
  gfV none h a0 [12] 35 fun v4 =>
  dR none v4 fun o6 =>
  alI none h o6 a2 fun x5 =>
  if x2 = x5 then
  (if a4 = a2 then
  (ex d 216 20 [sv (.ref a0), sv (.int a1), sv (.int (a2 + (1 : Int32))), sv (.int (a3 + (1 : Int32))), sv (.int a4)] [] h)
  else
  (ex d 216 20 [sv (.ref a0), sv (.int a1), sv (.int (a2 + (0 : Int32))), sv (.int (a3 + (1 : Int32))), sv (.int a4)] [] h))
  else
  (ex d 216 55 [sv (.ref a0), sv (.int a1), sv (.int a2), sv (.int a3), sv (.int (a4 + (1 : Int32)))] [] h)) :=
  (ex_unr p_216 o_216 [20, 55] 31 rfl _ _ h).trans rfl

theorem p_217 : prg 217 = (k_217, 6) := rfl
theorem o_217 : okc k_217 = true := by decide +kernel
set_option maxRecDepth 100000 in
theorem e_217 (d : Nat) (a0 : Nat) (a1 : Int32) (a2 : Int32) (h : MHeap) : call (d + 1) 217 [.ref a0, .int a1, .int a2] h = (
  vd none h a0 [12, 203] fun m1 =>
  cV (call d m1 [.ref a0] h) fun h2 =>
  ex d 217 9 [sv (.ref a0), sv (.int a1), sv (.int a2), sv (.int (-1 : Int32)), sv (.int (0 : Int32)), none] [] h2) :=
  (call_unr p_217 rfl o_217 rfl [9] 11 _ h).trans rfl
set_option maxRecDepth 100000 in
theorem e_217_9 (d : Nat) (a0 : Nat) (a1 : Int32) (a2 : Int32) (a3 : Int32) (a4 : Int32) (a5 : MSl) (h : MHeap) : ex d 217 9 [sv (.ref a0), sv (.int a1), sv (.int a2), sv (.int a3), sv (.int a4), a5] [] h = (
  vd none h a0 [12, 171] fun m1 =>
  cI (call d m1 [.ref a0] h) fun x3 h2 =>
  if x3 < a4 then
  (some (some (.int a3), h2))
  else
  (if (a4 &&& (a1 ^^^ (-1 : Int32))) = (0 : Int32) then
  (if a3 = (-1 : Int32) then
  (if (1 : Int32) = (0 : Int32) then
  (ex d 217 9 [sv (.ref a0), sv (.int a1), sv (.int a2), sv (.int a3), sv (.int (a4 + (1 : Int32))), sv (.int (1 : Int32))] [] h2)
  else
  (gfI none h2 a0 [12] 2 fun x4 =>
  vd none h2 a0 [12, 204] fun m5 =>
  cI (call d m5 [.ref a0, .int (x4 ^^^ a4)] h2) fun x7 h6 =>
  if x7 = a2 then
  (ex d 217 9 [sv (.ref a0), sv (.int a1), sv (.int a2), sv (.int a4), sv (.int (a4 + (1 : Int32))), sv (.int (1 : Int32))] [] h6)
  else
  (ex d 217 9 [sv (.ref a0), sv (.int a1), sv (.int a2), sv (.int a3), sv (.int (a4 + (1 : Int32))), sv (.int (1 : Int32))] [] h6)))
  else
  (cI (call d 168 [.int a4] h2) fun x9 h8 =>
  cI (call d 168 [.int a3] h8) fun x11 h10 =>
  if x9 < x11 then
  (if (1 : Int32) = (0 : Int32) then
  (ex d 217 9 [sv (.ref a0), sv (.int a1), sv (.int a2), sv (.int a3), sv (.int (a4 + (1 : Int32))), sv (.int (1 : Int32))] [] h10)
  else
  (gfI none h10 a0 [12] 2 fun x12 =>
  vd none h10 a0 [12, 204] fun m13 =>
  cI (call d m13 [.ref a0, .int (x12 ^^^ a4)] h10) fun x15 h14 =>
  if x15 = a2 then
  (ex d 217 9 [sv (.ref a0), sv (.int a1), sv (.int a2), sv (.int a4), sv (.int (a4 + (1 : Int32))), sv (.int (1 : Int32))] [] h14)
  else
  (ex d 217 9 [sv (.ref a0), sv (.int a1), sv (.int a2), sv (.int a3), sv (.int (a4 + (1 : Int32))), sv (.int (1 : Int32))] [] h14)))
  else
  (if (0 : Int32) = (0 : Int32) then
  (ex d 217 9 [sv (.ref a0), sv (.int a1), sv (.int a2), sv (.int a3), sv (.int (a4 + (1 : Int32))), sv (.int (0 : Int32))] [] h10)
  else
  (gfI none h10 a0 [12] 2 fun x16 =>
  vd none h10 a0 [12, 204] fun m17 =>
  cI (call d m17 [.ref a0, .int (x16 ^^^ a4)] h10) fun x19 h18 =>
  if x19 = a2 then
  (ex d 217 9 [sv (.ref a0), sv (.int a1), sv (.int a2), sv (.int a4), sv (.int (a4 + (1 : Int32))), sv (.int (0 : Int32))] [] h18)
  else
  (ex d 217 9 [sv (.ref a0), sv (.int a1), sv (.int a2), sv (.int a3), sv (.int (a4 + (1 : Int32))), sv (.int (0 : Int32))] [] h18)))))
  else
  (if (0 : Int32) = (0 : Int32) then
  (ex d 217 9 [sv (.ref a0), sv (.int a1), sv (.int a2), sv (.int a3), sv (.int (a4 + (1 : Int32))), sv (.int (0 : Int32))] [] h2)
  else
  (gfI none h2 a0 [12] 2 fun x20 =>
  vd none h2 a0 [12, 204] fun m21 =>
  cI (call d m21 [.ref a0, .int (x20 ^^^ a4)] h2) fun x23 h22 =>
  if x23 = a2 then
  (ex d 217 9 [sv (.ref a0), sv (.int a1), sv (.int a2), sv (.int a4), sv (.int (a4 + (1 : Int32))), sv (.int (0 : Int32))] [] h22)
  else
  (ex d 217 9 [sv (.ref a0), sv (.int a1), sv (.int a2), sv (.int a3), sv (.int (a4 + (1 : Int32))), sv (.int (0 : Int32))] [] h22))))) :=
  (ex_unr p_217 o_217 [9] 127 rfl _ _ h).trans rfl

theorem p_218 : prg 218 = (k_218, 4) := rfl
theorem o_218 : okc k_218 = true := by decide +kernel
set_option maxRecDepth 100000 in
theorem e_218 (d : Nat) (a0 : Nat) (a1 : Int32) (a2 : Int32) (h : MHeap) : call (d + 1) 218 [.ref a0, .int a1, .int a2] h = (
  vd none h a0 [12, 172] fun m1 =>
  cI (call d m1 [.ref a0, .int a1] h) fun x3 h2 =>
  if x3 = (0 : Int32) then
  (some (some (.int (-2 : Int32)), h2))
  else
  (cI (call d 166 [.int a2, .int (0 : Int32), .int (1 : Int32)] h2) fun x5 h4 =>
  if x5 = (0 : Int32) then
  (some (some (.int (-7 : Int32)), h4))
  else
  (vd none h4 a0 [12, 217] fun m6 =>
  cI (call d m6 [.ref a0, .int a1, .int (0 : Int32)] h4) fun x8 h7 =>
  if a2 = (1 : Int32) then
  (some (some (.int x8), h7))
  else
  (if x8 = (-1 : Int32) then
  (some (some (.int x8), h7))
  else
  (cI (call d 168 [.int x8] h7) fun x10 h9 =>
  some (some (.int x10), h9)))))) :=
  (call_unr p_218 rfl o_218 rfl [] 38 _ h).trans rfl

theorem p_219 : prg 219 = (k_219, 3) := rfl
theorem o_219 : okc k_219 = true := by decide +kernel
set_option maxRecDepth 100000 in
theorem e_219 (d : Nat) (a0 : Nat) (a1 : Int32) (h : MHeap) : call (d + 1) 219 [.ref a0, .int a1] h = (
  vd none h a0 [12, 172] fun m1 =>
  cI (call d m1 [.ref a0, .int a1] h) fun x3 h2 =>
  if x3 = (0 : Int32) then
  (some (some (.int (-2 : Int32)), h2))
  else
  (vd none h2 a0 [12, 217] fun m4 =>
  cI (call d m4 [.ref a0, .int a1, .int (0 : Int32)] h2) fun x6 h5 =>
  gfI none h5 a0 [12] 2 fun x7 =>
  if x6 = (-1 : Int32) then
  (pfI none h5 a0 [12] 2 (x7 ^^^ (0 : Int32)) fun h8 =>
  if x6 = (-1 : Int32) then
  (some (some (.int (-1 : Int32)), h8))
  else
  (cI (call d 168 [.int x6] h8) fun x10 h9 =>
  some (some (.int x10), h9)))
  else
  (pfI none h5 a0 [12] 2 (x7 ^^^ x6) fun h11 =>
  if x6 = (-1 : Int32) then
  (some (some (.int (-1 : Int32)), h11))
  else
  (cI (call d 168 [.int x6] h11) fun x13 h12 =>
  some (some (.int x13), h12))))) :=
  (call_unr p_219 rfl o_219 rfl [] 47 _ h).trans rfl

theorem p_220 : prg 220 = (k_220, 3) := rfl
theorem o_220 : okc k_220 = true := by decide +kernel
set_option maxRecDepth 100000 in
theorem e_220 (d : Nat) (a0 : Nat) (a1 : Int32) (h : MHeap) : call (d + 1) 220 [.ref a0, .int a1] h = (
  cI (call d 166 [.int a1, .int (0 : Int32), .int (9999 : Int32)] h) fun x2 h1 =>
  if x2 = (0 : Int32) then
  (some (some (.int (-2 : Int32)), h1))
  else
  (ex d 220 16 [sv (.ref a0), sv (.int a1), sv (.int (0 : Int32))] [] h1)) :=
  (call_unr p_220 rfl o_220 rfl [16] 14 _ h).trans rfl
set_option maxRecDepth 100000 in
theorem e_220_16 (d : Nat) (a0 : Nat) (a1 : Int32) (a2 : Int32) (h : MHeap) : ex d 220 16 [sv (.ref a0), sv (.int a1), sv (.int a2)] [] h = (
  if ((1 : Int32) <<< (a2 &&& 31)) < ((a1 + a2) + (1 : Int32)) then
  (ex d 220 16 [sv (.ref a0), sv (.int a1), sv (.int (a2 + (1 : Int32)))] [] h)
  else
  (some (some (.int a2), h))) :=
  (ex_unr p_220 o_220 [16] 18 rfl _ _ h).trans rfl

theorem p_221 : prg 221 = (k_221, 1) := rfl
theorem o_221 : okc k_221 = true := by decide +kernel
set_option maxRecDepth 100000 in
theorem e_221 (d : Nat) (a0 : Int32) (h : MHeap) : call (d + 1) 221 [.int a0] h = (
  if (a0 &&& (a0 - (1 : Int32))) = (0 : Int32) then
  (zr none (1 : Int32) (some (some (.int (1 : Int32)), h)))
  else
  (zr none (0 : Int32) (some (some (.int (0 : Int32)), h)))) :=
  (call_unr p_221 rfl o_221 rfl [] 16 _ h).trans rfl

theorem p_222 : prg 222 = (k_222, 2) := rfl
theorem o_222 : okc k_222 = true := by decide +kernel
set_option maxRecDepth 100000 in
theorem e_222 (d : Nat) (a0 : Nat) (a1 : Int32) (h : MHeap) : call (d + 1) 222 [.ref a0, .int a1] h = (
  cI (call d 166 [.int a1, .int (1 : Int32), .int (99999 : Int32)] h) fun x2 h1 =>
  if x2 = (0 : Int32) then
  (some (some (.int (-2 : Int32)), h1))
  else
  (cI (call d 221 [.int a1] h1) fun x4 h3 =>
  if x4 = (0 : Int32) then
  (some (some (.int (0 : Int32)), h3))
  else
  (some (some (.int (1 : Int32)), h3)))) :=
  (call_unr p_222 rfl o_222 rfl [] 21 _ h).trans rfl

theorem p_223 : prg 223 = (k_223, 3) := rfl
theorem o_223 : okc k_223 = true := by decide +kernel
set_option maxRecDepth 100000 in
theorem e_223 (d : Nat) (a0 : Nat) (h : MHeap) : call (d + 1) 223 [.ref a0] h = (
  ex d 223 4 [sv (.ref a0), sv (.int (0 : Int32)), sv (.int (0 : Int32))] [] h) :=
  (call_unr p_223 rfl o_223 rfl [4] 9 _ h).trans rfl
set_option maxRecDepth 100000 in
theorem e_223_4 (d : Nat) (a0 : Nat) (a1 : Int32) (a2 : Int32) (h : MHeap) : ex d 223 4 [sv (.ref a0), sv (.int a1), sv (.int a2)] [] h = (
  gfI none h a0 [12] 0 fun x1 =>
  if a2 < x1 then
  (gfI none h a0 [12] 2 fun x2 =>
  if ((x2 >>> (a2 &&& 31)) &&& (1 : Int32)) = (1 : Int32) then
  (ex d 223 4 [sv (.ref a0), sv (.int (a1 ^^^ a2)), sv (.int (a2 + (1 : Int32)))] [] h)
  else
  (ex d 223 4 [sv (.ref a0), sv (.int (a1 ^^^ (0 : Int32))), sv (.int (a2 + (1 : Int32)))] [] h))
  else
  (some (some (.int a1), h))) :=
  (ex_unr p_223 o_223 [4] 31 rfl _ _ h).trans rfl

theorem p_224 : prg 224 = (k_224, 1) := rfl
theorem o_224 : okc k_224 = true := by decide +kernel
set_option maxRecDepth 100000 in
theorem e_224 (d : Nat) (a0 : Nat) (h : MHeap) : call (d + 1) 224 [.ref a0] h = (
  gfI none h a0 [12] 0 fun x1 =>
  cI (call d 221 [.int x1] h) fun x3 h2 =>
  if x3 = (0 : Int32) then
  (some (some (.int (-3 : Int32)), h2))
  else
  (vd none h2 a0 [12, 223] fun m4 =>
  cI (call d m4 [.ref a0] h2) fun x6 h5 =>
  some (some (.int x6), h5))) :=
  (call_unr p_224 rfl o_224 rfl [] 15 _ h).trans rfl

theorem p_225 : prg 225 = (k_225, 2) := rfl
theorem o_225 : okc k_225 = true := by decide +kernel
set_option maxRecDepth 100000 in
theorem e_225 (d : Nat) (a0 : Nat) (a1 : Int32) (h : MHeap) : call (d + 1) 225 [.ref a0, .int a1] h = (
  vd none h a0 [12, 169] fun m1 =>
  cI (call d m1 [.ref a0, .int a1] h) fun x3 h2 =>
  if x3 = (0 : Int32) then
  (some (some (.int (-2 : Int32)), h2))
  else
  (gfI none h2 a0 [12] 0 fun x4 =>
  cI (call d 221 [.int x4] h2) fun x6 h5 =>
  if x6 = (0 : Int32) then
  (some (some (.int (-3 : Int32)), h5))
  else
  (vd none h5 a0 [12, 223] fun m7 =>
  cI (call d m7 [.ref a0] h5) fun x9 h8 =>
  some (some (.int (x9 ^^^ a1)), h8)))) :=
  (call_unr p_225 rfl o_225 rfl [] 23 _ h).trans rfl

theorem p_226 : prg 226 = (k_226, 8) := rfl
theorem o_226 : okc k_226 = true := by decide +kernel
set_option maxRecDepth 100000 in
theorem e_226 (d : Nat) (a0 : Nat) (a1 : Int32) (h : MHeap) : call (d + 1) 226 [.ref a0, .int a1] h = (
  cI (call d 166 [.int a1, .int (0 : Int32), .int (2 : Int32)] h) fun x2 h1 =>
  if x2 = (0 : Int32) then
  (some (some (.int (-2 : Int32)), h1))
  else
  (vd none h1 a0 [12, 203] fun m3 =>
  cV (call d m3 [.ref a0] h1) fun h4 =>
  gfI none h4 a0 [12] 2 fun x5 =>
  vd none h4 a0 [12, 204] fun m6 =>
  cI (call d m6 [.ref a0, .int x5] h4) fun x8 h7 =>
  ex d 226 30 [sv (.ref a0), sv (.int a1), sv (.int x8), sv (.int (0 : Int32)), sv (.int (0 : Int32)), none, none, none] [] h7)) :=
  (call_unr p_226 rfl o_226 rfl [30, 126] 23 _ h).trans rfl
set_option maxRecDepth 100000 in
theorem e_226_30 (d : Nat) (a0 : Nat) (a1 : Int32) (a2 : Int32) (a3 : Int32) (a4 : Int32) (a5 : MSl) (a6 : MSl) (a7 : MSl) (h : MHeap) : ex d 226 30 [sv (.ref a0), sv (.int a1), sv (.int a2), sv (.int a3), sv (.int a4), a5, a6, a7] [] h = (
  gfI none h a0 [12] 0 fun x1 =>
  if (a4 + (1 : Int32)) < x1 then
  (gfI none h a0 [12] 2 fun x2 =>
  cI (call d 175 [.int x2, .int a4, .int (a4 + (1 : Int32))] h) fun x4 h3 =>
  vd none h3 a0 [12, 204] fun m5 =>
  cI (call d m5 [.ref a0, .int x4] h3) fun x7 h6 =>
  gfI none h6 a0 [12] 2 fun x8 =>
  if x4 = x8 then
  (if (0 : Int32) = (0 : Int32) then
  (ex d 226 126 [sv (.ref a0), sv (.int a1), sv (.int a2), sv (.int a3), sv (.int a4), sv (.int x4), sv (.int x7), sv (.int (0 : Int32))] [.int (0 : Int32), .int a3] h6)
  else
  (ex d 226 126 [sv (.ref a0), sv (.int a1), sv (.int a2), sv (.int a3), sv (.int a4), sv (.int x4), sv (.int x7), sv (.int (0 : Int32))] [.int ((1 : Int32) <<< (a4 &&& 31)), .int a3] h6))
  else
  (if a1 = (0 : Int32) then
  (if x7 = a2 then
  (if (1 : Int32) = (0 : Int32) then
  (ex d 226 126 [sv (.ref a0), sv (.int a1), sv (.int a2), sv (.int a3), sv (.int a4), sv (.int x4), sv (.int x7), sv (.int (1 : Int32))] [.int (0 : Int32), .int a3] h6)
  else
  (ex d 226 126 [sv (.ref a0), sv (.int a1), sv (.int a2), sv (.int a3), sv (.int a4), sv (.int x4), sv (.int x7), sv (.int (1 : Int32))] [.int ((1 : Int32) <<< (a4 &&& 31)), .int a3] h6))
  else
  (if (0 : Int32) = (0 : Int32) then
  (ex d 226 126 [sv (.ref a0), sv (.int a1), sv (.int a2), sv (.int a3), sv (.int a4), sv (.int x4), sv (.int x7), sv (.int (0 : Int32))] [.int (0 : Int32), .int a3] h6)
  else
  (ex d 226 126 [sv (.ref a0), sv (.int a1), sv (.int a2), sv (.int a3), sv (.int a4), sv (.int x4), sv (.int x7), sv (.int (0 : Int32))] [.int ((1 : Int32) <<< (a4 &&& 31)), .int a3] h6)))
  else
  (if a1 = (1 : Int32) then
  (if x7 = a2 then
  (if (0 : Int32) = (0 : Int32) then
  (ex d 226 126 [sv (.ref a0), sv (.int a1), sv (.int a2), sv (.int a3), sv (.int a4), sv (.int x4), sv (.int x7), sv (.int (0 : Int32))] [.int (0 : Int32), .int a3] h6)
  else
  (ex d 226 126 [sv (.ref a0), sv (.int a1), sv (.int a2), sv (.int a3), sv (.int a4), sv (.int x4), sv (.int x7), sv (.int (0 : Int32))] [.int ((1 : Int32) <<< (a4 &&& 31)), .int a3] h6))
  else
  (if (1 : Int32) = (0 : Int32) then
  (ex d 226 126 [sv (.ref a0), sv (.int a1), sv (.int a2), sv (.int a3), sv (.int a4), sv (.int x4), sv (.int x7), sv (.int (1 : Int32))] [.int (0 : Int32), .int a3] h6)
  else
  (ex d 226 126 [sv (.ref a0), sv (.int a1), sv (.int a2), sv (.int a3), sv (.int a4), sv (.int x4), sv (.int x7), sv (.int (1 : Int32))] [.int ((1 : Int32) <<< (a4 &&& 31)), .int a3] h6)))
  else
  (if x7 = (0 : Int32) then
  (if (1 : Int32) = (0 : Int32) then
  (ex d 226 126 [sv (.ref a0), sv (.int a1), sv (.int a2), sv (.int a3), sv (.int a4), sv (.int x4), sv (.int x7), sv (.int (1 : Int32))] [.int (0 : Int32), .int a3] h6)
  else
  (ex d 226 126 [sv (.ref a0), sv (.int a1), sv (.int a2), sv (.int a3), sv (.int a4), sv (.int x4), sv (.int x7), sv (.int (1 : Int32))] [.int ((1 : Int32) <<< (a4 &&& 31)), .int a3] h6))
  else
  (if (0 : Int32) = (0 : Int32) then
  (ex d 226 126 [sv (.ref a0), sv (.int a1), sv (.int a2), sv (.int a3), sv (.int a4), sv (.int x4), sv (.int x7), sv (.int (0 : Int32))] [.int (0 : Int32), .int a3] h6)
  else
  (ex d 226 126 [sv (.ref a0), sv (.int a1), sv (.int a2), sv (.int a3), sv (.int a4), sv (.int x4), sv (.int x7), sv (.int (0 : Int32))] [.int ((1 : Int32) <<< (a4 &&& 31)), .int a3] h6))))))
  else
  (some (some (.int a3), h))) :=
  (ex_unr p_226 o_226 [30, 126] 117 rfl _ _ h).trans rfl
set_option maxRecDepth 100000 in
theorem e_226_126 (d : Nat) (a0 : Nat) (a1 : Int32) (a2 : Int32) (a3 : Int32) (a4 : Int32) (a5 : Int32) (a6 : Int32) (a7 : Int32) (s0 : Int32) (s1 : Int32) (h : MHeap) : ex d 226 126 [sv (.ref a0), sv (.int a1), sv (.int a2), sv (.int a3), sv (.int a4), sv (.int a5), sv (.int a6), sv (.int a7)] [.int s0, .int s1] h = (
  ex d 226 30 [sv (.ref a0), sv (.int a1), sv (.int a2), sv (.int (s1 ||| s0)), sv (.int (a4 + (1 : Int32))), sv (.int a5), sv (.int a6), sv (.int a7)] [] h) :=
  (ex_unr p_226 o_226 [30, 126] 9 rfl _ _ h).trans rfl

theorem p_227 : prg 227 = (k_227, 7) := rfl
theorem o_227 : okc k_227 = true := by decide +kernel
set_option maxRecDepth 100000 in
theorem e_227 (d : Nat) (a0 : Nat) (a1 : Int32) (a2 : Int32) (h : MHeap) : call (d + 1) 227 [.ref a0, .int a1, .int a2] h = (
  gfI none h a0 [12] 0 fun x1 =>
  gfI none h a0 [12] 1 fun x2 =>
  dv none x2 <|
  cI (call d 166 [.int a1, .int (0 : Int32), .int ((x1 - (1 : Int32)) / x2)] h) fun x4 h3 =>
  if x4 = (0 : Int32) then
  (some (some (.int (-5 : Int32)), h3))
  else
  (cI (call d 166 [.int a2, .int (0 : Int32), .int (2 : Int32)] h3) fun x6 h5 =>
  if x6 = (0 : Int32) then
  (some (some (.int (-7 : Int32)), h5))
  else
  (vd none h5 a0 [12, 203] fun m7 =>
  cV (call d m7 [.ref a0] h5) fun h8 =>
  ex d 227 43 [sv (.ref a0), sv (.int a1), sv (.int a2), sv (.int (0 : Int32)), sv (.int (0 : Int32)), none, none] [] h8))) :=
  (call_unr p_227 rfl o_227 rfl [43, 89] 31 _ h).trans rfl
set_option maxRecDepth 100000 in
theorem e_227_43 (d : Nat) (a0 : Nat) (a1 : Int32) (a2 : Int32) (a3 : Int32) (a4 : Int32) (h : MHeap) : ex d 227 43 [sv (.ref a0), sv (.int a1), sv (.int a2), sv (.int a3), sv (.int a4), none, none] [] h = (
  gfI none h a0 [12] 0 fun x1 =>
  if a4 < x1 then
  (gfI none h a0 [12] 1 fun x2 =>
  dv none x2 <|
  if (a4 / x2) = a1 then
  (ex d 227 43 [sv (.ref a0), sv (.int a1), sv (.int a2), sv (.int (a3 ||| ((1 : Int32) <<< (a4 &&& 31)))), sv (.int (a4 + (1 : Int32))), none, none] [] h)
  else
  (ex d 227 43 [sv (.ref a0), sv (.int a1), sv (.int a2), sv (.int (a3 ||| (0 : Int32))), sv (.int (a4 + (1 : Int32))), none, none] [] h))
  else
  (ex d 227 89 [sv (.ref a0), sv (.int a1), sv (.int a2), sv (.int a3), sv (.int (0 : Int32)), sv (.int (-1 : Int32)), sv (.int (0 : Int32))] [] h)) :=
  (ex_unr p_227 o_227 [43, 89] 35 rfl _ _ h).trans rfl
set_option maxRecDepth 100000 in
theorem e_227_89 (d : Nat) (a0 : Nat) (a1 : Int32) (a2 : Int32) (a3 : Int32) (a4 : Int32) (a5 : Int32) (a6 : Int32) (h : MHeap) : ex d 227 89 [sv (.ref a0), sv (.int a1), sv (.int a2), sv (.int a3), sv (.int a4), sv (.int a5), sv (.int a6)] [] h = (
  vd none h a0 [12, 171] fun m1 =>
  cI (call d m1 [.ref a0] h) fun x3 h2 =>
  if x3 < a6 then
  (if a2 = (0 : Int32) then
  (some (some (.int a4), h2))
  else
  (if a2 = (1 : Int32) then
  (some (some (.int a5), h2))
  else
  (if a4 = (1 : Int32) then
  (gfI none h2 a0 [12] 2 fun x4 =>
  if a5 = (x4 &&& a3) then
  (some (some (.int (1 : Int32)), h2))
  else
  (some (some (.int (0 : Int32)), h2)))
  else
  (some (some (.int (0 : Int32)), h2)))))
  else
  (if (a6 &&& (a3 ^^^ (-1 : Int32))) = (0 : Int32) then
  (gfI none h2 a0 [12] 2 fun x5 =>
  vd none h2 a0 [12, 209] fun m6 =>
  cI (call d m6 [.ref a0, .int ((x5 &&& (a3 ^^^ (-1 : Int32))) ||| a6)] h2) fun x8 h7 =>
  if x8 = (0 : Int32) then
  (ex d 227 89 [sv (.ref a0), sv (.int a1), sv (.int a2), sv (.int a3), sv (.int a4), sv (.int a5), sv (.int (a6 + (1 : Int32)))] [] h7)
  else
  (if a5 = (-1 : Int32) then
  (ex d 227 89 [sv (.ref a0), sv (.int a1), sv (.int a2), sv (.int a3), sv (.int (a4 + (1 : Int32))), sv (.int a6), sv (.int (a6 + (1 : Int32)))] [] h7)
  else
  (ex d 227 89 [sv (.ref a0), sv (.int a1), sv (.int a2), sv (.int a3), sv (.int (a4 + (1 : Int32))), sv (.int a5), sv (.int (a6 + (1 : Int32)))] [] h7)))
  else
  (ex d 227 89 [sv (.ref a0), sv (.int a1), sv (.int a2), sv (.int a3), sv (.int a4), sv (.int a5), sv (.int (a6 + (1 : Int32)))] [] h2))) :=
  (ex_unr p_227 o_227 [43, 89] 70 rfl _ _ h).trans rfl

theorem p_228 : prg 228 = (k_228, 2) := rfl
theorem o_228 : okc k_228 = true := by decide +kernel
set_option maxRecDepth 100000 in
theorem e_228 (d : Nat) (a0 : Nat) (a1 : Int32) (h : MHeap) : call (d + 1) 228 [.ref a0, .int a1] h = (
  gfI none h a0 [12] 2 fun x1 =>
  gfI none h a0 [12] 2 fun x2 =>
  gfI none h a0 [12] 0 fun x3 =>
  vd none h a0 [12, 171] fun m4 =>
  cI (call d m4 [.ref a0] h) fun x6 h5 =>
  some (some (.int (((x1 >>> (a1 &&& 31)) ||| (x2 <<< ((x3 - a1) &&& 31))) &&& x6)), h5)) :=
  (call_unr p_228 rfl o_228 rfl [] 21 _ h).trans rfl

theorem p_229 : prg 229 = (k_229, 2) := rfl
theorem o_229 : okc k_229 = true := by decide +kernel
set_option maxRecDepth 100000 in
theorem e_229 (d : Nat) (a0 : Nat) (a1 : Int32) (h : MHeap) : call (d + 1) 229 [.ref a0, .int a1] h = (
  vd none h a0 [12, 169] fun m1 =>
  cI (call d m1 [.ref a0, .int a1] h) fun x3 h2 =>
  if x3 = (0 : Int32) then
  (some (some (.int (-2 : Int32)), h2))
  else
  (vd none h2 a0 [12, 228] fun m4 =>
  cI (call d m4 [.ref a0, .int a1] h2) fun x6 h5 =>
  pfI none h5 a0 [12] 2 x6 fun h7 =>
  gfI none h7 a0 [12] 2 fun x8 =>
  some (some (.int x8), h7))) :=
  (call_unr p_229 rfl o_229 rfl [] 19 _ h).trans rfl

theorem p_230 : prg 230 = (k_230, 7) := rfl
theorem o_230 : okc k_230 = true := by decide +kernel
set_option maxRecDepth 100000 in
theorem e_230 (d : Nat) (a0 : Nat) (a1 : Int32) (h : MHeap) : call (d + 1) 230 [.ref a0, .int a1] h = (
  cI (call d 166 [.int a1, .int (0 : Int32), .int (2 : Int32)] h) fun x2 h1 =>
  if x2 = (0 : Int32) then
  (some (some (.int (-2 : Int32)), h1))
  else
  (vd none h1 a0 [12, 203] fun m3 =>
  cV (call d m3 [.ref a0] h1) fun h4 =>
  gfI none h4 a0 [12] 2 fun x5 =>
  vd none h4 a0 [12, 204] fun m6 =>
  cI (call d m6 [.ref a0, .int x5] h4) fun x8 h7 =>
  ex d 230 30 [sv (.ref a0), sv (.int a1), sv (.int x8), sv (.int (0 : Int32)), sv (.int (1 : Int32)), none, none] [] h7)) :=
  (call_unr p_230 rfl o_230 rfl [30] 23 _ h).trans rfl
set_option maxRecDepth 100000 in
theorem e_230_30 (d : Nat) (a0 : Nat) (a1 : Int32) (a2 : Int32) (a3 : Int32) (a4 : Int32) (a5 : MSl) (a6 : MSl) (h : MHeap) : ex d 230 30 [sv (.ref a0), sv (.int a1), sv (.int a2), sv (.int a3), sv (.int a4), a5, a6] [] h = (
  gfI none h a0 [12] 0 fun x1 =>
  if a4 < x1 then
  (vd none h a0 [12, 228] fun m2 =>
  cI (call d m2 [.ref a0, .int a4] h) fun x4 h3 =>
  if a1 = (0 : Int32) then
  (vd none h3 a0 [12, 204] fun m5 =>
  cI (call d m5 [.ref a0, .int x4] h3) fun x7 h6 =>
  if x7 = a2 then
  (if (1 : Int32) = (0 : Int32) then
  (ex d 230 30 [sv (.ref a0), sv (.int a1), sv (.int a2), sv (.int (a3 ||| (0 : Int32))), sv (.int (a4 + (1 : Int32))), sv (.int x4), sv (.int (1 : Int32))] [] h6)
  else
  (ex d 230 30 [sv (.ref a0), sv (.int a1), sv (.int a2), sv (.int (a3 ||| ((1 : Int32) <<< (a4 &&& 31)))), sv (.int (a4 + (1 : Int32))), sv (.int x4), sv (.int (1 : Int32))] [] h6))
  else
  (if (0 : Int32) = (0 : Int32) then
  (ex d 230 30 [sv (.ref a0), sv (.int a1), sv (.int a2), sv (.int (a3 ||| (0 : Int32))), sv (.int (a4 + (1 : Int32))), sv (.int x4), sv (.int (0 : Int32))] [] h6)
  else
  (ex d 230 30 [sv (.ref a0), sv (.int a1), sv (.int a2), sv (.int (a3 ||| ((1 : Int32) <<< (a4 &&& 31)))), sv (.int (a4 + (1 : Int32))), sv (.int x4), sv (.int (0 : Int32))] [] h6)))
  else
  (if a1 = (1 : Int32) then
  (vd none h3 a0 [12, 209] fun m8 =>
  cI (call d m8 [.ref a0, .int x4] h3) fun x10 h9 =>
  if x10 = (0 : Int32) then
  (ex d 230 30 [sv (.ref a0), sv (.int a1), sv (.int a2), sv (.int (a3 ||| (0 : Int32))), sv (.int (a4 + (1 : Int32))), sv (.int x4), sv (.int x10)] [] h9)
  else
  (ex d 230 30 [sv (.ref a0), sv (.int a1), sv (.int a2), sv (.int (a3 ||| ((1 : Int32) <<< (a4 &&& 31)))), sv (.int (a4 + (1 : Int32))), sv (.int x4), sv (.int x10)] [] h9))
  else
  (gfI none h3 a0 [12] 2 fun x11 =>
  if x4 = x11 then
  (if (1 : Int32) = (0 : Int32) then
  (ex d 230 30 [sv (.ref a0), sv (.int a1), sv (.int a2), sv (.int (a3 ||| (0 : Int32))), sv (.int (a4 + (1 : Int32))), sv (.int x4), sv (.int (1 : Int32))] [] h3)
  else
  (ex d 230 30 [sv (.ref a0), sv (.int a1), sv (.int a2), sv (.int (a3 ||| ((1 : Int32) <<< (a4 &&& 31)))), sv (.int (a4 + (1 : Int32))), sv (.int x4), sv (.int (1 : Int32))] [] h3))
  else
  (if (0 : Int32) = (0 : Int32) then
  (ex d 230 30 [sv (.ref a0), sv (.int a1), sv (.int a2), sv (.int (a3 ||| (0 : Int32))), sv (.int (a4 + (1 : Int32))), sv (.int x4), sv (.int (0 : Int32))] [] h3)
  else
  (ex d 230 30 [sv (.ref a0), sv (.int a1), sv (.int a2), sv (.int (a3 ||| ((1 : Int32) <<< (a4 &&& 31)))), sv (.int (a4 + (1 : Int32))), sv (.int x4), sv (.int (0 : Int32))] [] h3)))))
  else
  (some (some (.int a3), h))) :=
  (ex_unr p_230 o_230 [30] 125 rfl _ _ h).trans rfl

theorem p_231 : prg 231 = (k_231, 5) := rfl
theorem o_231 : okc k_231 = true := by decide +kernel
set_option maxRecDepth 100000 in
theorem e_231 (d : Nat) (a0 : Nat) (a1 : Int32) (a2 : Int32) (h : MHeap) : call (d + 1) 231 [.ref a0, .int a1, .int a2] h = (
  gfI none h a0 [12] 2 fun x1 =>
  gfI none h a0 [12] 2 fun x2 =>
  gfI none h a0 [12] 2 fun x3 =>
  some (some (.int (((((x2 &&& (((1 : Int32) <<< (a1 &&& 31)) - (1 : Int32))) ||| ((x3 >>> ((a1 + (1 : Int32)) &&& 31)) <<< (a1 &&& 31))) &&& (((1 : Int32) <<< (a2 &&& 31)) - (1 : Int32))) ||| (((x1 >>> (a1 &&& 31)) &&& (1 : Int32)) <<< (a2 &&& 31))) ||| ((((x2 &&& (((1 : Int32) <<< (a1 &&& 31)) - (1 : Int32))) ||| ((x3 >>> ((a1 + (1 : Int32)) &&& 31)) <<< (a1 &&& 31))) >>> (a2 &&& 31)) <<< ((a2 + (1 : Int32)) &&& 31)))), h)) :=
  (call_unr p_231 rfl o_231 rfl [] 50 _ h).trans rfl

theorem p_232 : prg 232 = (k_232, 3) := rfl
theorem o_232 : okc k_232 = true := by decide +kernel
set_option maxRecDepth 100000 in
theorem e_232 (d : Nat) (a0 : Nat) (a1 : Int32) (a2 : Int32) (h : MHeap) : call (d + 1) 232 [.ref a0, .int a1, .int a2] h = (
  vd none h a0 [12, 169] fun m1 =>
  cI (call d m1 [.ref a0, .int a1] h) fun x3 h2 =>
  if x3 = (0 : Int32) then
  (some (some (.int (-5 : Int32)), h2))
  else
  (vd none h2 a0 [12, 169] fun m4 =>
  cI (call d m4 [.ref a0, .int a2] h2) fun x6 h5 =>
  if x6 = (0 : Int32) then
  (some (some (.int (-5 : Int32)), h5))
  else
  (vd none h5 a0 [12, 231] fun m7 =>
  cI (call d m7 [.ref a0, .int a1, .int a2] h5) fun x9 h8 =>
  pfI none h8 a0 [12] 2 x9 fun h10 =>
  gfI none h10 a0 [12] 2 fun x11 =>
  some (some (.int x11), h10)))) :=
  (call_unr p_232 rfl o_232 rfl [] 26 _ h).trans rfl

theorem p_233 : prg 233 = (k_233, 8) := rfl
theorem o_233 : okc k_233 = true := by decide +kernel
set_option maxRecDepth 100000 in
theorem e_233 (d : Nat) (a0 : Nat) (a1 : Int32) (h : MHeap) : call (d + 1) 233 [.ref a0, .int a1] h = (
  cI (call d 166 [.int a1, .int (0 : Int32), .int (1 : Int32)] h) fun x2 h1 =>
  if x2 = (0 : Int32) then
  (some (some (.int (-2 : Int32)), h1))
  else
  (vd none h1 a0 [12, 203] fun m3 =>
  cV (call d m3 [.ref a0] h1) fun h4 =>
  gfI none h4 a0 [12] 2 fun x5 =>
  vd none h4 a0 [12, 204] fun m6 =>
  cI (call d m6 [.ref a0, .int x5] h4) fun x8 h7 =>
  ex d 233 30 [sv (.ref a0), sv (.int a1), sv (.int x8), sv (.int (0 : Int32)), sv (.int (0 : Int32)), none, none, none] [] h7)) :=
  (call_unr p_233 rfl o_233 rfl [30, 42] 23 _ h).trans rfl
set_option maxRecDepth 100000 in
theorem e_233_30 (d : Nat) (a0 : Nat) (a1 : Int32) (a2 : Int32) (a3 : Int32) (a4 : Int32) (a5 : MSl) (a6 : MSl) (a7 : MSl) (h : MHeap) : ex d 233 30 [sv (.ref a0), sv (.int a1), sv (.int a2), sv (.int a3), sv (.int a4), a5, a6, a7] [] h = (
  gfI none h a0 [12] 0 fun x1 =>
  if a4 < x1 then
  (ex d 233 42 [sv (.ref a0), sv (.int a1), sv (.int a2), sv (.int a3), sv (.int a4), sv (.int (0 : Int32)), a6, a7] [] h)
  else
  (some (some (.int a3), h))) :=
  (ex_unr p_233 o_233 [30, 42] 13 rfl _ _ h).trans rfl
set_option maxRecDepth 100000 in
theorem e_233_42 (d : Nat) (a0 : Nat) (a1 : Int32) (a2 : Int32) (a3 : Int32) (a4 : Int32) (a5 : Int32) (a6 : MSl) (a7 : MSl) (h : MHeap) : ex d 233 42 [sv (.ref a0), sv (.int a1), sv (.int a2), sv (.int a3), sv (.int a4), sv (.int a5), a6, a7] [] h = (
  gfI none h a0 [12] 0 fun x1 =>
  if a5 < x1 then
  (vd none h a0 [12, 231] fun m2 =>
  cI (call d m2 [.ref a0, .int a4, .int a5] h) fun x4 h3 =>
  vd none h3 a0 [12, 204] fun m5 =>
  cI (call d m5 [.ref a0, .int x4] h3) fun x7 h6 =>
  if x7 = a2 then
  (if a1 = (0 : Int32) then
  (if (1 : Int32) = (0 : Int32) then
  (ex d 233 42 [sv (.ref a0), sv (.int a1), sv (.int a2), sv (.int (a3 + (1 : Int32))), sv (.int a4), sv (.int (a5 + (1 : Int32))), sv (.int x4), sv (.int (1 : Int32))] [] h6)
  else
  (ex d 233 42 [sv (.ref a0), sv (.int a1), sv (.int a2), sv (.int (a3 + (0 : Int32))), sv (.int a4), sv (.int (a5 + (1 : Int32))), sv (.int x4), sv (.int (1 : Int32))] [] h6))
  else
  (if (1 : Int32) = (0 : Int32) then
  (ex d 233 42 [sv (.ref a0), sv (.int a1), sv (.int a2), sv (.int (a3 + (0 : Int32))), sv (.int a4), sv (.int (a5 + (1 : Int32))), sv (.int x4), sv (.int (1 : Int32))] [] h6)
  else
  (gfI none h6 a0 [12] 2 fun x8 =>
  if x4 = x8 then
  (ex d 233 42 [sv (.ref a0), sv (.int a1), sv (.int a2), sv (.int (a3 + (0 : Int32))), sv (.int a4), sv (.int (a5 + (1 : Int32))), sv (.int x4), sv (.int (1 : Int32))] [] h6)
  else
  (ex d 233 42 [sv (.ref a0), sv (.int a1), sv (.int a2), sv (.int (a3 + (1 : Int32))), sv (.int a4), sv (.int (a5 + (1 : Int32))), sv (.int x4), sv (.int (1 : Int32))] [] h6))))
  else
  (if a1 = (0 : Int32) then
  (if (0 : Int32) = (0 : Int32) then
  (ex d 233 42 [sv (.ref a0), sv (.int a1), sv (.int a2), sv (.int (a3 + (1 : Int32))), sv (.int a4), sv (.int (a5 + (1 : Int32))), sv (.int x4), sv (.int (0 : Int32))] [] h6)
  else
  (ex d 233 42 [sv (.ref a0), sv (.int a1), sv (.int a2), sv (.int (a3 + (0 : Int32))), sv (.int a4), sv (.int (a5 + (1 : Int32))), sv (.int x4), sv (.int (0 : Int32))] [] h6))
  else
  (if (0 : Int32) = (0 : Int32) then
  (ex d 233 42 [sv (.ref a0), sv (.int a1), sv (.int a2), sv (.int (a3 + (0 : Int32))), sv (.int a4), sv (.int (a5 + (1 : Int32))), sv (.int x4), sv (.int (0 : Int32))] [] h6)
  else
  (gfI none h6 a0 [12] 2 fun x9 =>
  if x4 = x9 then
  (ex d 233 42 [sv (.ref a0), sv (.int a1), sv (.int a2), sv (.int (a3 + (0 : Int32))), sv (.int a4), sv (.int (a5 + (1 : Int32))), sv (.int x4), sv (.int (0 : Int32))] [] h6)
  else
  (ex d 233 42 [sv (.ref a0), sv (.int a1), sv (.int a2), sv (.int (a3 + (1 : Int32))), sv (.int a4), sv (.int (a5 + (1 : Int32))), sv (.int x4), sv (.int (0 : Int32))] [] h6)))))
  else
  (ex d 233 30 [sv (.ref a0), sv (.int a1), sv (.int a2), sv (.int a3), sv (.int (a4 + (1 : Int32))), sv (.int a5), a6, a7] [] h)) :=
  (ex_unr p_233 o_233 [30, 42] 104 rfl _ _ h).trans rfl

theorem p_234 : prg 234 = (k_234, 4) := rfl
theorem o_234 : okc k_234 = true := by decide +kernel
set_option maxRecDepth 100000 in
theorem e_234 (d : Nat) (a0 : Nat) (a1 : Int32) (a2 : Int32) (a3 : Int32) (h : MHeap) : call (d + 1) 234 [.ref a0, .int a1, .int a2, .int a3] h = (
  if (0 : Int32) < a2 then
  (vd none h a0 [12, 209] fun m1 =>
  cI (call d m1 [.ref a0, .int a3] h) fun x3 h2 =>
  if x3 = (0 : Int32) then
  (some (none, h2))
  else
  (gfI none h2 a0 [12] 37 fun x4 =>
  if x4 < a2 then
  (pfI none h2 a0 [12] 36 a1 fun h5 =>
  gfI none h5 a0 [12] 37 fun x6 =>
  if x6 < a2 then
  (pfI none h5 a0 [12] 37 a2 fun h7 =>
  gfI none h7 a0 [12] 38 fun x8 =>
  pfI none h7 a0 [12] 38 (x8 + a2) fun h9 =>
  some (none, h9))
  else
  (gfI none h5 a0 [12] 37 fun x10 =>
  pfI none h5 a0 [12] 37 x10 fun h11 =>
  gfI none h11 a0 [12] 38 fun x12 =>
  pfI none h11 a0 [12] 38 (x12 + a2) fun h13 =>
  some (none, h13)))
  else
  (gfI none h2 a0 [12] 36 fun x14 =>
  pfI none h2 a0 [12] 36 x14 fun h15 =>
  gfI none h15 a0 [12] 37 fun x16 =>
  if x16 < a2 then
  (pfI none h15 a0 [12] 37 a2 fun h17 =>
  gfI none h17 a0 [12] 38 fun x18 =>
  pfI none h17 a0 [12] 38 (x18 + a2) fun h19 =>
  some (none, h19))
  else
  (gfI none h15 a0 [12] 37 fun x20 =>
  pfI none h15 a0 [12] 37 x20 fun h21 =>
  gfI none h21 a0 [12] 38 fun x22 =>
  pfI none h21 a0 [12] 38 (x22 + a2) fun h23 =>
  some (none, h23)))))
  else
  (some (none, h))) :=
  (call_unr p_234 rfl o_234 rfl [] 74 _ h).trans rfl

theorem p_235 : prg 235 = (k_235, 3) := rfl
theorem o_235 : okc k_235 = true := by decide +kernel
set_option maxRecDepth 100000 in
theorem e_235 (d : Nat) (a0 : Nat) (h : MHeap) : call (d + 1) 235 [.ref a0] h = (
  vd none h a0 [12, 203] fun m1 =>
  cV (call d m1 [.ref a0] h) fun h2 =>
  pfI none h2 a0 [12] 36 (-1 : Int32) fun h3 =>
  pfI none h3 a0 [12] 37 (0 : Int32) fun h4 =>
  pfI none h4 a0 [12] 38 (0 : Int32) fun h5 =>
  gfI none h5 a0 [12] 2 fun x6 =>
  vd none h5 a0 [12, 234] fun m7 =>
  cV (call d m7 [.ref a0, .int (0 : Int32), .int (100 : Int32), .int x6] h5) fun h8 =>
  ex d 235 32 [sv (.ref a0), sv (.int (0 : Int32)), none] [] h8) :=
  (call_unr p_235 rfl o_235 rfl [32, 69] 24 _ h).trans rfl
set_option maxRecDepth 100000 in
theorem e_235_32 (d : Nat) (a0 : Nat) (a1 : Int32) (h : MHeap) : ex d 235 32 [sv (.ref a0), sv (.int a1), none] [] h = (
  gfI none h a0 [12] 0 fun x1 =>
  if a1 < x1 then
  (vd none h a0 [12, 194] fun m2 =>
  cI (call d m2 [.ref a0, .int (0 : Int32), .int a1] h) fun x4 h3 =>
  gfI none h3 a0 [12] 2 fun x5 =>
  vd none h3 a0 [12, 234] fun m6 =>
  cV (call d m6 [.ref a0, .int ((1 : Int32) + a1), .int x4, .int (x5 ^^^ ((1 : Int32) <<< (a1 &&& 31)))] h3) fun h7 =>
  ex d 235 32 [sv (.ref a0), sv (.int (a1 + (1 : Int32))), none] [] h7)
  else
  (ex d 235 69 [sv (.ref a0), sv (.int (0 : Int32)), none] [] h)) :=
  (ex_unr p_235 o_235 [32, 69] 28 rfl _ _ h).trans rfl
set_option maxRecDepth 100000 in
theorem e_235_69 (d : Nat) (a0 : Nat) (a1 : Int32) (a2 : MSl) (h : MHeap) : ex d 235 69 [sv (.ref a0), sv (.int a1), a2] [] h = (
  gfI none h a0 [12] 0 fun x1 =>
  if (a1 + (1 : Int32)) < x1 then
  (gfI none h a0 [12] 2 fun x2 =>
  cI (call d 175 [.int x2, .int a1, .int (a1 + (1 : Int32))] h) fun x4 h3 =>
  gfI none h3 a0 [12] 2 fun x5 =>
  if x4 = x5 then
  (ex d 235 69 [sv (.ref a0), sv (.int (a1 + (1 : Int32))), sv (.int x4)] [] h3)
  else
  (vd none h3 a0 [12, 194] fun m6 =>
  cI (call d m6 [.ref a0, .int (1 : Int32), .int a1] h3) fun x8 h7 =>
  vd none h7 a0 [12, 234] fun m9 =>
  cV (call d m9 [.ref a0, .int ((21 : Int32) + a1), .int x8, .int x4] h7) fun h10 =>
  ex d 235 69 [sv (.ref a0), sv (.int (a1 + (1 : Int32))), sv (.int x4)] [] h10))
  else
  (some (none, h))) :=
  (ex_unr p_235 o_235 [32, 69] 38 rfl _ _ h).trans rfl

theorem p_236 : prg 236 = (k_236, 2) := rfl
theorem o_236 : okc k_236 = true := by decide +kernel
set_option maxRecDepth 100000 in
theorem e_236 (d : Nat) (a0 : Nat) (a1 : Int32) (h : MHeap) : call (d + 1) 236 [.ref a0, .int a1] h = (
  cI (call d 166 [.int a1, .int (0 : Int32), .int (2 : Int32)] h) fun x2 h1 =>
  if x2 = (0 : Int32) then
  (some (some (.int (-2 : Int32)), h1))
  else
  (vd none h1 a0 [12, 235] fun m3 =>
  cV (call d m3 [.ref a0] h1) fun h4 =>
  if a1 = (0 : Int32) then
  (gfI none h4 a0 [12] 36 fun x5 =>
  some (some (.int x5), h4))
  else
  (if a1 = (1 : Int32) then
  (gfI none h4 a0 [12] 37 fun x6 =>
  some (some (.int x6), h4))
  else
  (gfI none h4 a0 [12] 38 fun x7 =>
  some (some (.int x7), h4))))) :=
  (call_unr p_236 rfl o_236 rfl [] 30 _ h).trans rfl

theorem p_237 : prg 237 = (k_237, 11) := rfl
theorem o_237 : okc k_237 = true := by decide +kernel
set_option maxRecDepth 100000 in
theorem e_237 (d : Nat) (a0 : Int64) (a2 : Int64) (a4 : Int32) (h : MHeap) : call (d + 1) 237 [.long a0, .long a2, .int a4] h = (
  if (if a0 = (0 : Int64) then 0 else if a0 < (0 : Int64) then -1 else 1 : Int32) = (0 : Int32) then
  (some (some (.long (Int32.toInt64 a4)), h))
  else
  (ex d 237 16 [sy a0, none, sy a2, none, sv (.int a4), sy a0, none, sy a2, none, none, none] [] h)) :=
  (call_unr p_237 rfl o_237 rfl [16] 16 _ h).trans rfl
set_option maxRecDepth 100000 in
theorem e_237_16 (d : Nat) (a0 : Int64) (a2 : Int64) (a4 : Int32) (a5 : Int64) (a7 : Int64) (a9 : MSl) (h : MHeap) : ex d 237 16 [sy a0, none, sy a2, none, sv (.int a4), sy a5, none, sy a7, none, a9, none] [] h = (
  if (if a7 = (0 : Int64) then 0 else if a7 < (0 : Int64) then -1 else 1 : Int32) = (0 : Int32) then
  (if a4 = (0 : Int32) then
  (dvL none a5 <|
  some (some (.long (a0 / a5)), h))
  else
  (dvL none a5 <|
  some (some (.long (a2 / a5)), h)))
  else
  (dvL none a7 <|
  ex d 237 16 [sy a0, none, sy a2, none, sv (.int a4), sy a7, none, sy (a5 - a5 / a7 * a7), none, sy (a5 - a5 / a7 * a7), none] [] h)) :=
  (ex_unr p_237 o_237 [16] 29 rfl _ _ h).trans rfl

theorem p_238 : prg 238 = (k_238, 2) := rfl
theorem o_238 : okc k_238 = true := by decide +kernel
set_option maxRecDepth 100000 in
theorem e_238 (d : Nat) (a0 : Nat) (a1 : Int32) (h : MHeap) : call (d + 1) 238 [.ref a0, .int a1] h = (
  cI (call d 166 [.int a1, .int (0 : Int32), .int (1 : Int32)] h) fun x2 h1 =>
  if x2 = (0 : Int32) then
  (some (some (.long (-4611686018427387904 : Int64)), h1))
  else
  (vd none h1 a0 [12, 235] fun m3 =>
  cV (call d m3 [.ref a0] h1) fun h4 =>
  gfI none h4 a0 [12] 38 fun x5 =>
  if x5 = (0 : Int32) then
  (some (some (.long (-4611686018427387904 : Int64)), h4))
  else
  (gfI none h4 a0 [12] 37 fun x6 =>
  gfI none h4 a0 [12] 38 fun x7 =>
  cJ (call d 237 [.long (Int32.toInt64 x6), .long (Int32.toInt64 x7), .int a1] h4) fun y9 h8 =>
  some (some (.long y9), h8)))) :=
  (call_unr p_238 rfl o_238 rfl [] 29 _ h).trans rfl

theorem p_239 : prg 239 = (k_239, 6) := rfl
theorem o_239 : okc k_239 = true := by decide +kernel
set_option maxRecDepth 100000 in
theorem e_239 (d : Nat) (a0 : Nat) (a1 : Int32) (h : MHeap) : call (d + 1) 239 [.ref a0, .int a1] h = (
  cI (call d 166 [.int a1, .int (0 : Int32), .int (1 : Int32)] h) fun x2 h1 =>
  if x2 = (0 : Int32) then
  (some (some (.int (-2 : Int32)), h1))
  else
  (vd none h1 a0 [12, 211] fun m3 =>
  cI (call d m3 [.ref a0] h1) fun x5 h4 =>
  ex d 239 25 [sv (.ref a0), sv (.int a1), sv (.int x5), sv (.int (-1 : Int32)), sv (.int (0 : Int32)), sv (.int (0 : Int32))] [] h4)) :=
  (call_unr p_239 rfl o_239 rfl [25] 21 _ h).trans rfl
set_option maxRecDepth 100000 in
theorem e_239_25 (d : Nat) (a0 : Nat) (a1 : Int32) (a2 : Int32) (a3 : Int32) (a4 : Int32) (a5 : Int32) (h : MHeap) : ex d 239 25 [sv (.ref a0), sv (.int a1), sv (.int a2), sv (.int a3), sv (.int a4), sv (.int a5)] [] h = (
  gfI none h a0 [12] 0 fun x1 =>
  if a5 < x1 then
  (if ((a2 >>> (a5 &&& 31)) &&& (1 : Int32)) = (1 : Int32) then
  (if a3 = (-1 : Int32) then
  (vd none h a0 [12, 194] fun m2 =>
  cI (call d m2 [.ref a0, .int (2 : Int32), .int a5] h) fun x4 h3 =>
  ex d 239 25 [sv (.ref a0), sv (.int a1), sv (.int a2), sv (.int a5), sv (.int (a4 + x4)), sv (.int (a5 + (1 : Int32)))] [] h3)
  else
  (vd none h a0 [12, 194] fun m5 =>
  cI (call d m5 [.ref a0, .int (2 : Int32), .int a5] h) fun x7 h6 =>
  vd none h6 a0 [12, 194] fun m8 =>
  cI (call d m8 [.ref a0, .int (2 : Int32), .int a3] h6) fun x10 h9 =>
  if x7 < x10 then
  (vd none h9 a0 [12, 194] fun m11 =>
  cI (call d m11 [.ref a0, .int (2 : Int32), .int a5] h9) fun x13 h12 =>
  ex d 239 25 [sv (.ref a0), sv (.int a1), sv (.int a2), sv (.int a5), sv (.int (a4 + x13)), sv (.int (a5 + (1 : Int32)))] [] h12)
  else
  (vd none h9 a0 [12, 194] fun m14 =>
  cI (call d m14 [.ref a0, .int (2 : Int32), .int a5] h9) fun x16 h15 =>
  ex d 239 25 [sv (.ref a0), sv (.int a1), sv (.int a2), sv (.int a3), sv (.int (a4 + x16)), sv (.int (a5 + (1 : Int32)))] [] h15)))
  else
  (ex d 239 25 [sv (.ref a0), sv (.int a1), sv (.int a2), sv (.int a3), sv (.int a4), sv (.int (a5 + (1 : Int32)))] [] h))
  else
  (if a1 = (0 : Int32) then
  (some (some (.int a3), h))
  else
  (some (some (.int a4), h)))) :=
  (ex_unr p_239 o_239 [25] 72 rfl _ _ h).trans rfl

theorem p_240 : prg 240 = (k_240, 6) := rfl
theorem o_240 : okc k_240 = true := by decide +kernel
set_option maxRecDepth 100000 in
theorem e_240 (d : Nat) (a0 : Nat) (h : MHeap) : call (d + 1) 240 [.ref a0] h = (
  vd none h a0 [12, 203] fun m1 =>
  cV (call d m1 [.ref a0] h) fun h2 =>
  ex d 240 8 [sv (.ref a0), sv (.int (0 : Int32)), sv (.int (0 : Int32)), none, none, none] [] h2) :=
  (call_unr p_240 rfl o_240 rfl [8, 48] 11 _ h).trans rfl
set_option maxRecDepth 100000 in
theorem e_240_8 (d : Nat) (a0 : Nat) (a1 : Int32) (a2 : Int32) (a3 : MSl) (a4 : MSl) (a5 : MSl) (h : MHeap) : ex d 240 8 [sv (.ref a0), sv (.int a1), sv (.int a2), a3, a4, a5] [] h = (
  gfI none h a0 [12] 3 fun x1 =>
  if a2 < x1 then
  (gfI none h a0 [12] 2 fun x2 =>
  vd none h a0 [12, 204] fun m3 =>
  cI (call d m3 [.ref a0, .int x2] h) fun x5 h4 =>
  if (x5 &&& (((15 : Int32) <<< (((4 : Int32) * a2) &&& 31)) ^^^ (-1 : Int32))) = (0 : Int32) then
  (ex d 240 48 [sv (.ref a0), sv (.int a1), sv (.int a2), sv (.int (((15 : Int32) <<< (((4 : Int32) * a2) &&& 31)) ^^^ (-1 : Int32))), sv (.int (1 : Int32)), sv (.int (0 : Int32))] [] h4)
  else
  (ex d 240 48 [sv (.ref a0), sv (.int a1), sv (.int a2), sv (.int (((15 : Int32) <<< (((4 : Int32) * a2) &&& 31)) ^^^ (-1 : Int32))), sv (.int (0 : Int32)), sv (.int (0 : Int32))] [] h4))
  else
  (some (some (.int a1), h))) :=
  (ex_unr p_240 o_240 [8, 48] 35 rfl _ _ h).trans rfl
set_option maxRecDepth 100000 in
theorem e_240_48 (d : Nat) (a0 : Nat) (a1 : Int32) (a2 : Int32) (a3 : Int32) (a4 : Int32) (a5 : Int32) (h : MHeap) : ex d 240 48 [sv (.ref a0), sv (.int a1), sv (.int a2), sv (.int a3), sv (.int a4), sv (.int a5)] [] h = (
  gfI none h a0 [12] 0 fun x1 =>
  if a5 < x1 then
  (if a4 = (0 : Int32) then
  (gfI none h a0 [12] 2 fun x2 =>
  vd none h a0 [12, 204] fun m3 =>
  cI (call d m3 [.ref a0, .int (x2 ^^^ ((1 : Int32) <<< (a5 &&& 31)))] h) fun x5 h4 =>
  if (x5 &&& a3) = (0 : Int32) then
  (ex d 240 48 [sv (.ref a0), sv (.int a1), sv (.int a2), sv (.int a3), sv (.int (1 : Int32)), sv (.int (a5 + (1 : Int32)))] [] h4)
  else
  (ex d 240 48 [sv (.ref a0), sv (.int a1), sv (.int a2), sv (.int a3), sv (.int (0 : Int32)), sv (.int (a5 + (1 : Int32)))] [] h4))
  else
  (ex d 240 48 [sv (.ref a0), sv (.int a1), sv (.int a2), sv (.int a3), sv (.int (1 : Int32)), sv (.int (a5 + (1 : Int32)))] [] h))
  else
  (if a4 = (0 : Int32) then
  (ex d 240 8 [sv (.ref a0), sv (.int (a1 ||| (0 : Int32))), sv (.int (a2 + (1 : Int32))), sv (.int a3), sv (.int a4), sv (.int a5)] [] h)
  else
  (ex d 240 8 [sv (.ref a0), sv (.int (a1 ||| ((1 : Int32) <<< (a2 &&& 31)))), sv (.int (a2 + (1 : Int32))), sv (.int a3), sv (.int a4), sv (.int a5)] [] h))) :=
  (ex_unr p_240 o_240 [8, 48] 52 rfl _ _ h).trans rfl

theorem p_241 : prg 241 = (k_241, 7) := rfl
theorem o_241 : okc k_241 = true := by decide +kernel
set_option maxRecDepth 100000 in
theorem e_241 (d : Nat) (a0 : Nat) (h : MHeap) : call (d + 1) 241 [.ref a0] h = (
  vd none h a0 [12, 203] fun m1 =>
  cV (call d m1 [.ref a0] h) fun h2 =>
  gfI none h2 a0 [12] 2 fun x3 =>
  vd none h2 a0 [12, 204] fun m4 =>
  cI (call d m4 [.ref a0, .int x3] h2) fun x6 h5 =>
  gfI none h5 a0 [12] 3 fun x7 =>
  ex d 241 24 [sv (.ref a0), sv (.int x6), sv (.int (((1 : Int32) <<< (x7 &&& 31)) - (1 : Int32))), sv (.int (0 : Int32)), none, none, none] [] h5) :=
  (call_unr p_241 rfl o_241 rfl [24, 49] 21 _ h).trans rfl
set_option maxRecDepth 100000 in
theorem e_241_24 (d : Nat) (a0 : Nat) (a1 : Int32) (a2 : Int32) (a3 : Int32) (a4 : MSl) (a5 : MSl) (a6 : MSl) (h : MHeap) : ex d 241 24 [sv (.ref a0), sv (.int a1), sv (.int a2), sv (.int a3), a4, a5, a6] [] h = (
  vd none h a0 [12, 171] fun m1 =>
  cI (call d m1 [.ref a0] h) fun x3 h2 =>
  if x3 < a3 then
  (some (some (.int a2), h2))
  else
  (gfI none h2 a0 [12] 2 fun x4 =>
  vd none h2 a0 [12, 204] fun m5 =>
  cI (call d m5 [.ref a0, .int (x4 ^^^ a3)] h2) fun x7 h6 =>
  ex d 241 49 [sv (.ref a0), sv (.int a1), sv (.int a2), sv (.int a3), sv (.int (x7 ^^^ a1)), sv (.int (0 : Int32)), a6] [] h6)) :=
  (ex_unr p_241 o_241 [24, 49] 22 rfl _ _ h).trans rfl
set_option maxRecDepth 100000 in
theorem e_241_49 (d : Nat) (a0 : Nat) (a1 : Int32) (a2 : Int32) (a3 : Int32) (a4 : Int32) (a5 : Int32) (a6 : MSl) (h : MHeap) : ex d 241 49 [sv (.ref a0), sv (.int a1), sv (.int a2), sv (.int a3), sv (.int a4), sv (.int a5), a6] [] h = (
  gfI none h a0 [12] 3 fun x1 =>
  if a5 < x1 then
  (if a4 = (0 : Int32) then
  (if (0 : Int32) = (0 : Int32) then
  (ex d 241 49 [sv (.ref a0), sv (.int a1), sv (.int (a2 &&& a2)), sv (.int a3), sv (.int a4), sv (.int (a5 + (1 : Int32))), sv (.int (0 : Int32))] [] h)
  else
  (ex d 241 49 [sv (.ref a0), sv (.int a1), sv (.int (a2 &&& (((1 : Int32) <<< (a5 &&& 31)) ^^^ (-1 : Int32)))), sv (.int a3), sv (.int a4), sv (.int (a5 + (1 : Int32))), sv (.int (0 : Int32))] [] h))
  else
  (if (a4 &&& (((15 : Int32) <<< (((4 : Int32) * a5) &&& 31)) ^^^ (-1 : Int32))) = (0 : Int32) then
  (if (1 : Int32) = (0 : Int32) then
  (ex d 241 49 [sv (.ref a0), sv (.int a1), sv (.int (a2 &&& a2)), sv (.int a3), sv (.int a4), sv (.int (a5 + (1 : Int32))), sv (.int (1 : Int32))] [] h)
  else
  (ex d 241 49 [sv (.ref a0), sv (.int a1), sv (.int (a2 &&& (((1 : Int32) <<< (a5 &&& 31)) ^^^ (-1 : Int32)))), sv (.int a3), sv (.int a4), sv (.int (a5 + (1 : Int32))), sv (.int (1 : Int32))] [] h))
  else
  (if (0 : Int32) = (0 : Int32) then
  (ex d 241 49 [sv (.ref a0), sv (.int a1), sv (.int (a2 &&& a2)), sv (.int a3), sv (.int a4), sv (.int (a5 + (1 : Int32))), sv (.int (0 : Int32))] [] h)
  else
  (ex d 241 49 [sv (.ref a0), sv (.int a1), sv (.int (a2 &&& (((1 : Int32) <<< (a5 &&& 31)) ^^^ (-1 : Int32)))), sv (.int a3), sv (.int a4), sv (.int (a5 + (1 : Int32))), sv (.int (0 : Int32))] [] h))))
  else
  (ex d 241 24 [sv (.ref a0), sv (.int a1), sv (.int a2), sv (.int (a3 + (1 : Int32))), sv (.int a4), sv (.int a5), a6] [] h)) :=
  (ex_unr p_241 o_241 [24, 49] 84 rfl _ _ h).trans rfl

theorem p_242 : prg 242 = (k_242, 2) := rfl
theorem o_242 : okc k_242 = true := by decide +kernel
set_option maxRecDepth 100000 in
theorem e_242 (d : Nat) (a0 : Nat) (a1 : Int32) (h : MHeap) : call (d + 1) 242 [.ref a0, .int a1] h = (
  cI (call d 166 [.int a1, .int (0 : Int32), .int (3 : Int32)] h) fun x2 h1 =>
  if x2 = (0 : Int32) then
  (some (some (.int (-2 : Int32)), h1))
  else
  (gfV none h1 a0 [12] 19 fun v3 =>
  dR none v3 fun o5 =>
  alI none h1 o5 a1 fun x4 =>
  if x4 = (-1 : Int32) then
  (some (some (.int (-11 : Int32)), h1))
  else
  (gfV none h1 a0 [12] 20 fun v6 =>
  dR none v6 fun o8 =>
  alI none h1 o8 a1 fun x7 =>
  gfI none h1 a0 [12] 3 fun x9 =>
  if x7 = x9 then
  (some (some (.int (0 : Int32)), h1))
  else
  (some (some (.int (-2 : Int32)), h1))))) :=
  (call_unr p_242 rfl o_242 rfl [] 32 _ h).trans rfl

theorem p_243 : prg 243 = (k_243, 4) := rfl
theorem o_243 : okc k_243 = true := by decide +kernel
set_option maxRecDepth 100000 in
theorem e_243 (d : Nat) (a0 : Nat) (a1 : Int32) (h : MHeap) : call (d + 1) 243 [.ref a0, .int a1] h = (
  ex d 243 4 [sv (.ref a0), sv (.int a1), sv (.int (0 : Int32)), sv (.int (0 : Int32))] [] h) :=
  (call_unr p_243 rfl o_243 rfl [4] 9 _ h).trans rfl
set_option maxRecDepth 100000 in
theorem e_243_4 (d : Nat) (a0 : Nat) (a1 : Int32) (a2 : Int32) (a3 : Int32) (h : MHeap) : ex d 243 4 [sv (.ref a0), sv (.int a1), sv (.int a2), sv (.int a3)] [] h = (
  gfI none h a0 [12] 3 fun x1 =>
  if a3 < x1 then
  (gfV none h a0 [12] 21 fun v2 =>
  dR none v2 fun o4 =>
  alI none h o4 (((40 : Int32) * a1) + a3) fun x3 =>
  cI (call d 166 [.int x3, .int (0 : Int32), .int (15 : Int32)] h) fun x6 h5 =>
  if x6 = (0 : Int32) then
  (some (some (.int (-1 : Int32)), h5))
  else
  (gfV none h5 a0 [12] 21 fun v7 =>
  dR none v7 fun o9 =>
  alI none h5 o9 (((40 : Int32) * a1) + a3) fun x8 =>
  ex d 243 4 [sv (.ref a0), sv (.int a1), sv (.int (a2 ||| (x8 <<< (((4 : Int32) * a3) &&& 31)))), sv (.int (a3 + (1 : Int32)))] [] h5))
  else
  (some (some (.int a2), h))) :=
  (ex_unr p_243 o_243 [4] 42 rfl _ _ h).trans rfl

theorem p_244 : prg 244 = (k_244, 5) := rfl
theorem o_244 : okc k_244 = true := by decide +kernel
set_option maxRecDepth 100000 in
theorem e_244 (d : Nat) (a0 : Nat) (a1 : Int32) (h : MHeap) : call (d + 1) 244 [.ref a0, .int a1] h = (
  vd none h a0 [12, 242] fun m1 =>
  cI (call d m1 [.ref a0, .int a1] h) fun x3 h2 =>
  if x3 = (0 : Int32) then
  (gfI none h2 a0 [12] 2 fun x4 =>
  vd none h2 a0 [12, 202] fun m5 =>
  cI (call d m5 [.ref a0, .int x4] h2) fun x7 h6 =>
  ex d 244 24 [sv (.ref a0), sv (.int a1), sv (.int x3), sv (.int x7), sv (.int (0 : Int32))] [] h6)
  else
  (some (some (.int x3), h2))) :=
  (call_unr p_244 rfl o_244 rfl [24] 20 _ h).trans rfl
set_option maxRecDepth 100000 in
theorem e_244_24 (d : Nat) (a0 : Nat) (a1 : Int32) (a2 : Int32) (a3 : Int32) (a4 : Int32) (h : MHeap) : ex d 244 24 [sv (.ref a0), sv (.int a1), sv (.int a2), sv (.int a3), sv (.int a4)] [] h = (
  gfI none h a0 [12] 3 fun x1 =>
  if a4 < x1 then
  (gfV none h a0 [12] 21 fun v2 =>
  dR none v2 fun o4 =>
  alI none h o4 (((40 : Int32) * a1) + a4) fun x3 =>
  if x3 = ((a3 >>> (((4 : Int32) * a4) &&& 31)) &&& (15 : Int32)) then
  (ex d 244 24 [sv (.ref a0), sv (.int a1), sv (.int a2), sv (.int a3), sv (.int (a4 + (1 : Int32)))] [] h)
  else
  (some (some (.int a4), h)))
  else
  (some (some (.int (-1 : Int32)), h))) :=
  (ex_unr p_244 o_244 [24] 31 rfl _ _ h).trans rfl

theorem p_245 : prg 245 = (k_245, 10) := rfl
theorem o_245 : okc k_245 = true := by decide +kernel
set_option maxRecDepth 100000 in
theorem e_245 (d : Nat) (a0 : Nat) (a1 : Int32) (a2 : Int32) (h : MHeap) : call (d + 1) 245 [.ref a0, .int a1, .int a2] h = (
  vd none h a0 [12, 242] fun m1 =>
  cI (call d m1 [.ref a0, .int a1] h) fun x3 h2 =>
  if x3 = (0 : Int32) then
  (cI (call d 166 [.int a2, .int (0 : Int32), .int (3 : Int32)] h2) fun x5 h4 =>
  if x5 = (0 : Int32) then
  (if x3 = (0 : Int32) then
  (some (some (.int (-7 : Int32)), h4))
  else
  (some (some (.int x3), h4)))
  else
  (vd none h4 a0 [12, 203] fun m6 =>
  cV (call d m6 [.ref a0] h4) fun h7 =>
  vd none h7 a0 [12, 243] fun m8 =>
  cI (call d m8 [.ref a0, .int a1] h7) fun x10 h9 =>
  ex d 245 58 [sv (.ref a0), sv (.int a1), sv (.int a2), sv (.int x3), sv (.int x10), sv (.int (0 : Int32)), sv (.int (-1 : Int32)), sv (.int (4095 : Int32)), sv (.int (0 : Int32)), sv (.int (0 : Int32))] [] h9))
  else
  (if x3 = (0 : Int32) then
  (some (some (.int (-7 : Int32)), h2))
  else
  (some (some (.int x3), h2)))) :=
  (call_unr p_245 rfl o_245 rfl [58] 46 _ h).trans rfl
set_option maxRecDepth 100000 in
theorem e_245_58 (d : Nat) (a0 : Nat) (a1 : Int32) (a2 : Int32) (a3 : Int32) (a4 : Int32) (a5 : Int32) (a6 : Int32) (a7 : Int32) (a8 : Int32) (a9 : Int32) (h : MHeap) : ex d 245 58 [sv (.ref a0), sv (.int a1), sv (.int a2), sv (.int a3), sv (.int a4), sv (.int a5), sv (.int a6), sv (.int a7), sv (.int a8), sv (.int a9)] [] h = (
  vd none h a0 [12, 171] fun m1 =>
  cI (call d m1 [.ref a0] h) fun x3 h2 =>
  if x3 < a9 then
  (if a2 = (0 : Int32) then
  (some (some (.int a5), h2))
  else
  (if a2 = (1 : Int32) then
  (some (some (.int a6), h2))
  else
  (if a2 = (3 : Int32) then
  (some (some (.int a8), h2))
  else
  (if a5 = (0 : Int32) then
  (some (some (.int (0 : Int32)), h2))
  else
  (some (some (.int a7), h2))))))
  else
  (vd none h2 a0 [12, 204] fun m4 =>
  cI (call d m4 [.ref a0, .int a9] h2) fun x6 h5 =>
  if x6 = a4 then
  (if a6 = (-1 : Int32) then
  (ex d 245 58 [sv (.ref a0), sv (.int a1), sv (.int a2), sv (.int a3), sv (.int a4), sv (.int (a5 + (1 : Int32))), sv (.int a9), sv (.int (a7 &&& a9)), sv (.int (a8 ||| a9)), sv (.int (a9 + (1 : Int32)))] [] h5)
  else
  (ex d 245 58 [sv (.ref a0), sv (.int a1), sv (.int a2), sv (.int a3), sv (.int a4), sv (.int (a5 + (1 : Int32))), sv (.int a6), sv (.int (a7 &&& a9)), sv (.int (a8 ||| a9)), sv (.int (a9 + (1 : Int32)))] [] h5))
  else
  (ex d 245 58 [sv (.ref a0), sv (.int a1), sv (.int a2), sv (.int a3), sv (.int a4), sv (.int a5), sv (.int a6), sv (.int a7), sv (.int a8), sv (.int (a9 + (1 : Int32)))] [] h5))) :=
  (ex_unr p_245 o_245 [58] 69 rfl _ _ h).trans rfl

theorem p_246 : prg 246 = (k_246, 7) := rfl
theorem o_246 : okc k_246 = true := by decide +kernel
set_option maxRecDepth 100000 in
theorem e_246 (d : Nat) (a0 : Nat) (a1 : Int32) (a2 : Int32) (a3 : Int32) (h : MHeap) : call (d + 1) 246 [.ref a0, .int a1, .int a2, .int a3] h = (
  vd none h a0 [12, 242] fun m1 =>
  cI (call d m1 [.ref a0, .int a1] h) fun x3 h2 =>
  if x3 = (0 : Int32) then
  (vd none h2 a0 [12, 172] fun m4 =>
  cI (call d m4 [.ref a0, .int a2] h2) fun x6 h5 =>
  if x6 = (0 : Int32) then
  (some (some (.int (-7 : Int32)), h5))
  else
  (cI (call d 166 [.int a3, .int (0 : Int32), .int (1 : Int32)] h5) fun x8 h7 =>
  if x8 = (0 : Int32) then
  (some (some (.int (-7 : Int32)), h7))
  else
  (vd none h7 a0 [12, 243] fun m9 =>
  cI (call d m9 [.ref a0, .int a1] h7) fun x11 h10 =>
  if x11 = (-1 : Int32) then
  (if a3 = (1 : Int32) then
  (some (some (.int (-1 : Int32)), h10))
  else
  (if (-1 : Int32) = (-1 : Int32) then
  (some (some (.int (-1 : Int32)), h10))
  else
  (cI (call d 168 [.int (-1 : Int32)] h10) fun x13 h12 =>
  some (some (.int x13), h12))))
  else
  (vd none h10 a0 [12, 217] fun m14 =>
  cI (call d m14 [.ref a0, .int a2, .int x11] h10) fun x16 h15 =>
  if a3 = (1 : Int32) then
  (some (some (.int x16), h15))
  else
  (if x16 = (-1 : Int32) then
  (some (some (.int x16), h15))
  else
  (cI (call d 168 [.int x16] h15) fun x18 h17 =>
  some (some (.int x18), h17)))))))
  else
  (some (some (.int x3), h2))) :=
  (call_unr p_246 rfl o_246 rfl [] 71 _ h).trans rfl

theorem p_247 : prg 247 = (k_247, 4) := rfl
theorem o_247 : okc k_247 = true := by decide +kernel
set_option maxRecDepth 100000 in
theorem e_247 (d : Nat) (a0 : Nat) (a1 : Int32) (h : MHeap) : call (d + 1) 247 [.ref a0, .int a1] h = (
  cI (call d 166 [.int a1, .int (0 : Int32), .int (3 : Int32)] h) fun x2 h1 =>
  if x2 = (0 : Int32) then
  (some (some (.int (-2 : Int32)), h1))
  else
  (gfI none h1 a0 [12] 2 fun x3 =>
  vd none h1 a0 [12, 202] fun m4 =>
  cI (call d m4 [.ref a0, .int x3] h1) fun x6 h5 =>
  gfV none h5 a0 [12] 19 fun v7 =>
  dR none v7 fun o9 =>
  asI none h5 o9 a1 (2 : Int32) fun h8 =>
  gfV none h8 a0 [12] 20 fun v10 =>
  gfI none h8 a0 [12] 3 fun x11 =>
  dR none v10 fun o13 =>
  asI none h8 o13 a1 x11 fun h12 =>
  ex d 247 40 [sv (.ref a0), sv (.int a1), sv (.int x6), sv (.int (0 : Int32))] [] h12)) :=
  (call_unr p_247 rfl o_247 rfl [40] 30 _ h).trans rfl
set_option maxRecDepth 100000 in
theorem e_247_40 (d : Nat) (a0 : Nat) (a1 : Int32) (a2 : Int32) (a3 : Int32) (h : MHeap) : ex d 247 40 [sv (.ref a0), sv (.int a1), sv (.int a2), sv (.int a3)] [] h = (
  if a3 < (40 : Int32) then
  (gfV none h a0 [12] 21 fun v1 =>
  gfI none h a0 [12] 3 fun x2 =>
  if a3 < x2 then
  (dR none v1 fun o4 =>
  asI none h o4 (((40 : Int32) * a1) + a3) ((a2 >>> (((4 : Int32) * a3) &&& 31)) &&& (15 : Int32)) fun h3 =>
  ex d 247 40 [sv (.ref a0), sv (.int a1), sv (.int a2), sv (.int (a3 + (1 : Int32)))] [] h3)
  else
  (dR none v1 fun o6 =>
  asI none h o6 (((40 : Int32) * a1) + a3) (0 : Int32) fun h5 =>
  ex d 247 40 [sv (.ref a0), sv (.int a1), sv (.int a2), sv (.int (a3 + (1 : Int32)))] [] h5))
  else
  (gfI none h a0 [12] 3 fun x7 =>
  some (some (.int x7), h))) :=
  (ex_unr p_247 o_247 [40] 37 rfl _ _ h).trans rfl

theorem p_248 : prg 248 = (k_248, 4) := rfl
theorem o_248 : okc k_248 = true := by decide +kernel
set_option maxRecDepth 100000 in
theorem e_248 (d : Nat) (a0 : Nat) (a1 : Int32) (h : MHeap) : call (d + 1) 248 [.ref a0, .int a1] h = (
  dvL none (2147483647 : Int64) <|
  gfI none h a0 [12] 0 fun x1 =>
  dvL none (Int32.toInt64 x1) <|
  some (some (.int (Int64.toInt32 (((((Int32.toInt64 a1) + (1 : Int64)) * (48271 : Int64)) - (((Int32.toInt64 a1) + (1 : Int64)) * (48271 : Int64)) / (2147483647 : Int64) * (2147483647 : Int64)) - ((((Int32.toInt64 a1) + (1 : Int64)) * (48271 : Int64)) - (((Int32.toInt64 a1) + (1 : Int64)) * (48271 : Int64)) / (2147483647 : Int64) * (2147483647 : Int64)) / (Int32.toInt64 x1) * (Int32.toInt64 x1)))), h)) :=
  (call_unr p_248 rfl o_248 rfl [] 21 _ h).trans rfl

theorem p_249 : prg 249 = (k_249, 3) := rfl
theorem o_249 : okc k_249 = true := by decide +kernel
set_option maxRecDepth 100000 in
theorem e_249 (d : Nat) (a0 : Nat) (a1 : Int32) (h : MHeap) : call (d + 1) 249 [.ref a0, .int a1] h = (
  vd none h a0 [12, 248] fun m1 =>
  cI (call d m1 [.ref a0, .int a1] h) fun x3 h2 =>
  gfI none h2 a0 [12] 2 fun x4 =>
  vd none h2 a0 [12, 210] fun m5 =>
  cI (call d m5 [.ref a0, .int (x4 ^^^ ((1 : Int32) <<< (x3 &&& 31)))] h2) fun x7 h6 =>
  if x7 = ((1 : Int32) <<< (x3 &&& 31)) then
  (zr none (1 : Int32) (some (some (.int (1 : Int32)), h6)))
  else
  (zr none (0 : Int32) (some (some (.int (0 : Int32)), h6)))) :=
  (call_unr p_249 rfl o_249 rfl [] 26 _ h).trans rfl

theorem p_250 : prg 250 = (k_250, 3) := rfl
theorem o_250 : okc k_250 = true := by decide +kernel
set_option maxRecDepth 100000 in
theorem e_250 (d : Nat) (a0 : Nat) (a1 : Int32) (a2 : Int32) (h : MHeap) : call (d + 1) 250 [.ref a0, .int a1, .int a2] h = (
  cI (call d 166 [.int a1, .int (0 : Int32), .int (99999 : Int32)] h) fun x2 h1 =>
  if x2 = (0 : Int32) then
  (some (some (.int (-2 : Int32)), h1))
  else
  (cI (call d 166 [.int a2, .int (0 : Int32), .int (1 : Int32)] h1) fun x4 h3 =>
  if x4 = (0 : Int32) then
  (some (some (.int (-2 : Int32)), h3))
  else
  (vd none h3 a0 [12, 203] fun m5 =>
  cV (call d m5 [.ref a0] h3) fun h6 =>
  if a2 = (0 : Int32) then
  (vd none h6 a0 [12, 248] fun m7 =>
  cI (call d m7 [.ref a0, .int a1] h6) fun x9 h8 =>
  some (some (.int x9), h8))
  else
  (vd none h6 a0 [12, 249] fun m10 =>
  cI (call d m10 [.ref a0, .int a1] h6) fun x12 h11 =>
  if x12 = (0 : Int32) then
  (some (some (.int (0 : Int32)), h11))
  else
  (some (some (.int (1 : Int32)), h11)))))) :=
  (call_unr p_250 rfl o_250 rfl [] 37 _ h).trans rfl

theorem p_251 : prg 251 = (k_251, 7) := rfl
theorem o_251 : okc k_251 = true := by decide +kernel
set_option maxRecDepth 100000 in
theorem e_251 (d : Nat) (a0 : Nat) (a1 : Int32) (a2 : Int32) (a3 : Int32) (h : MHeap) : call (d + 1) 251 [.ref a0, .int a1, .int a2, .int a3] h = (
  cI (call d 166 [.int a1, .int (0 : Int32), .int (99999 : Int32)] h) fun x2 h1 =>
  if x2 = (0 : Int32) then
  (some (some (.long (-4611686018427387904 : Int64)), h1))
  else
  (cI (call d 166 [.int a2, .int (1 : Int32), .int (50 : Int32)] h1) fun x4 h3 =>
  if x4 = (0 : Int32) then
  (some (some (.long (-4611686018427387904 : Int64)), h3))
  else
  (cI (call d 166 [.int a3, .int (0 : Int32), .int (1 : Int32)] h3) fun x6 h5 =>
  if x6 = (0 : Int32) then
  (some (some (.long (-4611686018427387904 : Int64)), h5))
  else
  (vd none h5 a0 [12, 203] fun m7 =>
  cV (call d m7 [.ref a0] h5) fun h8 =>
  ex d 251 43 [sv (.ref a0), sv (.int a1), sv (.int a2), sv (.int a3), sy (0 : Int64), none, sv (.int (0 : Int32))] [] h8)))) :=
  (call_unr p_251 rfl o_251 rfl [43] 32 _ h).trans rfl
set_option maxRecDepth 100000 in
theorem e_251_43 (d : Nat) (a0 : Nat) (a1 : Int32) (a2 : Int32) (a3 : Int32) (a4 : Int64) (a6 : Int32) (h : MHeap) : ex d 251 43 [sv (.ref a0), sv (.int a1), sv (.int a2), sv (.int a3), sy a4, none, sv (.int a6)] [] h = (
  if a6 < a2 then
  (vd none h a0 [12, 249] fun m1 =>
  cI (call d m1 [.ref a0, .int (a1 + a6)] h) fun x3 h2 =>
  if x3 = (0 : Int32) then
  (ex d 251 43 [sv (.ref a0), sv (.int a1), sv (.int a2), sv (.int a3), sy (a4 + (0 : Int64)), none, sv (.int (a6 + (1 : Int32)))] [] h2)
  else
  (ex d 251 43 [sv (.ref a0), sv (.int a1), sv (.int a2), sv (.int a3), sy (a4 + (1 : Int64)), none, sv (.int (a6 + (1 : Int32)))] [] h2))
  else
  (cJ (call d 237 [.long a4, .long (Int32.toInt64 a2), .int a3] h) fun y5 h4 =>
  some (some (.long y5), h4))) :=
  (ex_unr p_251 o_251 [43] 32 rfl _ _ h).trans rfl

theorem p_252 : prg 252 = (k_252, 1) := rfl
theorem o_252 : okc k_252 = true := by decide +kernel
set_option maxRecDepth 100000 in
theorem e_252 (d : Nat) (a0 : Nat) (h : MHeap) : call (d + 1) 252 [.ref a0] h = (
  zr none (1 : Int32) <|
  pfI none h a0 [12] 13 (1 : Int32) fun h1 =>
  gfI none h1 a0 [12] 0 fun x2 =>
  pfI none h1 a0 [12] 14 x2 fun h3 =>
  gfI none h3 a0 [12] 1 fun x4 =>
  pfI none h3 a0 [12] 15 x4 fun h5 =>
  gfI none h5 a0 [12] 2 fun x6 =>
  pfI none h5 a0 [12] 16 x6 fun h7 =>
  gfI none h7 a0 [12] 3 fun x8 =>
  pfI none h7 a0 [12] 17 x8 fun h9 =>
  gfI none h9 a0 [12] 12 fun x10 =>
  pfI none h9 a0 [12] 18 x10 fun h11 =>
  gfI none h11 a0 [12] 2 fun x12 =>
  some (some (.int x12), h11)) :=
  (call_unr p_252 rfl o_252 rfl [] 31 _ h).trans rfl

theorem p_253 : prg 253 = (k_253, 1) := rfl
theorem o_253 : okc k_253 = true := by decide +kernel
set_option maxRecDepth 100000 in
theorem e_253 (d : Nat) (a0 : Nat) (h : MHeap) : call (d + 1) 253 [.ref a0] h = (
  gfI none h a0 [12] 13 fun x1 =>
  if x1 = (0 : Int32) then
  (some (some (.int (-3 : Int32)), h))
  else
  (gfI none h a0 [12] 14 fun x2 =>
  pfI none h a0 [12] 0 x2 fun h3 =>
  gfI none h3 a0 [12] 15 fun x4 =>
  pfI none h3 a0 [12] 1 x4 fun h5 =>
  gfI none h5 a0 [12] 16 fun x6 =>
  pfI none h5 a0 [12] 2 x6 fun h7 =>
  gfI none h7 a0 [12] 17 fun x8 =>
  pfI none h7 a0 [12] 3 x8 fun h9 =>
  gfI none h9 a0 [12] 18 fun x10 =>
  pfI none h9 a0 [12] 12 x10 fun h11 =>
  gfI none h11 a0 [12] 2 fun x12 =>
  some (some (.int x12), h11))) :=
  (call_unr p_253 rfl o_253 rfl [] 33 _ h).trans rfl

theorem p_254 : prg 254 = (k_254, 5) := rfl
theorem o_254 : okc k_254 = true := by decide +kernel
set_option maxRecDepth 100000 in
theorem e_254 (d : Nat) (a0 : Nat) (a1 : Int32) (a2 : Int32) (a3 : Int32) (h : MHeap) : call (d + 1) 254 [.ref a0, .int a1, .int a2, .int a3] h = (
  cI (call d 166 [.int a1, .int (0 : Int32), .int (3 : Int32)] h) fun x2 h1 =>
  if x2 = (0 : Int32) then
  (some (some (.int (-2 : Int32)), h1))
  else
  (cI (call d 166 [.int a2, .int (-1 : Int32), .int (2 : Int32)] h1) fun x4 h3 =>
  if x4 = (0 : Int32) then
  (some (some (.int (-2 : Int32)), h3))
  else
  (if a2 = (-1 : Int32) then
  (if a2 = (-1 : Int32) then
  (gfV none h3 a0 [12] 19 fun v5 =>
  dR none v5 fun o7 =>
  asI none h3 o7 a1 a2 fun h6 =>
  gfV none h6 a0 [12] 20 fun v8 =>
  if a2 = (-1 : Int32) then
  (dR none v8 fun o10 =>
  asI none h6 o10 a1 (0 : Int32) fun h9 =>
  ex d 254 70 [sv (.ref a0), sv (.int a1), sv (.int a2), sv (.int a3), sv (.int (0 : Int32))] [] h9)
  else
  (dR none v8 fun o12 =>
  asI none h6 o12 a1 a3 fun h11 =>
  ex d 254 70 [sv (.ref a0), sv (.int a1), sv (.int a2), sv (.int a3), sv (.int (0 : Int32))] [] h11))
  else
  (if a3 < (0 : Int32) then
  (some (some (.int (-14 : Int32)), h3))
  else
  (gfV none h3 a0 [12] 19 fun v13 =>
  dR none v13 fun o15 =>
  asI none h3 o15 a1 a2 fun h14 =>
  gfV none h14 a0 [12] 20 fun v16 =>
  if a2 = (-1 : Int32) then
  (dR none v16 fun o18 =>
  asI none h14 o18 a1 (0 : Int32) fun h17 =>
  ex d 254 70 [sv (.ref a0), sv (.int a1), sv (.int a2), sv (.int a3), sv (.int (0 : Int32))] [] h17)
  else
  (dR none v16 fun o20 =>
  asI none h14 o20 a1 a3 fun h19 =>
  ex d 254 70 [sv (.ref a0), sv (.int a1), sv (.int a2), sv (.int a3), sv (.int (0 : Int32))] [] h19))))
  else
  (if (40 : Int32) < a3 then
  (some (some (.int (-2 : Int32)), h3))
  else
  (if a2 = (-1 : Int32) then
  (gfV none h3 a0 [12] 19 fun v21 =>
  dR none v21 fun o23 =>
  asI none h3 o23 a1 a2 fun h22 =>
  gfV none h22 a0 [12] 20 fun v24 =>
  if a2 = (-1 : Int32) then
  (dR none v24 fun o26 =>
  asI none h22 o26 a1 (0 : Int32) fun h25 =>
  ex d 254 70 [sv (.ref a0), sv (.int a1), sv (.int a2), sv (.int a3), sv (.int (0 : Int32))] [] h25)
  else
  (dR none v24 fun o28 =>
  asI none h22 o28 a1 a3 fun h27 =>
  ex d 254 70 [sv (.ref a0), sv (.int a1), sv (.int a2), sv (.int a3), sv (.int (0 : Int32))] [] h27))
  else
  (if a3 < (0 : Int32) then
  (some (some (.int (-14 : Int32)), h3))
  else
  (gfV none h3 a0 [12] 19 fun v29 =>
  dR none v29 fun o31 =>
  asI none h3 o31 a1 a2 fun h30 =>
  gfV none h30 a0 [12] 20 fun v32 =>
  if a2 = (-1 : Int32) then
  (dR none v32 fun o34 =>
  asI none h30 o34 a1 (0 : Int32) fun h33 =>
  ex d 254 70 [sv (.ref a0), sv (.int a1), sv (.int a2), sv (.int a3), sv (.int (0 : Int32))] [] h33)
  else
  (dR none v32 fun o36 =>
  asI none h30 o36 a1 a3 fun h35 =>
  ex d 254 70 [sv (.ref a0), sv (.int a1), sv (.int a2), sv (.int a3), sv (.int (0 : Int32))] [] h35)))))))) :=
  (call_unr p_254 rfl o_254 rfl [70] 121 _ h).trans rfl
set_option maxRecDepth 100000 in
theorem e_254_70 (d : Nat) (a0 : Nat) (a1 : Int32) (a2 : Int32) (a3 : Int32) (a4 : Int32) (h : MHeap) : ex d 254 70 [sv (.ref a0), sv (.int a1), sv (.int a2), sv (.int a3), sv (.int a4)] [] h = (
  if a4 < (40 : Int32) then
  (gfV none h a0 [12] 21 fun v1 =>
  dR none v1 fun o3 =>
  asI none h o3 (((40 : Int32) * a1) + a4) (0 : Int32) fun h2 =>
  ex d 254 70 [sv (.ref a0), sv (.int a1), sv (.int a2), sv (.int a3), sv (.int (a4 + (1 : Int32)))] [] h2)
  else
  (some (some (.int (1 : Int32)), h))) :=
  (ex_unr p_254 o_254 [70] 21 rfl _ _ h).trans rfl

theorem p_255 : prg 255 = (k_255, 4) := rfl
theorem o_255 : okc k_255 = true := by decide +kernel
set_option maxRecDepth 100000 in
theorem e_255 (d : Nat) (a0 : Nat) (a1 : Int32) (a2 : Int32) (a3 : Int32) (h : MHeap) : call (d + 1) 255 [.ref a0, .int a1, .int a2, .int a3] h = (
  cI (call d 166 [.int a1, .int (0 : Int32), .int (3 : Int32)] h) fun x2 h1 =>
  if x2 = (0 : Int32) then
  (some (some (.int (-2 : Int32)), h1))
  else
  (gfV none h1 a0 [12] 19 fun v3 =>
  dR none v3 fun o5 =>
  alI none h1 o5 a1 fun x4 =>
  if x4 = (-1 : Int32) then
  (some (some (.int (-11 : Int32)), h1))
  else
  (gfV none h1 a0 [12] 20 fun v6 =>
  dR none v6 fun o8 =>
  alI none h1 o8 a1 fun x7 =>
  cI (call d 166 [.int a2, .int (0 : Int32), .int (x7 - (1 : Int32))] h1) fun x10 h9 =>
  if x10 = (0 : Int32) then
  (some (some (.int (-12 : Int32)), h9))
  else
  (gfV none h9 a0 [12] 21 fun v11 =>
  gfV none h9 a0 [12] 19 fun v12 =>
  dR none v12 fun o14 =>
  alI none h9 o14 a1 fun x13 =>
  if x13 = (0 : Int32) then
  (dR none v11 fun o16 =>
  asI none h9 o16 (((40 : Int32) * a1) + a2) (Int8.toInt32 (Int32.toInt8 a3)) fun h15 =>
  some (some (.int (1 : Int32)), h15))
  else
  (gfV none h9 a0 [12] 19 fun v17 =>
  dR none v17 fun o19 =>
  alI none h9 o19 a1 fun x18 =>
  if x18 = (1 : Int32) then
  (dR none v11 fun o21 =>
  asI none h9 o21 (((40 : Int32) * a1) + a2) (Int16.toInt32 (Int32.toInt16 a3)) fun h20 =>
  some (some (.int (1 : Int32)), h20))
  else
  (dR none v11 fun o23 =>
  asI none h9 o23 (((40 : Int32) * a1) + a2) a3 fun h22 =>
  some (some (.int (1 : Int32)), h22))))))) :=
  (call_unr p_255 rfl o_255 rfl [] 66 _ h).trans rfl

theorem p_256 : prg 256 = (k_256, 10) := rfl
theorem o_256 : okc k_256 = true := by decide +kernel
set_option maxRecDepth 100000 in
theorem e_256 (d : Nat) (a0 : Nat) (a1 : Int32) (a2 : Int32) (a3 : Int32) (a4 : Int32) (a5 : Int32) (h : MHeap) : call (d + 1) 256 [.ref a0, .int a1, .int a2, .int a3, .int a4, .int a5] h = (
  cI (call d 166 [.int a1, .int (0 : Int32), .int (3 : Int32)] h) fun x2 h1 =>
  if x2 = (0 : Int32) then
  (some (some (.int (-2 : Int32)), h1))
  else
  (cI (call d 166 [.int a3, .int (0 : Int32), .int (3 : Int32)] h1) fun x4 h3 =>
  if x4 = (0 : Int32) then
  (some (some (.int (-2 : Int32)), h3))
  else
  (gfV none h3 a0 [12] 19 fun v5 =>
  dR none v5 fun o7 =>
  alI none h3 o7 a1 fun x6 =>
  if x6 = (-1 : Int32) then
  (some (some (.int (-11 : Int32)), h3))
  else
  (gfV none h3 a0 [12] 19 fun v8 =>
  dR none v8 fun o10 =>
  alI none h3 o10 a3 fun x9 =>
  if x9 = (-1 : Int32) then
  (some (some (.int (-11 : Int32)), h3))
  else
  (gfV none h3 a0 [12] 19 fun v11 =>
  dR none v11 fun o13 =>
  alI none h3 o13 a1 fun x12 =>
  gfV none h3 a0 [12] 19 fun v14 =>
  dR none v14 fun o16 =>
  alI none h3 o16 a3 fun x15 =>
  if x12 = x15 then
  (if a5 < (0 : Int32) then
  (some (some (.int (-12 : Int32)), h3))
  else
  (if a2 < (0 : Int32) then
  (some (some (.int (-12 : Int32)), h3))
  else
  (if a4 < (0 : Int32) then
  (some (some (.int (-12 : Int32)), h3))
  else
  (gfV none h3 a0 [12] 20 fun v17 =>
  dR none v17 fun o19 =>
  alI none h3 o19 a1 fun x18 =>
  if x18 < a2 then
  (some (some (.int (-12 : Int32)), h3))
  else
  (gfV none h3 a0 [12] 20 fun v20 =>
  dR none v20 fun o22 =>
  alI none h3 o22 a3 fun x21 =>
  if x21 < a4 then
  (some (some (.int (-12 : Int32)), h3))
  else
  (gfV none h3 a0 [12] 20 fun v23 =>
  dR none v23 fun o25 =>
  alI none h3 o25 a1 fun x24 =>
  if (x24 - a2) < a5 then
  (some (some (.int (-12 : Int32)), h3))
  else
  (gfV none h3 a0 [12] 20 fun v26 =>
  dR none v26 fun o28 =>
  alI none h3 o28 a3 fun x27 =>
  if (x27 - a4) < a5 then
  (some (some (.int (-12 : Int32)), h3))
  else
  (ex d 256 147 [sv (.ref a0), sv (.int a1), sv (.int a2), sv (.int a3), sv (.int a4), sv (.int a5), sv (.int (((40 : Int32) * a1) + a2)), sv (.int (((40 : Int32) * a3) + a4)), sv (.int (0 : Int32)), none] [] h3))))))))
  else
  (some (some (.int (-13 : Int32)), h3))))))) :=
  (call_unr p_256 rfl o_256 rfl [147] 108 _ h).trans rfl
set_option maxRecDepth 100000 in
theorem e_256_147 (d : Nat) (a0 : Nat) (a1 : Int32) (a2 : Int32) (a3 : Int32) (a4 : Int32) (a5 : Int32) (a6 : Int32) (a7 : Int32) (a8 : Int32) (a9 : MSl) (h : MHeap) : ex d 256 147 [sv (.ref a0), sv (.int a1), sv (.int a2), sv (.int a3), sv (.int a4), sv (.int a5), sv (.int a6), sv (.int a7), sv (.int a8), a9] [] h = (
  if a8 < a5 then
  (if a6 < a7 then
  (gfV none h a0 [12] 21 fun v1 =>
  gfV none h a0 [12] 21 fun v2 =>
  dR none v2 fun o4 =>
  alI none h o4 (a6 + ((a5 - (1 : Int32)) - a8)) fun x3 =>
  dR none v1 fun o6 =>
  asI none h o6 (a7 + ((a5 - (1 : Int32)) - a8)) x3 fun h5 =>
  ex d 256 147 [sv (.ref a0), sv (.int a1), sv (.int a2), sv (.int a3), sv (.int a4), sv (.int a5), sv (.int a6), sv (.int a7), sv (.int (a8 + (1 : Int32))), sv (.int ((a5 - (1 : Int32)) - a8))] [] h5)
  else
  (gfV none h a0 [12] 21 fun v7 =>
  gfV none h a0 [12] 21 fun v8 =>
  dR none v8 fun o10 =>
  alI none h o10 (a6 + a8) fun x9 =>
  dR none v7 fun o12 =>
  asI none h o12 (a7 + a8) x9 fun h11 =>
  ex d 256 147 [sv (.ref a0), sv (.int a1), sv (.int a2), sv (.int a3), sv (.int a4), sv (.int a5), sv (.int a6), sv (.int a7), sv (.int (a8 + (1 : Int32))), sv (.int a8)] [] h11))
  else
  (some (some (.int a5), h))) :=
  (ex_unr p_256 o_256 [147] 50 rfl _ _ h).trans rfl

theorem p_257 : prg 257 = (k_257, 9) := rfl
theorem o_257 : okc k_257 = true := by decide +kernel
set_option maxRecDepth 100000 in
theorem e_257 (d : Nat) (a0 : Nat) (a1 : Int32) (a2 : Int32) (a3 : Int32) (a4 : Int32) (h : MHeap) : call (d + 1) 257 [.ref a0, .int a1, .int a2, .int a3, .int a4] h = (
  cI (call d 166 [.int a1, .int (0 : Int32), .int (3 : Int32)] h) fun x2 h1 =>
  if x2 = (0 : Int32) then
  (some (some (.int (-2 : Int32)), h1))
  else
  (cI (call d 166 [.int a2, .int (0 : Int32), .int (2 : Int32)] h1) fun x4 h3 =>
  if x4 = (0 : Int32) then
  (some (some (.int (-2 : Int32)), h3))
  else
  (cI (call d 166 [.int a4, .int (0 : Int32), .int (7 : Int32)] h3) fun x6 h5 =>
  if x6 = (0 : Int32) then
  (some (some (.int (-2 : Int32)), h5))
  else
  (gfV none h5 a0 [12] 19 fun v7 =>
  dR none v7 fun o9 =>
  alI none h5 o9 a1 fun x8 =>
  if x8 = (-1 : Int32) then
  (some (some (.int (-11 : Int32)), h5))
  else
  (gfV none h5 a0 [12] 19 fun v10 =>
  dR none v10 fun o12 =>
  alI none h5 o12 a1 fun x11 =>
  if x11 = a2 then
  (ex d 257 64 [sv (.ref a0), sv (.int a1), sv (.int a2), sv (.int a3), sv (.int a4), sv (.int (0 : Int32)), sv (.int (0 : Int32)), none, none] [] h5)
  else
  (some (some (.int (-13 : Int32)), h5))))))) :=
  (call_unr p_257 rfl o_257 rfl [64] 46 _ h).trans rfl
set_option maxRecDepth 100000 in
theorem e_257_64 (d : Nat) (a0 : Nat) (a1 : Int32) (a2 : Int32) (a3 : Int32) (a4 : Int32) (a5 : Int32) (a6 : Int32) (a7 : MSl) (a8 : MSl) (h : MHeap) : ex d 257 64 [sv (.ref a0), sv (.int a1), sv (.int a2), sv (.int a3), sv (.int a4), sv (.int a5), sv (.int a6), a7, a8] [] h = (
  if a6 < a4 then
  (if a3 < (0 : Int32) then
  (some (some (.int (-12 : Int32)), h))
  else
  (if (a3 + ((3 : Int32) * a6)) < a3 then
  (some (some (.int (-12 : Int32)), h))
  else
  (gfV none h a0 [12] 20 fun v1 =>
  dR none v1 fun o3 =>
  alI none h o3 a1 fun x2 =>
  if (x2 - (3 : Int32)) < (a3 + ((3 : Int32) * a6)) then
  (some (some (.int (-12 : Int32)), h))
  else
  (gfV none h a0 [12] 21 fun v4 =>
  dR none v4 fun o6 =>
  alI none h o6 (((40 : Int32) * a1) + (a3 + ((3 : Int32) * a6))) fun x5 =>
  gfV none h a0 [12] 21 fun v7 =>
  dR none v7 fun o9 =>
  alI none h o9 ((((40 : Int32) * a1) + (a3 + ((3 : Int32) * a6))) + (1 : Int32)) fun x8 =>
  gfV none h a0 [12] 21 fun v10 =>
  dR none v10 fun o12 =>
  alI none h o12 ((((40 : Int32) * a1) + (a3 + ((3 : Int32) * a6))) + (2 : Int32)) fun x11 =>
  vd none h a0 [12, 197] fun m13 =>
  cI (call d m13 [.ref a0, .int x5, .int x8, .int x11] h) fun x15 h14 =>
  if x15 < (0 : Int32) then
  (ex d 257 64 [sv (.ref a0), sv (.int a1), sv (.int a2), sv (.int a3), sv (.int a4), sv (.int (a5 + (0 : Int32))), sv (.int (a6 + (1 : Int32))), sv (.int (a3 + ((3 : Int32) * a6))), sv (.int (((40 : Int32) * a1) + (a3 + ((3 : Int32) * a6))))] [] h14)
  else
  (ex d 257 64 [sv (.ref a0), sv (.int a1), sv (.int a2), sv (.int a3), sv (.int a4), sv (.int (a5 + (1 : Int32))), sv (.int (a6 + (1 : Int32))), sv (.int (a3 + ((3 : Int32) * a6))), sv (.int (((40 : Int32) * a1) + (a3 + ((3 : Int32) * a6))))] [] h14)))))
  else
  (some (some (.int a5), h))) :=
  (ex_unr p_257 o_257 [64] 72 rfl _ _ h).trans rfl

theorem p_258 : prg 258 = (k_258, 2) := rfl
theorem o_258 : okc k_258 = true := by decide +kernel
set_option maxRecDepth 100000 in
theorem e_258 (d : Nat) (a0 : Int32) (a1 : Int32) (h : MHeap) : call (d + 1) 258 [.int a0, .int a1] h = (
  if a1 = (0 : Int32) then
  (zr none (1 : Int32) (some (some (.int (1 : Int32)), h)))
  else
  (if a0 = a1 then
  (zr none (1 : Int32) (some (some (.int (1 : Int32)), h)))
  else
  (if a1 = (1 : Int32) then
  (if a0 = (3 : Int32) then
  (zr none (1 : Int32) (some (some (.int (1 : Int32)), h)))
  else
  (if a1 = (2 : Int32) then
  (if a0 = (5 : Int32) then
  (zr none (1 : Int32) (some (some (.int (1 : Int32)), h)))
  else
  (zr none (0 : Int32) (some (some (.int (0 : Int32)), h))))
  else
  (zr none (0 : Int32) (some (some (.int (0 : Int32)), h)))))
  else
  (if a1 = (2 : Int32) then
  (if a0 = (5 : Int32) then
  (zr none (1 : Int32) (some (some (.int (1 : Int32)), h)))
  else
  (zr none (0 : Int32) (some (some (.int (0 : Int32)), h))))
  else
  (zr none (0 : Int32) (some (some (.int (0 : Int32)), h))))))) :=
  (call_unr p_258 rfl o_258 rfl [] 51 _ h).trans rfl

theorem p_259 : prg 259 = (k_259, 3) := rfl
theorem o_259 : okc k_259 = true := by decide +kernel
set_option maxRecDepth 100000 in
theorem e_259 (d : Nat) (a0 : Nat) (a1 : Int32) (a2 : Int32) (h : MHeap) : call (d + 1) 259 [.ref a0, .int a1, .int a2] h = (
  cI (call d 166 [.int a2, .int (0 : Int32), .int (6 : Int32)] h) fun x2 h1 =>
  if x2 = (0 : Int32) then
  (some (some (.int (-2 : Int32)), h1))
  else
  (cI (call d 166 [.int a1, .int (0 : Int32), .int (18 : Int32)] h1) fun x4 h3 =>
  if x4 = (0 : Int32) then
  (some (some (.int (-12 : Int32)), h3))
  else
  (if a1 < (12 : Int32) then
  (gfI none h3 a0 [12] 0 fun x5 =>
  if a1 < x5 then
  (if a2 = (6 : Int32) then
  (gfI none h3 a0 [12] 2 fun x6 =>
  some (some (.int ((x6 >>> (a1 &&& 31)) &&& (1 : Int32))), h3))
  else
  (some (some (.int (-13 : Int32)), h3)))
  else
  (some (some (.int (-11 : Int32)), h3)))
  else
  (gfI none h3 a0 [12] 3 fun x7 =>
  if (a1 - (12 : Int32)) < x7 then
  (if a2 < (6 : Int32) then
  (gfV none h3 a0 [12] 4 fun v8 =>
  dR none v8 fun o10 =>
  alI none h3 o10 (a1 - (12 : Int32)) fun x9 =>
  cI (call d 258 [.int x9, .int a2] h3) fun x12 h11 =>
  if x12 = (0 : Int32) then
  (some (some (.int (-13 : Int32)), h11))
  else
  (some (some (.int (a1 - (12 : Int32))), h11)))
  else
  (some (some (.int (-13 : Int32)), h3)))
  else
  (some (some (.int (-11 : Int32)), h3)))))) :=
  (call_unr p_259 rfl o_259 rfl [] 72 _ h).trans rfl

theorem p_260 : prg 260 = (k_260, 1) := rfl
theorem o_260 : okc k_260 = true := by decide +kernel
set_option maxRecDepth 100000 in
theorem e_260 (d : Nat) (a0 : Int32) (h : MHeap) : call (d + 1) 260 [.int a0] h = (
  ex d 260 10 [sv (.int (a0 - ((Int32.toUInt32 a0 >>> (Int32.toUInt32 (1 : Int32) &&& Int32.toUInt32 31)).toInt32 &&& (1431655765 : Int32))))] [] h) :=
  (call_unr p_260 rfl o_260 rfl [10, 24, 34, 41, 48] 13 _ h).trans rfl
set_option maxRecDepth 100000 in
theorem e_260_10 (d : Nat) (a0 : Int32) (h : MHeap) : ex d 260 10 [sv (.int a0)] [] h = (
  ex d 260 24 [sv (.int ((a0 &&& (858993459 : Int32)) + ((Int32.toUInt32 a0 >>> (Int32.toUInt32 (2 : Int32) &&& Int32.toUInt32 31)).toInt32 &&& (858993459 : Int32))))] [] h) :=
  (ex_unr p_260 o_260 [10, 24, 34, 41, 48] 15 rfl _ _ h).trans rfl
set_option maxRecDepth 100000 in
theorem e_260_24 (d : Nat) (a0 : Int32) (h : MHeap) : ex d 260 24 [sv (.int a0)] [] h = (
  ex d 260 34 [sv (.int ((a0 + (Int32.toUInt32 a0 >>> (Int32.toUInt32 (4 : Int32) &&& Int32.toUInt32 31)).toInt32) &&& (252645135 : Int32)))] [] h) :=
  (ex_unr p_260 o_260 [10, 24, 34, 41, 48] 13 rfl _ _ h).trans rfl
set_option maxRecDepth 100000 in
theorem e_260_34 (d : Nat) (a0 : Int32) (h : MHeap) : ex d 260 34 [sv (.int a0)] [] h = (
  ex d 260 41 [sv (.int (a0 + (Int32.toUInt32 a0 >>> (Int32.toUInt32 (8 : Int32) &&& Int32.toUInt32 31)).toInt32))] [] h) :=
  (ex_unr p_260 o_260 [10, 24, 34, 41, 48] 11 rfl _ _ h).trans rfl
set_option maxRecDepth 100000 in
theorem e_260_41 (d : Nat) (a0 : Int32) (h : MHeap) : ex d 260 41 [sv (.int a0)] [] h = (
  ex d 260 48 [sv (.int (a0 + (Int32.toUInt32 a0 >>> (Int32.toUInt32 (16 : Int32) &&& Int32.toUInt32 31)).toInt32))] [] h) :=
  (ex_unr p_260 o_260 [10, 24, 34, 41, 48] 11 rfl _ _ h).trans rfl
set_option maxRecDepth 100000 in
theorem e_260_48 (d : Nat) (a0 : Int32) (h : MHeap) : ex d 260 48 [sv (.int a0)] [] h = (
  some (some (.int (a0 &&& (63 : Int32))), h)) :=
  (ex_unr p_260 o_260 [10, 24, 34, 41, 48] 9 rfl _ _ h).trans rfl

theorem p_261 : prg 261 = (k_261, 4) := rfl
theorem o_261 : okc k_261 = true := by decide +kernel
set_option maxRecDepth 100000 in
theorem e_261 (d : Nat) (a0 : Nat) (a1 : Int32) (h : MHeap) : call (d + 1) 261 [.ref a0, .int a1] h = (
  aln none h a0 fun x1 =>
  ex d 261 5 [sv (.ref a0), sv (.int a1), sv (.int (0 : Int32)), sv (.int x1)] [] h) :=
  (call_unr p_261 rfl o_261 rfl [5] 10 _ h).trans rfl
set_option maxRecDepth 100000 in
theorem e_261_5 (d : Nat) (a0 : Nat) (a1 : Int32) (a2 : Int32) (a3 : Int32) (h : MHeap) : ex d 261 5 [sv (.ref a0), sv (.int a1), sv (.int a2), sv (.int a3)] [] h = (
  if a2 < a3 then
  (asI none h a0 a2 a1 fun h1 =>
  ex d 261 5 [sv (.ref a0), sv (.int a1), sv (.int (a2 + (1 : Int32))), sv (.int a3)] [] h1)
  else
  (some (none, h))) :=
  (ex_unr p_261 o_261 [5] 15 rfl _ _ h).trans rfl

theorem p_262 : prg 262 = (k_262, 3) := rfl
theorem o_262 : okc k_262 = true := by decide +kernel
set_option maxRecDepth 100000 in
theorem e_262 (d : Nat) (a0 : Nat) (a1 : Int32) (h : MHeap) : call (d + 1) 262 [.ref a0, .int a1] h = (
  aln none h a0 fun x1 =>
  if a1 = x1 then
  (vd none h a0 [] fun m2 =>
  cR (call d m2 [.ref a0] h) fun v4 h3 =>
  none)
  else
  (nwA none h 100 a1 (.int 0) fun o5 h6 =>
  aln none h6 a0 fun x7 =>
  cI (call d 1001 [.int x7, .int a1] h6) fun x9 h8 =>
  cV (call d 1002 [.ref a0, .int (0 : Int32), .ref o5, .int (0 : Int32), .int x9] h8) fun h10 =>
  some (some (.ref o5), h10))) :=
  (call_unr p_262 rfl o_262 rfl [] 26 _ h).trans rfl

theorem p_263 : prg 263 = (k_263, 4) := rfl
theorem o_263 : okc k_263 = true := by decide +kernel
set_option maxRecDepth 100000 in
theorem e_263 (d : Nat) (a0 : Nat) (h : MHeap) : call (d + 1) 263 [.ref a0] h = (
  nwO h 11 [.null, .null, .null, .null, .int 0, .int 0, .null, .null, .null, .null, .null] fun o1 h2 =>
  cV (call d 83 [.ref o1] h2) fun h3 =>
  nwO h3 12 [.int 0, .int 0, .int 0, .int 0, .null, .null, .null, .null, .int 0, .null, .null, .int 0, .int 0, .int 0, .int 0, .int 0, .int 0, .int 0, .int 0, .null, .null, .null, .null, .int 0, .int 0, .int 0, .int 0, .null, .null, .int 0, .int 0, .int 0, .null, .null, .null, .null, .int 0, .int 0, .int 0] fun o4 h5 =>
  cV (call d 165 [.ref o4] h5) fun h6 =>
  ex d 263 18 [sv (.ref a0), sv (.ref o1), sv (.ref o4), sv (.int (0 : Int32))] [] h6) :=
  (call_unr p_263 rfl o_263 rfl [18, 244, 277, 300, 333, 356, 431, 444, 467, 500, 543, 556, 589, 612, 635, 648, 671, 694, 717, 740, 763, 796, 819, 842, 865, 878, 901, 924, 957, 980, 1003, 1036, 1059, 1082, 1106, 1129, 1142, 1155, 1178, 1211, 1254, 1277, 1310, 1354, 1367, 1380, 1423, 1466, 1529, 1582, 1615] 15 _ h).trans rfl
set_option maxRecDepth 100000 in
theorem e_263_18 (d : Nat) (a0 : Nat) (a1 : Nat) (a2 : Nat) (a3 : Int32) (h : MHeap) : ex d 263 18 [sv (.ref a0), sv (.ref a1), sv (.ref a2), sv (.int a3)] [] h = (
  aln none h a0 fun x1 =>
  if (x1 - (7 : Int32)) < a3 then
  (zr none (1 : Int32) (some (some (.int (1 : Int32)), h)))
  else
  (alI none h a0 a3 fun x2 =>
  if (x2 &&& (63 : Int32)) = (0 : Int32) then
  (ex d 263 244 [sv (.ref a0), sv (.ref a1), sv (.ref a2), sv (.int a3)] [] h)
  else
  (if (x2 &&& (63 : Int32)) = (1 : Int32) then
  (ex d 263 277 [sv (.ref a0), sv (.ref a1), sv (.ref a2), sv (.int a3)] [] h)
  else
  (if (x2 &&& (63 : Int32)) = (2 : Int32) then
  (ex d 263 300 [sv (.ref a0), sv (.ref a1), sv (.ref a2), sv (.int a3)] [] h)
  else
  (if (x2 &&& (63 : Int32)) = (3 : Int32) then
  (ex d 263 333 [sv (.ref a0), sv (.ref a1), sv (.ref a2), sv (.int a3)] [] h)
  else
  (if (x2 &&& (63 : Int32)) = (4 : Int32) then
  (ex d 263 356 [sv (.ref a0), sv (.ref a1), sv (.ref a2), sv (.int a3)] [] h)
  else
  (if (x2 &&& (63 : Int32)) = (5 : Int32) then
  (ex d 263 431 [sv (.ref a0), sv (.ref a1), sv (.ref a2), sv (.int a3)] [] h)
  else
  (if (x2 &&& (63 : Int32)) = (6 : Int32) then
  (ex d 263 444 [sv (.ref a0), sv (.ref a1), sv (.ref a2), sv (.int a3)] [] h)
  else
  (if (x2 &&& (63 : Int32)) = (7 : Int32) then
  (ex d 263 467 [sv (.ref a0), sv (.ref a1), sv (.ref a2), sv (.int a3)] [] h)
  else
  (if (x2 &&& (63 : Int32)) = (8 : Int32) then
  (ex d 263 500 [sv (.ref a0), sv (.ref a1), sv (.ref a2), sv (.int a3)] [] h)
  else
  (if (x2 &&& (63 : Int32)) = (9 : Int32) then
  (ex d 263 543 [sv (.ref a0), sv (.ref a1), sv (.ref a2), sv (.int a3)] [] h)
  else
  (if (x2 &&& (63 : Int32)) = (10 : Int32) then
  (ex d 263 556 [sv (.ref a0), sv (.ref a1), sv (.ref a2), sv (.int a3)] [] h)
  else
  (if (x2 &&& (63 : Int32)) = (11 : Int32) then
  (ex d 263 589 [sv (.ref a0), sv (.ref a1), sv (.ref a2), sv (.int a3)] [] h)
  else
  (if (x2 &&& (63 : Int32)) = (12 : Int32) then
  (ex d 263 612 [sv (.ref a0), sv (.ref a1), sv (.ref a2), sv (.int a3)] [] h)
  else
  (if (x2 &&& (63 : Int32)) = (13 : Int32) then
  (ex d 263 635 [sv (.ref a0), sv (.ref a1), sv (.ref a2), sv (.int a3)] [] h)
  else
  (if (x2 &&& (63 : Int32)) = (14 : Int32) then
  (ex d 263 648 [sv (.ref a0), sv (.ref a1), sv (.ref a2), sv (.int a3)] [] h)
  else
  (if (x2 &&& (63 : Int32)) = (15 : Int32) then
  (ex d 263 671 [sv (.ref a0), sv (.ref a1), sv (.ref a2), sv (.int a3)] [] h)
  else
  (if (x2 &&& (63 : Int32)) = (16 : Int32) then
  (ex d 263 694 [sv (.ref a0), sv (.ref a1), sv (.ref a2), sv (.int a3)] [] h)
  else
  (if (x2 &&& (63 : Int32)) = (17 : Int32) then
  (ex d 263 717 [sv (.ref a0), sv (.ref a1), sv (.ref a2), sv (.int a3)] [] h)
  else
  (if (x2 &&& (63 : Int32)) = (18 : Int32) then
  (ex d 263 740 [sv (.ref a0), sv (.ref a1), sv (.ref a2), sv (.int a3)] [] h)
  else
  (if (x2 &&& (63 : Int32)) = (19 : Int32) then
  (ex d 263 763 [sv (.ref a0), sv (.ref a1), sv (.ref a2), sv (.int a3)] [] h)
  else
  (if (x2 &&& (63 : Int32)) = (20 : Int32) then
  (ex d 263 796 [sv (.ref a0), sv (.ref a1), sv (.ref a2), sv (.int a3)] [] h)
  else
  (if (x2 &&& (63 : Int32)) = (21 : Int32) then
  (ex d 263 819 [sv (.ref a0), sv (.ref a1), sv (.ref a2), sv (.int a3)] [] h)
  else
  (if (x2 &&& (63 : Int32)) = (22 : Int32) then
  (ex d 263 842 [sv (.ref a0), sv (.ref a1), sv (.ref a2), sv (.int a3)] [] h)
  else
  (if (x2 &&& (63 : Int32)) = (23 : Int32) then
  (ex d 263 865 [sv (.ref a0), sv (.ref a1), sv (.ref a2), sv (.int a3)] [] h)
  else
  (if (x2 &&& (63 : Int32)) = (24 : Int32) then
  (ex d 263 878 [sv (.ref a0), sv (.ref a1), sv (.ref a2), sv (.int a3)] [] h)
  else
  (if (x2 &&& (63 : Int32)) = (25 : Int32) then
  (ex d 263 901 [sv (.ref a0), sv (.ref a1), sv (.ref a2), sv (.int a3)] [] h)
  else
  (if (x2 &&& (63 : Int32)) = (26 : Int32) then
  (ex d 263 924 [sv (.ref a0), sv (.ref a1), sv (.ref a2), sv (.int a3)] [] h)
  else
  (if (x2 &&& (63 : Int32)) = (27 : Int32) then
  (ex d 263 957 [sv (.ref a0), sv (.ref a1), sv (.ref a2), sv (.int a3)] [] h)
  else
  (if (x2 &&& (63 : Int32)) = (28 : Int32) then
  (ex d 263 980 [sv (.ref a0), sv (.ref a1), sv (.ref a2), sv (.int a3)] [] h)
  else
  (if (x2 &&& (63 : Int32)) = (29 : Int32) then
  (ex d 263 1003 [sv (.ref a0), sv (.ref a1), sv (.ref a2), sv (.int a3)] [] h)
  else
  (if (x2 &&& (63 : Int32)) = (30 : Int32) then
  (ex d 263 1036 [sv (.ref a0), sv (.ref a1), sv (.ref a2), sv (.int a3)] [] h)
  else
  (if (x2 &&& (63 : Int32)) = (31 : Int32) then
  (ex d 263 1059 [sv (.ref a0), sv (.ref a1), sv (.ref a2), sv (.int a3)] [] h)
  else
  (if (x2 &&& (63 : Int32)) = (32 : Int32) then
  (ex d 263 1082 [sv (.ref a0), sv (.ref a1), sv (.ref a2), sv (.int a3)] [] h)
  else
  (if (x2 &&& (63 : Int32)) = (33 : Int32) then
  (ex d 263 1106 [sv (.ref a0), sv (.ref a1), sv (.ref a2), sv (.int a3)] [] h)
  else
  (if (x2 &&& (63 : Int32)) = (34 : Int32) then
  (ex d 263 1129 [sv (.ref a0), sv (.ref a1), sv (.ref a2), sv (.int a3)] [] h)
  else
  (if (x2 &&& (63 : Int32)) = (35 : Int32) then
  (ex d 263 1142 [sv (.ref a0), sv (.ref a1), sv (.ref a2), sv (.int a3)] [] h)
  else
  (if (x2 &&& (63 : Int32)) = (36 : Int32) then
  (ex d 263 1155 [sv (.ref a0), sv (.ref a1), sv (.ref a2), sv (.int a3)] [] h)
  else
  (if (x2 &&& (63 : Int32)) = (37 : Int32) then
  (ex d 263 1178 [sv (.ref a0), sv (.ref a1), sv (.ref a2), sv (.int a3)] [] h)
  else
  (if (x2 &&& (63 : Int32)) = (38 : Int32) then
  (ex d 263 1211 [sv (.ref a0), sv (.ref a1), sv (.ref a2), sv (.int a3)] [] h)
  else
  (if (x2 &&& (63 : Int32)) = (39 : Int32) then
  (ex d 263 1254 [sv (.ref a0), sv (.ref a1), sv (.ref a2), sv (.int a3)] [] h)
  else
  (if (x2 &&& (63 : Int32)) = (40 : Int32) then
  (ex d 263 1277 [sv (.ref a0), sv (.ref a1), sv (.ref a2), sv (.int a3)] [] h)
  else
  (if (x2 &&& (63 : Int32)) = (41 : Int32) then
  (ex d 263 1310 [sv (.ref a0), sv (.ref a1), sv (.ref a2), sv (.int a3)] [] h)
  else
  (if (x2 &&& (63 : Int32)) = (42 : Int32) then
  (ex d 263 1354 [sv (.ref a0), sv (.ref a1), sv (.ref a2), sv (.int a3)] [] h)
  else
  (if (x2 &&& (63 : Int32)) = (43 : Int32) then
  (ex d 263 1367 [sv (.ref a0), sv (.ref a1), sv (.ref a2), sv (.int a3)] [] h)
  else
  (if (x2 &&& (63 : Int32)) = (44 : Int32) then
  (ex d 263 1380 [sv (.ref a0), sv (.ref a1), sv (.ref a2), sv (.int a3)] [] h)
  else
  (if (x2 &&& (63 : Int32)) = (45 : Int32) then
  (ex d 263 1423 [sv (.ref a0), sv (.ref a1), sv (.ref a2), sv (.int a3)] [] h)
  else
  (if (x2 &&& (63 : Int32)) = (46 : Int32) then
  (ex d 263 1466 [sv (.ref a0), sv (.ref a1), sv (.ref a2), sv (.int a3)] [] h)
  else
  (if (x2 &&& (63 : Int32)) = (47 : Int32) then
  (ex d 263 1529 [sv (.ref a0), sv (.ref a1), sv (.ref a2), sv (.int a3)] [] h)
  else
  (if (x2 &&& (63 : Int32)) = (48 : Int32) then
  (ex d 263 1582 [sv (.ref a0), sv (.ref a1), sv (.ref a2), sv (.int a3)] [] h)
  else
  (ex d 263 1615 [sv (.ref a0), sv (.ref a1), sv (.ref a2), sv (.int a3)] [] h))))))))))))))))))))))))))))))))))))))))))))))))))) :=
  (ex_unr p_263 o_263 [18, 244, 277, 300, 333, 356, 431, 444, 467, 500, 543, 556, 589, 612, 635, 648, 671, 694, 717, 740, 763, 796, 819, 842, 865, 878, 901, 924, 957, 980, 1003, 1036, 1059, 1082, 1106, 1129, 1142, 1155, 1178, 1211, 1254, 1277, 1310, 1354, 1367, 1380, 1423, 1466, 1529, 1582, 1615] 19 rfl _ _ h).trans rfl
set_option maxRecDepth 100000 in
theorem e_263_244 (d : Nat) (a0 : Nat) (a1 : Nat) (a2 : Nat) (a3 : Int32) (h : MHeap) : ex d 263 244 [sv (.ref a0), sv (.ref a1), sv (.ref a2), sv (.int a3)] [] h = (
  alI none h a0 (a3 + (1 : Int32)) fun x1 =>
  alI none h a0 (a3 + (2 : Int32)) fun x2 =>
  vd none h a1 [11, 84] fun m3 =>
  cI (call d m3 [.ref a1, .int x1, .int x2] h) fun x5 h4 =>
  alI none h4 a0 (a3 + (1 : Int32)) fun x6 =>
  alI none h4 a0 (a3 + (2 : Int32)) fun x7 =>
  vd none h4 a2 [12, 173] fun m8 =>
  cI (call d m8 [.ref a2, .int x6, .int x7] h4) fun x10 h9 =>
  if x5 = x10 then
  (ex d 263 1615 [sv (.ref a0), sv (.ref a1), sv (.ref a2), sv (.int a3)] [] h9)
  else
  (zr none (0 : Int32) (some (some (.int (0 : Int32)), h9)))) :=
  (ex_unr p_263 o_263 [18, 244, 277, 300, 333, 356, 431, 444, 467, 500, 543, 556, 589, 612, 635, 648, 671, 694, 717, 740, 763, 796, 819, 842, 865, 878, 901, 924, 957, 980, 1003, 1036, 1059, 1082, 1106, 1129, 1142, 1155, 1178, 1211, 1254, 1277, 1310, 1354, 1367, 1380, 1423, 1466, 1529, 1582, 1615] 32 rfl _ _ h).trans rfl
set_option maxRecDepth 100000 in
theorem e_263_277 (d : Nat) (a0 : Nat) (a1 : Nat) (a2 : Nat) (a3 : Int32) (h : MHeap) : ex d 263 277 [sv (.ref a0), sv (.ref a1), sv (.ref a2), sv (.int a3)] [] h = (
  alI none h a0 (a3 + (1 : Int32)) fun x1 =>
  vd none h a1 [11, 85] fun m2 =>
  cI (call d m2 [.ref a1, .int x1] h) fun x4 h3 =>
  alI none h3 a0 (a3 + (1 : Int32)) fun x5 =>
  vd none h3 a2 [12, 174] fun m6 =>
  cI (call d m6 [.ref a2, .int x5] h3) fun x8 h7 =>
  if x4 = x8 then
  (ex d 263 1615 [sv (.ref a0), sv (.ref a1), sv (.ref a2), sv (.int a3)] [] h7)
  else
  (zr none (0 : Int32) (some (some (.int (0 : Int32)), h7)))) :=
  (ex_unr p_263 o_263 [18, 244, 277, 300, 333, 356, 431, 444, 467, 500, 543, 556, 589, 612, 635, 648, 671, 694, 717, 740, 763, 796, 819, 842, 865, 878, 901, 924, 957, 980, 1003, 1036, 1059, 1082, 1106, 1129, 1142, 1155, 1178, 1211, 1254, 1277, 1310, 1354, 1367, 1380, 1423, 1466, 1529, 1582, 1615] 22 rfl _ _ h).trans rfl
set_option maxRecDepth 100000 in
theorem e_263_300 (d : Nat) (a0 : Nat) (a1 : Nat) (a2 : Nat) (a3 : Int32) (h : MHeap) : ex d 263 300 [sv (.ref a0), sv (.ref a1), sv (.ref a2), sv (.int a3)] [] h = (
  alI none h a0 (a3 + (1 : Int32)) fun x1 =>
  alI none h a0 (a3 + (2 : Int32)) fun x2 =>
  vd none h a1 [11, 86] fun m3 =>
  cI (call d m3 [.ref a1, .int x1, .int x2] h) fun x5 h4 =>
  alI none h4 a0 (a3 + (1 : Int32)) fun x6 =>
  alI none h4 a0 (a3 + (2 : Int32)) fun x7 =>
  vd none h4 a2 [12, 176] fun m8 =>
  cI (call d m8 [.ref a2, .int x6, .int x7] h4) fun x10 h9 =>
  if x5 = x10 then
  (ex d 263 1615 [sv (.ref a0), sv (.ref a1), sv (.ref a2), sv (.int a3)] [] h9)
  else
  (zr none (0 : Int32) (some (some (.int (0 : Int32)), h9)))) :=
  (ex_unr p_263 o_263 [18, 244, 277, 300, 333, 356, 431, 444, 467, 500, 543, 556, 589, 612, 635, 648, 671, 694, 717, 740, 763, 796, 819, 842, 865, 878, 901, 924, 957, 980, 1003, 1036, 1059, 1082, 1106, 1129, 1142, 1155, 1178, 1211, 1254, 1277, 1310, 1354, 1367, 1380, 1423, 1466, 1529, 1582, 1615] 32 rfl _ _ h).trans rfl
set_option maxRecDepth 100000 in
theorem e_263_333 (d : Nat) (a0 : Nat) (a1 : Nat) (a2 : Nat) (a3 : Int32) (h : MHeap) : ex d 263 333 [sv (.ref a0), sv (.ref a1), sv (.ref a2), sv (.int a3)] [] h = (
  alI none h a0 (a3 + (1 : Int32)) fun x1 =>
  vd none h a1 [11, 87] fun m2 =>
  cI (call d m2 [.ref a1, .int x1] h) fun x4 h3 =>
  alI none h3 a0 (a3 + (1 : Int32)) fun x5 =>
  vd none h3 a2 [12, 177] fun m6 =>
  cI (call d m6 [.ref a2, .int x5] h3) fun x8 h7 =>
  if x4 = x8 then
  (ex d 263 1615 [sv (.ref a0), sv (.ref a1), sv (.ref a2), sv (.int a3)] [] h7)
  else
  (zr none (0 : Int32) (some (some (.int (0 : Int32)), h7)))) :=
  (ex_unr p_263 o_263 [18, 244, 277, 300, 333, 356, 431, 444, 467, 500, 543, 556, 589, 612, 635, 648, 671, 694, 717, 740, 763, 796, 819, 842, 865, 878, 901, 924, 957, 980, 1003, 1036, 1059, 1082, 1106, 1129, 1142, 1155, 1178, 1211, 1254, 1277, 1310, 1354, 1367, 1380, 1423, 1466, 1529, 1582, 1615] 22 rfl _ _ h).trans rfl
set_option maxRecDepth 100000 in
theorem e_263_356 (d : Nat) (a0 : Nat) (a1 : Nat) (a2 : Nat) (a3 : Int32) (h : MHeap) : ex d 263 356 [sv (.ref a0), sv (.ref a1), sv (.ref a2), sv (.int a3)] [] h = (
  alI none h a0 (a3 + (1 : Int32)) fun x1 =>
  alI none h a0 (a3 + (2 : Int32)) fun x2 =>
  alI none h a0 (a3 + (3 : Int32)) fun x3 =>
  alI none h a0 (a3 + (4 : Int32)) fun x4 =>
  alI none h a0 (a3 + (5 : Int32)) fun x5 =>
  alI none h a0 (a3 + (6 : Int32)) fun x6 =>
  vd none h a1 [11, 88] fun m7 =>
  cI (call d m7 [.ref a1, .int x1, .int x2, .int x3, .int x4, .int x5, .int x6] h) fun x9 h8 =>
  alI none h8 a0 (a3 + (1 : Int32)) fun x10 =>
  alI none h8 a0 (a3 + (2 : Int32)) fun x11 =>
  alI none h8 a0 (a3 + (3 : Int32)) fun x12 =>
  alI none h8 a0 (a3 + (4 : Int32)) fun x13 =>
  alI none h8 a0 (a3 + (5 : Int32)) fun x14 =>
  alI none h8 a0 (a3 + (6 : Int32)) fun x15 =>
  vd none h8 a2 [12, 179] fun m16 =>
  cI (call d m16 [.ref a2, .int x10, .int x11, .int x12, .int x13, .int x14, .int x15] h8) fun x18 h17 =>
  if x9 = x18 then
  (ex d 263 1615 [sv (.ref a0), sv (.ref a1), sv (.ref a2), sv (.int a3)] [] h17)
  else
  (zr none (0 : Int32) (some (some (.int (0 : Int32)), h17)))) :=
  (ex_unr p_263 o_263 [18, 244, 277, 300, 333, 356, 431, 444, 467, 500, 543, 556, 589, 612, 635, 648, 671, 694, 717, 740, 763, 796, 819, 842, 865, 878, 901, 924, 957, 980, 1003, 1036, 1059, 1082, 1106, 1129, 1142, 1155, 1178, 1211, 1254, 1277, 1310, 1354, 1367, 1380, 1423, 1466, 1529, 1582, 1615] 72 rfl _ _ h).trans rfl
set_option maxRecDepth 100000 in
theorem e_263_431 (d : Nat) (a0 : Nat) (a1 : Nat) (a2 : Nat) (a3 : Int32) (h : MHeap) : ex d 263 431 [sv (.ref a0), sv (.ref a1), sv (.ref a2), sv (.int a3)] [] h = (
  vd none h a1 [11, 89] fun m1 =>
  cI (call d m1 [.ref a1] h) fun x3 h2 =>
  vd none h2 a2 [12, 190] fun m4 =>
  cI (call d m4 [.ref a2] h2) fun x6 h5 =>
  if x3 = x6 then
  (ex d 263 1615 [sv (.ref a0), sv (.ref a1), sv (.ref a2), sv (.int a3)] [] h5)
  else
  (zr none (0 : Int32) (some (some (.int (0 : Int32)), h5)))) :=
  (ex_unr p_263 o_263 [18, 244, 277, 300, 333, 356, 431, 444, 467, 500, 543, 556, 589, 612, 635, 648, 671, 694, 717, 740, 763, 796, 819, 842, 865, 878, 901, 924, 957, 980, 1003, 1036, 1059, 1082, 1106, 1129, 1142, 1155, 1178, 1211, 1254, 1277, 1310, 1354, 1367, 1380, 1423, 1466, 1529, 1582, 1615] 12 rfl _ _ h).trans rfl
set_option maxRecDepth 100000 in
theorem e_263_444 (d : Nat) (a0 : Nat) (a1 : Nat) (a2 : Nat) (a3 : Int32) (h : MHeap) : ex d 263 444 [sv (.ref a0), sv (.ref a1), sv (.ref a2), sv (.int a3)] [] h = (
  alI none h a0 (a3 + (1 : Int32)) fun x1 =>
  vd none h a1 [11, 90] fun m2 =>
  cI (call d m2 [.ref a1, .int x1] h) fun x4 h3 =>
  alI none h3 a0 (a3 + (1 : Int32)) fun x5 =>
  vd none h3 a2 [12, 193] fun m6 =>
  cI (call d m6 [.ref a2, .int x5] h3) fun x8 h7 =>
  if x4 = x8 then
  (ex d 263 1615 [sv (.ref a0), sv (.ref a1), sv (.ref a2), sv (.int a3)] [] h7)
  else
  (zr none (0 : Int32) (some (some (.int (0 : Int32)), h7)))) :=
  (ex_unr p_263 o_263 [18, 244, 277, 300, 333, 356, 431, 444, 467, 500, 543, 556, 589, 612, 635, 648, 671, 694, 717, 740, 763, 796, 819, 842, 865, 878, 901, 924, 957, 980, 1003, 1036, 1059, 1082, 1106, 1129, 1142, 1155, 1178, 1211, 1254, 1277, 1310, 1354, 1367, 1380, 1423, 1466, 1529, 1582, 1615] 22 rfl _ _ h).trans rfl
set_option maxRecDepth 100000 in
theorem e_263_467 (d : Nat) (a0 : Nat) (a1 : Nat) (a2 : Nat) (a3 : Int32) (h : MHeap) : ex d 263 467 [sv (.ref a0), sv (.ref a1), sv (.ref a2), sv (.int a3)] [] h = (
  alI none h a0 (a3 + (1 : Int32)) fun x1 =>
  alI none h a0 (a3 + (2 : Int32)) fun x2 =>
  vd none h a1 [11, 91] fun m3 =>
  cI (call d m3 [.ref a1, .int x1, .int x2] h) fun x5 h4 =>
  alI none h4 a0 (a3 + (1 : Int32)) fun x6 =>
  alI none h4 a0 (a3 + (2 : Int32)) fun x7 =>
  vd none h4 a2 [12, 195] fun m8 =>
  cI (call d m8 [.ref a2, .int x6, .int x7] h4) fun x10 h9 =>
  if x5 = x10 then
  (ex d 263 1615 [sv (.ref a0), sv (.ref a1), sv (.ref a2), sv (.int a3)] [] h9)
  else
  (zr none (0 : Int32) (some (some (.int (0 : Int32)), h9)))) :=
  (ex_unr p_263 o_263 [18, 244, 277, 300, 333, 356, 431, 444, 467, 500, 543, 556, 589, 612, 635, 648, 671, 694, 717, 740, 763, 796, 819, 842, 865, 878, 901, 924, 957, 980, 1003, 1036, 1059, 1082, 1106, 1129, 1142, 1155, 1178, 1211, 1254, 1277, 1310, 1354, 1367, 1380, 1423, 1466, 1529, 1582, 1615] 32 rfl _ _ h).trans rfl
set_option maxRecDepth 100000 in
theorem e_263_500 (d : Nat) (a0 : Nat) (a1 : Nat) (a2 : Nat) (a3 : Int32) (h : MHeap) : ex d 263 500 [sv (.ref a0), sv (.ref a1), sv (.ref a2), sv (.int a3)] [] h = (
  alI none h a0 (a3 + (1 : Int32)) fun x1 =>
  alI none h a0 (a3 + (2 : Int32)) fun x2 =>
  alI none h a0 (a3 + (3 : Int32)) fun x3 =>
  vd none h a1 [11, 92] fun m4 =>
  cI (call d m4 [.ref a1, .int x1, .int x2, .int x3] h) fun x6 h5 =>
  alI none h5 a0 (a3 + (1 : Int32)) fun x7 =>
  alI none h5 a0 (a3 + (2 : Int32)) fun x8 =>
  alI none h5 a0 (a3 + (3 : Int32)) fun x9 =>
  vd none h5 a2 [12, 197] fun m10 =>
  cI (call d m10 [.ref a2, .int x7, .int x8, .int x9] h5) fun x12 h11 =>
  if x6 = x12 then
  (ex d 263 1615 [sv (.ref a0), sv (.ref a1), sv (.ref a2), sv (.int a3)] [] h11)
  else
  (zr none (0 : Int32) (some (some (.int (0 : Int32)), h11)))) :=
  (ex_unr p_263 o_263 [18, 244, 277, 300, 333, 356, 431, 444, 467, 500, 543, 556, 589, 612, 635, 648, 671, 694, 717, 740, 763, 796, 819, 842, 865, 878, 901, 924, 957, 980, 1003, 1036, 1059, 1082, 1106, 1129, 1142, 1155, 1178, 1211, 1254, 1277, 1310, 1354, 1367, 1380, 1423, 1466, 1529, 1582, 1615] 42 rfl _ _ h).trans rfl
set_option maxRecDepth 100000 in
theorem e_263_543 (d : Nat) (a0 : Nat) (a1 : Nat) (a2 : Nat) (a3 : Int32) (h : MHeap) : ex d 263 543 [sv (.ref a0), sv (.ref a1), sv (.ref a2), sv (.int a3)] [] h = (
  vd none h a1 [11, 93] fun m1 =>
  cI (call d m1 [.ref a1] h) fun x3 h2 =>
  vd none h2 a2 [12, 198] fun m4 =>
  cI (call d m4 [.ref a2] h2) fun x6 h5 =>
  if x3 = x6 then
  (ex d 263 1615 [sv (.ref a0), sv (.ref a1), sv (.ref a2), sv (.int a3)] [] h5)
  else
  (zr none (0 : Int32) (some (some (.int (0 : Int32)), h5)))) :=
  (ex_unr p_263 o_263 [18, 244, 277, 300, 333, 356, 431, 444, 467, 500, 543, 556, 589, 612, 635, 648, 671, 694, 717, 740, 763, 796, 819, 842, 865, 878, 901, 924, 957, 980, 1003, 1036, 1059, 1082, 1106, 1129, 1142, 1155, 1178, 1211, 1254, 1277, 1310, 1354, 1367, 1380, 1423, 1466, 1529, 1582, 1615] 12 rfl _ _ h).trans rfl
set_option maxRecDepth 100000 in
theorem e_263_556 (d : Nat) (a0 : Nat) (a1 : Nat) (a2 : Nat) (a3 : Int32) (h : MHeap) : ex d 263 556 [sv (.ref a0), sv (.ref a1), sv (.ref a2), sv (.int a3)] [] h = (
  alI none h a0 (a3 + (1 : Int32)) fun x1 =>
  alI none h a0 (a3 + (2 : Int32)) fun x2 =>
  vd none h a1 [11, 94] fun m3 =>
  cI (call d m3 [.ref a1, .int x1, .int x2] h) fun x5 h4 =>
  alI none h4 a0 (a3 + (1 : Int32)) fun x6 =>
  alI none h4 a0 (a3 + (2 : Int32)) fun x7 =>
  vd none h4 a2 [12, 206] fun m8 =>
  cI (call d m8 [.ref a2, .int x6, .int x7] h4) fun x10 h9 =>
  if x5 = x10 then
  (ex d 263 1615 [sv (.ref a0), sv (.ref a1), sv (.ref a2), sv (.int a3)] [] h9)
  else
  (zr none (0 : Int32) (some (some (.int (0 : Int32)), h9)))) :=
  (ex_unr p_263 o_263 [18, 244, 277, 300, 333, 356, 431, 444, 467, 500, 543, 556, 589, 612, 635, 648, 671, 694, 717, 740, 763, 796, 819, 842, 865, 878, 901, 924, 957, 980, 1003, 1036, 1059, 1082, 1106, 1129, 1142, 1155, 1178, 1211, 1254, 1277, 1310, 1354, 1367, 1380, 1423, 1466, 1529, 1582, 1615] 32 rfl _ _ h).trans rfl
set_option maxRecDepth 100000 in
theorem e_263_589 (d : Nat) (a0 : Nat) (a1 : Nat) (a2 : Nat) (a3 : Int32) (h : MHeap) : ex d 263 589 [sv (.ref a0), sv (.ref a1), sv (.ref a2), sv (.int a3)] [] h = (
  alI none h a0 (a3 + (1 : Int32)) fun x1 =>
  vd none h a1 [11, 95] fun m2 =>
  cI (call d m2 [.ref a1, .int x1] h) fun x4 h3 =>
  alI none h3 a0 (a3 + (1 : Int32)) fun x5 =>
  vd none h3 a2 [12, 207] fun m6 =>
  cI (call d m6 [.ref a2, .int x5] h3) fun x8 h7 =>
  if x4 = x8 then
  (ex d 263 1615 [sv (.ref a0), sv (.ref a1), sv (.ref a2), sv (.int a3)] [] h7)
  else
  (zr none (0 : Int32) (some (some (.int (0 : Int32)), h7)))) :=
  (ex_unr p_263 o_263 [18, 244, 277, 300, 333, 356, 431, 444, 467, 500, 543, 556, 589, 612, 635, 648, 671, 694, 717, 740, 763, 796, 819, 842, 865, 878, 901, 924, 957, 980, 1003, 1036, 1059, 1082, 1106, 1129, 1142, 1155, 1178, 1211, 1254, 1277, 1310, 1354, 1367, 1380, 1423, 1466, 1529, 1582, 1615] 22 rfl _ _ h).trans rfl
set_option maxRecDepth 100000 in
theorem e_263_612 (d : Nat) (a0 : Nat) (a1 : Nat) (a2 : Nat) (a3 : Int32) (h : MHeap) : ex d 263 612 [sv (.ref a0), sv (.ref a1), sv (.ref a2), sv (.int a3)] [] h = (
  alI none h a0 (a3 + (1 : Int32)) fun x1 =>
  vd none h a1 [11, 96] fun m2 =>
  cI (call d m2 [.ref a1, .int x1] h) fun x4 h3 =>
  alI none h3 a0 (a3 + (1 : Int32)) fun x5 =>
  vd none h3 a2 [12, 208] fun m6 =>
  cI (call d m6 [.ref a2, .int x5] h3) fun x8 h7 =>
  if x4 = x8 then
  (ex d 263 1615 [sv (.ref a0), sv (.ref a1), sv (.ref a2), sv (.int a3)] [] h7)
  else
  (zr none (0 : Int32) (some (some (.int (0 : Int32)), h7)))) :=
  (ex_unr p_263 o_263 [18, 244, 277, 300, 333, 356, 431, 444, 467, 500, 543, 556, 589, 612, 635, 648, 671, 694, 717, 740, 763, 796, 819, 842, 865, 878, 901, 924, 957, 980, 1003, 1036, 1059, 1082, 1106, 1129, 1142, 1155, 1178, 1211, 1254, 1277, 1310, 1354, 1367, 1380, 1423, 1466, 1529, 1582, 1615] 22 rfl _ _ h).trans rfl
set_option maxRecDepth 100000 in
theorem e_263_635 (d : Nat) (a0 : Nat) (a1 : Nat) (a2 : Nat) (a3 : Int32) (h : MHeap) : ex d 263 635 [sv (.ref a0), sv (.ref a1), sv (.ref a2), sv (.int a3)] [] h = (
  vd none h a1 [11, 97] fun m1 =>
  cI (call d m1 [.ref a1] h) fun x3 h2 =>
  vd none h2 a2 [12, 211] fun m4 =>
  cI (call d m4 [.ref a2] h2) fun x6 h5 =>
  if x3 = x6 then
  (ex d 263 1615 [sv (.ref a0), sv (.ref a1), sv (.ref a2), sv (.int a3)] [] h5)
  else
  (zr none (0 : Int32) (some (some (.int (0 : Int32)), h5)))) :=
  (ex_unr p_263 o_263 [18, 244, 277, 300, 333, 356, 431, 444, 467, 500, 543, 556, 589, 612, 635, 648, 671, 694, 717, 740, 763, 796, 819, 842, 865, 878, 901, 924, 957, 980, 1003, 1036, 1059, 1082, 1106, 1129, 1142, 1155, 1178, 1211, 1254, 1277, 1310, 1354, 1367, 1380, 1423, 1466, 1529, 1582, 1615] 12 rfl _ _ h).trans rfl
set_option maxRecDepth 100000 in
theorem e_263_648 (d : Nat) (a0 : Nat) (a1 : Nat) (a2 : Nat) (a3 : Int32) (h : MHeap) : ex d 263 648 [sv (.ref a0), sv (.ref a1), sv (.ref a2), sv (.int a3)] [] h = (
  alI none h a0 (a3 + (1 : Int32)) fun x1 =>
  vd none h a1 [11, 98] fun m2 =>
  cI (call d m2 [.ref a1, .int x1] h) fun x4 h3 =>
  alI none h3 a0 (a3 + (1 : Int32)) fun x5 =>
  vd none h3 a2 [12, 212] fun m6 =>
  cI (call d m6 [.ref a2, .int x5] h3) fun x8 h7 =>
  if x4 = x8 then
  (ex d 263 1615 [sv (.ref a0), sv (.ref a1), sv (.ref a2), sv (.int a3)] [] h7)
  else
  (zr none (0 : Int32) (some (some (.int (0 : Int32)), h7)))) :=
  (ex_unr p_263 o_263 [18, 244, 277, 300, 333, 356, 431, 444, 467, 500, 543, 556, 589, 612, 635, 648, 671, 694, 717, 740, 763, 796, 819, 842, 865, 878, 901, 924, 957, 980, 1003, 1036, 1059, 1082, 1106, 1129, 1142, 1155, 1178, 1211, 1254, 1277, 1310, 1354, 1367, 1380, 1423, 1466, 1529, 1582, 1615] 22 rfl _ _ h).trans rfl
set_option maxRecDepth 100000 in
theorem e_263_671 (d : Nat) (a0 : Nat) (a1 : Nat) (a2 : Nat) (a3 : Int32) (h : MHeap) : ex d 263 671 [sv (.ref a0), sv (.ref a1), sv (.ref a2), sv (.int a3)] [] h = (
  alI none h a0 (a3 + (1 : Int32)) fun x1 =>
  vd none h a1 [11, 99] fun m2 =>
  cI (call d m2 [.ref a1, .int x1] h) fun x4 h3 =>
  alI none h3 a0 (a3 + (1 : Int32)) fun x5 =>
  vd none h3 a2 [12, 213] fun m6 =>
  cI (call d m6 [.ref a2, .int x5] h3) fun x8 h7 =>
  if x4 = x8 then
  (ex d 263 1615 [sv (.ref a0), sv (.ref a1), sv (.ref a2), sv (.int a3)] [] h7)
  else
  (zr none (0 : Int32) (some (some (.int (0 : Int32)), h7)))) :=
  (ex_unr p_263 o_263 [18, 244, 277, 300, 333, 356, 431, 444, 467, 500, 543, 556, 589, 612, 635, 648, 671, 694, 717, 740, 763, 796, 819, 842, 865, 878, 901, 924, 957, 980, 1003, 1036, 1059, 1082, 1106, 1129, 1142, 1155, 1178, 1211, 1254, 1277, 1310, 1354, 1367, 1380, 1423, 1466, 1529, 1582, 1615] 22 rfl _ _ h).trans rfl
set_option maxRecDepth 100000 in
theorem e_263_694 (d : Nat) (a0 : Nat) (a1 : Nat) (a2 : Nat) (a3 : Int32) (h : MHeap) : ex d 263 694 [sv (.ref a0), sv (.ref a1), sv (.ref a2), sv (.int a3)] [] h = (
  alI none h a0 (a3 + (1 : Int32)) fun x1 =>
  vd none h a1 [11, 100] fun m2 =>
  cI (call d m2 [.ref a1, .int x1] h) fun x4 h3 =>
  alI none h3 a0 (a3 + (1 : Int32)) fun x5 =>
  vd none h3 a2 [12, 214] fun m6 =>
  cI (call d m6 [.ref a2, .int x5] h3) fun x8 h7 =>
  if x4 = x8 then
  (ex d 263 1615 [sv (.ref a0), sv (.ref a1), sv (.ref a2), sv (.int a3)] [] h7)
  else
  (zr none (0 : Int32) (some (some (.int (0 : Int32)), h7)))) :=
  (ex_unr p_263 o_263 [18, 244, 277, 300, 333, 356, 431, 444, 467, 500, 543, 556, 589, 612, 635, 648, 671, 694, 717, 740, 763, 796, 819, 842, 865, 878, 901, 924, 957, 980, 1003, 1036, 1059, 1082, 1106, 1129, 1142, 1155, 1178, 1211, 1254, 1277, 1310, 1354, 1367, 1380, 1423, 1466, 1529, 1582, 1615] 22 rfl _ _ h).trans rfl
set_option maxRecDepth 100000 in
theorem e_263_717 (d : Nat) (a0 : Nat) (a1 : Nat) (a2 : Nat) (a3 : Int32) (h : MHeap) : ex d 263 717 [sv (.ref a0), sv (.ref a1), sv (.ref a2), sv (.int a3)] [] h = (
  alI none h a0 (a3 + (1 : Int32)) fun x1 =>
  vd none h a1 [11, 101] fun m2 =>
  cI (call d m2 [.ref a1, .int x1] h) fun x4 h3 =>
  alI none h3 a0 (a3 + (1 : Int32)) fun x5 =>
  vd none h3 a2 [12, 215] fun m6 =>
  cI (call d m6 [.ref a2, .int x5] h3) fun x8 h7 =>
  if x4 = x8 then
  (ex d 263 1615 [sv (.ref a0), sv (.ref a1), sv (.ref a2), sv (.int a3)] [] h7)
  else
  (zr none (0 : Int32) (some (some (.int (0 : Int32)), h7)))) :=
  (ex_unr p_263 o_263 [18, 244, 277, 300, 333, 356, 431, 444, 467, 500, 543, 556, 589, 612, 635, 648, 671, 694, 717, 740, 763, 796, 819, 842, 865, 878, 901, 924, 957, 980, 1003, 1036, 1059, 1082, 1106, 1129, 1142, 1155, 1178, 1211, 1254, 1277, 1310, 1354, 1367, 1380, 1423, 1466, 1529, 1582, 1615] 22 rfl _ _ h).trans rfl
set_option maxRecDepth 100000 in
theorem e_263_740 (d : Nat) (a0 : Nat) (a1 : Nat) (a2 : Nat) (a3 : Int32) (h : MHeap) : ex d 263 740 [sv (.ref a0), sv (.ref a1), sv (.ref a2), sv (.int a3)] [] h = (
  alI none h a0 (a3 + (1 : Int32)) fun x1 =>
  vd none h a1 [11, 102] fun m2 =>
  cI (call d m2 [.ref a1, .int x1] h) fun x4 h3 =>
  alI none h3 a0 (a3 + (1 : Int32)) fun x5 =>
  vd none h3 a2 [12, 216] fun m6 =>
  cI (call d m6 [.ref a2, .int x5] h3) fun x8 h7 =>
  if x4 = x8 then
  (ex d 263 1615 [sv (.ref a0), sv (.ref a1), sv (.ref a2), sv (.int a3)] [] h7)
  else
  (zr none (0 : Int32) (some (some (.int (0 : Int32)), h7)))) :=
  (ex_unr p_263 o_263 [18, 244, 277, 300, 333, 356, 431, 444, 467, 500, 543, 556, 589, 612, 635, 648, 671, 694, 717, 740, 763, 796, 819, 842, 865, 878, 901, 924, 957, 980, 1003, 1036, 1059, 1082, 1106, 1129, 1142, 1155, 1178, 1211, 1254, 1277, 1310, 1354, 1367, 1380, 1423, 1466, 1529, 1582, 1615] 22 rfl _ _ h).trans rfl
set_option maxRecDepth 100000 in
theorem e_263_763 (d : Nat) (a0 : Nat) (a1 : Nat) (a2 : Nat) (a3 : Int32) (h : MHeap) : ex d 263 763 [sv (.ref a0), sv (.ref a1), sv (.ref a2), sv (.int a3)] [] h = (
  alI none h a0 (a3 + (1 : Int32)) fun x1 =>
  alI none h a0 (a3 + (2 : Int32)) fun x2 =>
  vd none h a1 [11, 103] fun m3 =>
  cI (call d m3 [.ref a1, .int x1, .int x2] h) fun x5 h4 =>
  alI none h4 a0 (a3 + (1 : Int32)) fun x6 =>
  alI none h4 a0 (a3 + (2 : Int32)) fun x7 =>
  vd none h4 a2 [12, 218] fun m8 =>
  cI (call d m8 [.ref a2, .int x6, .int x7] h4) fun x10 h9 =>
  if x5 = x10 then
  (ex d 263 1615 [sv (.ref a0), sv (.ref a1), sv (.ref a2), sv (.int a3)] [] h9)
  else
  (zr none (0 : Int32) (some (some (.int (0 : Int32)), h9)))) :=
  (ex_unr p_263 o_263 [18, 244, 277, 300, 333, 356, 431, 444, 467, 500, 543, 556, 589, 612, 635, 648, 671, 694, 717, 740, 763, 796, 819, 842, 865, 878, 901, 924, 957, 980, 1003, 1036, 1059, 1082, 1106, 1129, 1142, 1155, 1178, 1211, 1254, 1277, 1310, 1354, 1367, 1380, 1423, 1466, 1529, 1582, 1615] 32 rfl _ _ h).trans rfl
set_option maxRecDepth 100000 in
theorem e_263_796 (d : Nat) (a0 : Nat) (a1 : Nat) (a2 : Nat) (a3 : Int32) (h : MHeap) : ex d 263 796 [sv (.ref a0), sv (.ref a1), sv (.ref a2), sv (.int a3)] [] h = (
  alI none h a0 (a3 + (1 : Int32)) fun x1 =>
  vd none h a1 [11, 104] fun m2 =>
  cI (call d m2 [.ref a1, .int x1] h) fun x4 h3 =>
  alI none h3 a0 (a3 + (1 : Int32)) fun x5 =>
  vd none h3 a2 [12, 219] fun m6 =>
  cI (call d m6 [.ref a2, .int x5] h3) fun x8 h7 =>
  if x4 = x8 then
  (ex d 263 1615 [sv (.ref a0), sv (.ref a1), sv (.ref a2), sv (.int a3)] [] h7)
  else
  (zr none (0 : Int32) (some (some (.int (0 : Int32)), h7)))) :=
  (ex_unr p_263 o_263 [18, 244, 277, 300, 333, 356, 431, 444, 467, 500, 543, 556, 589, 612, 635, 648, 671, 694, 717, 740, 763, 796, 819, 842, 865, 878, 901, 924, 957, 980, 1003, 1036, 1059, 1082, 1106, 1129, 1142, 1155, 1178, 1211, 1254, 1277, 1310, 1354, 1367, 1380, 1423, 1466, 1529, 1582, 1615] 22 rfl _ _ h).trans rfl
set_option maxRecDepth 100000 in
theorem e_263_819 (d : Nat) (a0 : Nat) (a1 : Nat) (a2 : Nat) (a3 : Int32) (h : MHeap) : ex d 263 819 [sv (.ref a0), sv (.ref a1), sv (.ref a2), sv (.int a3)] [] h = (
  alI none h a0 (a3 + (1 : Int32)) fun x1 =>
  vd none h a1 [11, 105] fun m2 =>
  cI (call d m2 [.ref a1, .int x1] h) fun x4 h3 =>
  alI none h3 a0 (a3 + (1 : Int32)) fun x5 =>
  vd none h3 a2 [12, 220] fun m6 =>
  cI (call d m6 [.ref a2, .int x5] h3) fun x8 h7 =>
  if x4 = x8 then
  (ex d 263 1615 [sv (.ref a0), sv (.ref a1), sv (.ref a2), sv (.int a3)] [] h7)
  else
  (zr none (0 : Int32) (some (some (.int (0 : Int32)), h7)))) :=
  (ex_unr p_263 o_263 [18, 244, 277, 300, 333, 356, 431, 444, 467, 500, 543, 556, 589, 612, 635, 648, 671, 694, 717, 740, 763, 796, 819, 842, 865, 878, 901, 924, 957, 980, 1003, 1036, 1059, 1082, 1106, 1129, 1142, 1155, 1178, 1211, 1254, 1277, 1310, 1354, 1367, 1380, 1423, 1466, 1529, 1582, 1615] 22 rfl _ _ h).trans rfl
set_option maxRecDepth 100000 in
theorem e_263_842 (d : Nat) (a0 : Nat) (a1 : Nat) (a2 : Nat) (a3 : Int32) (h : MHeap) : ex d 263 842 [sv (.ref a0), sv (.ref a1), sv (.ref a2), sv (.int a3)] [] h = (
  alI none h a0 (a3 + (1 : Int32)) fun x1 =>
  vd none h a1 [11, 106] fun m2 =>
  cI (call d m2 [.ref a1, .int x1] h) fun x4 h3 =>
  alI none h3 a0 (a3 + (1 : Int32)) fun x5 =>
  vd none h3 a2 [12, 222] fun m6 =>
  cI (call d m6 [.ref a2, .int x5] h3) fun x8 h7 =>
  if x4 = x8 then
  (ex d 263 1615 [sv (.ref a0), sv (.ref a1), sv (.ref a2), sv (.int a3)] [] h7)
  else
  (zr none (0 : Int32) (some (some (.int (0 : Int32)), h7)))) :=
  (ex_unr p_263 o_263 [18, 244, 277, 300, 333, 356, 431, 444, 467, 500, 543, 556, 589, 612, 635, 648, 671, 694, 717, 740, 763, 796, 819, 842, 865, 878, 901, 924, 957, 980, 1003, 1036, 1059, 1082, 1106, 1129, 1142, 1155, 1178, 1211, 1254, 1277, 1310, 1354, 1367, 1380, 1423, 1466, 1529, 1582, 1615] 22 rfl _ _ h).trans rfl
set_option maxRecDepth 100000 in
theorem e_263_865 (d : Nat) (a0 : Nat) (a1 : Nat) (a2 : Nat) (a3 : Int32) (h : MHeap) : ex d 263 865 [sv (.ref a0), sv (.ref a1), sv (.ref a2), sv (.int a3)] [] h = (
  vd none h a1 [11, 107] fun m1 =>
  cI (call d m1 [.ref a1] h) fun x3 h2 =>
  vd none h2 a2 [12, 224] fun m4 =>
  cI (call d m4 [.ref a2] h2) fun x6 h5 =>
  if x3 = x6 then
  (ex d 263 1615 [sv (.ref a0), sv (.ref a1), sv (.ref a2), sv (.int a3)] [] h5)
  else
  (zr none (0 : Int32) (some (some (.int (0 : Int32)), h5)))) :=
  (ex_unr p_263 o_263 [18, 244, 277, 300, 333, 356, 431, 444, 467, 500, 543, 556, 589, 612, 635, 648, 671, 694, 717, 740, 763, 796, 819, 842, 865, 878, 901, 924, 957, 980, 1003, 1036, 1059, 1082, 1106, 1129, 1142, 1155, 1178, 1211, 1254, 1277, 1310, 1354, 1367, 1380, 1423, 1466, 1529, 1582, 1615] 12 rfl _ _ h).trans rfl
set_option maxRecDepth 100000 in
theorem e_263_878 (d : Nat) (a0 : Nat) (a1 : Nat) (a2 : Nat) (a3 : Int32) (h : MHeap) : ex d 263 878 [sv (.ref a0), sv (.ref a1), sv (.ref a2), sv (.int a3)] [] h = (
  alI none h a0 (a3 + (1 : Int32)) fun x1 =>
  vd none h a1 [11, 108] fun m2 =>
  cI (call d m2 [.ref a1, .int x1] h) fun x4 h3 =>
  alI none h3 a0 (a3 + (1 : Int32)) fun x5 =>
  vd none h3 a2 [12, 225] fun m6 =>
  cI (call d m6 [.ref a2, .int x5] h3) fun x8 h7 =>
  if x4 = x8 then
  (ex d 263 1615 [sv (.ref a0), sv (.ref a1), sv (.ref a2), sv (.int a3)] [] h7)
  else
  (zr none (0 : Int32) (some (some (.int (0 : Int32)), h7)))) :=
  (ex_unr p_263 o_263 [18, 244, 277, 300, 333, 356, 431, 444, 467, 500, 543, 556, 589, 612, 635, 648, 671, 694, 717, 740, 763, 796, 819, 842, 865, 878, 901, 924, 957, 980, 1003, 1036, 1059, 1082, 1106, 1129, 1142, 1155, 1178, 1211, 1254, 1277, 1310, 1354, 1367, 1380, 1423, 1466, 1529, 1582, 1615] 22 rfl _ _ h).trans rfl
set_option maxRecDepth 100000 in
theorem e_263_901 (d : Nat) (a0 : Nat) (a1 : Nat) (a2 : Nat) (a3 : Int32) (h : MHeap) : ex d 263 901 [sv (.ref a0), sv (.ref a1), sv (.ref a2), sv (.int a3)] [] h = (
  alI none h a0 (a3 + (1 : Int32)) fun x1 =>
  vd none h a1 [11, 109] fun m2 =>
  cI (call d m2 [.ref a1, .int x1] h) fun x4 h3 =>
  alI none h3 a0 (a3 + (1 : Int32)) fun x5 =>
  vd none h3 a2 [12, 226] fun m6 =>
  cI (call d m6 [.ref a2, .int x5] h3) fun x8 h7 =>
  if x4 = x8 then
  (ex d 263 1615 [sv (.ref a0), sv (.ref a1), sv (.ref a2), sv (.int a3)] [] h7)
  else
  (zr none (0 : Int32) (some (some (.int (0 : Int32)), h7)))) :=
  (ex_unr p_263 o_263 [18, 244, 277, 300, 333, 356, 431, 444, 467, 500, 543, 556, 589, 612, 635, 648, 671, 694, 717, 740, 763, 796, 819, 842, 865, 878, 901, 924, 957, 980, 1003, 1036, 1059, 1082, 1106, 1129, 1142, 1155, 1178, 1211, 1254, 1277, 1310, 1354, 1367, 1380, 1423, 1466, 1529, 1582, 1615] 22 rfl _ _ h).trans rfl
set_option maxRecDepth 100000 in
theorem e_263_924 (d : Nat) (a0 : Nat) (a1 : Nat) (a2 : Nat) (a3 : Int32) (h : MHeap) : ex d 263 924 [sv (.ref a0), sv (.ref a1), sv (.ref a2), sv (.int a3)] [] h = (
  alI none h a0 (a3 + (1 : Int32)) fun x1 =>
  alI none h a0 (a3 + (2 : Int32)) fun x2 =>
  vd none h a1 [11, 110] fun m3 =>
  cI (call d m3 [.ref a1, .int x1, .int x2] h) fun x5 h4 =>
  alI none h4 a0 (a3 + (1 : Int32)) fun x6 =>
  alI none h4 a0 (a3 + (2 : Int32)) fun x7 =>
  vd none h4 a2 [12, 227] fun m8 =>
  cI (call d m8 [.ref a2, .int x6, .int x7] h4) fun x10 h9 =>
  if x5 = x10 then
  (ex d 263 1615 [sv (.ref a0), sv (.ref a1), sv (.ref a2), sv (.int a3)] [] h9)
  else
  (zr none (0 : Int32) (some (some (.int (0 : Int32)), h9)))) :=
  (ex_unr p_263 o_263 [18, 244, 277, 300, 333, 356, 431, 444, 467, 500, 543, 556, 589, 612, 635, 648, 671, 694, 717, 740, 763, 796, 819, 842, 865, 878, 901, 924, 957, 980, 1003, 1036, 1059, 1082, 1106, 1129, 1142, 1155, 1178, 1211, 1254, 1277, 1310, 1354, 1367, 1380, 1423, 1466, 1529, 1582, 1615] 32 rfl _ _ h).trans rfl
set_option maxRecDepth 100000 in
theorem e_263_957 (d : Nat) (a0 : Nat) (a1 : Nat) (a2 : Nat) (a3 : Int32) (h : MHeap) : ex d 263 957 [sv (.ref a0), sv (.ref a1), sv (.ref a2), sv (.int a3)] [] h = (
  alI none h a0 (a3 + (1 : Int32)) fun x1 =>
  vd none h a1 [11, 111] fun m2 =>
  cI (call d m2 [.ref a1, .int x1] h) fun x4 h3 =>
  alI none h3 a0 (a3 + (1 : Int32)) fun x5 =>
  vd none h3 a2 [12, 229] fun m6 =>
  cI (call d m6 [.ref a2, .int x5] h3) fun x8 h7 =>
  if x4 = x8 then
  (ex d 263 1615 [sv (.ref a0), sv (.ref a1), sv (.ref a2), sv (.int a3)] [] h7)
  else
  (zr none (0 : Int32) (some (some (.int (0 : Int32)), h7)))) :=
  (ex_unr p_263 o_263 [18, 244, 277, 300, 333, 356, 431, 444, 467, 500, 543, 556, 589, 612, 635, 648, 671, 694, 717, 740, 763, 796, 819, 842, 865, 878, 901, 924, 957, 980, 1003, 1036, 1059, 1082, 1106, 1129, 1142, 1155, 1178, 1211, 1254, 1277, 1310, 1354, 1367, 1380, 1423, 1466, 1529, 1582, 1615] 22 rfl _ _ h).trans rfl
set_option maxRecDepth 100000 in
theorem e_263_980 (d : Nat) (a0 : Nat) (a1 : Nat) (a2 : Nat) (a3 : Int32) (h : MHeap) : ex d 263 980 [sv (.ref a0), sv (.ref a1), sv (.ref a2), sv (.int a3)] [] h = (
  alI none h a0 (a3 + (1 : Int32)) fun x1 =>
  vd none h a1 [11, 112] fun m2 =>
  cI (call d m2 [.ref a1, .int x1] h) fun x4 h3 =>
  alI none h3 a0 (a3 + (1 : Int32)) fun x5 =>
  vd none h3 a2 [12, 230] fun m6 =>
  cI (call d m6 [.ref a2, .int x5] h3) fun x8 h7 =>
  if x4 = x8 then
  (ex d 263 1615 [sv (.ref a0), sv (.ref a1), sv (.ref a2), sv (.int a3)] [] h7)
  else
  (zr none (0 : Int32) (some (some (.int (0 : Int32)), h7)))) :=
  (ex_unr p_263 o_263 [18, 244, 277, 300, 333, 356, 431, 444, 467, 500, 543, 556, 589, 612, 635, 648, 671, 694, 717, 740, 763, 796, 819, 842, 865, 878, 901, 924, 957, 980, 1003, 1036, 1059, 1082, 1106, 1129, 1142, 1155, 1178, 1211, 1254, 1277, 1310, 1354, 1367, 1380, 1423, 1466, 1529, 1582, 1615] 22 rfl _ _ h).trans rfl
set_option maxRecDepth 100000 in
theorem e_263_1003 (d : Nat) (a0 : Nat) (a1 : Nat) (a2 : Nat) (a3 : Int32) (h : MHeap) : ex d 263 1003 [sv (.ref a0), sv (.ref a1), sv (.ref a2), sv (.int a3)] [] h = (
  alI none h a0 (a3 + (1 : Int32)) fun x1 =>
  alI none h a0 (a3 + (2 : Int32)) fun x2 =>
  vd none h a1 [11, 113] fun m3 =>
  cI (call d m3 [.ref a1, .int x1, .int x2] h) fun x5 h4 =>
  alI none h4 a0 (a3 + (1 : Int32)) fun x6 =>
  alI none h4 a0 (a3 + (2 : Int32)) fun x7 =>
  vd none h4 a2 [12, 232] fun m8 =>
  cI (call d m8 [.ref a2, .int x6, .int x7] h4) fun x10 h9 =>
  if x5 = x10 then
  (ex d 263 1615 [sv (.ref a0), sv (.ref a1), sv (.ref a2), sv (.int a3)] [] h9)
  else
  (zr none (0 : Int32) (some (some (.int (0 : Int32)), h9)))) :=
  (ex_unr p_263 o_263 [18, 244, 277, 300, 333, 356, 431, 444, 467, 500, 543, 556, 589, 612, 635, 648, 671, 694, 717, 740, 763, 796, 819, 842, 865, 878, 901, 924, 957, 980, 1003, 1036, 1059, 1082, 1106, 1129, 1142, 1155, 1178, 1211, 1254, 1277, 1310, 1354, 1367, 1380, 1423, 1466, 1529, 1582, 1615] 32 rfl _ _ h).trans rfl
set_option maxRecDepth 100000 in
theorem e_263_1036 (d : Nat) (a0 : Nat) (a1 : Nat) (a2 : Nat) (a3 : Int32) (h : MHeap) : ex d 263 1036 [sv (.ref a0), sv (.ref a1), sv (.ref a2), sv (.int a3)] [] h = (
  alI none h a0 (a3 + (1 : Int32)) fun x1 =>
  vd none h a1 [11, 114] fun m2 =>
  cI (call d m2 [.ref a1, .int x1] h) fun x4 h3 =>
  alI none h3 a0 (a3 + (1 : Int32)) fun x5 =>
  vd none h3 a2 [12, 233] fun m6 =>
  cI (call d m6 [.ref a2, .int x5] h3) fun x8 h7 =>
  if x4 = x8 then
  (ex d 263 1615 [sv (.ref a0), sv (.ref a1), sv (.ref a2), sv (.int a3)] [] h7)
  else
  (zr none (0 : Int32) (some (some (.int (0 : Int32)), h7)))) :=
  (ex_unr p_263 o_263 [18, 244, 277, 300, 333, 356, 431, 444, 467, 500, 543, 556, 589, 612, 635, 648, 671, 694, 717, 740, 763, 796, 819, 842, 865, 878, 901, 924, 957, 980, 1003, 1036, 1059, 1082, 1106, 1129, 1142, 1155, 1178, 1211, 1254, 1277, 1310, 1354, 1367, 1380, 1423, 1466, 1529, 1582, 1615] 22 rfl _ _ h).trans rfl
set_option maxRecDepth 100000 in
theorem e_263_1059 (d : Nat) (a0 : Nat) (a1 : Nat) (a2 : Nat) (a3 : Int32) (h : MHeap) : ex d 263 1059 [sv (.ref a0), sv (.ref a1), sv (.ref a2), sv (.int a3)] [] h = (
  alI none h a0 (a3 + (1 : Int32)) fun x1 =>
  vd none h a1 [11, 115] fun m2 =>
  cI (call d m2 [.ref a1, .int x1] h) fun x4 h3 =>
  alI none h3 a0 (a3 + (1 : Int32)) fun x5 =>
  vd none h3 a2 [12, 236] fun m6 =>
  cI (call d m6 [.ref a2, .int x5] h3) fun x8 h7 =>
  if x4 = x8 then
  (ex d 263 1615 [sv (.ref a0), sv (.ref a1), sv (.ref a2), sv (.int a3)] [] h7)
  else
  (zr none (0 : Int32) (some (some (.int (0 : Int32)), h7)))) :=
  (ex_unr p_263 o_263 [18, 244, 277, 300, 333, 356, 431, 444, 467, 500, 543, 556, 589, 612, 635, 648, 671, 694, 717, 740, 763, 796, 819, 842, 865, 878, 901, 924, 957, 980, 1003, 1036, 1059, 1082, 1106, 1129, 1142, 1155, 1178, 1211, 1254, 1277, 1310, 1354, 1367, 1380, 1423, 1466, 1529, 1582, 1615] 22 rfl _ _ h).trans rfl
set_option maxRecDepth 100000 in
theorem e_263_1082 (d : Nat) (a0 : Nat) (a1 : Nat) (a2 : Nat) (a3 : Int32) (h : MHeap) : ex d 263 1082 [sv (.ref a0), sv (.ref a1), sv (.ref a2), sv (.int a3)] [] h = (
  alI none h a0 (a3 + (1 : Int32)) fun x1 =>
  vd none h a1 [11, 116] fun m2 =>
  cJ (call d m2 [.ref a1, .int x1] h) fun y4 h3 =>
  alI none h3 a0 (a3 + (1 : Int32)) fun x5 =>
  vd none h3 a2 [12, 238] fun m6 =>
  cJ (call d m6 [.ref a2, .int x5] h3) fun y8 h7 =>
  if (if y4 = y8 then 0 else if y4 < y8 then -1 else 1 : Int32) = (0 : Int32) then
  (ex d 263 1615 [sv (.ref a0), sv (.ref a1), sv (.ref a2), sv (.int a3)] [] h7)
  else
  (zr none (0 : Int32) (some (some (.int (0 : Int32)), h7)))) :=
  (ex_unr p_263 o_263 [18, 244, 277, 300, 333, 356, 431, 444, 467, 500, 543, 556, 589, 612, 635, 648, 671, 694, 717, 740, 763, 796, 819, 842, 865, 878, 901, 924, 957, 980, 1003, 1036, 1059, 1082, 1106, 1129, 1142, 1155, 1178, 1211, 1254, 1277, 1310, 1354, 1367, 1380, 1423, 1466, 1529, 1582, 1615] 23 rfl _ _ h).trans rfl
set_option maxRecDepth 100000 in
theorem e_263_1106 (d : Nat) (a0 : Nat) (a1 : Nat) (a2 : Nat) (a3 : Int32) (h : MHeap) : ex d 263 1106 [sv (.ref a0), sv (.ref a1), sv (.ref a2), sv (.int a3)] [] h = (
  alI none h a0 (a3 + (1 : Int32)) fun x1 =>
  vd none h a1 [11, 117] fun m2 =>
  cI (call d m2 [.ref a1, .int x1] h) fun x4 h3 =>
  alI none h3 a0 (a3 + (1 : Int32)) fun x5 =>
  vd none h3 a2 [12, 239] fun m6 =>
  cI (call d m6 [.ref a2, .int x5] h3) fun x8 h7 =>
  if x4 = x8 then
  (ex d 263 1615 [sv (.ref a0), sv (.ref a1), sv (.ref a2), sv (.int a3)] [] h7)
  else
  (zr none (0 : Int32) (some (some (.int (0 : Int32)), h7)))) :=
  (ex_unr p_263 o_263 [18, 244, 277, 300, 333, 356, 431, 444, 467, 500, 543, 556, 589, 612, 635, 648, 671, 694, 717, 740, 763, 796, 819, 842, 865, 878, 901, 924, 957, 980, 1003, 1036, 1059, 1082, 1106, 1129, 1142, 1155, 1178, 1211, 1254, 1277, 1310, 1354, 1367, 1380, 1423, 1466, 1529, 1582, 1615] 22 rfl _ _ h).trans rfl
set_option maxRecDepth 100000 in
theorem e_263_1129 (d : Nat) (a0 : Nat) (a1 : Nat) (a2 : Nat) (a3 : Int32) (h : MHeap) : ex d 263 1129 [sv (.ref a0), sv (.ref a1), sv (.ref a2), sv (.int a3)] [] h = (
  vd none h a1 [11, 118] fun m1 =>
  cI (call d m1 [.ref a1] h) fun x3 h2 =>
  vd none h2 a2 [12, 240] fun m4 =>
  cI (call d m4 [.ref a2] h2) fun x6 h5 =>
  if x3 = x6 then
  (ex d 263 1615 [sv (.ref a0), sv (.ref a1), sv (.ref a2), sv (.int a3)] [] h5)
  else
  (zr none (0 : Int32) (some (some (.int (0 : Int32)), h5)))) :=
  (ex_unr p_263 o_263 [18, 244, 277, 300, 333, 356, 431, 444, 467, 500, 543, 556, 589, 612, 635, 648, 671, 694, 717, 740, 763, 796, 819, 842, 865, 878, 901, 924, 957, 980, 1003, 1036, 1059, 1082, 1106, 1129, 1142, 1155, 1178, 1211, 1254, 1277, 1310, 1354, 1367, 1380, 1423, 1466, 1529, 1582, 1615] 12 rfl _ _ h).trans rfl
set_option maxRecDepth 100000 in
theorem e_263_1142 (d : Nat) (a0 : Nat) (a1 : Nat) (a2 : Nat) (a3 : Int32) (h : MHeap) : ex d 263 1142 [sv (.ref a0), sv (.ref a1), sv (.ref a2), sv (.int a3)] [] h = (
  vd none h a1 [11, 119] fun m1 =>
  cI (call d m1 [.ref a1] h) fun x3 h2 =>
  vd none h2 a2 [12, 241] fun m4 =>
  cI (call d m4 [.ref a2] h2) fun x6 h5 =>
  if x3 = x6 then
  (ex d 263 1615 [sv (.ref a0), sv (.ref a1), sv (.ref a2), sv (.int a3)] [] h5)
  else
  (zr none (0 : Int32) (some (some (.int (0 : Int32)), h5)))) :=
  (ex_unr p_263 o_263 [18, 244, 277, 300, 333, 356, 431, 444, 467, 500, 543, 556, 589, 612, 635, 648, 671, 694, 717, 740, 763, 796, 819, 842, 865, 878, 901, 924, 957, 980, 1003, 1036, 1059, 1082, 1106, 1129, 1142, 1155, 1178, 1211, 1254, 1277, 1310, 1354, 1367, 1380, 1423, 1466, 1529, 1582, 1615] 12 rfl _ _ h).trans rfl
set_option maxRecDepth 100000 in
theorem e_263_1155 (d : Nat) (a0 : Nat) (a1 : Nat) (a2 : Nat) (a3 : Int32) (h : MHeap) : ex d 263 1155 [sv (.ref a0), sv (.ref a1), sv (.ref a2), sv (.int a3)] [] h = (
  alI none h a0 (a3 + (1 : Int32)) fun x1 =>
  vd none h a1 [11, 120] fun m2 =>
  cI (call d m2 [.ref a1, .int x1] h) fun x4 h3 =>
  alI none h3 a0 (a3 + (1 : Int32)) fun x5 =>
  vd none h3 a2 [12, 244] fun m6 =>
  cI (call d m6 [.ref a2, .int x5] h3) fun x8 h7 =>
  if x4 = x8 then
  (ex d 263 1615 [sv (.ref a0), sv (.ref a1), sv (.ref a2), sv (.int a3)] [] h7)
  else
  (zr none (0 : Int32) (some (some (.int (0 : Int32)), h7)))) :=
  (ex_unr p_263 o_263 [18, 244, 277, 300, 333, 356, 431, 444, 467, 500, 543, 556, 589, 612, 635, 648, 671, 694, 717, 740, 763, 796, 819, 842, 865, 878, 901, 924, 957, 980, 1003, 1036, 1059, 1082, 1106, 1129, 1142, 1155, 1178, 1211, 1254, 1277, 1310, 1354, 1367, 1380, 1423, 1466, 1529, 1582, 1615] 22 rfl _ _ h).trans rfl
set_option maxRecDepth 100000 in
theorem e_263_1178 (d : Nat) (a0 : Nat) (a1 : Nat) (a2 : Nat) (a3 : Int32) (h : MHeap) : ex d 263 1178 [sv (.ref a0), sv (.ref a1), sv (.ref a2), sv (.int a3)] [] h = (
  alI none h a0 (a3 + (1 : Int32)) fun x1 =>
  alI none h a0 (a3 + (2 : Int32)) fun x2 =>
  vd none h a1 [11, 121] fun m3 =>
  cI (call d m3 [.ref a1, .int x1, .int x2] h) fun x5 h4 =>
  alI none h4 a0 (a3 + (1 : Int32)) fun x6 =>
  alI none h4 a0 (a3 + (2 : Int32)) fun x7 =>
  vd none h4 a2 [12, 245] fun m8 =>
  cI (call d m8 [.ref a2, .int x6, .int x7] h4) fun x10 h9 =>
  if x5 = x10 then
  (ex d 263 1615 [sv (.ref a0), sv (.ref a1), sv (.ref a2), sv (.int a3)] [] h9)
  else
  (zr none (0 : Int32) (some (some (.int (0 : Int32)), h9)))) :=
  (ex_unr p_263 o_263 [18, 244, 277, 300, 333, 356, 431, 444, 467, 500, 543, 556, 589, 612, 635, 648, 671, 694, 717, 740, 763, 796, 819, 842, 865, 878, 901, 924, 957, 980, 1003, 1036, 1059, 1082, 1106, 1129, 1142, 1155, 1178, 1211, 1254, 1277, 1310, 1354, 1367, 1380, 1423, 1466, 1529, 1582, 1615] 32 rfl _ _ h).trans rfl
set_option maxRecDepth 100000 in
theorem e_263_1211 (d : Nat) (a0 : Nat) (a1 : Nat) (a2 : Nat) (a3 : Int32) (h : MHeap) : ex d 263 1211 [sv (.ref a0), sv (.ref a1), sv (.ref a2), sv (.int a3)] [] h = (
  alI none h a0 (a3 + (1 : Int32)) fun x1 =>
  alI none h a0 (a3 + (2 : Int32)) fun x2 =>
  alI none h a0 (a3 + (3 : Int32)) fun x3 =>
  vd none h a1 [11, 122] fun m4 =>
  cI (call d m4 [.ref a1, .int x1, .int x2, .int x3] h) fun x6 h5 =>
  alI none h5 a0 (a3 + (1 : Int32)) fun x7 =>
  alI none h5 a0 (a3 + (2 : Int32)) fun x8 =>
  alI none h5 a0 (a3 + (3 : Int32)) fun x9 =>
  vd none h5 a2 [12, 246] fun m10 =>
  cI (call d m10 [.ref a2, .int x7, .int x8, .int x9] h5) fun x12 h11 =>
  if x6 = x12 then
  (ex d 263 1615 [sv (.ref a0), sv (.ref a1), sv (.ref a2), sv (.int a3)] [] h11)
  else
  (zr none (0 : Int32) (some (some (.int (0 : Int32)), h11)))) :=
  (ex_unr p_263 o_263 [18, 244, 277, 300, 333, 356, 431, 444, 467, 500, 543, 556, 589, 612, 635, 648, 671, 694, 717, 740, 763, 796, 819, 842, 865, 878, 901, 924, 957, 980, 1003, 1036, 1059, 1082, 1106, 1129, 1142, 1155, 1178, 1211, 1254, 1277, 1310, 1354, 1367, 1380, 1423, 1466, 1529, 1582, 1615] 42 rfl _ _ h).trans rfl
set_option maxRecDepth 100000 in
theorem e_263_1254 (d : Nat) (a0 : Nat) (a1 : Nat) (a2 : Nat) (a3 : Int32) (h : MHeap) : ex d 263 1254 [sv (.ref a0), sv (.ref a1), sv (.ref a2), sv (.int a3)] [] h = (
  alI none h a0 (a3 + (1 : Int32)) fun x1 =>
  vd none h a1 [11, 123] fun m2 =>
  cI (call d m2 [.ref a1, .int x1] h) fun x4 h3 =>
  alI none h3 a0 (a3 + (1 : Int32)) fun x5 =>
  vd none h3 a2 [12, 247] fun m6 =>
  cI (call d m6 [.ref a2, .int x5] h3) fun x8 h7 =>
  if x4 = x8 then
  (ex d 263 1615 [sv (.ref a0), sv (.ref a1), sv (.ref a2), sv (.int a3)] [] h7)
  else
  (zr none (0 : Int32) (some (some (.int (0 : Int32)), h7)))) :=
  (ex_unr p_263 o_263 [18, 244, 277, 300, 333, 356, 431, 444, 467, 500, 543, 556, 589, 612, 635, 648, 671, 694, 717, 740, 763, 796, 819, 842, 865, 878, 901, 924, 957, 980, 1003, 1036, 1059, 1082, 1106, 1129, 1142, 1155, 1178, 1211, 1254, 1277, 1310, 1354, 1367, 1380, 1423, 1466, 1529, 1582, 1615] 22 rfl _ _ h).trans rfl
set_option maxRecDepth 100000 in
theorem e_263_1277 (d : Nat) (a0 : Nat) (a1 : Nat) (a2 : Nat) (a3 : Int32) (h : MHeap) : ex d 263 1277 [sv (.ref a0), sv (.ref a1), sv (.ref a2), sv (.int a3)] [] h = (
  alI none h a0 (a3 + (1 : Int32)) fun x1 =>
  alI none h a0 (a3 + (2 : Int32)) fun x2 =>
  vd none h a1 [11, 124] fun m3 =>
  cI (call d m3 [.ref a1, .int x1, .int x2] h) fun x5 h4 =>
  alI none h4 a0 (a3 + (1 : Int32)) fun x6 =>
  alI none h4 a0 (a3 + (2 : Int32)) fun x7 =>
  vd none h4 a2 [12, 250] fun m8 =>
  cI (call d m8 [.ref a2, .int x6, .int x7] h4) fun x10 h9 =>
  if x5 = x10 then
  (ex d 263 1615 [sv (.ref a0), sv (.ref a1), sv (.ref a2), sv (.int a3)] [] h9)
  else
  (zr none (0 : Int32) (some (some (.int (0 : Int32)), h9)))) :=
  (ex_unr p_263 o_263 [18, 244, 277, 300, 333, 356, 431, 444, 467, 500, 543, 556, 589, 612, 635, 648, 671, 694, 717, 740, 763, 796, 819, 842, 865, 878, 901, 924, 957, 980, 1003, 1036, 1059, 1082, 1106, 1129, 1142, 1155, 1178, 1211, 1254, 1277, 1310, 1354, 1367, 1380, 1423, 1466, 1529, 1582, 1615] 32 rfl _ _ h).trans rfl
set_option maxRecDepth 100000 in
theorem e_263_1310 (d : Nat) (a0 : Nat) (a1 : Nat) (a2 : Nat) (a3 : Int32) (h : MHeap) : ex d 263 1310 [sv (.ref a0), sv (.ref a1), sv (.ref a2), sv (.int a3)] [] h = (
  alI none h a0 (a3 + (1 : Int32)) fun x1 =>
  alI none h a0 (a3 + (2 : Int32)) fun x2 =>
  alI none h a0 (a3 + (3 : Int32)) fun x3 =>
  vd none h a1 [11, 125] fun m4 =>
  cJ (call d m4 [.ref a1, .int x1, .int x2, .int x3] h) fun y6 h5 =>
  alI none h5 a0 (a3 + (1 : Int32)) fun x7 =>
  alI none h5 a0 (a3 + (2 : Int32)) fun x8 =>
  alI none h5 a0 (a3 + (3 : Int32)) fun x9 =>
  vd none h5 a2 [12, 251] fun m10 =>
  cJ (call d m10 [.ref a2, .int x7, .int x8, .int x9] h5) fun y12 h11 =>
  if (if y6 = y12 then 0 else if y6 < y12 then -1 else 1 : Int32) = (0 : Int32) then
  (ex d 263 1615 [sv (.ref a0), sv (.ref a1), sv (.ref a2), sv (.int a3)] [] h11)
  else
  (zr none (0 : Int32) (some (some (.int (0 : Int32)), h11)))) :=
  (ex_unr p_263 o_263 [18, 244, 277, 300, 333, 356, 431, 444, 467, 500, 543, 556, 589, 612, 635, 648, 671, 694, 717, 740, 763, 796, 819, 842, 865, 878, 901, 924, 957, 980, 1003, 1036, 1059, 1082, 1106, 1129, 1142, 1155, 1178, 1211, 1254, 1277, 1310, 1354, 1367, 1380, 1423, 1466, 1529, 1582, 1615] 43 rfl _ _ h).trans rfl
set_option maxRecDepth 100000 in
theorem e_263_1354 (d : Nat) (a0 : Nat) (a1 : Nat) (a2 : Nat) (a3 : Int32) (h : MHeap) : ex d 263 1354 [sv (.ref a0), sv (.ref a1), sv (.ref a2), sv (.int a3)] [] h = (
  vd none h a1 [11, 126] fun m1 =>
  cI (call d m1 [.ref a1] h) fun x3 h2 =>
  vd none h2 a2 [12, 252] fun m4 =>
  cI (call d m4 [.ref a2] h2) fun x6 h5 =>
  if x3 = x6 then
  (ex d 263 1615 [sv (.ref a0), sv (.ref a1), sv (.ref a2), sv (.int a3)] [] h5)
  else
  (zr none (0 : Int32) (some (some (.int (0 : Int32)), h5)))) :=
  (ex_unr p_263 o_263 [18, 244, 277, 300, 333, 356, 431, 444, 467, 500, 543, 556, 589, 612, 635, 648, 671, 694, 717, 740, 763, 796, 819, 842, 865, 878, 901, 924, 957, 980, 1003, 1036, 1059, 1082, 1106, 1129, 1142, 1155, 1178, 1211, 1254, 1277, 1310, 1354, 1367, 1380, 1423, 1466, 1529, 1582, 1615] 12 rfl _ _ h).trans rfl
set_option maxRecDepth 100000 in
theorem e_263_1367 (d : Nat) (a0 : Nat) (a1 : Nat) (a2 : Nat) (a3 : Int32) (h : MHeap) : ex d 263 1367 [sv (.ref a0), sv (.ref a1), sv (.ref a2), sv (.int a3)] [] h = (
  vd none h a1 [11, 127] fun m1 =>
  cI (call d m1 [.ref a1] h) fun x3 h2 =>
  vd none h2 a2 [12, 253] fun m4 =>
  cI (call d m4 [.ref a2] h2) fun x6 h5 =>
  if x3 = x6 then
  (ex d 263 1615 [sv (.ref a0), sv (.ref a1), sv (.ref a2), sv (.int a3)] [] h5)
  else
  (zr none (0 : Int32) (some (some (.int (0 : Int32)), h5)))) :=
  (ex_unr p_263 o_263 [18, 244, 277, 300, 333, 356, 431, 444, 467, 500, 543, 556, 589, 612, 635, 648, 671, 694, 717, 740, 763, 796, 819, 842, 865, 878, 901, 924, 957, 980, 1003, 1036, 1059, 1082, 1106, 1129, 1142, 1155, 1178, 1211, 1254, 1277, 1310, 1354, 1367, 1380, 1423, 1466, 1529, 1582, 1615] 12 rfl _ _ h).trans rfl
set_option maxRecDepth 100000 in
theorem e_263_1380 (d : Nat) (a0 : Nat) (a1 : Nat) (a2 : Nat) (a3 : Int32) (h : MHeap) : ex d 263 1380 [sv (.ref a0), sv (.ref a1), sv (.ref a2), sv (.int a3)] [] h = (
  alI none h a0 (a3 + (1 : Int32)) fun x1 =>
  alI none h a0 (a3 + (2 : Int32)) fun x2 =>
  alI none h a0 (a3 + (3 : Int32)) fun x3 =>
  vd none h a1 [11, 128] fun m4 =>
  cI (call d m4 [.ref a1, .int x1, .int x2, .int x3] h) fun x6 h5 =>
  alI none h5 a0 (a3 + (1 : Int32)) fun x7 =>
  alI none h5 a0 (a3 + (2 : Int32)) fun x8 =>
  alI none h5 a0 (a3 + (3 : Int32)) fun x9 =>
  vd none h5 a2 [12, 254] fun m10 =>
  cI (call d m10 [.ref a2, .int x7, .int x8, .int x9] h5) fun x12 h11 =>
  if x6 = x12 then
  (ex d 263 1615 [sv (.ref a0), sv (.ref a1), sv (.ref a2), sv (.int a3)] [] h11)
  else
  (zr none (0 : Int32) (some (some (.int (0 : Int32)), h11)))) :=
  (ex_unr p_263 o_263 [18, 244, 277, 300, 333, 356, 431, 444, 467, 500, 543, 556, 589, 612, 635, 648, 671, 694, 717, 740, 763, 796, 819, 842, 865, 878, 901, 924, 957, 980, 1003, 1036, 1059, 1082, 1106, 1129, 1142, 1155, 1178, 1211, 1254, 1277, 1310, 1354, 1367, 1380, 1423, 1466, 1529, 1582, 1615] 42 rfl _ _ h).trans rfl
set_option maxRecDepth 100000 in
theorem e_263_1423 (d : Nat) (a0 : Nat) (a1 : Nat) (a2 : Nat) (a3 : Int32) (h : MHeap) : ex d 263 1423 [sv (.ref a0), sv (.ref a1), sv (.ref a2), sv (.int a3)] [] h = (
  alI none h a0 (a3 + (1 : Int32)) fun x1 =>
  alI none h a0 (a3 + (2 : Int32)) fun x2 =>
  alI none h a0 (a3 + (3 : Int32)) fun x3 =>
  vd none h a1 [11, 129] fun m4 =>
  cI (call d m4 [.ref a1, .int x1, .int x2, .int x3] h) fun x6 h5 =>
  alI none h5 a0 (a3 + (1 : Int32)) fun x7 =>
  alI none h5 a0 (a3 + (2 : Int32)) fun x8 =>
  alI none h5 a0 (a3 + (3 : Int32)) fun x9 =>
  vd none h5 a2 [12, 255] fun m10 =>
  cI (call d m10 [.ref a2, .int x7, .int x8, .int x9] h5) fun x12 h11 =>
  if x6 = x12 then
  (ex d 263 1615 [sv (.ref a0), sv (.ref a1), sv (.ref a2), sv (.int a3)] [] h11)
  else
  (zr none (0 : Int32) (some (some (.int (0 : Int32)), h11)))) :=
  (ex_unr p_263 o_263 [18, 244, 277, 300, 333, 356, 431, 444, 467, 500, 543, 556, 589, 612, 635, 648, 671, 694, 717, 740, 763, 796, 819, 842, 865, 878, 901, 924, 957, 980, 1003, 1036, 1059, 1082, 1106, 1129, 1142, 1155, 1178, 1211, 1254, 1277, 1310, 1354, 1367, 1380, 1423, 1466, 1529, 1582, 1615] 42 rfl _ _ h).trans rfl
set_option maxRecDepth 100000 in
theorem e_263_1466 (d : Nat) (a0 : Nat) (a1 : Nat) (a2 : Nat) (a3 : Int32) (h : MHeap) : ex d 263 1466 [sv (.ref a0), sv (.ref a1), sv (.ref a2), sv (.int a3)] [] h = (
  alI none h a0 (a3 + (1 : Int32)) fun x1 =>
  alI none h a0 (a3 + (2 : Int32)) fun x2 =>
  alI none h a0 (a3 + (3 : Int32)) fun x3 =>
  alI none h a0 (a3 + (4 : Int32)) fun x4 =>
  alI none h a0 (a3 + (5 : Int32)) fun x5 =>
  vd none h a1 [11, 130] fun m6 =>
  cI (call d m6 [.ref a1, .int x1, .int x2, .int x3, .int x4, .int x5] h) fun x8 h7 =>
  alI none h7 a0 (a3 + (1 : Int32)) fun x9 =>
  alI none h7 a0 (a3 + (2 : Int32)) fun x10 =>
  alI none h7 a0 (a3 + (3 : Int32)) fun x11 =>
  alI none h7 a0 (a3 + (4 : Int32)) fun x12 =>
  alI none h7 a0 (a3 + (5 : Int32)) fun x13 =>
  vd none h7 a2 [12, 256] fun m14 =>
  cI (call d m14 [.ref a2, .int x9, .int x10, .int x11, .int x12, .int x13] h7) fun x16 h15 =>
  if x8 = x16 then
  (ex d 263 1615 [sv (.ref a0), sv (.ref a1), sv (.ref a2), sv (.int a3)] [] h15)
  else
  (zr none (0 : Int32) (some (some (.int (0 : Int32)), h15)))) :=
  (ex_unr p_263 o_263 [18, 244, 277, 300, 333, 356, 431, 444, 467, 500, 543, 556, 589, 612, 635, 648, 671, 694, 717, 740, 763, 796, 819, 842, 865, 878, 901, 924, 957, 980, 1003, 1036, 1059, 1082, 1106, 1129, 1142, 1155, 1178, 1211, 1254, 1277, 1310, 1354, 1367, 1380, 1423, 1466, 1529, 1582, 1615] 62 rfl _ _ h).trans rfl
set_option maxRecDepth 100000 in
theorem e_263_1529 (d : Nat) (a0 : Nat) (a1 : Nat) (a2 : Nat) (a3 : Int32) (h : MHeap) : ex d 263 1529 [sv (.ref a0), sv (.ref a1), sv (.ref a2), sv (.int a3)] [] h = (
  alI none h a0 (a3 + (1 : Int32)) fun x1 =>
  alI none h a0 (a3 + (2 : Int32)) fun x2 =>
  alI none h a0 (a3 + (3 : Int32)) fun x3 =>
  alI none h a0 (a3 + (4 : Int32)) fun x4 =>
  vd none h a1 [11, 131] fun m5 =>
  cI (call d m5 [.ref a1, .int x1, .int x2, .int x3, .int x4] h) fun x7 h6 =>
  alI none h6 a0 (a3 + (1 : Int32)) fun x8 =>
  alI none h6 a0 (a3 + (2 : Int32)) fun x9 =>
  alI none h6 a0 (a3 + (3 : Int32)) fun x10 =>
  alI none h6 a0 (a3 + (4 : Int32)) fun x11 =>
  vd none h6 a2 [12, 257] fun m12 =>
  cI (call d m12 [.ref a2, .int x8, .int x9, .int x10, .int x11] h6) fun x14 h13 =>
  if x7 = x14 then
  (ex d 263 1615 [sv (.ref a0), sv (.ref a1), sv (.ref a2), sv (.int a3)] [] h13)
  else
  (zr none (0 : Int32) (some (some (.int (0 : Int32)), h13)))) :=
  (ex_unr p_263 o_263 [18, 244, 277, 300, 333, 356, 431, 444, 467, 500, 543, 556, 589, 612, 635, 648, 671, 694, 717, 740, 763, 796, 819, 842, 865, 878, 901, 924, 957, 980, 1003, 1036, 1059, 1082, 1106, 1129, 1142, 1155, 1178, 1211, 1254, 1277, 1310, 1354, 1367, 1380, 1423, 1466, 1529, 1582, 1615] 52 rfl _ _ h).trans rfl
set_option maxRecDepth 100000 in
theorem e_263_1582 (d : Nat) (a0 : Nat) (a1 : Nat) (a2 : Nat) (a3 : Int32) (h : MHeap) : ex d 263 1582 [sv (.ref a0), sv (.ref a1), sv (.ref a2), sv (.int a3)] [] h = (
  alI none h a0 (a3 + (1 : Int32)) fun x1 =>
  alI none h a0 (a3 + (2 : Int32)) fun x2 =>
  vd none h a1 [11, 132] fun m3 =>
  cI (call d m3 [.ref a1, .int x1, .int x2] h) fun x5 h4 =>
  alI none h4 a0 (a3 + (1 : Int32)) fun x6 =>
  alI none h4 a0 (a3 + (2 : Int32)) fun x7 =>
  vd none h4 a2 [12, 259] fun m8 =>
  cI (call d m8 [.ref a2, .int x6, .int x7] h4) fun x10 h9 =>
  if x5 = x10 then
  (ex d 263 1615 [sv (.ref a0), sv (.ref a1), sv (.ref a2), sv (.int a3)] [] h9)
  else
  (zr none (0 : Int32) (some (some (.int (0 : Int32)), h9)))) :=
  (ex_unr p_263 o_263 [18, 244, 277, 300, 333, 356, 431, 444, 467, 500, 543, 556, 589, 612, 635, 648, 671, 694, 717, 740, 763, 796, 819, 842, 865, 878, 901, 924, 957, 980, 1003, 1036, 1059, 1082, 1106, 1129, 1142, 1155, 1178, 1211, 1254, 1277, 1310, 1354, 1367, 1380, 1423, 1466, 1529, 1582, 1615] 32 rfl _ _ h).trans rfl
set_option maxRecDepth 100000 in
theorem e_263_1615 (d : Nat) (a0 : Nat) (a1 : Nat) (a2 : Nat) (a3 : Int32) (h : MHeap) : ex d 263 1615 [sv (.ref a0), sv (.ref a1), sv (.ref a2), sv (.int a3)] [] h = (
  ex d 263 18 [sv (.ref a0), sv (.ref a1), sv (.ref a2), sv (.int (a3 + (7 : Int32)))] [] h) :=
  (ex_unr p_263 o_263 [18, 244, 277, 300, 333, 356, 431, 444, 467, 500, 543, 556, 589, 612, 635, 648, 671, 694, 717, 740, 763, 796, 819, 842, 865, 878, 901, 924, 957, 980, 1003, 1036, 1059, 1082, 1106, 1129, 1142, 1155, 1178, 1211, 1254, 1277, 1310, 1354, 1367, 1380, 1423, 1466, 1529, 1582, 1615] 7 rfl _ _ h).trans rfl
end
section
/-! objects' fields, the words that the tables give, the methods' names and bytes -/
def gtbl : List Cond := lw_tbl.filter goodWord
def RX0 : String := "OneTurned$Board"
def TX0 : u_T := fun k => match k with
  | 0 => ("OneTurned$Board", "cards", "I", false)
  | 1 => ("OneTurned$Board", "wide", "I", false)
  | 2 => ("OneTurned$Board", "backs", "I", false)
  | 3 => ("OneTurned$Board", "heapCount", "I", false)
  | _ => ("OneTurned$Board", "heaps", "[LOneTurned$Heap;", true)
def tyX0 : Nat → FieldType := fun k => match k with
  | 0 => .int
  | 1 => .int
  | 2 => .int
  | 3 => .int
  | _ => .array (.object "OneTurned$Heap")
theorem nmX0 : ∀ a, a < 5 → ∀ b, b < 5 → a ≠ b → (TX0 a).2.1 ≠ (TX0 b).2.1 := by decide +kernel
theorem tyX0_ok : ∀ k, k < 5 → parseFieldDescriptor (TX0 k).2.2.1 = some (tyX0 k) := by decide +kernel
def RX1 : String := "OneTurned$Column"
def TX1 : u_T := fun k => match k with
  | 0 => ("OneTurned$Heap", "members", "I", true)
  | 1 => ("OneTurned$Heap", "more", "I", true)
  | _ => ("OneTurned$Heap", "inside", "I", false)
def tyX1 : Nat → FieldType := fun k => match k with
  | 0 => .int
  | 1 => .int
  | _ => .int
theorem nmX1 : ∀ a, a < 3 → ∀ b, b < 3 → a ≠ b → (TX1 a).2.1 ≠ (TX1 b).2.1 := by decide +kernel
theorem tyX1_ok : ∀ k, k < 3 → parseFieldDescriptor (TX1 k).2.2.1 = some (tyX1 k) := by decide +kernel
def RX2 : String := "OneTurned$Figure"
def TX2 : u_T := fun k => match k with
  | 0 => ("OneTurned$Heap", "members", "I", true)
  | 1 => ("OneTurned$Heap", "more", "I", true)
  | _ => ("OneTurned$Heap", "inside", "I", false)
def tyX2 : Nat → FieldType := fun k => match k with
  | 0 => .int
  | 1 => .int
  | _ => .int
theorem nmX2 : ∀ a, a < 3 → ∀ b, b < 3 → a ≠ b → (TX2 a).2.1 ≠ (TX2 b).2.1 := by decide +kernel
theorem tyX2_ok : ∀ k, k < 3 → parseFieldDescriptor (TX2 k).2.2.1 = some (tyX2 k) := by decide +kernel
def RX3 : String := "OneTurned$Heap"
def TX3 : u_T := fun k => match k with
  | 0 => ("OneTurned$Heap", "members", "I", true)
  | 1 => ("OneTurned$Heap", "more", "I", true)
  | _ => ("OneTurned$Heap", "inside", "I", false)
def tyX3 : Nat → FieldType := fun k => match k with
  | 0 => .int
  | 1 => .int
  | _ => .int
theorem nmX3 : ∀ a, a < 3 → ∀ b, b < 3 → a ≠ b → (TX3 a).2.1 ≠ (TX3 b).2.1 := by decide +kernel
theorem tyX3_ok : ∀ k, k < 3 → parseFieldDescriptor (TX3 k).2.2.1 = some (tyX3 k) := by decide +kernel
def RX4 : String := "OneTurned$Image"
def TX4 : u_T := fun k => match k with
  | 0 => ("OneTurned$Image", "isKept", "Z", false)
  | 1 => ("OneTurned$Image", "cards", "I", false)
  | 2 => ("OneTurned$Image", "wide", "I", false)
  | 3 => ("OneTurned$Image", "backs", "I", false)
  | 4 => ("OneTurned$Image", "heapCount", "I", false)
  | _ => ("OneTurned$Image", "law", "I", false)
def tyX4 : Nat → FieldType := fun k => match k with
  | 0 => .boolean
  | 1 => .int
  | 2 => .int
  | 3 => .int
  | 4 => .int
  | _ => .int
theorem nmX4 : ∀ a, a < 6 → ∀ b, b < 6 → a ≠ b → (TX4 a).2.1 ≠ (TX4 b).2.1 := by decide +kernel
theorem tyX4_ok : ∀ k, k < 6 → parseFieldDescriptor (TX4 k).2.2.1 = some (tyX4 k) := by decide +kernel
def RX5 : String := "OneTurned$Law"
def TX5 : u_T := fun k => match k with
  | 0 => ("OneTurned$Law", "items", "[I", true)
  | 1 => ("OneTurned$Law", "turnsEnd", "I", true)
  | _ => ("OneTurned$Law", "swapsEnd", "I", true)
def tyX5 : Nat → FieldType := fun k => match k with
  | 0 => .array .int
  | 1 => .int
  | _ => .int
theorem nmX5 : ∀ a, a < 3 → ∀ b, b < 3 → a ≠ b → (TX5 a).2.1 ≠ (TX5 b).2.1 := by decide +kernel
theorem tyX5_ok : ∀ k, k < 3 → parseFieldDescriptor (TX5 k).2.2.1 = some (tyX5 k) := by decide +kernel
def RX6 : String := "OneTurned$Row"
def TX6 : u_T := fun k => match k with
  | 0 => ("OneTurned$Heap", "members", "I", true)
  | 1 => ("OneTurned$Heap", "more", "I", true)
  | _ => ("OneTurned$Heap", "inside", "I", false)
def tyX6 : Nat → FieldType := fun k => match k with
  | 0 => .int
  | 1 => .int
  | _ => .int
theorem nmX6 : ∀ a, a < 3 → ∀ b, b < 3 → a ≠ b → (TX6 a).2.1 ≠ (TX6 b).2.1 := by decide +kernel
theorem tyX6_ok : ∀ k, k < 3 → parseFieldDescriptor (TX6 k).2.2.1 = some (tyX6 k) := by decide +kernel
def RX7 : String := "OneTurned$Sheet"
def TX7 : u_T := fun k => match k with
  | 0 => ("OneTurned$Sheet", "sort", "I", false)
  | 1 => ("OneTurned$Sheet", "size", "I", false)
  | _ => ("OneTurned$Sheet", "cells", "[I", true)
def tyX7 : Nat → FieldType := fun k => match k with
  | 0 => .int
  | 1 => .int
  | _ => .array .int
theorem nmX7 : ∀ a, a < 3 → ∀ b, b < 3 → a ≠ b → (TX7 a).2.1 ≠ (TX7 b).2.1 := by decide +kernel
theorem tyX7_ok : ∀ k, k < 3 → parseFieldDescriptor (TX7 k).2.2.1 = some (tyX7 k) := by decide +kernel
def RX8 : String := "OneTurned$Sum"
def TX8 : u_T := fun k => match k with
  | 0 => ("OneTurned$Heap", "members", "I", true)
  | 1 => ("OneTurned$Heap", "more", "I", true)
  | _ => ("OneTurned$Heap", "inside", "I", false)
def tyX8 : Nat → FieldType := fun k => match k with
  | 0 => .int
  | 1 => .int
  | _ => .int
theorem nmX8 : ∀ a, a < 3 → ∀ b, b < 3 → a ≠ b → (TX8 a).2.1 ≠ (TX8 b).2.1 := by decide +kernel
theorem tyX8_ok : ∀ k, k < 3 → parseFieldDescriptor (TX8 k).2.2.1 = some (tyX8 k) := by decide +kernel
def RX9 : String := "OneTurned$Tape"
def TX9 : u_T := fun k => match k with
  | 0 => ("OneTurned$Tape", "size", "I", false)
  | 1 => ("OneTurned$Tape", "bytes", "[I", true)
  | 2 => ("OneTurned$Tape", "tokens", "[I", true)
  | 3 => ("OneTurned$Tape", "places", "[I", true)
  | 4 => ("OneTurned$Tape", "items", "[I", true)
  | 5 => ("OneTurned$Tape", "scanned", "I", false)
  | 6 => ("OneTurned$Tape", "next", "I", false)
  | _ => ("OneTurned$Tape", "used", "I", false)
def tyX9 : Nat → FieldType := fun k => match k with
  | 0 => .int
  | 1 => .array .int
  | 2 => .array .int
  | 3 => .array .int
  | 4 => .array .int
  | 5 => .int
  | 6 => .int
  | _ => .int
theorem nmX9 : ∀ a, a < 8 → ∀ b, b < 8 → a ≠ b → (TX9 a).2.1 ≠ (TX9 b).2.1 := by decide +kernel
theorem tyX9_ok : ∀ k, k < 8 → parseFieldDescriptor (TX9 k).2.2.1 = some (tyX9 k) := by decide +kernel
def RX10 : String := "OneTurned$Uneven"
def TX10 : u_T := fun k => match k with
  | 0 => ("OneTurned$Heap", "members", "I", true)
  | 1 => ("OneTurned$Heap", "more", "I", true)
  | _ => ("OneTurned$Heap", "inside", "I", false)
def tyX10 : Nat → FieldType := fun k => match k with
  | 0 => .int
  | 1 => .int
  | _ => .int
theorem nmX10 : ∀ a, a < 3 → ∀ b, b < 3 → a ≠ b → (TX10 a).2.1 ≠ (TX10 b).2.1 := by decide +kernel
theorem tyX10_ok : ∀ k, k < 3 → parseFieldDescriptor (TX10 k).2.2.1 = some (tyX10 k) := by decide +kernel
def RX11 : String := "OneTurned"
def TX11 : u_T := fun k => match k with
  | 0 => ("OneTurned", "board", "LOneTurned$Board;", true)
  | 1 => ("OneTurned", "image", "LOneTurned$Image;", true)
  | 2 => ("OneTurned", "tape", "LOneTurned$Tape;", true)
  | 3 => ("OneTurned", "laws", "[LOneTurned$Law;", true)
  | 4 => ("OneTurned", "lawCount", "I", false)
  | 5 => ("OneTurned", "law", "I", false)
  | 6 => ("OneTurned", "sheets", "[LOneTurned$Sheet;", true)
  | 7 => ("OneTurned", "unlikeSigns", "[I", true)
  | 8 => ("OneTurned", "weights", "[I", true)
  | 9 => ("OneTurned", "names", "[I", true)
  | _ => ("OneTurned", "stack", "[I", true)
def tyX11 : Nat → FieldType := fun k => match k with
  | 0 => .object "OneTurned$Board"
  | 1 => .object "OneTurned$Image"
  | 2 => .object "OneTurned$Tape"
  | 3 => .array (.object "OneTurned$Law")
  | 4 => .int
  | 5 => .int
  | 6 => .array (.object "OneTurned$Sheet")
  | 7 => .array .int
  | 8 => .array .int
  | 9 => .array .int
  | _ => .array .int
theorem nmX11 : ∀ a, a < 11 → ∀ b, b < 11 → a ≠ b → (TX11 a).2.1 ≠ (TX11 b).2.1 := by decide +kernel
theorem tyX11_ok : ∀ k, k < 11 → parseFieldDescriptor (TX11 k).2.2.1 = some (tyX11 k) := by decide +kernel
def RX12 : String := "OneTurnedModel"
def TX12 : u_T := fun k => match k with
  | 0 => ("OneTurnedModel", "many0", "I", false)
  | 1 => ("OneTurnedModel", "wide", "I", false)
  | 2 => ("OneTurnedModel", "backs", "I", false)
  | 3 => ("OneTurnedModel", "heaps", "I", false)
  | 4 => ("OneTurnedModel", "kind", "[I", true)
  | 5 => ("OneTurnedModel", "membersOf", "[I", true)
  | 6 => ("OneTurnedModel", "moreOf", "[I", true)
  | 7 => ("OneTurnedModel", "tape", "[I", true)
  | 8 => ("OneTurnedModel", "taped", "I", false)
  | 9 => ("OneTurnedModel", "codes", "[I", true)
  | 10 => ("OneTurnedModel", "starts", "[I", true)
  | 11 => ("OneTurnedModel", "texts", "I", false)
  | 12 => ("OneTurnedModel", "rule", "I", false)
  | 13 => ("OneTurnedModel", "hasImage", "Z", false)
  | 14 => ("OneTurnedModel", "imageMany", "I", false)
  | 15 => ("OneTurnedModel", "imageWide", "I", false)
  | 16 => ("OneTurnedModel", "imageBacks", "I", false)
  | 17 => ("OneTurnedModel", "imageHeaps", "I", false)
  | 18 => ("OneTurnedModel", "imageRule", "I", false)
  | 19 => ("OneTurnedModel", "sheetSort", "[I", true)
  | 20 => ("OneTurnedModel", "sheetSize", "[I", true)
  | 21 => ("OneTurnedModel", "cells", "[I", true)
  | 22 => ("OneTurnedModel", "law", "[I", true)
  | 23 => ("OneTurnedModel", "at", "I", false)
  | 24 => ("OneTurnedModel", "begun", "I", false)
  | 25 => ("OneTurnedModel", "token", "I", false)
  | 26 => ("OneTurnedModel", "value", "I", false)
  | 27 => ("OneTurnedModel", "words", "[I", true)
  | 28 => ("OneTurnedModel", "held", "[I", true)
  | 29 => ("OneTurnedModel", "heldMany", "I", false)
  | 30 => ("OneTurnedModel", "opens", "I", false)
  | 31 => ("OneTurnedModel", "out", "I", false)
  | 32 => ("OneTurnedModel", "stack", "[I", true)
  | 33 => ("OneTurnedModel", "named", "[I", true)
  | 34 => ("OneTurnedModel", "ins", "[I", true)
  | 35 => ("OneTurnedModel", "seen", "[I", true)
  | 36 => ("OneTurnedModel", "likeliest", "I", false)
  | 37 => ("OneTurnedModel", "itsWeight", "I", false)
  | _ => ("OneTurnedModel", "allWeights", "I", false)
def tyX12 : Nat → FieldType := fun k => match k with
  | 0 => .int
  | 1 => .int
  | 2 => .int
  | 3 => .int
  | 4 => .array .int
  | 5 => .array .int
  | 6 => .array .int
  | 7 => .array .int
  | 8 => .int
  | 9 => .array .int
  | 10 => .array .int
  | 11 => .int
  | 12 => .int
  | 13 => .boolean
  | 14 => .int
  | 15 => .int
  | 16 => .int
  | 17 => .int
  | 18 => .int
  | 19 => .array .int
  | 20 => .array .int
  | 21 => .array .int
  | 22 => .array .int
  | 23 => .int
  | 24 => .int
  | 25 => .int
  | 26 => .int
  | 27 => .array .int
  | 28 => .array .int
  | 29 => .int
  | 30 => .int
  | 31 => .int
  | 32 => .array .int
  | 33 => .array .int
  | 34 => .array .int
  | 35 => .array .int
  | 36 => .int
  | 37 => .int
  | _ => .int
theorem nmX12 : ∀ a, a < 39 → ∀ b, b < 39 → a ≠ b → (TX12 a).2.1 ≠ (TX12 b).2.1 := by decide +kernel
theorem tyX12_ok : ∀ k, k < 39 → parseFieldDescriptor (TX12 k).2.2.1 = some (tyX12 k) := by decide +kernel
def clsL : List vw_C := [(RX0, TX0, 5), (RX1, TX1, 3), (RX2, TX2, 3), (RX3, TX3, 3), (RX4, TX4, 6), (RX5, TX5, 3), (RX6, TX6, 3), (RX7, TX7, 3), (RX8, TX8, 3), (RX9, TX9, 8), (RX10, TX10, 3), (RX11, TX11, 11), (RX12, TX12, 39)]
def cnm (t : Nat) : String := (clsL.getD t ("", TX0, 0)).1
set_option maxRecDepth 20000 in
theorem inG0 : ∀ w ∈ u_ws RX0 TX0 5, w ∈ gtbl := by decide +kernel
set_option maxRecDepth 20000 in
theorem inG1 : ∀ w ∈ u_ws RX1 TX1 3, w ∈ gtbl := by decide +kernel
set_option maxRecDepth 20000 in
theorem inG2 : ∀ w ∈ u_ws RX2 TX2 3, w ∈ gtbl := by decide +kernel
set_option maxRecDepth 20000 in
theorem inG3 : ∀ w ∈ u_ws RX3 TX3 3, w ∈ gtbl := by decide +kernel
set_option maxRecDepth 20000 in
theorem inG4 : ∀ w ∈ u_ws RX4 TX4 6, w ∈ gtbl := by decide +kernel
set_option maxRecDepth 20000 in
theorem inG5 : ∀ w ∈ u_ws RX5 TX5 3, w ∈ gtbl := by decide +kernel
set_option maxRecDepth 20000 in
theorem inG6 : ∀ w ∈ u_ws RX6 TX6 3, w ∈ gtbl := by decide +kernel
set_option maxRecDepth 20000 in
theorem inG7 : ∀ w ∈ u_ws RX7 TX7 3, w ∈ gtbl := by decide +kernel
set_option maxRecDepth 20000 in
theorem inG8 : ∀ w ∈ u_ws RX8 TX8 3, w ∈ gtbl := by decide +kernel
set_option maxRecDepth 20000 in
theorem inG9 : ∀ w ∈ u_ws RX9 TX9 8, w ∈ gtbl := by decide +kernel
set_option maxRecDepth 20000 in
theorem inG10 : ∀ w ∈ u_ws RX10 TX10 3, w ∈ gtbl := by decide +kernel
set_option maxRecDepth 20000 in
theorem inG11 : ∀ w ∈ u_ws RX11 TX11 11, w ∈ gtbl := by decide +kernel
set_option maxRecDepth 20000 in
theorem inG12 : ∀ w ∈ u_ws RX12 TX12 39, w ∈ gtbl := by decide +kernel
/-- what is known of each kind of object -/
def clOK (r : vw_C) : Prop := (∃ ty : Nat → FieldType, ∀ k, k < r.2.2 → parseFieldDescriptor (r.2.1 k).2.2.1 = some (ty k)) ∧ (∀ a, a < r.2.2 → ∀ b, b < r.2.2 → a ≠ b → (r.2.1 a).2.1 ≠ (r.2.1 b).2.1) ∧ ∀ w ∈ u_ws r.1 r.2.1 r.2.2, w ∈ gtbl
theorem clsL_ok : ∀ (t : Nat) (r : vw_C), clsL[t]? = some r → clOK r := by
  intro t r h
  match t, h with
  | 0, h => cases h; exact ⟨⟨tyX0, tyX0_ok⟩, nmX0, inG0⟩
  | 1, h => cases h; exact ⟨⟨tyX1, tyX1_ok⟩, nmX1, inG1⟩
  | 2, h => cases h; exact ⟨⟨tyX2, tyX2_ok⟩, nmX2, inG2⟩
  | 3, h => cases h; exact ⟨⟨tyX3, tyX3_ok⟩, nmX3, inG3⟩
  | 4, h => cases h; exact ⟨⟨tyX4, tyX4_ok⟩, nmX4, inG4⟩
  | 5, h => cases h; exact ⟨⟨tyX5, tyX5_ok⟩, nmX5, inG5⟩
  | 6, h => cases h; exact ⟨⟨tyX6, tyX6_ok⟩, nmX6, inG6⟩
  | 7, h => cases h; exact ⟨⟨tyX7, tyX7_ok⟩, nmX7, inG7⟩
  | 8, h => cases h; exact ⟨⟨tyX8, tyX8_ok⟩, nmX8, inG8⟩
  | 9, h => cases h; exact ⟨⟨tyX9, tyX9_ok⟩, nmX9, inG9⟩
  | 10, h => cases h; exact ⟨⟨tyX10, tyX10_ok⟩, nmX10, inG10⟩
  | 11, h => cases h; exact ⟨⟨tyX11, tyX11_ok⟩, nmX11, inG11⟩
  | 12, h => cases h; exact ⟨⟨tyX12, tyX12_ok⟩, nmX12, inG12⟩
  | t + 13, h => simp [clsL] at h
def mtd_0 : List (MethodName × ByteArray × Option FieldType) := [(⟨"OneTurned$Board", "<init>", "()V"⟩, prog_2_method_1_code, none), (⟨"OneTurned$Board", "rowOf", "(II)I"⟩, prog_2_method_2_code, some (FieldType.int)), (⟨"OneTurned$Board", "columnOf", "(II)I"⟩, prog_2_method_3_code, some (FieldType.int)), (⟨"OneTurned$Board", "lieAnew", "(III)V"⟩, prog_2_method_4_code, none), (⟨"OneTurned$Board", "allCards", "()I"⟩, prog_2_method_5_code, some (FieldType.int)), (⟨"OneTurned$Board", "hasCard", "(I)Z"⟩, prog_2_method_6_code, some (FieldType.boolean)), (⟨"OneTurned$Board", "hasCards", "(I)Z"⟩, prog_2_method_7_code, some (FieldType.boolean)), (⟨"OneTurned$Board", "areUnlike", "(II)Z"⟩, prog_2_method_8_code, some (FieldType.boolean)), (⟨"OneTurned$Board", "rowCards", "(I)I"⟩, prog_2_method_9_code, some (FieldType.int)), (⟨"OneTurned$Board", "cutAt", "(I)I"⟩, prog_2_method_10_code, some (FieldType.int)), (⟨"OneTurned$Board", "movedTo", "(II)I"⟩, prog_2_method_11_code, some (FieldType.int)), (⟨"OneTurned$Board", "hasRoom", "()Z"⟩, prog_2_method_12_code, some (FieldType.boolean)), (⟨"OneTurned$Board", "add", "(LOneTurned$Heap;)V"⟩, prog_2_method_13_code, none), (⟨"OneTurned$Board", "keepHeaps", "(I)V"⟩, prog_2_method_14_code, none), (⟨"OneTurned$Board", "heapAt", "(I)LOneTurned$Heap;"⟩, prog_2_method_15_code, some (FieldType.object "OneTurned$Heap")), (⟨"OneTurned$Board", "allHeaps", "()I"⟩, prog_2_method_16_code, some (FieldType.int)), (⟨"OneTurned$Board", "signsAt", "(I)I"⟩, prog_2_method_17_code, some (FieldType.int)), (⟨"OneTurned$Board", "otherSignsAt", "(II)I"⟩, prog_2_method_18_code, some (FieldType.int)), (⟨"OneTurned$Board", "failingAt", "(I)I"⟩, prog_2_method_19_code, some (FieldType.int)), (⟨"OneTurned$Board", "failsNow", "()I"⟩, prog_2_method_20_code, some (FieldType.int)), (⟨"OneTurned$Board", "hasSignsAt", "(II)Z"⟩, prog_2_method_21_code, some (FieldType.boolean)), (⟨"OneTurned$Board", "allHoldAt", "(I)Z"⟩, prog_2_method_22_code, some (FieldType.boolean)), (⟨"OneTurned$Column", "<init>", "(II)V"⟩, prog_3_method_1_code, none), (⟨"OneTurned$Column", "kind", "()I"⟩, prog_3_method_2_code, some (FieldType.int)), (⟨"OneTurned$Column", "hasInside", "(II)Z"⟩, prog_3_method_3_code, some (FieldType.boolean)), (⟨"OneTurned$Figure", "<init>", "(II)V"⟩, prog_4_method_1_code, none), (⟨"OneTurned$Figure", "kind", "()I"⟩, prog_4_method_2_code, some (FieldType.int)), (⟨"OneTurned$Figure", "hasInside", "(II)Z"⟩, prog_4_method_3_code, some (FieldType.boolean)), (⟨"OneTurned$Heap", "<init>", "(II)V"⟩, prog_5_method_1_code, none), (⟨"OneTurned$Heap", "kind", "()I"⟩, prog_5_method_2_code, some (FieldType.int)), (⟨"OneTurned$Heap", "hasInside", "(II)Z"⟩, prog_5_method_3_code, some (FieldType.boolean)), (⟨"OneTurned$Heap", "signAt", "(I)I"⟩, prog_5_method_4_code, some (FieldType.int))]
def mtd_1 : List (MethodName × ByteArray × Option FieldType) := [(⟨"OneTurned$Heap", "lieAmong", "(II)V"⟩, prog_5_method_5_code, none), (⟨"OneTurned$Image", "<init>", "()V"⟩, prog_6_method_1_code, none), (⟨"OneTurned$Image", "keep", "(LOneTurned$Board;I)V"⟩, prog_6_method_2_code, none), (⟨"OneTurned$Law", "<init>", "([III)V"⟩, prog_7_method_1_code, none), (⟨"OneTurned$Law", "says", "(I[I[I)I"⟩, prog_7_method_2_code, some (FieldType.int)), (⟨"OneTurned$Law", "reckon", "(I[I[II)I"⟩, prog_7_method_3_code, some (FieldType.int)), (⟨"OneTurned$Law", "push", "(I[II)I"⟩, prog_7_method_4_code, some (FieldType.int)), (⟨"OneTurned$Law", "joined", "(III)I"⟩, prog_7_method_5_code, some (FieldType.int)), (⟨"OneTurned$Law", "asNumber", "(Z)I"⟩, prog_7_method_6_code, some (FieldType.int)), (⟨"OneTurned$Row", "<init>", "(II)V"⟩, prog_8_method_1_code, none), (⟨"OneTurned$Row", "kind", "()I"⟩, prog_8_method_2_code, some (FieldType.int)), (⟨"OneTurned$Row", "hasInside", "(II)Z"⟩, prog_8_method_3_code, some (FieldType.boolean)), (⟨"OneTurned$Sheet", "<init>", "()V"⟩, prog_9_method_1_code, none), (⟨"OneTurned$Sheet", "isMissing", "()Z"⟩, prog_9_method_2_code, some (FieldType.boolean)), (⟨"OneTurned$Sheet", "become", "(II)V"⟩, prog_9_method_3_code, none), (⟨"OneTurned$Sheet", "hasStretch", "(II)Z"⟩, prog_9_method_4_code, some (FieldType.boolean)), (⟨"OneTurned$Sheet", "get", "(I)I"⟩, prog_9_method_5_code, some (FieldType.int)), (⟨"OneTurned$Sheet", "set", "(II)V"⟩, prog_9_method_6_code, none), (⟨"OneTurned$Sum", "<init>", "(II)V"⟩, prog_10_method_1_code, none), (⟨"OneTurned$Sum", "kind", "()I"⟩, prog_10_method_2_code, some (FieldType.int)), (⟨"OneTurned$Sum", "signAt", "(I)I"⟩, prog_10_method_3_code, some (FieldType.int)), (⟨"OneTurned$Tape", "<init>", "()V"⟩, prog_11_method_1_code, none), (⟨"OneTurned$Tape", "put", "(I)V"⟩, prog_11_method_2_code, none), (⟨"OneTurned$Tape", "clear", "()V"⟩, prog_11_method_3_code, none), (⟨"OneTurned$Tape", "fault", "()I"⟩, prog_11_method_4_code, some (FieldType.int)), (⟨"OneTurned$Tape", "read", "()LOneTurned$Law;"⟩, prog_11_method_5_code, some (FieldType.object "OneTurned$Law")), (⟨"OneTurned$Tape", "token", "()I"⟩, prog_11_method_6_code, some (FieldType.int)), (⟨"OneTurned$Tape", "readPart", "(I)Z"⟩, prog_11_method_7_code, some (FieldType.boolean)), (⟨"OneTurned$Tape", "readToken", "(I)Z"⟩, prog_11_method_8_code, some (FieldType.boolean)), (⟨"OneTurned$Tape", "readJoined", "(II)Z"⟩, prog_11_method_9_code, some (FieldType.boolean)), (⟨"OneTurned$Tape", "joinsAt", "(I)Z"⟩, prog_11_method_10_code, some (FieldType.boolean)), (⟨"OneTurned$Tape", "readOperand", "(II)Z"⟩, prog_11_method_11_code, some (FieldType.boolean))]
def mtd_2 : List (MethodName × ByteArray × Option FieldType) := [(⟨"OneTurned$Tape", "readNot", "(I)Z"⟩, prog_11_method_12_code, some (FieldType.boolean)), (⟨"OneTurned$Tape", "readComparison", "(I)Z"⟩, prog_11_method_13_code, some (FieldType.boolean)), (⟨"OneTurned$Tape", "readOne", "(I)Z"⟩, prog_11_method_14_code, some (FieldType.boolean)), (⟨"OneTurned$Tape", "readNegative", "(I)Z"⟩, prog_11_method_15_code, some (FieldType.boolean)), (⟨"OneTurned$Tape", "putItem", "(I)V"⟩, prog_11_method_16_code, none), (⟨"OneTurned$Tape", "scan", "()V"⟩, prog_11_method_17_code, none), (⟨"OneTurned$Tape", "skipBlanks", "()V"⟩, prog_11_method_18_code, none), (⟨"OneTurned$Tape", "takeToken", "()I"⟩, prog_11_method_19_code, some (FieldType.int)), (⟨"OneTurned$Tape", "takeWord", "(I)I"⟩, prog_11_method_20_code, some (FieldType.int)), (⟨"OneTurned$Tape", "isSpelt", "(III)Z"⟩, prog_11_method_21_code, some (FieldType.boolean)), (⟨"OneTurned$Tape", "takeNumber", "(I)I"⟩, prog_11_method_22_code, some (FieldType.int)), (⟨"OneTurned$Tape", "byteAt", "(I)I"⟩, prog_11_method_23_code, some (FieldType.int)), (⟨"OneTurned$Tape", "isLetter", "(I)Z"⟩, prog_11_method_24_code, some (FieldType.boolean)), (⟨"OneTurned$Tape", "isDigit", "(I)Z"⟩, prog_11_method_25_code, some (FieldType.boolean)), (⟨"OneTurned$Tape", "isMark", "(I)Z"⟩, prog_11_method_26_code, some (FieldType.boolean)), (⟨"OneTurned$Uneven", "<init>", "(II)V"⟩, prog_12_method_1_code, none), (⟨"OneTurned$Uneven", "kind", "()I"⟩, prog_12_method_2_code, some (FieldType.int)), (⟨"OneTurned$Uneven", "hasInside", "(II)Z"⟩, prog_12_method_3_code, some (FieldType.boolean)), (⟨"OneTurned$Uneven", "signAt", "(I)I"⟩, prog_12_method_4_code, some (FieldType.int)), (⟨"OneTurned", "<init>", "()V"⟩, prog_1_method_1_code, none), (⟨"OneTurned", "table", "(II)I"⟩, prog_1_method_2_code, some (FieldType.int)), (⟨"OneTurned", "turn", "(I)I"⟩, prog_1_method_3_code, some (FieldType.int)), (⟨"OneTurned", "swap", "(II)I"⟩, prog_1_method_4_code, some (FieldType.int)), (⟨"OneTurned", "count", "(I)I"⟩, prog_1_method_5_code, some (FieldType.int)), (⟨"OneTurned", "feed", "(IIIIII)I"⟩, prog_1_method_6_code, some (FieldType.int)), (⟨"OneTurned", "text", "()I"⟩, prog_1_method_7_code, some (FieldType.int)), (⟨"OneTurned", "force", "(I)I"⟩, prog_1_method_8_code, some (FieldType.int)), (⟨"OneTurned", "asks", "(II)I"⟩, prog_1_method_9_code, some (FieldType.int)), (⟨"OneTurned", "heap", "(III)I"⟩, prog_1_method_10_code, some (FieldType.int)), (⟨"OneTurned", "drop", "()I"⟩, prog_1_method_11_code, some (FieldType.int)), (⟨"OneTurned", "told", "(II)I"⟩, prog_1_method_12_code, some (FieldType.int)), (⟨"OneTurned", "signs", "(I)I"⟩, prog_1_method_13_code, some (FieldType.int))]
def mtd_3 : List (MethodName × ByteArray × Option FieldType) := [(⟨"OneTurned", "look", "(I)I"⟩, prog_1_method_14_code, some (FieldType.int)), (⟨"OneTurned", "one", "()I"⟩, prog_1_method_15_code, some (FieldType.int)), (⟨"OneTurned", "two", "(I)I"⟩, prog_1_method_16_code, some (FieldType.int)), (⟨"OneTurned", "counts", "(I)I"⟩, prog_1_method_17_code, some (FieldType.int)), (⟨"OneTurned", "unseen", "(I)I"⟩, prog_1_method_18_code, some (FieldType.int)), (⟨"OneTurned", "apart", "(I)I"⟩, prog_1_method_19_code, some (FieldType.int)), (⟨"OneTurned", "reach", "(I)I"⟩, prog_1_method_20_code, some (FieldType.int)), (⟨"OneTurned", "lay", "(II)I"⟩, prog_1_method_21_code, some (FieldType.int)), (⟨"OneTurned", "even", "(I)I"⟩, prog_1_method_22_code, some (FieldType.int)), (⟨"OneTurned", "needs", "(I)I"⟩, prog_1_method_23_code, some (FieldType.int)), (⟨"OneTurned", "can", "(I)I"⟩, prog_1_method_24_code, some (FieldType.int)), (⟨"OneTurned", "reads", "()I"⟩, prog_1_method_25_code, some (FieldType.int)), (⟨"OneTurned", "coin", "(I)I"⟩, prog_1_method_26_code, some (FieldType.int)), (⟨"OneTurned", "swaps", "(I)I"⟩, prog_1_method_27_code, some (FieldType.int)), (⟨"OneTurned", "swept", "(II)I"⟩, prog_1_method_28_code, some (FieldType.int)), (⟨"OneTurned", "cut", "(I)I"⟩, prog_1_method_29_code, some (FieldType.int)), (⟨"OneTurned", "cuts", "(I)I"⟩, prog_1_method_30_code, some (FieldType.int)), (⟨"OneTurned", "move", "(II)I"⟩, prog_1_method_31_code, some (FieldType.int)), (⟨"OneTurned", "moves", "(I)I"⟩, prog_1_method_32_code, some (FieldType.int)), (⟨"OneTurned", "likely", "(I)I"⟩, prog_1_method_33_code, some (FieldType.int)), (⟨"OneTurned", "right", "(I)J"⟩, prog_1_method_34_code, some (FieldType.long)), (⟨"OneTurned", "cheapest", "(I)I"⟩, prog_1_method_35_code, some (FieldType.int)), (⟨"OneTurned", "lies", "()I"⟩, prog_1_method_36_code, some (FieldType.int)), (⟨"OneTurned", "idle", "()I"⟩, prog_1_method_37_code, some (FieldType.int)), (⟨"OneTurned", "judge", "(I)I"⟩, prog_1_method_38_code, some (FieldType.int)), (⟨"OneTurned", "match", "(II)I"⟩, prog_1_method_39_code, some (FieldType.int)), (⟨"OneTurned", "tells", "(III)I"⟩, prog_1_method_40_code, some (FieldType.int)), (⟨"OneTurned", "film", "(I)I"⟩, prog_1_method_41_code, some (FieldType.int)), (⟨"OneTurned", "evening", "(II)I"⟩, prog_1_method_42_code, some (FieldType.int)), (⟨"OneTurned", "odds", "(III)J"⟩, prog_1_method_43_code, some (FieldType.long)), (⟨"OneTurned", "image", "()I"⟩, prog_1_method_44_code, some (FieldType.int)), (⟨"OneTurned", "back", "()I"⟩, prog_1_method_45_code, some (FieldType.int))]
def mtd_4 : List (MethodName × ByteArray × Option FieldType) := [(⟨"OneTurned", "sheet", "(III)I"⟩, prog_1_method_46_code, some (FieldType.int)), (⟨"OneTurned", "cell", "(III)I"⟩, prog_1_method_47_code, some (FieldType.int)), (⟨"OneTurned", "copy", "(IIIII)I"⟩, prog_1_method_48_code, some (FieldType.int)), (⟨"OneTurned", "heapsBy", "(IIII)I"⟩, prog_1_method_49_code, some (FieldType.int)), (⟨"OneTurned", "taken", "(II)I"⟩, prog_1_method_50_code, some (FieldType.int)), (⟨"OneTurned", "isWithin", "(III)Z"⟩, prog_1_method_51_code, some (FieldType.boolean)), (⟨"OneTurned", "isByte", "(I)Z"⟩, prog_1_method_52_code, some (FieldType.boolean)), (⟨"OneTurned", "bit", "(I)I"⟩, prog_1_method_53_code, some (FieldType.int)), (⟨"OneTurned", "bitsBelow", "(I)I"⟩, prog_1_method_54_code, some (FieldType.int)), (⟨"OneTurned", "hasBit", "(II)Z"⟩, prog_1_method_55_code, some (FieldType.boolean)), (⟨"OneTurned", "sizeOf", "(I)I"⟩, prog_1_method_56_code, some (FieldType.int)), (⟨"OneTurned", "lowestBit", "(I)I"⟩, prog_1_method_57_code, some (FieldType.int)), (⟨"OneTurned", "signIn", "(II)I"⟩, prog_1_method_58_code, some (FieldType.int)), (⟨"OneTurned", "asTwo", "(II)I"⟩, prog_1_method_59_code, some (FieldType.int)), (⟨"OneTurned", "inLowestTerms", "(III)J"⟩, prog_1_method_60_code, some (FieldType.long)), (⟨"OneTurned", "lawSays", "(III)I"⟩, prog_1_method_61_code, some (FieldType.int)), (⟨"OneTurned", "menders", "(I)I"⟩, prog_1_method_62_code, some (FieldType.int)), (⟨"OneTurned", "fewest", "(III)I"⟩, prog_1_method_63_code, some (FieldType.int)), (⟨"OneTurned", "unlikeByOne", "()I"⟩, prog_1_method_64_code, some (FieldType.int)), (⟨"OneTurned", "firstAlike", "()I"⟩, prog_1_method_65_code, some (FieldType.int)), (⟨"OneTurned", "noteSigns", "(II)I"⟩, prog_1_method_66_code, some (FieldType.int)), (⟨"OneTurned", "onlyFailing", "(I)I"⟩, prog_1_method_67_code, some (FieldType.int)), (⟨"OneTurned", "areTwos", "()Z"⟩, prog_1_method_68_code, some (FieldType.boolean)), (⟨"OneTurned", "numbersTogether", "()I"⟩, prog_1_method_69_code, some (FieldType.int)), (⟨"OneTurned", "weighWays", "()V"⟩, prog_1_method_70_code, none), (⟨"OneTurned", "likeliest", "()I"⟩, prog_1_method_71_code, some (FieldType.int)), (⟨"OneTurned", "weightOfWay", "(I)I"⟩, prog_1_method_72_code, some (FieldType.int)), (⟨"OneTurned", "weightOfAllWays", "()I"⟩, prog_1_method_73_code, some (FieldType.int)), (⟨"OneTurned", "sheetAt", "(I)LOneTurned$Sheet;"⟩, prog_1_method_74_code, some (FieldType.object "OneTurned$Sheet")), (⟨"OneTurned", "refusalOfTold", "(I)I"⟩, prog_1_method_75_code, some (FieldType.int)), (⟨"OneTurned", "toldSigns", "(I)I"⟩, prog_1_method_76_code, some (FieldType.int)), (⟨"OneTurned", "cardBy", "(I)I"⟩, prog_1_method_77_code, some (FieldType.int))]
def mtd_5 : List (MethodName × ByteArray × Option FieldType) := [(⟨"OneTurned", "isFound", "(I)Z"⟩, prog_1_method_78_code, some (FieldType.boolean)), (⟨"OneTurned", "newHeap", "(III)LOneTurned$Heap;"⟩, prog_1_method_79_code, some (FieldType.object "OneTurned$Heap")), (⟨"OneTurned", "isOfKind", "(LOneTurned$Heap;I)Z"⟩, prog_1_method_80_code, some (FieldType.boolean)), (⟨"OneTurned", "takenCard", "(II)I"⟩, prog_1_method_81_code, some (FieldType.int)), (⟨"OneTurned", "takenHeap", "(II)I"⟩, prog_1_method_82_code, some (FieldType.int)), (⟨"OneTurnedModel", "<init>", "()V"⟩, prog_14_method_1_code, none), (⟨"OneTurnedModel", "in", "(III)Z"⟩, prog_14_method_3_code, some (FieldType.boolean)), (⟨"OneTurnedModel", "within", "(III)I"⟩, prog_14_method_4_code, some (FieldType.int)), (⟨"OneTurnedModel", "ones", "(I)I"⟩, prog_14_method_5_code, some (FieldType.int)), (⟨"OneTurnedModel", "isCard", "(I)Z"⟩, prog_14_method_6_code, some (FieldType.boolean)), (⟨"OneTurnedModel", "isHeap", "(I)Z"⟩, prog_14_method_7_code, some (FieldType.boolean)), (⟨"OneTurnedModel", "allCards", "()I"⟩, prog_14_method_8_code, some (FieldType.int)), (⟨"OneTurnedModel", "isSet", "(I)Z"⟩, prog_14_method_9_code, some (FieldType.boolean)), (⟨"OneTurnedModel", "table", "(II)I"⟩, prog_14_method_10_code, some (FieldType.int)), (⟨"OneTurnedModel", "turn", "(I)I"⟩, prog_14_method_11_code, some (FieldType.int)), (⟨"OneTurnedModel", "swapped", "(III)I"⟩, prog_14_method_12_code, some (FieldType.int)), (⟨"OneTurnedModel", "swap", "(II)I"⟩, prog_14_method_13_code, some (FieldType.int)), (⟨"OneTurnedModel", "count", "(I)I"⟩, prog_14_method_14_code, some (FieldType.int)), (⟨"OneTurnedModel", "isByte", "(I)Z"⟩, prog_14_method_15_code, some (FieldType.boolean)), (⟨"OneTurnedModel", "feed", "(IIIIII)I"⟩, prog_14_method_16_code, some (FieldType.int)), (⟨"OneTurnedModel", "wordFrom", "(II)I"⟩, prog_14_method_17_code, some (FieldType.int)), (⟨"OneTurnedModel", "next", "()V"⟩, prog_14_method_18_code, none), (⟨"OneTurnedModel", "rank", "(I)I"⟩, prog_14_method_19_code, some (FieldType.int)), (⟨"OneTurnedModel", "puts", "(I)V"⟩, prog_14_method_20_code, none), (⟨"OneTurnedModel", "unwinds", "(I)V"⟩, prog_14_method_21_code, none), (⟨"OneTurnedModel", "holds", "(I)V"⟩, prog_14_method_22_code, none), (⟨"OneTurnedModel", "opensOne", "(I)Z"⟩, prog_14_method_23_code, some (FieldType.boolean)), (⟨"OneTurnedModel", "between", "(I)Z"⟩, prog_14_method_24_code, some (FieldType.boolean)), (⟨"OneTurnedModel", "signOf", "()I"⟩, prog_14_method_25_code, some (FieldType.int)), (⟨"OneTurnedModel", "eRead", "()Z"⟩, prog_14_method_26_code, some (FieldType.boolean)), (⟨"OneTurnedModel", "text", "()I"⟩, prog_14_method_27_code, some (FieldType.int)), (⟨"OneTurnedModel", "two", "(III)I"⟩, prog_14_method_28_code, some (FieldType.int))]
def mtd_6 : List (MethodName × ByteArray × Option FieldType) := [(⟨"OneTurnedModel", "worth", "(I)I"⟩, prog_14_method_29_code, some (FieldType.int)), (⟨"OneTurnedModel", "force", "(I)I"⟩, prog_14_method_30_code, some (FieldType.int)), (⟨"OneTurnedModel", "asksOf", "(II)I"⟩, prog_14_method_31_code, some (FieldType.int)), (⟨"OneTurnedModel", "asks", "(II)I"⟩, prog_14_method_32_code, some (FieldType.int)), (⟨"OneTurnedModel", "isMade", "(III)Z"⟩, prog_14_method_33_code, some (FieldType.boolean)), (⟨"OneTurnedModel", "heap", "(III)I"⟩, prog_14_method_34_code, some (FieldType.int)), (⟨"OneTurnedModel", "drop", "()I"⟩, prog_14_method_35_code, some (FieldType.int)), (⟨"OneTurnedModel", "isIn", "(II)Z"⟩, prog_14_method_36_code, some (FieldType.boolean)), (⟨"OneTurnedModel", "cardsIn", "(I)I"⟩, prog_14_method_37_code, some (FieldType.int)), (⟨"OneTurnedModel", "signOf", "(III)I"⟩, prog_14_method_38_code, some (FieldType.int)), (⟨"OneTurnedModel", "signsOf", "(I)I"⟩, prog_14_method_39_code, some (FieldType.int)), (⟨"OneTurnedModel", "looksAt", "()V"⟩, prog_14_method_40_code, none), (⟨"OneTurnedModel", "quick", "(I)I"⟩, prog_14_method_41_code, some (FieldType.int)), (⟨"OneTurnedModel", "failing", "(I)I"⟩, prog_14_method_42_code, some (FieldType.int)), (⟨"OneTurnedModel", "told", "(II)I"⟩, prog_14_method_43_code, some (FieldType.int)), (⟨"OneTurnedModel", "signs", "(I)I"⟩, prog_14_method_44_code, some (FieldType.int)), (⟨"OneTurnedModel", "look", "(I)I"⟩, prog_14_method_45_code, some (FieldType.int)), (⟨"OneTurnedModel", "holdsBy", "(I)Z"⟩, prog_14_method_46_code, some (FieldType.boolean)), (⟨"OneTurnedModel", "oneBy", "(I)I"⟩, prog_14_method_47_code, some (FieldType.int)), (⟨"OneTurnedModel", "one", "()I"⟩, prog_14_method_48_code, some (FieldType.int)), (⟨"OneTurnedModel", "two", "(I)I"⟩, prog_14_method_49_code, some (FieldType.int)), (⟨"OneTurnedModel", "counts", "(I)I"⟩, prog_14_method_50_code, some (FieldType.int)), (⟨"OneTurnedModel", "unseen", "(I)I"⟩, prog_14_method_51_code, some (FieldType.int)), (⟨"OneTurnedModel", "apart", "(I)I"⟩, prog_14_method_52_code, some (FieldType.int)), (⟨"OneTurnedModel", "reach", "(I)I"⟩, prog_14_method_53_code, some (FieldType.int)), (⟨"OneTurnedModel", "fewestBy", "(II)I"⟩, prog_14_method_54_code, some (FieldType.int)), (⟨"OneTurnedModel", "lay", "(II)I"⟩, prog_14_method_55_code, some (FieldType.int)), (⟨"OneTurnedModel", "even", "(I)I"⟩, prog_14_method_56_code, some (FieldType.int)), (⟨"OneTurnedModel", "needs", "(I)I"⟩, prog_14_method_57_code, some (FieldType.int)), (⟨"OneTurnedModel", "isTwos", "(I)Z"⟩, prog_14_method_58_code, some (FieldType.boolean)), (⟨"OneTurnedModel", "can", "(I)I"⟩, prog_14_method_59_code, some (FieldType.int)), (⟨"OneTurnedModel", "readNow", "()I"⟩, prog_14_method_60_code, some (FieldType.int))]
def mtd_7 : List (MethodName × ByteArray × Option FieldType) := [(⟨"OneTurnedModel", "reads", "()I"⟩, prog_14_method_61_code, some (FieldType.int)), (⟨"OneTurnedModel", "coin", "(I)I"⟩, prog_14_method_62_code, some (FieldType.int)), (⟨"OneTurnedModel", "swaps", "(I)I"⟩, prog_14_method_63_code, some (FieldType.int)), (⟨"OneTurnedModel", "swept", "(II)I"⟩, prog_14_method_64_code, some (FieldType.int)), (⟨"OneTurnedModel", "cutBy", "(I)I"⟩, prog_14_method_65_code, some (FieldType.int)), (⟨"OneTurnedModel", "cut", "(I)I"⟩, prog_14_method_66_code, some (FieldType.int)), (⟨"OneTurnedModel", "cuts", "(I)I"⟩, prog_14_method_67_code, some (FieldType.int)), (⟨"OneTurnedModel", "movedBy", "(II)I"⟩, prog_14_method_68_code, some (FieldType.int)), (⟨"OneTurnedModel", "move", "(II)I"⟩, prog_14_method_69_code, some (FieldType.int)), (⟨"OneTurnedModel", "moves", "(I)I"⟩, prog_14_method_70_code, some (FieldType.int)), (⟨"OneTurnedModel", "weighs", "(III)V"⟩, prog_14_method_71_code, none), (⟨"OneTurnedModel", "findsWays", "()V"⟩, prog_14_method_72_code, none), (⟨"OneTurnedModel", "likely", "(I)I"⟩, prog_14_method_73_code, some (FieldType.int)), (⟨"OneTurnedModel", "lowest", "(JJI)J"⟩, prog_14_method_74_code, some (FieldType.long)), (⟨"OneTurnedModel", "right", "(I)J"⟩, prog_14_method_75_code, some (FieldType.long)), (⟨"OneTurnedModel", "cheapest", "(I)I"⟩, prog_14_method_76_code, some (FieldType.int)), (⟨"OneTurnedModel", "lies", "()I"⟩, prog_14_method_77_code, some (FieldType.int)), (⟨"OneTurnedModel", "idle", "()I"⟩, prog_14_method_78_code, some (FieldType.int)), (⟨"OneTurnedModel", "sheetWrong", "(I)I"⟩, prog_14_method_79_code, some (FieldType.int)), (⟨"OneTurnedModel", "toldSigns", "(I)I"⟩, prog_14_method_80_code, some (FieldType.int)), (⟨"OneTurnedModel", "judge", "(I)I"⟩, prog_14_method_81_code, some (FieldType.int)), (⟨"OneTurnedModel", "match", "(II)I"⟩, prog_14_method_82_code, some (FieldType.int)), (⟨"OneTurnedModel", "tells", "(III)I"⟩, prog_14_method_83_code, some (FieldType.int)), (⟨"OneTurnedModel", "film", "(I)I"⟩, prog_14_method_84_code, some (FieldType.int)), (⟨"OneTurnedModel", "cardOf", "(I)I"⟩, prog_14_method_85_code, some (FieldType.int)), (⟨"OneTurnedModel", "isFound", "(I)Z"⟩, prog_14_method_86_code, some (FieldType.boolean)), (⟨"OneTurnedModel", "evening", "(II)I"⟩, prog_14_method_87_code, some (FieldType.int)), (⟨"OneTurnedModel", "odds", "(III)J"⟩, prog_14_method_88_code, some (FieldType.long)), (⟨"OneTurnedModel", "image", "()I"⟩, prog_14_method_89_code, some (FieldType.int)), (⟨"OneTurnedModel", "back", "()I"⟩, prog_14_method_90_code, some (FieldType.int)), (⟨"OneTurnedModel", "sheet", "(III)I"⟩, prog_14_method_91_code, some (FieldType.int)), (⟨"OneTurnedModel", "cell", "(III)I"⟩, prog_14_method_92_code, some (FieldType.int))]
def mtd_8 : List (MethodName × ByteArray × Option FieldType) := [(⟨"OneTurnedModel", "copy", "(IIIII)I"⟩, prog_14_method_93_code, some (FieldType.int)), (⟨"OneTurnedModel", "heapsBy", "(IIII)I"⟩, prog_14_method_94_code, some (FieldType.int)), (⟨"OneTurnedModel", "isUnder", "(II)Z"⟩, prog_14_method_95_code, some (FieldType.boolean)), (⟨"OneTurnedModel", "taken", "(II)I"⟩, prog_14_method_96_code, some (FieldType.int)), (⟨"java/lang/Integer", "bitCount", "(I)I"⟩, prog_16_method_49_code, some (FieldType.int)), (⟨"java/util/Arrays", "fill", "([II)V"⟩, prog_22_method_103_code, none), (⟨"java/util/Arrays", "copyOf", "([II)[I"⟩, prog_22_method_123_code, some (FieldType.array FieldType.int)), (x, code, some .boolean)]
def mtds : List (List (MethodName × ByteArray × Option FieldType)) := [mtd_0, mtd_1, mtd_2, mtd_3, mtd_4, mtd_5, mtd_6, mtd_7, mtd_8]
def mtd (m : Nat) : MethodName × ByteArray × Option FieldType := (mtds.getD (m / 32) []).getD (m % 32) (x, code, none)
end
section
/-! what an instruction links, held against the tables by places -/
def tch (k : Nat) : List Cond := match k with
  | 0 => k2_sels lw_privs
  | 1 => tables_1_1
  | 2 => tables_1_2
  | 3 => tables_1_3
  | 4 => tables_1_4
  | 5 => tables_1_5
  | 6 => tables_1_6
  | 7 => tables_1_7
  | _ => []
theorem tch_ok (k : Nat) : ∀ w ∈ tch k, w ∈ lw_tbl := by
  intro w h
  unfold lw_tbl tables_1
  simp only [List.mem_append]
  match k, h with
  | 0, h => exact Or.inl h
  | 1, h => exact Or.inr (Or.inl h)
  | 2, h => exact Or.inr (Or.inr (Or.inl h))
  | 3, h => exact Or.inr (Or.inr (Or.inr (Or.inl h)))
  | 4, h => exact Or.inr (Or.inr (Or.inr (Or.inr (Or.inl h))))
  | 5, h => exact Or.inr (Or.inr (Or.inr (Or.inr (Or.inr (Or.inl h)))))
  | 6, h => exact Or.inr (Or.inr (Or.inr (Or.inr (Or.inr (Or.inr (Or.inl h))))))
  | 7, h => exact Or.inr (Or.inr (Or.inr (Or.inr (Or.inr (Or.inr (Or.inr h))))))
  | k + 8, h => exact absurd h (by simp [tch])
def tn (k : Nat) (w : Cond) : Bool := decide ((tch (k / 1000))[k % 1000]? = some w)
def tb (k : Nat) (w : Cond) : Bool := goodWord w && tn k w
theorem tn_ok {k : Nat} {w : Cond} (h : tn k w = true) : w ∈ lw_tbl := by
  unfold tn at h
  simp only [decide_eq_true_eq] at h
  exact tch_ok _ _ (List.mem_of_getElem? h)
theorem tb_ok {k : Nat} {w : Cond} (h : tb k w = true) : w ∈ gtbl := by
  unfold tb at h
  simp only [Bool.and_eq_true] at h
  exact List.mem_filter.mpr ⟨tn_ok h.2, h.1⟩
theorem tc_ok (k : Nat) {w : Cond} (h : (tch (k / 1000))[k % 1000]? = some w) (hg : goodWord w = true) : w ∈ gtbl := List.mem_filter.mpr ⟨tch_ok _ _ (List.mem_of_getElem? h), hg⟩
def mhN (y : MethodName) : Bool := decide (y.cls ≠ "java/lang/invoke/MethodHandle") && decide (y.cls ≠ "java/lang/invoke/VarHandle")
def mnp (y : MethodName) (n : Nat) : Bool := decide ((parseMethodDescriptor y.desc).map (fun d => d.parameters.length) = some n)
/-- a called method's own words -/
def mcw (m : Nat) : Bool := mhN (mtd m).1 && Nat.ble (prg m).2 40 && Nat.blt m 263
def lkV (own : String) (i n : Nat) : List Nat → List Nat → Bool
  | t :: m :: ps, a1 :: a2 :: a3 :: a4 :: a5 :: a6 :: a7 :: a8 :: ax => (bif Nat.ble 1000 m then Nat.beq t 98 && (bif Nat.beq m 1004 then Nat.beq n 0 && tb a1 (.methodLink own i ⟨"java/lang/String", "length", "()I"⟩) else Nat.beq m 1005 && Nat.beq n 1 && tb a1 (.methodLink own i ⟨"java/lang/String", "charAt", "(I)C"⟩))
      else mcw m && mnp (mtd m).1 n && Nat.blt t 13 && tb a2 (.instanceMethod (mtd m).1) && tb a3 (.initialized (mtd m).1.cls) &&
        (bif Nat.beq a4 0 then decide (cnm t = (mtd m).1.cls) && tb a5 (.methodLink own i (mtd m).1) && tb a6 (.selects (cnm t) (mtd m).1 (mtd m).1)
          else tb a5 (.methodLink own i ⟨cnm 3, (mtd m).1.name, (mtd m).1.desc⟩) && tb a6 (.selects (cnm t) ⟨cnm 3, (mtd m).1.name, (mtd m).1.desc⟩ (mtd m).1) && tb a7 (.sameMethod (cnm 3) (cnm 3) (mtd m).1.name (mtd m).1.desc) &&
            decide ((mtd a4).1 = ⟨cnm 3, (mtd m).1.name, (mtd m).1.desc⟩) && tb a8 (.instanceMethod (mtd a4).1) && mcw a4)) && lkV own i n ps (ax.drop 1)
  | [], _ => true
  | _, _ => false
/-- kinds of heaps that aren't of another kind -/
def ncP : List (Nat × Nat) := [(3, 6), (3, 2), (3, 1), (3, 8), (3, 10), (6, 2), (6, 1), (6, 8), (6, 10), (2, 6), (2, 1), (2, 8), (2, 10), (1, 2), (1, 8), (1, 10), (8, 6), (8, 2), (8, 1), (8, 10), (10, 6), (10, 1), (10, 8)]
def jok (pc : Nat) (off : Int) (t : Nat) : Bool := decide ((pc : Int) + off = (t : Int))
/-- keys and targets of a switch -/
def swO (pc : Nat) : List (Int × Int) → List Value → List Nat → Bool
  | (k, o) :: ps, .int v :: cs, t :: ts => decide (v.toInt = k) && jok pc o t && swO pc ps cs ts
  | [], [], [] => true
  | _, _, _ => false
def lkB (mn : MethodName) (rt : Option FieldType) (pc : Nat) (i : Instr) (len : Nat) (rs : List Nat) (cs : List Value) (ax : List Nat) : Bool :=
  match i with
  | .iconst n => Nat.beq len 1 && decide (cs = [.int (Int32.ofInt n)])
  | .bipush n => Nat.beq len 2 && decide (cs = [.int (Int8.ofInt n).toInt32])
  | .sipush n => Nat.beq len 3 && decide (cs = [.int (Int16.ofInt n).toInt32])
  | .lconst n => Nat.beq len 1 && decide (cs = [.long (Int64.ofNat n.val)])
  | .ldc k => Nat.beq len 2 && (match cs, ax with
    | [.int v], [a] => tb a (.constant mn.cls k v)
    | [.ref 1], [] => decide (mn.cls = "OneTurned") && Nat.beq k 56
    | [.ref 2], [] => decide (mn.cls = "OneTurned$Tape") && Nat.beq k 117
    | _, _ => false)
  | .ldc_w k => Nat.beq len 3 && (match cs, ax with
    | [.int v], [a] => tb a (.constant mn.cls k v)
    | _, _ => false)
  | .ldc2_w k => Nat.beq len 3 && (match cs, ax with
    | [.long v], [a] => tb a (.constantLong mn.cls k v)
    | _, _ => false)
  | .iinc _ z => Nat.beq len 3 && decide (cs = [.int (Int32.ofInt z)])
  | .iload _ | .aload _ | .istore _ | .astore _ | .lload _ | .lstore _ => Nat.beq len 2
  | .goto off | .ifCond _ off | .if_icmp _ off | .ifnull off | .ifnonnull off => Nat.beq len 3 && (match rs with
    | [t] => jok pc off t
    | _ => false)
  | .tableswitch df lo hi offs => (match rs with
    | t :: ts => jok pc df t && decide (hi = lo + (offs.size : Int) - 1) && swO pc (offs.toList.mapIdx fun k o => (lo + (k : Int), o)) cs ts
    | _ => false)
  | .lookupswitch df ps => (match rs with
    | t :: ts => jok pc df t && (ps.toList.zip (ps.toList.drop 1)).all (fun (a, next) => a.1 < next.1) && swO pc ps.toList cs ts
    | _ => false)
  | .ireturn => Nat.beq len 1 && (match rs with
    | [0] => decide (rt = some .int)
    | [1] => decide (rt = some .boolean)
    | _ => false)
  | .lreturn => Nat.beq len 1 && decide (rt = some .long)
  | .areturn => Nat.beq len 1 && (match rt with
    | some (.object _) => true
    | some (.array _) => true
    | _ => false)
  | .return_ => Nat.beq len 1 && decide (rt = none)
  | .getfield k => Nat.beq len 3 && (match rs, ax with
    | _ :: j :: ts, a0 :: rc :: a2 :: _ => ts.all fun t => (match clsL[t]? with
      | some (_, T, N) => Nat.blt j N && tb a0 (.fieldLink mn.cls k (cnm rc) (T j).2.1 (T j).2.2.1) && (decide (cnm rc = (T j).1) || tb a2 (.sameField (cnm rc) (T j).1 (T j).2.1 (T j).2.2.1))
      | none => false)
    | _, _ => false)
  | .putfield k => Nat.beq len 3 && (match rs, ax with
    | q :: j :: ts, a0 :: rc :: a2 :: _ => ts.all fun t => (match clsL[t]? with
      | some (_, T, N) => Nat.blt j N && tb a0 (.fieldLink mn.cls k (cnm rc) (T j).2.1 (T j).2.2.1) && (decide (cnm rc = (T j).1) || tb a2 (.sameField (cnm rc) (T j).1 (T j).2.1 (T j).2.2.1)) &&
        (match q with
          | 0 => decide (parseFieldDescriptor (T j).2.2.1 = some .int)
          | 1 => decide (parseFieldDescriptor (T j).2.2.1 = some .boolean)
          | _ => (match parseFieldDescriptor (T j).2.2.1 with
            | some (.object _) => true
            | some (.array _) => true
            | _ => false)) && (!(T j).2.2.2 || (decide (mn.name = "<init>") && decide ((T j).1 = mn.cls)))
      | none => false)
    | _, _ => false)
  | .newarray a => Nat.beq len 2 && decide (a = .int)
  | .anewarray k => Nat.beq len 3 && (match rs, ax with
    | [101], [a] => tb a (.classLink mn.cls k (cnm 3))
    | [102], [a] => tb a (.classLink mn.cls k (cnm 5))
    | [103], [a] => tb a (.classLink mn.cls k (cnm 7))
    | _, _ => false)
  | .new k => Nat.beq len 3 && (match rs, ax with
    | [t], [a1, a2, a3] => (match clsL[t]? with
      | some (C, T, N) => tb a1 (.classLink mn.cls k C) && tb a2 (.instantiable C N) && tb a3 (.initialized C) && decide (cs.length = N) && (List.range N).all fun j => (match parseFieldDescriptor (T j).2.2.1 with
        | some ty => decide (cs[j]? = some (defaultValue ty))
        | none => false)
      | none => false)
    | _, _ => false)
  | .instanceof k => Nat.beq len 3 && (match rs, ax with
    | n :: ts, a :: rc :: bs => tb a (.classLink mn.cls k (cnm rc)) && (ts.all fun t => Nat.blt t 13) && ((ts.take n).zip bs).all (fun q => Nat.beq q.1 rc || tn q.2 (.castable (cnm q.1) (cnm rc))) && Nat.beq bs.length n && (ts.drop n).all (fun t => ncP.contains (t, rc))
    | _, _ => false)
  | .invokestatic k => Nat.beq len 3 && (match rs, ax with
    | m :: n :: _ :: _, a1 :: a2 :: a3 :: a4 :: a5 :: _ => (bif Nat.ble 1000 m then (match m - 1000 with
        | 0 => Nat.beq n 2 && tb a1 (.methodLink mn.cls k Lib.Math.max.name)
        | 1 => Nat.beq n 2 && tb a1 (.methodLink mn.cls k Lib.Math.min.name)
        | 2 => Nat.beq n 5 && tb a1 (.methodLink mn.cls k arraycopyName)
        | _ => false)
      else mcw m && mnp (mtd m).1 n && tb a2 (.static (mtd m).1) && tb a3 (.initialized (mtd m).1.cls) && (bif Nat.beq a4 0 then tb a5 (.methodLink mn.cls k (mtd m).1) else tn a5 (.methodLinkNest mn.cls k (mtd m).1 "OneTurned")))
    | _, _ => false)
  | .invokespecial k => Nat.beq len 3 && (match rs, ax with
    | m :: n :: _ :: _, a1 :: a2 :: a3 :: a4 :: a5 :: a6 :: a7 :: _ => (bif Nat.ble 1000 m then Nat.beq m 1003 && Nat.beq n 0 && tb a1 (.methodLink mn.cls k objectInit)
      else mcw m && mnp (mtd m).1 n && tb a2 (.instanceMethod (mtd m).1) && tb a3 (.initialized (mtd m).1.cls) && (match a4 with
        | 0 => decide ((mtd m).1.name = "<init>") && decide ((mtd m).2.2 = none) && tb a5 (.methodLink mn.cls k (mtd m).1)
        | 1 => decide ((mtd m).1.name = "<init>") && decide ((mtd m).2.2 = none) && tn a5 (.methodLinkNest mn.cls k (mtd m).1 "OneTurned")
        | _ => decide ((mtd m).1.name ≠ "<init>") && tb a5 (.methodLink mn.cls k ⟨cnm 2, (mtd m).1.name, (mtd m).1.desc⟩) && tb a6 (.sameMethod (cnm 2) (mtd m).1.cls (mtd m).1.name (mtd m).1.desc) && tb a7 (.superclass mn.cls (cnm 2)) && decide (mn.cls = cnm 10)))
    | _, _ => false)
  | .invokevirtual k => Nat.beq len 3 && (match rs with
    | n :: _ :: ps => lkV mn.cls k n ps ax
    | _ => false)
  | _ => Nat.beq len 1
/-- an instruction of a method's code: decoded as it stands, its links held -/
def chk1 (mn : MethodName) (rt : Option FieldType) (bs : ByteArray) (nl : Nat) (q : MIns × Nat × List Nat) : Bool := decide (decode bs q.1.1 = .ok (q.1.2.1, q.2.1)) && lkB mn rt q.1.1 q.1.2.1 q.2.1 q.1.2.2.1 q.1.2.2.2 q.2.2 && (match q.1.2.1 with
  | .istore n | .astore n | .iinc n _ => Nat.blt n nl
  | .istore_n n | .astore_n n => Nat.blt n.val nl
  | .lstore n => Nat.blt (n + 1) nl
  | .lstore_n n => Nat.blt (n.val + 1) nl
  | _ => true)
/-- one instruction behind the other -/
def sqo : List MIns → List (Nat × List Nat) → Bool
  | i :: r, (len, _) :: hs => (match r with
      | [] => true
      | j :: _ => Nat.beq j.1 (i.1 + len)) && sqo r hs
  | [], [] => true
  | _, _ => false
theorem all_chunks {α : Type} (p : α → Bool) (n : Nat) : ∀ (J : Nat) (l : List α), l.length ≤ n * J → (∀ j, j < J → ((l.drop (n * j)).take n).all p = true) → l.all p = true := by
  intro J
  induction J with
  | zero =>
    intro l hl _
    cases l with
    | nil => rfl
    | cons a r => simp at hl
  | succ J ih =>
    intro l hl h
    rw [← List.take_append_drop n l, List.all_append, Bool.and_eq_true]
    refine ⟨by simpa using h 0 (Nat.succ_pos _), ih (l.drop n) (by rw [List.length_drop]; rw [Nat.mul_succ] at hl; omega) fun j hj => ?_⟩
    have := h (j + 1) (Nat.succ_lt_succ hj)
    rw [List.drop_drop]
    rwa [Nat.mul_succ, Nat.add_comm] at this
/-- what holds of a method's code -/
def ckM (m : Nat) (hn : List (Nat × List Nat)) : Prop := ((prg m).1.zip hn).all (chk1 (mtd m).1 (mtd m).2.2 (mtd m).2.1 (prg m).2) = true ∧ sqo (prg m).1 hn = true ∧ okc (prg m).1 = true ∧ plainName (mtd m).1.cls = true
end
section
/-! the small machine's state beside the real one's -/
def okV (v : Value) : Bool := match v with
  | .int _ => true
  | .long _ => true
  | .null => true
  | .ref _ => true
  | _ => false
def shv (ad : Nat → Nat) (v : Value) : Value := match v with
  | .ref k => .ref (ad k)
  | v => v
theorem shv_cat (ad : Nat → Nat) (v : Value) : (shv ad v).category = v.category := by cases v <;> rfl
def prs (ad : Nat → Nat) : Nat → MLoc → List (Nat × Value)
  | _, [] => []
  | k, some (.inl v) :: r => (k, shv ad v) :: prs ad (k + 1) r
  | k, some (.inr y) :: r => (k, .long y) :: prs ad (k + 1) r
  | k, none :: r => prs ad (k + 1) r
def lok (L : MLoc) : Prop := ∀ v, some (.inl v) ∈ L → v.category = 1
def LR (ad : Nat → Nat) (ls : Array Slot) (nL : Nat) (L : MLoc) : Prop := lv_has ls nL (prs ad 0 L) ∧ L.length = nL ∧ lok L
theorem prs_ge {ad : Nat → Nat} : ∀ (L : MLoc) (k : Nat) (q : Nat × Value), q ∈ prs ad k L → k ≤ q.1 := by
  intro L
  induction L with
  | nil => intro k q h; cases h
  | cons x r ih =>
    intro k q h
    rcases x with _ | (v | y)
    · exact Nat.le_of_succ_le (ih _ _ h)
    · rcases List.mem_cons.mp h with rfl | h
      · exact Nat.le_refl _
      · exact Nat.le_of_succ_le (ih _ _ h)
    · rcases List.mem_cons.mp h with rfl | h
      · exact Nat.le_refl _
      · exact Nat.le_of_succ_le (ih _ _ h)
theorem prs_tail {ad : Nat → Nat} {x : MSl} {r : MLoc} {k : Nat} {q : Nat × Value} (h : q ∈ prs ad (k + 1) r) : q ∈ prs ad k (x :: r) := by
  rcases x with _ | (v | y)
  · exact h
  · exact List.mem_cons_of_mem _ h
  · exact List.mem_cons_of_mem _ h
theorem lok_tail {x : MSl} {r : MLoc} (h : lok (x :: r)) : lok r := fun v hv => h v (List.mem_cons_of_mem _ hv)
theorem prs_mst {ad : Nat → Nat} : ∀ (L : MLoc) (k i : Nat) (v : Value) (q : Nat × Value), lok L → q ∈ prs ad k (mst L i v) → q = (k + i, shv ad v) ∨ (q ∈ prs ad k L ∧ q.1 ≠ k + i ∧ ¬ (q.1 + 1 = k + i ∧ q.2.category = 2)) := by
  intro L
  induction L with
  | nil => intro k i v q _ h; cases h
  | cons x r ih =>
    intro k i v q hl h
    cases i with
    | zero =>
      have h : q ∈ (k, shv ad v) :: prs ad (k + 1) r := h
      rcases List.mem_cons.mp h with rfl | h
      · exact Or.inl rfl
      · have := prs_ge _ _ _ h
        exact Or.inr ⟨prs_tail h, by omega, by omega⟩
    | succ n =>
      have hrec : ∀ q, q ∈ prs ad (k + 1) (mst r n v) → q = (k + (n + 1), shv ad v) ∨ (q ∈ prs ad k (x :: r) ∧ q.1 ≠ k + (n + 1) ∧ ¬ (q.1 + 1 = k + (n + 1) ∧ q.2.category = 2)) := by
        intro q h
        rcases ih (k + 1) n v q (lok_tail hl) h with e | ⟨e1, e2, e3⟩
        · exact Or.inl (by rw [e]; congr 1; omega)
        · exact Or.inr ⟨prs_tail e1, by omega, by omega⟩
      cases n with
      | zero =>
        rcases x with _ | (w | y)
        · exact hrec q h
        · have h : q ∈ (k, shv ad w) :: prs ad (k + 1) (mst r 0 v) := h
          rcases List.mem_cons.mp h with rfl | h
          · refine Or.inr ⟨List.mem_cons_self, by show k ≠ _; omega, fun z => ?_⟩
            have h1 := hl w List.mem_cons_self
            have h2 : (shv ad w).category = 2 := z.2
            rw [shv_cat] at h2
            omega
          · exact hrec q h
        · exact hrec q h
      | succ n =>
        rcases x with _ | (w | y)
        · exact hrec q h
        · have h : q ∈ (k, shv ad w) :: prs ad (k + 1) (mst r (n + 1) v) := h
          rcases List.mem_cons.mp h with rfl | h
          · exact Or.inr ⟨List.mem_cons_self, by show k ≠ _; omega, fun z => by have := z.1; simp only at this; omega⟩
          · exact hrec q h
        · have h : q ∈ (k, Value.long y) :: prs ad (k + 1) (mst r (n + 1) v) := h
          rcases List.mem_cons.mp h with rfl | h
          · exact Or.inr ⟨List.mem_cons_self, by show k ≠ _; omega, fun z => by have := z.1; simp only at this; omega⟩
          · exact hrec q h
theorem prs_mhd {ad : Nat → Nat} : ∀ (L : MLoc) (k : Nat) (q : Nat × Value), q ∈ prs ad k (mhd L) → q ∈ prs ad k L ∧ q.1 ≠ k := by
  intro L k q h
  cases L with
  | nil => cases h
  | cons x r =>
    have h : q ∈ prs ad (k + 1) r := h
    have := prs_ge _ _ _ h
    exact ⟨prs_tail h, by omega⟩
theorem prs_mstL {ad : Nat → Nat} : ∀ (L : MLoc) (k i : Nat) (y : Int64) (q : Nat × Value), lok L → q ∈ prs ad k (mstL L i y) → q = (k + i, .long y) ∨ (q ∈ prs ad k L ∧ q.1 ≠ k + i ∧ q.1 ≠ k + i + 1 ∧ ¬ (q.1 + 1 = k + i ∧ q.2.category = 2)) := by
  intro L
  induction L with
  | nil => intro k i v q _ h; cases h
  | cons x r ih =>
    intro k i v q hl h
    cases i with
    | zero =>
      have h : q ∈ (k, .long v) :: prs ad (k + 1) (mhd r) := h
      rcases List.mem_cons.mp h with rfl | h
      · exact Or.inl rfl
      · obtain ⟨h1, h2⟩ := prs_mhd _ _ _ h
        have := prs_ge _ _ _ h1
        exact Or.inr ⟨prs_tail h1, by omega, by omega, by omega⟩
    | succ n =>
      have hrec : ∀ q, q ∈ prs ad (k + 1) (mstL r n v) → q = (k + (n + 1), .long v) ∨ (q ∈ prs ad k (x :: r) ∧ q.1 ≠ k + (n + 1) ∧ q.1 ≠ k + (n + 1) + 1 ∧ ¬ (q.1 + 1 = k + (n + 1) ∧ q.2.category = 2)) := by
        intro q h
        rcases ih (k + 1) n v q (lok_tail hl) h with e | ⟨e1, e2, e3, e4⟩
        · exact Or.inl (by rw [e]; congr 1; omega)
        · exact Or.inr ⟨prs_tail e1, by omega, by omega, by omega⟩
      cases n with
      | zero =>
        rcases x with _ | (w | y)
        · exact hrec q h
        · have h : q ∈ (k, shv ad w) :: prs ad (k + 1) (mstL r 0 v) := h
          rcases List.mem_cons.mp h with rfl | h
          · refine Or.inr ⟨List.mem_cons_self, by show k ≠ _; omega, by show k ≠ _; omega, fun z => ?_⟩
            have h1 := hl w List.mem_cons_self
            have h2 : (shv ad w).category = 2 := z.2
            rw [shv_cat] at h2
            omega
          · exact hrec q h
        · exact hrec q h
      | succ n =>
        rcases x with _ | (w | y)
        · exact hrec q h
        · have h : q ∈ (k, shv ad w) :: prs ad (k + 1) (mstL r (n + 1) v) := h
          rcases List.mem_cons.mp h with rfl | h
          · exact Or.inr ⟨List.mem_cons_self, by show k ≠ _; omega, by show k ≠ _; omega, fun z => by have := z.1; simp only at this; omega⟩
          · exact hrec q h
        · have h : q ∈ (k, Value.long y) :: prs ad (k + 1) (mstL r (n + 1) v) := h
          rcases List.mem_cons.mp h with rfl | h
          · exact Or.inr ⟨List.mem_cons_self, by show k ≠ _; omega, by show k ≠ _; omega, fun z => by have := z.1; simp only at this; omega⟩
          · exact hrec q h
theorem mst_len : ∀ (L : MLoc) (i : Nat) (v : Value), (mst L i v).length = L.length := by
  intro L
  induction L with
  | nil => intro i v; rfl
  | cons x r ih =>
    intro i v
    cases i with
    | zero => rfl
    | succ n => show (mst r n v).length + 1 = r.length + 1; rw [ih]
theorem mhd_len (L : MLoc) : (mhd L).length = L.length := by cases L <;> rfl
theorem mstL_len : ∀ (L : MLoc) (i : Nat) (v : Int64), (mstL L i v).length = L.length := by
  intro L
  induction L with
  | nil => intro i v; rfl
  | cons x r ih =>
    intro i v
    cases i with
    | zero => show (mhd r).length + 1 = _; rw [mhd_len]; rfl
    | succ n => show (mstL r n v).length + 1 = r.length + 1; rw [ih]
theorem clr_mem {x : MSl} {v : Value} (h : clr x = some (.inl v)) : x = some (.inl v) := by
  rcases x with _ | (w | y)
  · exact h
  · exact h
  · cases h
theorem mst_lok : ∀ (L : MLoc) (i : Nat) (v : Value), lok L → v.category = 1 → lok (mst L i v) := by
  intro L
  induction L with
  | nil => intro i v _ _ w h; cases h
  | cons x r ih =>
    intro i v hl hv w h
    cases i with
    | zero =>
      have h : some (.inl w) ∈ sv v :: r := h
      rcases List.mem_cons.mp h with e | h
      · cases e; exact hv
      · exact hl w (List.mem_cons_of_mem _ h)
    | succ n =>
      cases n with
      | zero =>
        have h : some (.inl w) ∈ clr x :: mst r 0 v := h
        rcases List.mem_cons.mp h with e | h
        · exact hl w (by rw [clr_mem e.symm]; exact List.mem_cons_self)
        · exact ih 0 v (lok_tail hl) hv w h
      | succ n =>
        have h : some (.inl w) ∈ x :: mst r (n + 1) v := h
        rcases List.mem_cons.mp h with e | h
        · exact hl w (by rw [e]; exact List.mem_cons_self)
        · exact ih (n + 1) v (lok_tail hl) hv w h
theorem mhd_lok {L : MLoc} (h : lok L) : lok (mhd L) := by
  intro v hv
  cases L with
  | nil => cases hv
  | cons x r =>
    have hv : some (.inl v) ∈ none :: r := hv
    rcases List.mem_cons.mp hv with e | hv
    · cases e
    · exact h v (List.mem_cons_of_mem _ hv)
theorem mstL_lok : ∀ (L : MLoc) (i : Nat) (y : Int64), lok L → lok (mstL L i y) := by
  intro L
  induction L with
  | nil => intro i v _ w h; cases h
  | cons x r ih =>
    intro i v hl w h
    cases i with
    | zero =>
      have h : some (.inl w) ∈ sy v :: mhd r := h
      rcases List.mem_cons.mp h with e | h
      · cases e
      · exact mhd_lok (lok_tail hl) w h
    | succ n =>
      cases n with
      | zero =>
        have h : some (.inl w) ∈ clr x :: mstL r 0 v := h
        rcases List.mem_cons.mp h with e | h
        · exact hl w (by rw [clr_mem e.symm]; exact List.mem_cons_self)
        · exact ih 0 v (lok_tail hl) w h
      | succ n =>
        have h : some (.inl w) ∈ x :: mstL r (n + 1) v := h
        rcases List.mem_cons.mp h with e | h
        · exact hl w (by rw [e]; exact List.mem_cons_self)
        · exact ih (n + 1) v (lok_tail hl) w h
theorem mlg_prs {ad : Nat → Nat} : ∀ (L : MLoc) (k n : Nat) (v : Value), mlg L n = some (.inl v) → (k + n, shv ad v) ∈ prs ad k L := by
  intro L
  induction L with
  | nil => intro k n v h; cases h
  | cons x r ih =>
    intro k n v h
    cases n with
    | zero =>
      have h : x = some (.inl v) := h
      subst h
      exact List.mem_cons_self
    | succ n =>
      have := ih (k + 1) n v h
      rw [show k + 1 + n = k + (n + 1) by omega] at this
      exact prs_tail this
theorem mlg_prsL {ad : Nat → Nat} : ∀ (L : MLoc) (k n : Nat) (y : Int64), mlg L n = some (.inr y) → (k + n, Value.long y) ∈ prs ad k L := by
  intro L
  induction L with
  | nil => intro k n v h; cases h
  | cons x r ih =>
    intro k n v h
    cases n with
    | zero =>
      have h : x = some (.inr v) := h
      subst h
      exact List.mem_cons_self
    | succ n =>
      have := ih (k + 1) n v h
      rw [show k + 1 + n = k + (n + 1) by omega] at this
      exact prs_tail this
theorem LR.at {ad : Nat → Nat} {ls : Array Slot} {nL : Nat} {L : MLoc} (h : LR ad ls nL L) {n : Nat} {v : Value} (hv : mlg L n = some (.inl v)) : ls[n]? = some (.val (shv ad v)) := by
  have := h.1.2.2 _ (mlg_prs L 0 n v hv)
  simpa using this
theorem LR.atL {ad : Nat → Nat} {ls : Array Slot} {nL : Nat} {L : MLoc} (h : LR ad ls nL L) {n : Nat} {y : Int64} (hv : mlg L n = some (.inr y)) : ls[n]? = some (.val (.long y)) := by
  have := h.1.2.2 _ (mlg_prsL L 0 n y hv)
  simpa using this
theorem LR.st {ad : Nat → Nat} {ls ls' : Array Slot} {nL i : Nat} {L : MLoc} {v : Value} (h : LR ad ls nL L) (hc : v.category = 1) (h' : lv_has ls' nL ((i, shv ad v) :: (prs ad 0 L).filter (fun q => !(q.1 == i) && !(q.1 + 1 == i && q.2.category == 2)))) : LR ad ls' nL (mst L i v) := by
  refine ⟨⟨h'.1, h'.2.1, fun q hq => ?_⟩, by rw [mst_len]; exact h.2.1, mst_lok _ _ _ h.2.2 hc⟩
  refine h'.2.2 q ?_
  rcases prs_mst L 0 i v q h.2.2 hq with e | ⟨e1, e2, e3⟩
  · rw [e]; simp
  · refine List.mem_cons_of_mem _ (List.mem_filter.mpr ⟨e1, ?_⟩)
    simp only [Nat.zero_add] at e2 e3
    simp [e2]
    omega
theorem LR.stL {ad : Nat → Nat} {ls ls' : Array Slot} {nL i : Nat} {L : MLoc} {y : Int64} (h : LR ad ls nL L) (h' : lv_has ls' nL ((i, Value.long y) :: (prs ad 0 L).filter (fun q => !(q.1 == i) && (!(q.1 == i + 1) && !(q.1 + 1 == i && q.2.category == 2))))) : LR ad ls' nL (mstL L i y) := by
  refine ⟨⟨h'.1, h'.2.1, fun q hq => ?_⟩, by rw [mstL_len]; exact h.2.1, mstL_lok _ _ _ h.2.2⟩
  refine h'.2.2 q ?_
  rcases prs_mstL L 0 i y q h.2.2 hq with e | ⟨e1, e2, e3, e4⟩
  · rw [e]; simp
  · refine List.mem_cons_of_mem _ (List.mem_filter.mpr ⟨e1, ?_⟩)
    simp only [Nat.zero_add] at e2 e3 e4
    simp [e2, e3]
    omega
theorem prs_pad {ad : Nat → Nat} : ∀ (n k : Nat) (L : MLoc), prs ad k (padL n L) = prs ad k L := by
  intro n
  induction n with
  | zero => intro k L; rfl
  | succ n ih =>
    intro k L
    cases L with
    | nil => show prs ad (k + 1) (padL n []) = _; rw [ih]; rfl
    | cons x r =>
      rcases x with _ | (v | y)
      · show prs ad (k + 1) (padL n r) = _; rw [ih]; rfl
      · show _ :: prs ad (k + 1) (padL n r) = _; rw [ih]; rfl
      · show _ :: prs ad (k + 1) (padL n r) = _; rw [ih]; rfl
theorem prs_ent {ad : Nat → Nat} : ∀ (as : List Value) (k : Nat), (∀ v ∈ as, okV v = true) → prs ad k (entL as) = lv_args k (as.map (shv ad)) := by
  intro as
  induction as with
  | nil => intro k _; rfl
  | cons v r ih =>
    intro k h
    have hv := h v List.mem_cons_self
    have hr := fun w hw => h w (List.mem_cons_of_mem _ hw)
    cases v with
    | int x => show _ :: prs ad (k + 1) (entL r) = _; rw [ih _ hr]; rfl
    | long x => show _ :: prs ad (k + 2) (entL r) = _; rw [ih _ hr]; rfl
    | null => show _ :: prs ad (k + 1) (entL r) = _; rw [ih _ hr]; rfl
    | ref x => show _ :: prs ad (k + 1) (entL r) = _; rw [ih _ hr]; rfl
    | float x => cases hv
    | double x => cases hv
    | retAddr x => cases hv
theorem ent_lok : ∀ (as : List Value), (∀ v ∈ as, okV v = true) → lok (entL as) := by
  intro as
  induction as with
  | nil => intro _ v h; cases h
  | cons v r ih =>
    intro h w hw
    have hv := h v List.mem_cons_self
    have hr := ih fun w hw => h w (List.mem_cons_of_mem _ hw)
    cases v with
    | int x => rcases List.mem_cons.mp hw with e | hw; (cases e; rfl); exact hr w hw
    | long x =>
      rcases List.mem_cons.mp hw with e | hw
      · cases e
      · rcases List.mem_cons.mp hw with e | hw
        · cases e
        · exact hr w hw
    | null => rcases List.mem_cons.mp hw with e | hw; (cases e; rfl); exact hr w hw
    | ref x => rcases List.mem_cons.mp hw with e | hw; (cases e; rfl); exact hr w hw
    | float x => cases hv
    | double x => cases hv
    | retAddr x => cases hv
theorem pad_lok : ∀ (n : Nat) (L : MLoc), lok L → lok (padL n L) := by
  intro n
  induction n with
  | zero => intro L h; exact h
  | succ n ih =>
    intro L h
    cases L with
    | nil =>
      intro v hv
      rcases List.mem_cons.mp hv with e | hv
      · cases e
      · exact ih [] h v hv
    | cons x r =>
      intro v hv
      rcases List.mem_cons.mp hv with e | hv
      · exact h v (by rw [e]; exact List.mem_cons_self)
      · exact ih r (lok_tail h) v hv
theorem pad_len : ∀ (n : Nat) (L : MLoc), L.length ≤ n → (padL n L).length = n := by
  intro n
  induction n with
  | zero => intro L h; exact Nat.le_zero.mp h
  | succ n ih =>
    intro L h
    cases L with
    | nil => show (padL n []).length + 1 = _; rw [ih [] (Nat.zero_le _)]
    | cons x r => show (padL n r).length + 1 = _; rw [ih r (Nat.le_of_succ_le_succ h)]
theorem ent_len {ad : Nat → Nat} : ∀ (as : List Value), (∀ v ∈ as, okV v = true) → (entL as).length = (lg_sl (as.map (shv ad))).length := by
  intro as
  induction as with
  | nil => intro _; rfl
  | cons v r ih =>
    intro h
    have hv := h v List.mem_cons_self
    have hr := ih fun w hw => h w (List.mem_cons_of_mem _ hw)
    cases v with
    | int x => show (entL r).length + 1 = _; rw [hr]; simp [lg_sl, shv, Value.category, Nat.add_comm]
    | long x => show (entL r).length + 1 + 1 = _; rw [hr]; simp [lg_sl, shv, Value.category, Nat.add_comm]
    | null => show (entL r).length + 1 = _; rw [hr]; simp [lg_sl, shv, Value.category, Nat.add_comm]
    | ref x => show (entL r).length + 1 = _; rw [hr]; simp [lg_sl, shv, Value.category, Nat.add_comm]
    | float x => cases hv
    | double x => cases hv
    | retAddr x => cases hv
/-- a method's first state -/
theorem LR.entry {ad : Nat → Nat} {nL : Nat} {as : List Value} (h : ∀ v ∈ as, okV v = true) (hn : (entL as).length ≤ nL) : LR ad ((lg_sl (as.map (shv ad)) ++ List.replicate (nL - (lg_sl (as.map (shv ad))).length) Slot.unset).toArray) nL (padL nL (entL as)) := by
  refine ⟨?_, pad_len _ _ hn, pad_lok _ _ (ent_lok _ h)⟩
  rw [prs_pad, prs_ent _ _ h]
  exact lv_entry (as.map (shv ad)) (by rw [← ent_len as h]; exact hn)
end
section
/-! the heap: cells by their numbers, cells by their addresses -/
def toI (v : Value) : Int32 := match v with
  | .int x => x
  | _ => 0
def toR (ad : Nat → Nat) (v : Value) : Option Nat := match v with
  | .ref k => some (ad k)
  | _ => none
def enc (ad : Nat → Nat) (cA : Nat → ClassId) (q : MCell) : va_E :=
  if q.1 < 13 then .inr (q.1, q.2.map (shv ad)) else
  if q.1 = 100 then .inl (cA 0, q.2.length, .inl fun j => toI (q.2.getD j .null)) else
  .inl (cA (q.1 - 100), q.2.length, .inr (.inr (.inr (.inr fun j => toR ad (q.2.getD j .null)))))
def toW (ad : Nat → Nat) (cA : Nat → ClassId) (h : MHeap) : va_W := (h.drop 3).mapIdx fun k q => (ad (k + 3), enc ad cA q)
def hsl (h : MHeap) : Nat := ((h.drop 3).map fun q => q.2.length).sum
theorem toW_get {ad : Nat → Nat} {cA : Nat → ClassId} {h : MHeap} {o : Nat} {q : MCell} (ho : 3 ≤ o) (hq : h[o]? = some q) : (toW ad cA h)[o - 3]? = some (ad o, enc ad cA q) := by
  unfold toW
  rw [List.getElem?_mapIdx, List.getElem?_drop, show 3 + (o - 3) = o by omega, hq]
  simp [show o - 3 + 3 = o by omega]
theorem toW_set {ad : Nat → Nat} {cA : Nat → ClassId} {h : MHeap} {o : Nat} {q : MCell} (ho : 3 ≤ o) : toW ad cA (h.set o q) = (toW ad cA h).set (o - 3) (ad o, enc ad cA q) := by
  apply List.ext_getElem?
  intro k
  unfold toW
  rw [List.getElem?_set, List.getElem?_mapIdx, List.getElem?_mapIdx, List.getElem?_drop, List.getElem?_drop, List.getElem?_set]
  by_cases hk : o - 3 = k
  · rw [if_pos (by omega), if_pos hk]
    simp only [List.length_mapIdx, List.length_drop]
    by_cases hl : o < h.length
    · rw [if_pos hl, if_pos (by omega)]
      simp [show k + 3 = o by omega]
    · rw [if_neg hl, if_neg (by omega)]
      rfl
  · rw [if_neg (by omega), if_neg hk]
theorem toW_push {ad : Nat → Nat} {cA : Nat → ClassId} {h : MHeap} {q : MCell} (hh : 3 ≤ h.length) : toW ad cA (h ++ [q]) = toW ad cA h ++ [(ad h.length, enc ad cA q)] := by
  unfold toW
  rw [List.drop_append_of_le_length hh, List.mapIdx_append]
  congr 1
  simp [show h.length - 3 + 3 = h.length by omega]
theorem toW_D {ad : Nat → Nat} {cA : Nat → ClassId} {B : Nat} (had : ∀ k, ad (k + 3) = B + k) (h : MHeap) : va_D (fun q => B ≤ q) (toW ad cA h) := by
  have key : ∀ (i : Nat) (p : Nat × va_E), (toW ad cA h)[i]? = some p → p.1 = B + i := by
    intro i p hp
    unfold toW at hp
    rw [List.getElem?_mapIdx] at hp
    cases hx : (List.drop 3 h)[i]? with
    | none => rw [hx] at hp; cases hp
    | some x =>
      rw [hx] at hp
      cases hp
      exact had i
  refine ⟨fun i j p q hi hj e => ?_, fun k q hk => ?_⟩
  · rw [key i p hi, key j q hj] at e
    omega
  · show B ≤ q.1
    rw [key k q hk]
    omega
theorem hsl_set {h : MHeap} {o : Nat} {q q' : MCell} (hq : h[o]? = some q) (hl : q'.2.length = q.2.length) : hsl (h.set o q') = hsl h := by
  unfold hsl
  congr 1
  apply List.ext_getElem?
  intro k
  rw [List.getElem?_map, List.getElem?_map, List.getElem?_drop, List.getElem?_drop, List.getElem?_set]
  by_cases hk : o = 3 + k
  · subst hk
    rw [if_pos rfl, hq]
    have : 3 + k < h.length := (List.getElem?_eq_some_iff.mp hq).1
    rw [if_pos this]
    simp [hl]
  · rw [if_neg hk]
theorem hsl_push {h : MHeap} {q : MCell} (hh : 3 ≤ h.length) : hsl (h ++ [q]) = hsl h + q.2.length := by
  unfold hsl
  rw [List.drop_append_of_le_length hh]
  simp
/-- the machine's own facts: kinds of objects and arrays, links of nest mates, casts, texts -/
def KV (D : va_G) (cA : Nat → ClassId) (ad : Nat → Nat) (U : State) : Prop :=
  va_K D clsL [(cA 0, .int), (cA 1, .object (cnm 3)), (cA 2, .object (cnm 5)), (cA 3, .object (cnm 7))] U ∧
  (∀ (a : String) (i : Nat) (x : MethodName) (b : String), Cond.methodLinkNest a i x b ∈ lw_tbl → va_Nw (.methodLinkNest a i x b) U) ∧
  (∀ a b : String, Cond.castable a b ∈ lw_tbl → va_Nw (.castable a b) U) ∧
  (∀ q ∈ ncP, va_Nc (cnm q.1) (cnm q.2) U) ∧
  (va_AO (cnm 3) U ∧ va_AO (cnm 5) U ∧ va_AO (cnm 7) U) ∧
  vk_R "OneTurned" 56 "turns 10 ; swaps 5 ; looks 1 + many ;" (ad 1) U ∧ vk_R "OneTurned$Tape" 117 "turns swaps looks or and not card row column back many fails " (ad 2) U
theorem KV.warm {D : va_G} {cA : Nat → ClassId} {ad : Nat → Nat} {s U : State} (hW : s.WarmedH U.vm) (h : KV D cA ad s) : KV D cA ad U := by
  obtain ⟨h1, h2, h3, h4, ⟨h5, h6, h7⟩, h8, h9⟩ := h
  exact ⟨va_K.moved hW.alike h1, fun a i x b hm => va_Nw.warmM hW (h2 a i x b hm), fun a b hm => va_Nw.warmC hW (h3 a b hm), fun q hq => va_Nc.moved hW.alike (h4 q hq),
    ⟨va_AO.moved hW.alike h5, va_AO.moved hW.alike h6, va_AO.moved hW.alike h7⟩, vk_R.warm hW h8, vk_R.warm hW h9⟩
theorem KV.same {D : va_G} {cA : Nat → ClassId} {ad : Nat → Nat} {u U : State} (hv : u.vm = U.vm) (h : KV D cA ad u) : KV D cA ad U := by
  obtain ⟨h1, h2, h3, h4, ⟨h5, h6, h7⟩, h8, h9⟩ := h
  have hA : u.vm.Alike U.vm := by rw [hv]; exact Vm.Alike.refl _
  exact ⟨va_K.moved hA h1, fun a i x b hm => va_Nw.same rfl hv (h2 a i x b hm), fun a b hm => va_Nw.same rfl hv (h3 a b hm), fun q hq => va_Nc.moved hA (h4 q hq),
    ⟨va_AO.moved hA h5, va_AO.moved hA h6, va_AO.moved hA h7⟩, vk_R.same hv.symm h8, vk_R.same hv.symm h9⟩
end
section
/-! what a step says, when nothing is stuck; contracts; the state between two instructions -/
theorem dI_F {v : Value} {k : Int32 → Prop} (h : dI False v k) : ∃ x, v = .int x ∧ k x := by
  cases v with
  | int x => exact ⟨x, rfl, h⟩
  | _ => exact absurd h id
theorem dL_F {v : Value} {k : Int64 → Prop} (h : dL False v k) : ∃ x, v = .long x ∧ k x := by
  cases v with
  | long x => exact ⟨x, rfl, h⟩
  | _ => exact absurd h id
theorem dR_F {v : Value} {k : Nat → Prop} (h : dR False v k) : ∃ x, v = .ref x ∧ k x := by
  cases v with
  | ref x => exact ⟨x, rfl, h⟩
  | _ => exact absurd h id
theorem dA_F {v : Value} {k : Prop} (h : dA False v k) : (v = .null ∨ ∃ x, v = .ref x) ∧ k := by
  cases v with
  | null => exact ⟨Or.inl rfl, h⟩
  | ref x => exact ⟨Or.inr ⟨x, rfl⟩, h⟩
  | _ => exact absurd h id
theorem dN_F {v : Value} {k1 k2 : Prop} (h : dN False v k1 k2) : (v = .null ∧ k1) ∨ ∃ x, v = .ref x ∧ k2 := by
  cases v with
  | null => exact Or.inl ⟨rfl, h⟩
  | ref x => exact Or.inr ⟨x, rfl, h⟩
  | _ => exact absurd h id
theorem dD_F {v : Value} {k : Prop} (h : dD False v k) : v.category = 1 ∧ k := by
  cases v with
  | long x => exact absurd h id
  | double x => exact absurd h id
  | _ => exact ⟨rfl, h⟩
theorem dv_F {y : Int32} {k : Prop} (h : dv False y k) : ¬ y = 0 ∧ k := by
  unfold dv at h
  split at h
  · exact absurd h id
  · rename_i hy; exact ⟨hy, h⟩
theorem dvL_F {y : Int64} {k : Prop} (h : dvL False y k) : ¬ y = 0 ∧ k := by
  unfold dvL at h
  split at h
  · exact absurd h id
  · rename_i hy; exact ⟨hy, h⟩
theorem zr_F {y : Int32} {k : Prop} (h : zr False y k) : (y = 0 ∨ y = 1) ∧ k := by
  unfold zr at h
  split at h
  · rename_i hy; exact ⟨hy, h⟩
  · exact absurd h id
theorem gS_F {q : MSl} {k : Value → Prop} (h : gS False q k) : ∃ v, q = some (.inl v) ∧ k v := by
  rcases q with _ | (v | y)
  · exact absurd h id
  · exact ⟨v, rfl, h⟩
  · exact absurd h id
theorem gSL_F {q : MSl} {k : Int64 → Prop} (h : gSL False q k) : ∃ y, q = some (.inr y) ∧ k y := by
  rcases q with _ | (v | y)
  · exact absurd h id
  · exact absurd h id
  · exact ⟨y, rfl, h⟩
theorem gfI_F {h : MHeap} {o : Nat} {ts : List Nat} {j : Nat} {k : Int32 → Prop} (e : gfI False h o ts j k) : ∃ t fs x, h[o]? = some (t, fs) ∧ t ∈ ts ∧ fs[j]? = some (.int x) ∧ k x := by
  unfold gfI at e
  split at e
  · rename_i t fs hq
    split at e
    · rename_i ht
      split at e
      · rename_i x hx
        exact ⟨t, fs, x, hq, by simpa using ht, hx, e⟩
      · exact absurd e id
    · exact absurd e id
  · exact absurd e id
theorem gfV_F {h : MHeap} {o : Nat} {ts : List Nat} {j : Nat} {k : Value → Prop} (e : gfV False h o ts j k) : ∃ t fs v, h[o]? = some (t, fs) ∧ t ∈ ts ∧ fs[j]? = some v ∧ (v = .null ∨ ∃ x, v = .ref x) ∧ k v := by
  unfold gfV at e
  split at e
  · rename_i t fs hq
    split at e
    · rename_i ht
      split at e
      · rename_i v hx
        obtain ⟨h1, h2⟩ := dA_F e
        exact ⟨t, fs, v, hq, by simpa using ht, hx, h1, h2⟩
      · exact absurd e id
    · exact absurd e id
  · exact absurd e id
theorem pfI_F {h : MHeap} {o : Nat} {ts : List Nat} {j : Nat} {x : Int32} {k : MHeap → Prop} (e : pfI False h o ts j x k) : ∃ t fs, h[o]? = some (t, fs) ∧ t ∈ ts ∧ j < fs.length ∧ k (h.set o (t, fs.set j (.int x))) := by
  unfold pfI at e
  split at e
  · rename_i t fs hq
    split at e
    · rename_i ht
      exact ⟨t, fs, hq, by simpa using ht.1, ht.2, e⟩
    · exact absurd e id
  · exact absurd e id
theorem pfV_F {h : MHeap} {o : Nat} {ts : List Nat} {j : Nat} {v : Value} {k : MHeap → Prop} (e : pfV False h o ts j v k) : ∃ t fs, h[o]? = some (t, fs) ∧ t ∈ ts ∧ j < fs.length ∧ (v = .null ∨ ∃ x, v = .ref x) ∧ k (h.set o (t, fs.set j v)) := by
  unfold pfV at e
  split at e
  · rename_i t fs hq
    split at e
    · rename_i ht
      obtain ⟨h1, h2⟩ := dA_F e
      exact ⟨t, fs, hq, by simpa using ht.1, ht.2, h1, h2⟩
    · exact absurd e id
  · exact absurd e id
theorem aln_F {h : MHeap} {o : Nat} {k : Int32 → Prop} (e : aln False h o k) : ∃ t vs, h[o]? = some (t, vs) ∧ ((t = 99 ∧ o = 0) ∨ (100 ≤ t ∧ t ≤ 103)) ∧ k (nI vs.length) := by
  unfold aln at e
  split at e
  · rename_i t vs hq
    split at e
    · rename_i ht
      exact ⟨t, vs, hq, ht, e⟩
    · exact absurd e id
  · exact absurd e id
theorem alI_F {h : MHeap} {o : Nat} {i : Int32} {k : Int32 → Prop} (e : alI False h o i k) : ∃ t vs x, h[o]? = some (t, vs) ∧ ((t = 99 ∧ o = 0) ∨ t = 100) ∧ ¬ i < 0 ∧ vs[i.toNatClampNeg]? = some (.int x) ∧ k x := by
  unfold alI at e
  split at e
  · rename_i t vs hq
    split at e
    · rename_i ht
      split at e
      · rename_i x hx
        exact ⟨t, vs, x, hq, ht.1, ht.2, hx, e⟩
      · exact absurd e id
    · exact absurd e id
  · exact absurd e id
theorem asI_F {h : MHeap} {o : Nat} {i x : Int32} {k : MHeap → Prop} (e : asI False h o i x k) : ∃ vs, h[o]? = some (100, vs) ∧ ¬ i < 0 ∧ i.toNatClampNeg < vs.length ∧ k (h.set o (100, vs.set i.toNatClampNeg (.int x))) := by
  unfold asI at e
  split at e
  · rename_i t vs hq
    split at e
    · rename_i ht
      obtain ⟨rfl, h1, h2⟩ := ht
      exact ⟨vs, hq, h1, h2, e⟩
    · exact absurd e id
  · exact absurd e id
theorem alV_F {h : MHeap} {o : Nat} {i : Int32} {k : Value → Prop} (e : alV False h o i k) : ∃ t vs v, h[o]? = some (t, vs) ∧ 101 ≤ t ∧ t ≤ 103 ∧ ¬ i < 0 ∧ vs[i.toNatClampNeg]? = some v ∧ (v = .null ∨ ∃ x, v = .ref x) ∧ k v := by
  unfold alV at e
  split at e
  · rename_i t vs hq
    split at e
    · rename_i ht
      split at e
      · rename_i v hx
        obtain ⟨h1, h2⟩ := dA_F e
        exact ⟨t, vs, v, hq, ht.1.1, ht.1.2, ht.2, hx, h1, h2⟩
      · exact absurd e id
    · exact absurd e id
  · exact absurd e id
theorem asV_F {h : MHeap} {o : Nat} {i : Int32} {v : Value} {k : MHeap → Prop} (e : asV False h o i v k) : ∃ t vs, h[o]? = some (t, vs) ∧ 101 ≤ t ∧ t ≤ 103 ∧ ¬ i < 0 ∧ i.toNatClampNeg < vs.length ∧ (v = .null ∨ ∃ o2 t2 fs2, v = .ref o2 ∧ h[o2]? = some (t2, fs2) ∧ mok t t2 = true) ∧ k (h.set o (t, vs.set i.toNatClampNeg v)) := by
  unfold asV at e
  split at e
  · rename_i t vs hq
    split at e
    · rename_i ht
      split at e
      · exact ⟨t, vs, hq, ht.1.1, ht.1.2, ht.2.1, ht.2.2, Or.inl rfl, e⟩
      · rename_i o2
        split at e
        · rename_i t2 fs2 h2
          split at e
          · rename_i hm
            exact ⟨t, vs, hq, ht.1.1, ht.1.2, ht.2.1, ht.2.2, Or.inr ⟨o2, t2, fs2, rfl, h2, hm⟩, e⟩
          · exact absurd e id
        · exact absurd e id
      · exact absurd e id
    · exact absurd e id
  · exact absurd e id
theorem nwA_F {h : MHeap} {t : Nat} {n : Int32} {v : Value} {k : Nat → MHeap → Prop} (e : nwA False h t n v k) : ¬ n < 0 ∧ n.toNatClampNeg ≤ 100000 ∧ k h.length (h ++ [(t, List.replicate n.toNatClampNeg v)]) := by
  unfold nwA at e
  split at e
  · exact absurd e id
  · rename_i hn
    exact ⟨fun z => hn (Or.inl z), Nat.not_lt.mp fun z => hn (Or.inr z), e⟩
theorem inO_F {h : MHeap} {o : Nat} {ts us : List Nat} {k : Int32 → Prop} (e : inO False h o ts us k) : ∃ t fs, h[o]? = some (t, fs) ∧ ((t ∈ ts ∧ k 1) ∨ (t ∈ us ∧ k 0)) := by
  unfold inO at e
  split at e
  · rename_i t fs hq
    split at e
    · rename_i ht
      exact ⟨t, fs, hq, Or.inl ⟨by simpa using ht, e⟩⟩
    · split at e
      · rename_i ht
        exact ⟨t, fs, hq, Or.inr ⟨by simpa using ht, e⟩⟩
      · exact absurd e id
  · exact absurd e id
theorem vd_F {h : MHeap} {o : Nat} {ps : List Nat} {k : Nat → Prop} (e : vd False h o ps k) : ∃ t fs m, h[o]? = some (t, fs) ∧ vdP ps t = some m ∧ k m := by
  unfold vd at e
  split at e
  · rename_i t fs hq
    split at e
    · rename_i m hm
      exact ⟨t, fs, m, hq, hm, e⟩
    · exact absurd e id
  · exact absurd e id
theorem cond_F {c : Bool} {k : Prop} (e : bif c then k else False) : c = true ∧ k := by
  cases c with
  | true => exact ⟨rfl, e⟩
  | false => exact absurd e id
section CTX
variable (l : Launch) (SX : State → Heap → Prop) (D : va_G) (cA : Nat → ClassId) (ad : Nat → Nat) (B : Nat) (xs : List Int32) (t1 t2 : List Value)
/-- the words of a method: its own code, and all that the tables keep -/
def wsm (m : Nat) : List Cond := .code (mtd m).1 (mtd m).2.1 (prg m).2 (mtd m).2.2 :: gtbl
def KS (U : State) (H : Heap) : Prop := KV D cA ad U ∧ ad 0 < B ∧ B ≤ H.size ∧ va_X (ad 0) xs.length (fun j => xs.getD j 0) U H ∧ SX U H
def prF : List MCell := [(99, xs.map .int), (98, t1), (98, t2)]
/-- a call's start and end -/
def PcS (as : List Value) (h : MHeap) : Array Value → State → Prop := va_Pc (as.map (shv ad)) fun U => KS SX D cA ad B xs U U.heap ∧ va_P D clsL (toW ad cA h) U.heap ∧ U.heap.size = B + (h.length - 3) ∧ h.take 3 = prF xs t1 t2 ∧ 3 ≤ h.length
def QcS (r : Option Value) (h : MHeap) : Array Value → State → Outcome → State → Prop := fun _ st o t => o = .returned (r.map (shv ad)) ∧ va_P D clsL (toW ad cA h) t.heap ∧ t.heap.size = B + (h.length - 3) ∧ h.take 3 = prF xs t1 t2 ∧ va_F (fun q => B ≤ q) st t
def MetS (d m : Nat) (as : List Value) (h : MHeap) (r : Option Value) (h' : MHeap) : Prop :=
  Met l (mtd m).1 (wsm m) ({ frames := d, cells := h'.length - h.length, slots := hsl h' - hsl h, locals := 64 * d } : Room) (PcS SX D cA ad B xs t1 t2 as h) (QcS D cA ad B xs t1 t2 r h') (h'.length - h.length) (hsl h' - hsl h) (fun q => B ≤ q)
end CTX
end
section
/-! one step of the small machine is one of the real one: what touches no cell -/
def okS (S : List Value) : Prop := ∀ v ∈ S, okV v = true
theorem okS.tl {v : Value} {S : List Value} (h : okS (v :: S)) : okS S := fun w hw => h w (List.mem_cons_of_mem _ hw)
theorem okS.cons {v : Value} {S : List Value} (hv : okV v = true) (h : okS S) : okS (v :: S) := fun w hw => by
  rcases List.mem_cons.mp hw with rfl | hw
  · exact hv
  · exact h w hw
theorem okV_nr {v : Value} (h : v = .null ∨ ∃ x, v = .ref x) : okV v = true := by
  rcases h with rfl | ⟨x, rfl⟩ <;> rfl
section RL
variable (D : va_G) (cA : Nat → ClassId) (ad : Nat → Nat) (B : Nat) (xs : List Int32) (t1 t2 : List Value) (H0 : Heap) (n0 s0 nL : Nat)
/-- the real state holds the small one -/
def Rl (L : MLoc) (S : List Value) (h : MHeap) (ls : Array Slot) (H : Heap) (locs : List Loc) (cells slots : Nat) : Prop :=
  LR ad ls nL L ∧ okS S ∧ va_P D clsL (toW ad cA h) H ∧ H.size = B + (h.length - 3) ∧ h.take 3 = prF xs t1 t2 ∧ 3 ≤ h.length ∧ va_S (fun q => B ≤ q) H0 H locs ∧ cells + n0 = h.length ∧ slots + s0 = hsl h
variable {D cA ad B xs t1 t2 H0 n0 s0 nL}
theorem Rl.re {L L' : MLoc} {S S' : List Value} {h : MHeap} {ls ls' : Array Slot} {H : Heap} {locs : List Loc} {cells slots : Nat} (hR : Rl D cA ad B xs t1 t2 H0 n0 s0 nL L S h ls H locs cells slots) (hl : LR ad ls' nL L') (hs : okS S') : Rl D cA ad B xs t1 t2 H0 n0 s0 nL L' S' h ls' H locs cells slots := ⟨hl, hs, hR.2.2⟩
end RL
/-- on from a place, up to the method's end -/
def KN (Wp : Heap → List Loc → Nat → Nat → JFrame → Prop) (rl : MLoc → List Value → MHeap → Array Slot → Heap → List Loc → Nat → Nat → Prop) (h' : MHeap) (m : MethodId) (ad : Nat → Nat) (pc : Nat) (L : MLoc) (S : List Value) (h : MHeap) : Prop :=
  (h.length ≤ h'.length ∧ hsl h ≤ hsl h') ∧ ∀ ls H locs cells slots, rl L S h ls H locs cells slots → Wp H locs cells slots (F0 m pc ls (S.map (shv ad)))
def Cx (p : Program) (s : State) (m : MethodId) (args : Array Value) (meth : Method) (c : Code) (SX : State → Heap → Prop) (D : va_G) (cA : Nat → ClassId) (ad : Nat → Nat) (B : Nat) (xs : List Int32) (mi : Nat) : Prop :=
  p.tables.exec = Jvm.exec ∧ c.code = (mtd mi).2.1 ∧ c.maxLocals = (prg mi).2 ∧ s.vm.findClass (mtd mi).1.cls = some m.cls ∧ (∀ w ∈ gtbl, w.before args s = true) ∧ KS SX D cA ad B xs s s.heap ∧ meth.sig.returnType = (mtd mi).2.2 ∧ meth.locks = false ∧ meth.name = (mtd mi).1.name ∧ ∀ k, ad (k + 3) = B + k
/-- which instructions touch no cell and call nothing -/
def grA (i : Instr) : Bool := match i with
  | .aconst_null | .iconst _ | .bipush _ | .sipush _ | .lconst _ | .ldc _ | .ldc_w _ | .ldc2_w _ | .iload _ | .iload_n _ | .aload _ | .aload_n _ | .lload _ | .lload_n _ | .istore _ | .istore_n _ | .astore _ | .astore_n _ | .lstore _ | .lstore_n _ | .iinc _ _ | .dup | .pop
  | .iadd | .isub | .imul | .iand | .ior | .ixor | .ishl | .ishr | .iushr | .idiv | .irem | .ineg | .i2l | .i2b | .i2s | .l2i | .ladd | .lmul | .ldiv | .lrem | .lcmp | .ifCond _ _ | .if_icmp _ _ | .ifnull _ | .ifnonnull _ | .goto _ => true
  | _ => false

theorem lg_cmp_if (x y : Int64) : lg_cmp x y = (if x = y then 0 else if x < y then -1 else 1) := by
  unfold lg_cmp
  simp only [gt_iff_lt, Int64.lt_iff_toInt_lt, ← Int64.toInt_inj]
  repeat' split
  all_goals first | rfl | omega
section SIMA
variable {p : Program} {l : Launch} {e : Env} {R : Room} {s : State} {m : MethodId} {args : Array Value} {below : List Frame} {meth : Method} {c : Code} {Q : State → Prop}
variable {SX : State → Heap → Prop} {D : va_G} {cA : Nat → ClassId} {ad : Nat → Nat} {B : Nat} {xs : List Int32} {t1 t2 : List Value} {n0 s0 mi : Nat} {h' : MHeap}
set_option maxHeartbeats 4000000 in
theorem sim_a {rt : Option Value → MHeap → Prop} {cl : Nat → List Value → Nat → List Value → MHeap → Prop} (C : Cx p s m args meth c SX D cA ad B xs mi) {pc len : Nat} {i : Instr} {rs : List Nat} {cs : List Value} {ax : List Nat} (hck : chk1 (mtd mi).1 (mtd mi).2.2 (mtd mi).2.1 (prg mi).2 ((pc, i, rs, cs), len, ax) = true) (hi : grA i = true)
    {L : MLoc} {S : List Value} {h : MHeap}
    (hst : stK False rt (KN (fun H locs cells slots g => W p l e R s m args below meth c H locs cells slots Q g) (Rl D cA ad B xs t1 t2 s.heap n0 s0 (prg mi).2) h' m ad (pc + len)) (KN (fun H locs cells slots g => W p l e R s m args below meth c H locs cells slots Q g) (Rl D cA ad B xs t1 t2 s.heap n0 s0 (prg mi).2) h' m ad) cl i rs cs L S h)
    {ls : Array Slot} {H : Heap} {locs : List Loc} {cells slots : Nat} (hR : Rl D cA ad B xs t1 t2 s.heap n0 s0 (prg mi).2 L S h ls H locs cells slots) : W p l e R s m args below meth c H locs cells slots Q (F0 m pc ls (S.map (shv ad))) := by
  obtain ⟨hx, hb, hml, hown, hts, hKS, hret, hlocks, hnm, had⟩ := C
  obtain ⟨hLR, hok, hrest⟩ := id hR
  simp only [chk1, Bool.and_eq_true, decide_eq_true_eq] at hck
  obtain ⟨⟨hdec, hlk⟩, hloc⟩ := hck
  cases i
  case aconst_null =>
    have hl : len = 1 := Nat.eq_of_beq_eq_true hlk
    subst hl
    refine lv_null hx hb hdec ?_
    exact hst.2 ls H locs cells slots (hR.re hLR (okS.cons rfl hok))
  case iconst n =>
    simp only [lkB, Bool.and_eq_true, decide_eq_true_eq] at hlk
    obtain ⟨hl, rfl⟩ := hlk
    have hl : len = 1 := Nat.eq_of_beq_eq_true hl
    subst hl
    refine lv_iconst hx hb hdec rfl ?_
    exact hst.2 ls H locs cells slots (hR.re hLR (okS.cons rfl hok))
  case bipush n =>
    simp only [lkB, Bool.and_eq_true, decide_eq_true_eq] at hlk
    obtain ⟨hl, rfl⟩ := hlk
    have hl : len = 2 := Nat.eq_of_beq_eq_true hl
    subst hl
    refine lv_bipush hx hb hdec rfl ?_
    exact hst.2 ls H locs cells slots (hR.re hLR (okS.cons rfl hok))
  case sipush n =>
    simp only [lkB, Bool.and_eq_true, decide_eq_true_eq] at hlk
    obtain ⟨hl, rfl⟩ := hlk
    have hl : len = 3 := Nat.eq_of_beq_eq_true hl
    subst hl
    refine lv_sipush hx hb hdec rfl ?_
    exact hst.2 ls H locs cells slots (hR.re hLR (okS.cons rfl hok))
  case lconst n =>
    simp only [lkB, Bool.and_eq_true, decide_eq_true_eq] at hlk
    obtain ⟨hl, rfl⟩ := hlk
    have hl : len = 1 := Nat.eq_of_beq_eq_true hl
    subst hl
    refine lv_lconst hx hb hdec rfl ?_
    exact hst.2 ls H locs cells slots (hR.re hLR (okS.cons rfl hok))
  case ldc k =>
    simp only [lkB, Bool.and_eq_true] at hlk
    obtain ⟨hl, hk⟩ := hlk
    have hl : len = 2 := Nat.eq_of_beq_eq_true hl
    subst hl
    split at hk
    · refine lv_ldc hx hb hown (hts _ (tb_ok hk)) hdec ?_
      exact hst.2 ls H locs cells slots (hR.re hLR (okS.cons rfl hok))
    · simp only [Bool.and_eq_true, decide_eq_true_eq] at hk
      obtain ⟨h1, h2⟩ := hk
      have h2 : k = 56 := Nat.eq_of_beq_eq_true h2
      subst h2
      have hZ := hKS.1.2.2.2.2.2.1
      rw [← h1] at hZ
      refine va_ldcS hx hb hown hZ hdec ?_
      exact hst.2 ls H locs cells slots (hR.re hLR (okS.cons rfl hok))
    · simp only [Bool.and_eq_true, decide_eq_true_eq] at hk
      obtain ⟨h1, h2⟩ := hk
      have h2 : k = 117 := Nat.eq_of_beq_eq_true h2
      subst h2
      have hZ := hKS.1.2.2.2.2.2.2
      rw [← h1] at hZ
      refine va_ldcS hx hb hown hZ hdec ?_
      exact hst.2 ls H locs cells slots (hR.re hLR (okS.cons rfl hok))
    · cases hk
  case ldc_w k =>
    simp only [lkB, Bool.and_eq_true] at hlk
    obtain ⟨hl, hk⟩ := hlk
    have hl : len = 3 := Nat.eq_of_beq_eq_true hl
    subst hl
    split at hk
    · refine lv_ldcw hx hb hown (hts _ (tb_ok hk)) hdec ?_
      exact hst.2 ls H locs cells slots (hR.re hLR (okS.cons rfl hok))
    · cases hk
  case ldc2_w k =>
    simp only [lkB, Bool.and_eq_true] at hlk
    obtain ⟨hl, hk⟩ := hlk
    have hl : len = 3 := Nat.eq_of_beq_eq_true hl
    subst hl
    split at hk
    · refine lv_ldc2 hx hb hown (hts _ (tb_ok hk)) hdec ?_
      exact hst.2 ls H locs cells slots (hR.re hLR (okS.cons rfl hok))
    · cases hk
  case iload n =>
    have hl : len = 2 := Nat.eq_of_beq_eq_true hlk
    subst hl
    obtain ⟨v, hv, hst⟩ := gS_F hst
    obtain ⟨x, rfl, hst⟩ := dI_F hst
    refine lv_iload hx hb hdec (hLR.at hv) ?_
    exact hst.2 ls H locs cells slots (hR.re hLR (okS.cons rfl hok))
  case iload_n n =>
    have hl : len = 1 := Nat.eq_of_beq_eq_true hlk
    subst hl
    obtain ⟨v, hv, hst⟩ := gS_F hst
    obtain ⟨x, rfl, hst⟩ := dI_F hst
    refine lv_iload_n hx hb hdec rfl (hLR.at hv) ?_
    exact hst.2 ls H locs cells slots (hR.re hLR (okS.cons rfl hok))
  case aload n =>
    have hl : len = 2 := Nat.eq_of_beq_eq_true hlk
    subst hl
    obtain ⟨v, hv, hst⟩ := gS_F hst
    obtain ⟨hv2, hst⟩ := dA_F hst
    rcases hv2 with rfl | ⟨x, rfl⟩
    · refine lv_aloadN hx hb hdec (hLR.at hv) ?_
      exact hst.2 ls H locs cells slots (hR.re hLR (okS.cons rfl hok))
    · refine lv_aload hx hb hdec (hLR.at hv) ?_
      exact hst.2 ls H locs cells slots (hR.re hLR (okS.cons rfl hok))
  case aload_n n =>
    have hl : len = 1 := Nat.eq_of_beq_eq_true hlk
    subst hl
    obtain ⟨v, hv, hst⟩ := gS_F hst
    obtain ⟨hv2, hst⟩ := dA_F hst
    rcases hv2 with rfl | ⟨x, rfl⟩
    · refine lv_aload_nN hx hb hdec rfl (hLR.at hv) ?_
      exact hst.2 ls H locs cells slots (hR.re hLR (okS.cons rfl hok))
    · refine lv_aload_n hx hb hdec rfl (hLR.at hv) ?_
      exact hst.2 ls H locs cells slots (hR.re hLR (okS.cons rfl hok))
  case lload n =>
    have hl : len = 2 := Nat.eq_of_beq_eq_true hlk
    subst hl
    obtain ⟨y, hv, hst⟩ := gSL_F hst
    refine lv_lload hx hb hdec (hLR.atL hv) ?_
    exact hst.2 ls H locs cells slots (hR.re hLR (okS.cons rfl hok))
  case lload_n n =>
    have hl : len = 1 := Nat.eq_of_beq_eq_true hlk
    subst hl
    obtain ⟨y, hv, hst⟩ := gSL_F hst
    refine lv_lload_n hx hb hdec rfl (hLR.atL hv) ?_
    exact hst.2 ls H locs cells slots (hR.re hLR (okS.cons rfl hok))
  case istore n =>
    have hl : len = 2 := Nat.eq_of_beq_eq_true hlk
    subst hl
    have hloc := Nat.le_of_ble_eq_true hloc
    rcases S with _ | ⟨v, S⟩
    · exact absurd hst id
    · obtain ⟨x, rfl, hst⟩ := dI_F hst
      refine lv_istore hx hb hdec hLR.1 hloc rfl (fun ls hl => ?_)
      exact hst.2 ls H locs cells slots (hR.re (hLR.st rfl hl) hok.tl)
  case istore_n n =>
    have hl : len = 1 := Nat.eq_of_beq_eq_true hlk
    subst hl
    have hloc := Nat.le_of_ble_eq_true hloc
    rcases S with _ | ⟨v, S⟩
    · exact absurd hst id
    · obtain ⟨x, rfl, hst⟩ := dI_F hst
      refine lv_istore_n hx hb hdec rfl hLR.1 hloc rfl (fun ls hl => ?_)
      exact hst.2 ls H locs cells slots (hR.re (hLR.st rfl hl) hok.tl)
  case astore n =>
    have hl : len = 2 := Nat.eq_of_beq_eq_true hlk
    subst hl
    have hloc := Nat.le_of_ble_eq_true hloc
    rcases S with _ | ⟨v, S⟩
    · exact absurd hst id
    · obtain ⟨hv2, hst⟩ := dA_F hst
      rcases hv2 with rfl | ⟨x, rfl⟩
      · refine lv_astoreN hx hb hdec hLR.1 hloc rfl (fun ls hl => ?_)
        exact hst.2 ls H locs cells slots (hR.re (hLR.st rfl hl) hok.tl)
      · refine lv_astore hx hb hdec hLR.1 hloc rfl (fun ls hl => ?_)
        exact hst.2 ls H locs cells slots (hR.re (hLR.st rfl hl) hok.tl)
  case astore_n n =>
    have hl : len = 1 := Nat.eq_of_beq_eq_true hlk
    subst hl
    have hloc := Nat.le_of_ble_eq_true hloc
    rcases S with _ | ⟨v, S⟩
    · exact absurd hst id
    · obtain ⟨hv2, hst⟩ := dA_F hst
      rcases hv2 with rfl | ⟨x, rfl⟩
      · refine lv_astore_nN hx hb hdec rfl hLR.1 hloc rfl (fun ls hl => ?_)
        exact hst.2 ls H locs cells slots (hR.re (hLR.st rfl hl) hok.tl)
      · refine lv_astore_n hx hb hdec rfl hLR.1 hloc rfl (fun ls hl => ?_)
        exact hst.2 ls H locs cells slots (hR.re (hLR.st rfl hl) hok.tl)
  case lstore n =>
    have hl : len = 2 := Nat.eq_of_beq_eq_true hlk
    subst hl
    have hloc := Nat.le_of_ble_eq_true hloc
    rcases S with _ | ⟨v, S⟩
    · exact absurd hst id
    · obtain ⟨x, rfl, hst⟩ := dL_F hst
      refine lv_lstore hx hb hdec hLR.1 hloc rfl (fun ls hl => ?_)
      exact hst.2 ls H locs cells slots (hR.re (hLR.stL hl) hok.tl)
  case lstore_n n =>
    have hl : len = 1 := Nat.eq_of_beq_eq_true hlk
    subst hl
    have hloc := Nat.le_of_ble_eq_true hloc
    rcases S with _ | ⟨v, S⟩
    · exact absurd hst id
    · obtain ⟨x, rfl, hst⟩ := dL_F hst
      refine lv_lstore_n hx hb hdec rfl hLR.1 hloc rfl (fun ls hl => ?_)
      exact hst.2 ls H locs cells slots (hR.re (hLR.stL hl) hok.tl)
  case iinc n z =>
    simp only [lkB, Bool.and_eq_true, decide_eq_true_eq] at hlk
    obtain ⟨hl, rfl⟩ := hlk
    have hl : len = 3 := Nat.eq_of_beq_eq_true hl
    subst hl
    have hloc := Nat.le_of_ble_eq_true hloc
    obtain ⟨v, hv, hst⟩ := gS_F hst
    obtain ⟨x, rfl, hst⟩ := dI_F hst
    have hm := mlg_prs (ad := ad) L 0 n _ hv
    rw [Nat.zero_add] at hm
    obtain ⟨k, hk⟩ := List.getElem?_of_mem hm
    refine lv_iinc hx hb hdec hLR.1 hk rfl hloc rfl (fun ls hl => ?_)
    exact hst.2 ls H locs cells slots (hR.re (hLR.st rfl hl) hok)
  case dup =>
    have hl : len = 1 := Nat.eq_of_beq_eq_true hlk
    subst hl
    rcases S with _ | ⟨v, S⟩
    · exact absurd hst id
    · obtain ⟨hv, hst⟩ := dD_F hst
      refine lv_dup hx hb hdec (by rw [shv_cat]; exact hv) ?_
      exact hst.2 ls H locs cells slots (hR.re hLR (okS.cons (hok v List.mem_cons_self) hok))
  case pop =>
    have hl : len = 1 := Nat.eq_of_beq_eq_true hlk
    subst hl
    rcases S with _ | ⟨v, S⟩
    · exact absurd hst id
    · obtain ⟨x, rfl, hst⟩ := dI_F hst
      refine lv_pop hx hb hdec rfl ?_
      exact hst.2 ls H locs cells slots (hR.re hLR (hok.tl))
  case iadd =>
    have hl : len = 1 := Nat.eq_of_beq_eq_true hlk
    subst hl
    rcases S with _ | ⟨v, _ | ⟨w, S⟩⟩
    · exact absurd hst id
    · exact absurd hst id
    · obtain ⟨y, rfl, hst⟩ := dI_F hst
      obtain ⟨x, rfl, hst⟩ := dI_F hst
      refine lv_iadd hx hb hdec ?_
      exact hst.2 ls H locs cells slots (hR.re hLR (okS.cons rfl hok.tl.tl))
  case isub =>
    have hl : len = 1 := Nat.eq_of_beq_eq_true hlk
    subst hl
    rcases S with _ | ⟨v, _ | ⟨w, S⟩⟩
    · exact absurd hst id
    · exact absurd hst id
    · obtain ⟨y, rfl, hst⟩ := dI_F hst
      obtain ⟨x, rfl, hst⟩ := dI_F hst
      refine lv_isub hx hb hdec ?_
      exact hst.2 ls H locs cells slots (hR.re hLR (okS.cons rfl hok.tl.tl))
  case imul =>
    have hl : len = 1 := Nat.eq_of_beq_eq_true hlk
    subst hl
    rcases S with _ | ⟨v, _ | ⟨w, S⟩⟩
    · exact absurd hst id
    · exact absurd hst id
    · obtain ⟨y, rfl, hst⟩ := dI_F hst
      obtain ⟨x, rfl, hst⟩ := dI_F hst
      refine lv_imul hx hb hdec ?_
      exact hst.2 ls H locs cells slots (hR.re hLR (okS.cons rfl hok.tl.tl))
  case iand =>
    have hl : len = 1 := Nat.eq_of_beq_eq_true hlk
    subst hl
    rcases S with _ | ⟨v, _ | ⟨w, S⟩⟩
    · exact absurd hst id
    · exact absurd hst id
    · obtain ⟨y, rfl, hst⟩ := dI_F hst
      obtain ⟨x, rfl, hst⟩ := dI_F hst
      refine lv_iand hx hb hdec ?_
      exact hst.2 ls H locs cells slots (hR.re hLR (okS.cons rfl hok.tl.tl))
  case ior =>
    have hl : len = 1 := Nat.eq_of_beq_eq_true hlk
    subst hl
    rcases S with _ | ⟨v, _ | ⟨w, S⟩⟩
    · exact absurd hst id
    · exact absurd hst id
    · obtain ⟨y, rfl, hst⟩ := dI_F hst
      obtain ⟨x, rfl, hst⟩ := dI_F hst
      refine lv_ior hx hb hdec ?_
      exact hst.2 ls H locs cells slots (hR.re hLR (okS.cons rfl hok.tl.tl))
  case ixor =>
    have hl : len = 1 := Nat.eq_of_beq_eq_true hlk
    subst hl
    rcases S with _ | ⟨v, _ | ⟨w, S⟩⟩
    · exact absurd hst id
    · exact absurd hst id
    · obtain ⟨y, rfl, hst⟩ := dI_F hst
      obtain ⟨x, rfl, hst⟩ := dI_F hst
      refine lv_ixor hx hb hdec ?_
      exact hst.2 ls H locs cells slots (hR.re hLR (okS.cons rfl hok.tl.tl))
  case ishl =>
    have hl : len = 1 := Nat.eq_of_beq_eq_true hlk
    subst hl
    rcases S with _ | ⟨v, _ | ⟨w, S⟩⟩
    · exact absurd hst id
    · exact absurd hst id
    · obtain ⟨y, rfl, hst⟩ := dI_F hst
      obtain ⟨x, rfl, hst⟩ := dI_F hst
      refine lv_ishl hx hb hdec ?_
      exact hst.2 ls H locs cells slots (hR.re hLR (okS.cons rfl hok.tl.tl))
  case ishr =>
    have hl : len = 1 := Nat.eq_of_beq_eq_true hlk
    subst hl
    rcases S with _ | ⟨v, _ | ⟨w, S⟩⟩
    · exact absurd hst id
    · exact absurd hst id
    · obtain ⟨y, rfl, hst⟩ := dI_F hst
      obtain ⟨x, rfl, hst⟩ := dI_F hst
      refine lv_ishr hx hb hdec ?_
      exact hst.2 ls H locs cells slots (hR.re hLR (okS.cons rfl hok.tl.tl))
  case iushr =>
    have hl : len = 1 := Nat.eq_of_beq_eq_true hlk
    subst hl
    rcases S with _ | ⟨v, _ | ⟨w, S⟩⟩
    · exact absurd hst id
    · exact absurd hst id
    · obtain ⟨y, rfl, hst⟩ := dI_F hst
      obtain ⟨x, rfl, hst⟩ := dI_F hst
      refine lv_iushr hx hb hdec rfl ?_
      exact hst.2 ls H locs cells slots (hR.re hLR (okS.cons rfl hok.tl.tl))
  case idiv =>
    have hl : len = 1 := Nat.eq_of_beq_eq_true hlk
    subst hl
    rcases S with _ | ⟨v, _ | ⟨w, S⟩⟩
    · exact absurd hst id
    · exact absurd hst id
    · obtain ⟨y, rfl, hst⟩ := dI_F hst
      obtain ⟨x, rfl, hst⟩ := dI_F hst
      obtain ⟨hy, hst⟩ := dv_F hst
      refine lv_idiv hx hb hdec hy ?_
      exact hst.2 ls H locs cells slots (hR.re hLR (okS.cons rfl hok.tl.tl))
  case irem =>
    have hl : len = 1 := Nat.eq_of_beq_eq_true hlk
    subst hl
    rcases S with _ | ⟨v, _ | ⟨w, S⟩⟩
    · exact absurd hst id
    · exact absurd hst id
    · obtain ⟨y, rfl, hst⟩ := dI_F hst
      obtain ⟨x, rfl, hst⟩ := dI_F hst
      obtain ⟨hy, hst⟩ := dv_F hst
      refine lv_irem hx hb hdec hy ?_
      exact hst.2 ls H locs cells slots (hR.re hLR (okS.cons rfl hok.tl.tl))
  case ladd =>
    have hl : len = 1 := Nat.eq_of_beq_eq_true hlk
    subst hl
    rcases S with _ | ⟨v, _ | ⟨w, S⟩⟩
    · exact absurd hst id
    · exact absurd hst id
    · obtain ⟨y, rfl, hst⟩ := dL_F hst
      obtain ⟨x, rfl, hst⟩ := dL_F hst
      refine lv_ladd hx hb hdec ?_
      exact hst.2 ls H locs cells slots (hR.re hLR (okS.cons rfl hok.tl.tl))
  case lmul =>
    have hl : len = 1 := Nat.eq_of_beq_eq_true hlk
    subst hl
    rcases S with _ | ⟨v, _ | ⟨w, S⟩⟩
    · exact absurd hst id
    · exact absurd hst id
    · obtain ⟨y, rfl, hst⟩ := dL_F hst
      obtain ⟨x, rfl, hst⟩ := dL_F hst
      refine lv_lmul hx hb hdec ?_
      exact hst.2 ls H locs cells slots (hR.re hLR (okS.cons rfl hok.tl.tl))
  case ldiv =>
    have hl : len = 1 := Nat.eq_of_beq_eq_true hlk
    subst hl
    rcases S with _ | ⟨v, _ | ⟨w, S⟩⟩
    · exact absurd hst id
    · exact absurd hst id
    · obtain ⟨y, rfl, hst⟩ := dL_F hst
      obtain ⟨x, rfl, hst⟩ := dL_F hst
      obtain ⟨hy, hst⟩ := dvL_F hst
      refine lv_ldiv hx hb hdec hy ?_
      exact hst.2 ls H locs cells slots (hR.re hLR (okS.cons rfl hok.tl.tl))
  case lrem =>
    have hl : len = 1 := Nat.eq_of_beq_eq_true hlk
    subst hl
    rcases S with _ | ⟨v, _ | ⟨w, S⟩⟩
    · exact absurd hst id
    · exact absurd hst id
    · obtain ⟨y, rfl, hst⟩ := dL_F hst
      obtain ⟨x, rfl, hst⟩ := dL_F hst
      obtain ⟨hy, hst⟩ := dvL_F hst
      refine lv_lrem hx hb hdec hy ?_
      exact hst.2 ls H locs cells slots (hR.re hLR (okS.cons rfl hok.tl.tl))
  case lcmp =>
    have hl : len = 1 := Nat.eq_of_beq_eq_true hlk
    subst hl
    rcases S with _ | ⟨v, _ | ⟨w, S⟩⟩
    · exact absurd hst id
    · exact absurd hst id
    · obtain ⟨y, rfl, hst⟩ := dL_F hst
      obtain ⟨x, rfl, hst⟩ := dL_F hst
      refine W.lcmp hx hb hdec (by rw [lg_cmp_if]; exact hst.2 ls H locs cells slots (hR.re hLR (okS.cons rfl hok.tl.tl)))
  case ineg =>
    have hl : len = 1 := Nat.eq_of_beq_eq_true hlk
    subst hl
    rcases S with _ | ⟨v, S⟩
    · exact absurd hst id
    · obtain ⟨x, rfl, hst⟩ := dI_F hst
      refine lv_ineg hx hb hdec ?_
      exact hst.2 ls H locs cells slots (hR.re hLR (okS.cons rfl hok.tl))
  case i2l =>
    have hl : len = 1 := Nat.eq_of_beq_eq_true hlk
    subst hl
    rcases S with _ | ⟨v, S⟩
    · exact absurd hst id
    · obtain ⟨x, rfl, hst⟩ := dI_F hst
      refine lv_i2l hx hb hdec rfl ?_
      exact hst.2 ls H locs cells slots (hR.re hLR (okS.cons rfl hok.tl))
  case i2b =>
    have hl : len = 1 := Nat.eq_of_beq_eq_true hlk
    subst hl
    rcases S with _ | ⟨v, S⟩
    · exact absurd hst id
    · obtain ⟨x, rfl, hst⟩ := dI_F hst
      refine lv_i2b hx hb hdec rfl ?_
      exact hst.2 ls H locs cells slots (hR.re hLR (okS.cons rfl hok.tl))
  case i2s =>
    have hl : len = 1 := Nat.eq_of_beq_eq_true hlk
    subst hl
    rcases S with _ | ⟨v, S⟩
    · exact absurd hst id
    · obtain ⟨x, rfl, hst⟩ := dI_F hst
      refine lv_i2s hx hb hdec rfl ?_
      exact hst.2 ls H locs cells slots (hR.re hLR (okS.cons rfl hok.tl))
  case l2i =>
    have hl : len = 1 := Nat.eq_of_beq_eq_true hlk
    subst hl
    rcases S with _ | ⟨v, S⟩
    · exact absurd hst id
    · obtain ⟨x, rfl, hst⟩ := dL_F hst
      refine lv_l2i hx hb hdec rfl ?_
      exact hst.2 ls H locs cells slots (hR.re hLR (okS.cons rfl hok.tl))
  case goto off =>
    simp only [lkB, Bool.and_eq_true] at hlk
    obtain ⟨hl, hk⟩ := hlk
    have hl : len = 3 := Nat.eq_of_beq_eq_true hl
    subst hl
    split at hk
    rotate_left
    · cases hk
    rename_i t
    have ht := of_decide_eq_true hk
    refine lv_goto hx hb hdec ht ?_
    exact hst.2 ls H locs cells slots (hR.re hLR (hok))
  case ifCond cc off =>
    simp only [lkB, Bool.and_eq_true] at hlk
    obtain ⟨hl, hk⟩ := hlk
    have hl : len = 3 := Nat.eq_of_beq_eq_true hl
    subst hl
    split at hk
    rotate_left
    · cases hk
    rename_i t
    have ht := of_decide_eq_true hk
    rcases S with _ | ⟨v, S⟩
    · exact absurd hst id
    obtain ⟨x, rfl, hst⟩ := dI_F hst
    cases cc
    case eq =>
      have hst : if x = 0 then KN _ _ h' m ad t L S h else KN _ _ h' m ad (pc + 3) L S h := hst
      refine lv_if_eq hx hb hdec ht (fun q => ?_) (fun q => ?_)
      · rw [if_pos q] at hst
        exact hst.2 ls H locs cells slots (hR.re hLR hok.tl)
      · rw [if_neg q] at hst
        exact hst.2 ls H locs cells slots (hR.re hLR hok.tl)
    case ne =>
      have hst : if x = 0 then KN _ _ h' m ad (pc + 3) L S h else KN _ _ h' m ad t L S h := hst
      refine lv_if_ne hx hb hdec ht (fun q => ?_) (fun q => ?_)
      · rw [if_neg q] at hst
        exact hst.2 ls H locs cells slots (hR.re hLR hok.tl)
      · rw [if_pos q] at hst
        exact hst.2 ls H locs cells slots (hR.re hLR hok.tl)
    case lt =>
      have hst : if x < 0 then KN _ _ h' m ad t L S h else KN _ _ h' m ad (pc + 3) L S h := hst
      refine lv_if_lt hx hb hdec ht (fun q => ?_) (fun q => ?_)
      · rw [if_pos q] at hst
        exact hst.2 ls H locs cells slots (hR.re hLR hok.tl)
      · rw [if_neg q] at hst
        exact hst.2 ls H locs cells slots (hR.re hLR hok.tl)
    case ge =>
      have hst : if x < 0 then KN _ _ h' m ad (pc + 3) L S h else KN _ _ h' m ad t L S h := hst
      refine lv_if_ge hx hb hdec ht (fun q => ?_) (fun q => ?_)
      · rw [if_neg (Int32.not_lt.mpr q)] at hst
        exact hst.2 ls H locs cells slots (hR.re hLR hok.tl)
      · rw [if_pos (Int32.not_le.mp q)] at hst
        exact hst.2 ls H locs cells slots (hR.re hLR hok.tl)
    case gt =>
      have hst : if 0 < x then KN _ _ h' m ad t L S h else KN _ _ h' m ad (pc + 3) L S h := hst
      refine lv_if_gt hx hb hdec ht (fun q => ?_) (fun q => ?_)
      · rw [if_pos q] at hst
        exact hst.2 ls H locs cells slots (hR.re hLR hok.tl)
      · rw [if_neg q] at hst
        exact hst.2 ls H locs cells slots (hR.re hLR hok.tl)
    case le =>
      have hst : if 0 < x then KN _ _ h' m ad (pc + 3) L S h else KN _ _ h' m ad t L S h := hst
      refine lv_if_le hx hb hdec ht (fun q => ?_) (fun q => ?_)
      · rw [if_neg (Int32.not_lt.mpr q)] at hst
        exact hst.2 ls H locs cells slots (hR.re hLR hok.tl)
      · rw [if_pos (Int32.not_le.mp q)] at hst
        exact hst.2 ls H locs cells slots (hR.re hLR hok.tl)
  case if_icmp cc off =>
    simp only [lkB, Bool.and_eq_true] at hlk
    obtain ⟨hl, hk⟩ := hlk
    have hl : len = 3 := Nat.eq_of_beq_eq_true hl
    subst hl
    split at hk
    rotate_left
    · cases hk
    rename_i t
    have ht := of_decide_eq_true hk
    rcases S with _ | ⟨v, _ | ⟨w, S⟩⟩
    · exact absurd hst id
    · exact absurd hst id
    obtain ⟨y, rfl, hst⟩ := dI_F hst
    obtain ⟨x, rfl, hst⟩ := dI_F hst
    cases cc
    case eq =>
      have hst : if x = y then KN _ _ h' m ad t L S h else KN _ _ h' m ad (pc + 3) L S h := hst
      refine lv_icmp_eq hx hb hdec ht (fun q => ?_) (fun q => ?_)
      · rw [if_pos q] at hst
        exact hst.2 ls H locs cells slots (hR.re hLR hok.tl.tl)
      · rw [if_neg q] at hst
        exact hst.2 ls H locs cells slots (hR.re hLR hok.tl.tl)
    case ne =>
      have hst : if x = y then KN _ _ h' m ad (pc + 3) L S h else KN _ _ h' m ad t L S h := hst
      refine lv_icmp_ne hx hb hdec ht (fun q => ?_) (fun q => ?_)
      · rw [if_neg q] at hst
        exact hst.2 ls H locs cells slots (hR.re hLR hok.tl.tl)
      · rw [if_pos q] at hst
        exact hst.2 ls H locs cells slots (hR.re hLR hok.tl.tl)
    case lt =>
      have hst : if x < y then KN _ _ h' m ad t L S h else KN _ _ h' m ad (pc + 3) L S h := hst
      refine lv_icmp_lt hx hb hdec ht (fun q => ?_) (fun q => ?_)
      · rw [if_pos q] at hst
        exact hst.2 ls H locs cells slots (hR.re hLR hok.tl.tl)
      · rw [if_neg q] at hst
        exact hst.2 ls H locs cells slots (hR.re hLR hok.tl.tl)
    case ge =>
      have hst : if x < y then KN _ _ h' m ad (pc + 3) L S h else KN _ _ h' m ad t L S h := hst
      refine lv_icmp_ge hx hb hdec ht (fun q => ?_) (fun q => ?_)
      · rw [if_neg (Int32.not_lt.mpr q)] at hst
        exact hst.2 ls H locs cells slots (hR.re hLR hok.tl.tl)
      · rw [if_pos (Int32.not_le.mp q)] at hst
        exact hst.2 ls H locs cells slots (hR.re hLR hok.tl.tl)
    case gt =>
      have hst : if y < x then KN _ _ h' m ad t L S h else KN _ _ h' m ad (pc + 3) L S h := hst
      refine lv_icmp_gt hx hb hdec ht (fun q => ?_) (fun q => ?_)
      · rw [if_pos q] at hst
        exact hst.2 ls H locs cells slots (hR.re hLR hok.tl.tl)
      · rw [if_neg q] at hst
        exact hst.2 ls H locs cells slots (hR.re hLR hok.tl.tl)
    case le =>
      have hst : if y < x then KN _ _ h' m ad (pc + 3) L S h else KN _ _ h' m ad t L S h := hst
      refine lv_icmp_le hx hb hdec ht (fun q => ?_) (fun q => ?_)
      · rw [if_neg (Int32.not_lt.mpr q)] at hst
        exact hst.2 ls H locs cells slots (hR.re hLR hok.tl.tl)
      · rw [if_pos (Int32.not_le.mp q)] at hst
        exact hst.2 ls H locs cells slots (hR.re hLR hok.tl.tl)
  case ifnull off =>
    simp only [lkB, Bool.and_eq_true] at hlk
    obtain ⟨hl, hk⟩ := hlk
    have hl : len = 3 := Nat.eq_of_beq_eq_true hl
    subst hl
    split at hk
    rotate_left
    · cases hk
    rename_i t
    have ht := of_decide_eq_true hk
    rcases S with _ | ⟨v, S⟩
    · exact absurd hst id
    rcases dN_F hst with ⟨rfl, hst⟩ | ⟨x, rfl, hst⟩
    · refine lv_ifnullN hx hb hdec ht ?_
      exact hst.2 ls H locs cells slots (hR.re hLR (hok.tl))
    · refine lv_ifnull hx hb hdec ?_
      exact hst.2 ls H locs cells slots (hR.re hLR (hok.tl))
  case ifnonnull off =>
    simp only [lkB, Bool.and_eq_true] at hlk
    obtain ⟨hl, hk⟩ := hlk
    have hl : len = 3 := Nat.eq_of_beq_eq_true hl
    subst hl
    split at hk
    rotate_left
    · cases hk
    rename_i t
    have ht := of_decide_eq_true hk
    rcases S with _ | ⟨v, S⟩
    · exact absurd hst id
    rcases dN_F hst with ⟨rfl, hst⟩ | ⟨x, rfl, hst⟩
    · refine lv_ifnonnullN hx hb hdec ?_
      exact hst.2 ls H locs cells slots (hR.re hLR (hok.tl))
    · refine lv_ifnonnull hx hb hdec ht ?_
      exact hst.2 ls H locs cells slots (hR.re hLR (hok.tl))
  all_goals (cases hi)
end SIMA
end
section
/-! one step of the small machine is one of the real one: what reads and writes cells -/
theorem enc_obj {ad : Nat → Nat} {cA : Nat → ClassId} {t : Nat} {fs : List Value} (h : t < 13) : enc ad cA (t, fs) = .inr (t, fs.map (shv ad)) := by
  unfold enc
  rw [if_pos h]
theorem enc_int {ad : Nat → Nat} {cA : Nat → ClassId} {vs : List Value} : enc ad cA (100, vs) = .inl (cA 0, vs.length, .inl fun j => toI (vs.getD j .null)) := rfl
theorem enc_ref {ad : Nat → Nat} {cA : Nat → ClassId} {t : Nat} {vs : List Value} (h : 101 ≤ t) : enc ad cA (t, vs) = .inl (cA (t - 100), vs.length, .inr (.inr (.inr (.inr fun j => toR ad (vs.getD j .null))))) := by
  unfold enc
  rw [if_neg (by show ¬ t < 13; omega), if_neg (by show ¬ t = 100; omega)]
theorem cls_lt {t : Nat} {r : vw_C} (h : clsL[t]? = some r) : t < 13 := (List.getElem?_eq_some_iff.mp h).1
/-- a cell that is no script and no text lies behind the first three -/
theorem pre_at {h : MHeap} {xs : List Int32} {t1 t2 : List Value} (hp : h.take 3 = prF xs t1 t2) {o t : Nat} {vs : List Value} (ho : h[o]? = some (t, vs)) (ht : t ≠ 99 ∧ t ≠ 98) : 3 ≤ o := by
  rcases Nat.lt_or_ge o 3 with q | q
  · exfalso
    have h1 : (h.take 3)[o]? = some (t, vs) := by rw [List.getElem?_take, if_pos q]; exact ho
    rw [hp] at h1
    unfold prF at h1
    match o, q, h1 with
    | 0, _, h1 => simp at h1; exact ht.1 h1.1.symm
    | 1, _, h1 => simp at h1; exact ht.2 h1.1.symm
    | 2, _, h1 => simp at h1; exact ht.2 h1.1.symm
  · exact q
theorem pre_set {h : MHeap} {xs : List Int32} {t1 t2 : List Value} (hp : h.take 3 = prF xs t1 t2) {o : Nat} (ho : 3 ≤ o) (q : MCell) : (h.set o q).take 3 = prF xs t1 t2 := by
  rw [← hp]
  apply List.ext_getElem?
  intro k
  rw [List.getElem?_take, List.getElem?_take]
  by_cases hk : k < 3
  · rw [if_pos hk, if_pos hk, List.getElem?_set, if_neg (by omega)]
  · rw [if_neg hk, if_neg hk]
theorem pre_push {h : MHeap} {xs : List Int32} {t1 t2 : List Value} (hp : h.take 3 = prF xs t1 t2) (h3 : 3 ≤ h.length) (q : MCell) : (h ++ [q]).take 3 = prF xs t1 t2 := by
  rw [List.take_append_of_le_length h3]
  exact hp
/-- a cell is written -/
theorem Rl.set {D : va_G} {cA : Nat → ClassId} {ad : Nat → Nat} {B : Nat} {xs : List Int32} {t1 t2 : List Value} {H0 : Heap} {n0 s0 nL : Nat} {L : MLoc} {S S' : List Value} {h : MHeap} {ls : Array Slot} {H H1 : Heap} {locs locs1 : List Loc} {cells slots o : Nat} {q q' : MCell} (hR : Rl D cA ad B xs t1 t2 H0 n0 s0 nL L S h ls H locs cells slots) (hs : okS S') (ho : 3 ≤ o) (hq : h[o]? = some q) (hl : q'.2.length = q.2.length) (hz : H1.size = H.size) (hP : va_P D clsL ((toW ad cA h).set (o - 3) (ad o, enc ad cA q')) H1) (hS : va_S (fun q => B ≤ q) H0 H1 locs1) : Rl D cA ad B xs t1 t2 H0 n0 s0 nL L S' (h.set o q') ls H1 locs1 cells slots := by
  obtain ⟨a1, a2, a3, a4, a5, a6, a7, a8, a9⟩ := hR
  refine ⟨a1, hs, by rw [toW_set ho]; exact hP, by rw [hz, List.length_set]; exact a4, pre_set a5 ho q', by rw [List.length_set]; exact a6, hS, by rw [List.length_set]; exact a8, by rw [hsl_set hq hl]; exact a9⟩
theorem shv_get {ad : Nat → Nat} {fs : List Value} {j : Nat} {v : Value} (h : fs[j]? = some v) : (fs.map (shv ad))[j]? = some (shv ad v) := by
  rw [List.getElem?_map, h]; rfl
theorem shv_set (ad : Nat → Nat) (fs : List Value) (j : Nat) (v : Value) : (fs.map (shv ad)).set j (shv ad v) = (fs.set j v).map (shv ad) := by
  rw [List.map_set]
end
section
/-! rows that tell the heap's size, too -/
section VZ
variable {p : Program} {l : Launch} {e : Env} {R : Room} {s : State} {m : MethodId} {args : Array Value} {below : List Frame} {meth : Method} {c : Code} {H : Heap} {locs : List Loc} {cells slots : Nat} {Q : State → Prop}
variable {cc : ByteArray} {pc : Nat} {ls : Array Slot} {rest : List Value} {D : va_G} {cl : List vw_C} {A : Nat → Prop} {a : Nat} {tys : List (ClassId × FieldType)} {ws : va_W} {H0 : Heap}
theorem vz_put (hexec : p.tables.exec = Jvm.exec) (hb : c.code = cc) {own ref C : String} {T : u_T} {N ci index : Nat} {Ts : List Cond} (hts : ∀ w ∈ Ts, w.before args s = true) (hin : ∀ w ∈ u_ws C T N, w ∈ Ts) (ty0 : Nat → FieldType) (hty : ∀ k, k < N → parseFieldDescriptor (T k).2.2.1 = some (ty0 k)) (hnm : ∀ a, a < N → ∀ b, b < N → a ≠ b → (T a).2.1 ≠ (T b).2.1) (hown : s.vm.findClass own = some m.cls) (hK : va_K D cl tys s) (hP : va_P D cl ws H) (hD : va_D A ws) (hS0 : va_S A H0 H locs) (q0 : Nat) {fs : List Value} (he : ws[q0]? = some (a, .inr (ci, fs))) (hc : cl[ci]? = some (C, T, N)) (k : Nat) (hk : k < N) (hlink : (Cond.fieldLink own index ref (T k).2.1 (T k).2.2.1).before args s = true) (hsame : ∀ x, s.fieldFound? (T k).1 (T k).2.1 (T k).2.2.1 = some x → s.fieldFound? ref (T k).2.1 (T k).2.2.1 = some x) (hfin : (T k).2.2.2 = false ∨ (meth.name = "<init>" ∧ (T k).1 = own)) {ty : FieldType} {v : Value} (hd : parseFieldDescriptor (T k).2.2.1 = some ty) (hn : narrow ty v = v) (hfit : fits ty v = true) (hl : k < fs.length)
    (hdg : decode cc pc = .ok (.putfield index, 3)) (kk : ∀ (H1 : Heap) (locs1 : List Loc), H1.size = H.size → va_P D cl (ws.set q0 (a, .inr (ci, fs.set k v))) H1 → va_S A H0 H1 locs1 → W p l e R s m args below meth c H1 locs1 cells slots Q (F0 m (pc + 3) ls rest)) : W p l e R s m args below meth c H locs cells slots Q (F0 m pc ls (v :: .ref a :: rest)) := by
  have hap := va_apart (own := own) hts hin ty0 hty hnm hK hc
  obtain ⟨r, h1, cell, q1, q2, q3, q4⟩ := hP q0 _ he
  have hr : r = (C, T, N) := Option.some.inj (h1.symm.trans hc)
  subst hr
  obtain ⟨hS, hfc, kC, hkC, hkind⟩ := hK.1 ci _ hc
  obtain ⟨cf, kf, fi, f, hi, hsl⟩ := hS k hk
  have hlay := hts _ (hin _ (u_in_lay hk))
  have hst := (u_facts hfc hkC (u_lays hts hin hk) hi).1
  have go : ∀ H' : Heap, H'[a]? = some (cell.setSlot f.slot v) → H'.size = H.size → (∀ q, q ≠ a → H'[q]? = H[q]?) → W p l e R s m args below meth c H' (locs ++ [⟨a, f.slot⟩]) cells slots Q (F0 m (pc + 3) ls rest) := by
    intro H' e1 e2 e3
    rw [hsl] at e1 ⊢
    exact kk H' _ e2 (hP.set hD he ⟨_, hc, t_OB.to (V := updV (vp_V fs) k v) ⟨_, e1, q2, q3, t_set q4 hap hk v⟩ (fun j _ => vp_updV_set hl v j)⟩ e3) (hS0.put e2 e3 (hD.2 q0 _ he))
  have hlt : f.slot < cell.slots.size := by rw [hsl]; exact k2_hasslot (q4 k hk)
  unfold u_lay at hlay
  cases hfb : (T k).2.2.2 with
  | false =>
    rw [if_neg (by rw [hfb]; decide)] at hlay
    exact W.putK hexec hb (f := f) ⟨hown, hlink, ⟨_, _, _, hsame _ hi⟩, hst⟩ (by rw [q2]; exact u_store hfc hkC hkind hlay hi hd hn hfit) q1 q3 hlt rfl rfl hdg go
  | true =>
    rw [if_pos hfb] at hlay
    obtain ⟨hin2, hdecl⟩ := hfin.resolve_left (by rw [hfb]; decide)
    have hcf : m.cls = cf := by
      obtain ⟨_, _, c', _, _, _, -, -, hf', -, -, -, hown2, -⟩ := Cond.laysFinal_spec hlay
      have e1 : c' = cf := by have := hi.symm.trans hf'; simp at this; exact this.1.symm
      rw [hdecl] at hown2
      rw [← e1]; exact Option.some.inj (hown.symm.trans hown2)
    exact W.putFinK hexec hb hown hlink (hsame _ hi) hst hcf hin2 (by rw [q2]; exact u_fits hfc hkC hkind (Or.inr hlay) hi hd hn hfit) q1 q3 hlt rfl rfl hdg go
theorem vz_iast (hexec : p.tables.exec = Jvm.exec) (hb : c.code = cc) (hK : va_K D cl tys s) (hP : va_P D cl ws H) (hD : va_D A ws) (hS : va_S A H0 H locs) (q0 t0 : Nat) {cA : ClassId} {n : Nat} {f : Nat → Int32} (ha : ws[q0]? = some (a, .inl (cA, n, .inl f))) (ht : tys[t0]? = some (cA, .int)) {i : Int32} {x : Int32} (hin : vp_in i n) (hdg : decode cc pc = .ok (.iastore, 1))
    (kk : ∀ (H1 : Heap) (locs1 : List Loc), H1.size = H.size → va_P D cl (ws.set q0 (a, .inl (cA, n, .inl (upd f i.toNatClampNeg x)))) H1 → va_S A H0 H1 locs1 → W p l e R s m args below meth c H1 locs1 cells slots Q (F0 m (pc + 1) ls rest)) : W p l e R s m args below meth c H locs cells slots Q (F0 m pc ls (.int x :: .int i :: .ref a :: rest)) := by
  refine W.iast hexec hb (hP q0 _ ha) ((hK.2 t0 _ ht).1 n (fun j => .int (f j))) (fun q => by cases q) (by show ¬ (i < 0 ∨ (arrV _ _ _).slots.size ≤ _); rw [arrV_size]; exact hin) rfl rfl hdg fun H1 e z oq => ?_
  refine kk H1 _ z (hP.set hD ha ?_ oq) (hS.put z oq (hD.2 q0 _ ha))
  show H1[a]? = some (vp_cell _ _)
  rw [e, vp_cell_i, vp_cell_i, arrV_store]
  congr 2
  funext q
  by_cases hq : q = i.toNatClampNeg
  · subst hq
    simp [updV, upd]
  · simp [updV, upd, hq]
theorem vz_aast (hexec : p.tables.exec = Jvm.exec) (hb : c.code = cc) (hK : va_K D cl tys s) (hP : va_P D cl ws H) (hD : va_D A ws) (hS : va_S A H0 H locs) (q0 t0 : Nat) {E : String} {cA : ClassId} {n : Nat} {v : Option Nat} {f : Nat → Option Nat} (ha : ws[q0]? = some (a, .inl (cA, n, .inr (.inr (.inr (.inr f)))))) (ht : tys[t0]? = some (cA, .object E)) (hr : ∀ y, v = some y → va_Any E s H y) {i : Int32} (hin : vp_in i n) (hdg : decode cc pc = .ok (.aastore, 1))
    (kk : ∀ (H1 : Heap) (locs1 : List Loc), H1.size = H.size → va_P D cl (ws.set q0 (a, .inl (cA, n, .inr (.inr (.inr (.inr (va_up f i.toNatClampNeg v))))))) H1 → va_S A H0 H1 locs1 → W p l e R s m args below meth c H1 locs1 cells slots Q (F0 m (pc + 1) ls rest)) : W p l e R s m args below meth c H locs cells slots Q (F0 m pc ls (va_rf v :: .int i :: .ref a :: rest)) := by
  have hlt : i.toNatClampNeg < n := Nat.not_le.mp fun q => hin (Or.inr q)
  have h0 : ¬ i < 0 := fun q => hin (Or.inl q)
  have cellq : ∀ H1 : Heap, H1[a]? = some ((vp_cell cA (n, .inr (.inr (.inr (.inr f))))).setSlot i.toNatClampNeg (va_rf v)) → H1[a]? = some (vp_cell cA (n, .inr (.inr (.inr (.inr (va_up f i.toNatClampNeg v)))))) := by
    intro H1 e
    rw [e, vp_cell_q, vp_cell_q, arrV_store]
    congr 2
    funext q
    by_cases hq : q = i.toNatClampNeg
    · subst hq
      simp [updV, va_up]
    · simp [updV, va_up, hq]
  cases v with
  | some y =>
    obtain ⟨cellV, g1, g3, ⟨kC, hkC⟩, hasg⟩ := hr y rfl
    obtain ⟨kA, comp, k1, k2, k3, -⟩ := (hK.2 t0 _ ht).2
    obtain ⟨kE, hkE, -⟩ := Vm.findClass_spec k3
    refine W.aast hexec hb (hP q0 _ ha) (fun q h => by cases h) (fun h => by cases h) k1 k2 rfl hkE ⟨h0, by show _ < (arrV _ _ _).slots.size; rw [arrV_size]; exact hlt⟩ g1 (fun q h => by rw [h] at g3; cases g3) hkC (hasg _ k3) rfl rfl hdg fun H1 e z oq => ?_
    exact kk H1 _ z (hP.set hD ha (cellq H1 e) oq) (hS.put z oq (hD.2 q0 _ ha))
  | none =>
    refine va_WaastN (C := E) hexec hb (hP q0 _ ha) ((hK.2 t0 _ ht).1 n (fun j => va_rf (f j))) (fun h => by cases h) (by show ¬ (i < 0 ∨ (arrV _ _ _).slots.size ≤ _); rw [arrV_size]; exact hin) rfl rfl hdg fun H1 e z oq => ?_
    exact kk H1 _ z (hP.set hD ha (cellq H1 e) oq) (hS.put z oq (hD.2 q0 _ ha))
theorem vz_new (hexec : p.tables.exec = Jvm.exec) (hb : c.code = cc) {own C : String} {T : u_T} {N ci index : Nat} {Ts : List Cond} (hts : ∀ w ∈ Ts, w.before args s = true) (hin : ∀ w ∈ u_ws C T N, w ∈ Ts) (ty : Nat → FieldType) (hty : ∀ k, k < N → parseFieldDescriptor (T k).2.2.1 = some (ty k)) (hown : s.vm.findClass own = some m.cls) (hcl : (Cond.classLink own index C).before args s = true) (hinst : (Cond.instantiable C N).before args s = true) (hini : (Cond.initialized C).before args s = true)
    (hK : va_K D cl tys s) (hP : va_P D cl ws H) (hS : va_S A H0 H locs) (hc : cl[ci]? = some (C, T, N)) {fs : List Value} (hfs : ∀ j, j < N → defaultValue (ty j) = vp_V fs j) (hcells : cells + 1 ≤ R.cells) (hslots : slots + N ≤ R.slots) (hdg : decode cc pc = .ok (.new index, 3))
    (kk : ∀ (H1 : Heap), H1.size = H.size + 1 → va_P D cl (ws ++ [(H.size, .inr (ci, fs))]) H1 → va_S A H0 H1 locs →
      W p l e R s m args below meth c H1 locs (cells + 1) (slots + N) Q (F0 m (pc + 3) ls (.ref H.size :: rest))) : W p l e R s m args below meth c H locs cells slots Q (F0 m pc ls rest) := by
  have hKn := hK.1 ci _ hc
  refine W.newcK hexec hb hown hcl hinst hini rfl hdg hcells hslots hKn.2.1 rfl fun H1 kC hkC e1 z1 o1 => ?_
  have hk : ∀ (k : Nat) (x : Nat × va_E), ws[k]? = some x → H1[x.1]? = H[x.1]? := fun k x hx => o1 x.1 ((hP k x hx).lt)
  refine kk H1 z1 ((hP.kept hk).app (fun k x hx => ?_)) ⟨Nat.le_trans hS.1 (by omega), fun x h1 h2 => (o1 x (Nat.lt_of_lt_of_le h1 hS.1)).trans (hS.2.1 x h1 h2), hS.2.2⟩
  have hz : k < 1 := (List.getElem?_eq_some_iff.mp hx).1
  rw [show k = 0 by omega] at hx
  cases hx
  exact ⟨_, hc, (u_born ty hts hin hKn hkC e1 hty).to hfs⟩
theorem vz_push {H1 : Heap} (hP : va_P D cl ws H) (hS : va_S A H0 H locs) (z1 : H1.size = H.size + 1) (o1 : ∀ q, q < H.size → H1[q]? = H[q]?) {ca : ClassId} {x : vp_A} (e1 : H1[H.size]? = some (vp_cell ca x)) : va_P D cl (ws ++ [(H.size, .inl (ca, x))]) H1 ∧ va_S A H0 H1 locs := by
  have hk : ∀ (k : Nat) (x : Nat × va_E), ws[k]? = some x → H1[x.1]? = H[x.1]? := fun k x hx => o1 x.1 ((hP k x hx).lt)
  refine ⟨(hP.kept hk).app (fun k x hx => ?_), ⟨Nat.le_trans hS.1 (by omega), fun x h1 h2 => (o1 x (Nat.lt_of_lt_of_le h1 hS.1)).trans (hS.2.1 x h1 h2), hS.2.2⟩⟩
  have hz : k < 1 := (List.getElem?_eq_some_iff.mp hx).1
  rw [show k = 0 by omega] at hx
  cases hx
  exact e1
theorem vz_newa (hexec : p.tables.exec = Jvm.exec) (hb : c.code = cc) (harr : (Cond.arrayClass .int).before args s = true) (hP : va_P D cl ws H) (hS : va_S A H0 H locs) {ca : ClassId} (hRA : va_RA s ca .int)
    {n : Int32} {N' : Nat} (hn : ¬ n < 0) (hN : n.toNatClampNeg = N') (hbytes : N' ≤ 100000) (hcells : cells + 1 ≤ R.cells) (hslots : slots + N' ≤ R.slots) (hdg : decode cc pc = .ok (.newarray .int, 2))
    (kk : ∀ (H1 : Heap), H1.size = H.size + 1 → va_P D cl (ws ++ [(H.size, .inl (ca, N', .inl fun _ => 0))]) H1 → va_S A H0 H1 locs →
      W p l e R s m args below meth c H1 locs (cells + 1) (slots + N') Q (F0 m (pc + 2) ls (.ref H.size :: rest))) : W p l e R s m args below meth c H locs cells slots Q (F0 m pc ls (.int n :: rest)) := by
  refine va_newaK (atype := .int) hexec hb harr rfl hdg rfl hn hN (by show N' * 4 ≤ _; omega) hcells hslots rfl fun H1 cA e1 z1 o1 hAr hNm => ?_
  have hca : cA = ca := by
    have h1 : s.vm.findClass ("[" ++ FieldType.int.toString) = some ca := hRA
    have h2 : s.vm.findClass ("[" ++ FieldType.int.toString) = some cA := hNm
    exact Option.some.inj (h2.symm.trans h1)
  subst hca
  obtain ⟨h1, h2⟩ := vz_push (x := (N', .inl fun _ => 0)) hP hS z1 o1 e1
  exact kk H1 z1 h1 h2
theorem vz_newq (hexec : p.tables.exec = Jvm.exec) (hb : c.code = cc) {own C : String} {index : Nat} (hown : s.vm.findClass own = some m.cls) (hclink : (Cond.classLink own index C).before args s = true) (hover : va_AO C s) (hP : va_P D cl ws H) (hS : va_S A H0 H locs) {ca : ClassId} (hRA : va_RA s ca (.object C))
    {n : Int32} {N' : Nat} (hn : ¬ n < 0) (hN : n.toNatClampNeg = N') (hbytes : N' ≤ 100000) (hcells : cells + 1 ≤ R.cells) (hslots : slots + N' ≤ R.slots) (hdg : decode cc pc = .ok (.anewarray index, 3))
    (kk : ∀ (H1 : Heap), H1.size = H.size + 1 → va_P D cl (ws ++ [(H.size, .inl (ca, N', .inr (.inr (.inr (.inr fun _ => none)))))]) H1 → va_S A H0 H1 locs →
      W p l e R s m args below meth c H1 locs (cells + 1) (slots + N') Q (F0 m (pc + 3) ls (.ref H.size :: rest))) : W p l e R s m args below meth c H locs cells slots Q (F0 m pc ls (.int n :: rest)) := by
  subst hN
  refine W.anew hexec hb hown hclink (va_AO.use hover) rfl hdg rfl hn (by omega) hcells hslots fun cA kA comp f1 f2 f3 f4 => ?_
  have hca : cA = ca := by
    obtain ⟨_, _, -, -, -, h4⟩ := hRA
    exact Option.some.inj (f1.symm.trans h4)
  subst hca
  generalize hH1 : H.push ({ cls := cA, slots := Array.replicate n.toNatClampNeg .null, vm := .none } : Cell) = H1
  have z1 : H1.size = H.size + 1 := by rw [← hH1, Array.size_push]
  have e1 : H1[H.size]? = some (arrV cA n.toNatClampNeg (fun _ => .null)) := by rw [← hH1, Array.getElem?_push_size, ← arrV_new]
  have o1 : ∀ q : Nat, q < H.size → H1[q]? = H[q]? := fun q hq => by rw [← hH1, Array.getElem?_push, if_neg (Nat.ne_of_lt hq)]
  obtain ⟨h1, h2⟩ := vz_push (x := (n.toNatClampNeg, .inr (.inr (.inr (.inr fun _ => none))))) hP hS z1 o1 e1
  exact kk H1 z1 h1 h2
end VZ
end
section
/-! fields, arrays, new objects, instanceof, switches, returns -/
def grB (i : Instr) : Bool := match i with
  | .getfield _ | .putfield _ | .arraylength | .iaload | .iastore | .aaload | .aastore | .newarray _ | .anewarray _ | .new _ | .instanceof _ | .tableswitch _ _ _ _ | .lookupswitch _ _ | .ireturn | .lreturn | .areturn | .return_ => true
  | _ => false
theorem pre_0 {h : MHeap} {xs : List Int32} {t1 t2 : List Value} (hp : h.take 3 = prF xs t1 t2) {vs : List Value} {t : Nat} (ho : h[0]? = some (t, vs)) : vs = xs.map .int := by
  have h1 : (h.take 3)[0]? = some (t, vs) := by rw [List.getElem?_take, if_pos (by omega)]; exact ho
  rw [hp] at h1
  unfold prF at h1
  simp at h1
  exact h1.2.symm
theorem bool_nf (x : Int32) (h : x = 0 ∨ x = 1) : narrow .boolean (.int x) = .int x ∧ fits .boolean (.int x) = true := by
  rcases h with rfl | rfl <;> exact ⟨by decide, by decide⟩
/-- a field's words at an object's kind -/
theorem fld_ok {own : String} {k j rc a0 a2 t : Nat} {C : String} {T : u_T} {N : Nat} {s : State} {args : Array Value} (hts : ∀ w ∈ gtbl, w.before args s = true) (h1 : tb a0 (.fieldLink own k (cnm rc) (T j).2.1 (T j).2.2.1) = true) (h2 : cnm rc = (T j).1 ∨ tb a2 (.sameField (cnm rc) (T j).1 (T j).2.1 (T j).2.2.1) = true) :
    (Cond.fieldLink own k (cnm rc) (T j).2.1 (T j).2.2.1).before args s = true ∧ ∀ x, s.fieldFound? (T j).1 (T j).2.1 (T j).2.2.1 = some x → s.fieldFound? (cnm rc) (T j).2.1 (T j).2.2.1 = some x := by
  refine ⟨hts _ (tb_ok h1), fun x hx => ?_⟩
  rcases h2 with e | h
  · rw [e]; exact hx
  · exact u_same (hts _ (tb_ok h)) x hx
theorem vp_in_mk {i : Int32} {n : Nat} (h0 : ¬ i < 0) (h : i.toNatClampNeg < n) : vp_in i n := fun q => q.elim h0 (fun z => Nat.not_le.mpr h z)
theorem toI_upd (vs : List Value) (i : Nat) (x : Int32) (hi : i < vs.length) : (fun j => toI ((vs.set i (.int x)).getD j .null)) = upd (fun j => toI (vs.getD j .null)) i x := by
  funext j
  unfold upd
  by_cases hj : j = i
  · subst hj
    simp [List.getD, hi, toI]
  · simp [List.getD, List.getElem?_set, hj, Ne.symm hj]
theorem toR_upd (ad : Nat → Nat) (vs : List Value) (i : Nat) (v : Value) (hi : i < vs.length) : (fun j => toR ad ((vs.set i v).getD j .null)) = va_up (fun j => toR ad (vs.getD j .null)) i (toR ad v) := by
  funext j
  unfold va_up
  by_cases hj : j = i
  · subst hj
    simp [List.getD, hi]
  · simp [List.getD, List.getElem?_set, hj, Ne.symm hj]
theorem va_rf_toR {ad : Nat → Nat} {v : Value} (h : v = .null ∨ ∃ x, v = .ref x) : va_rf (toR ad v) = shv ad v := by
  rcases h with rfl | ⟨x, rfl⟩ <;> rfl
theorem swO_spec {pc : Nat} {x : Int32} {K : Nat → Prop} {kd : Prop} : ∀ (ps : List (Int × Int)) (cs : List Value) (ts : List Nat), swO pc ps cs ts = true → swc x kd K cs ts → (∃ (k : Nat) (o : Int) (t : Nat), ps[k]? = some (x.toInt, o) ∧ (pc : Int) + o = (t : Int) ∧ (∀ j q, j < k → ps[j]? = some q → q.1 ≠ x.toInt) ∧ K t) ∨ ((∀ q ∈ ps, q.1 ≠ x.toInt) ∧ kd) := by
  intro ps
  induction ps with
  | nil =>
    intro cs ts h hs
    cases cs with
    | nil => exact Or.inr ⟨fun q hq => (by cases hq), by simpa [swc] using hs⟩
    | cons c cs => simp [swO] at h
  | cons q ps ih =>
    intro cs ts h hs
    obtain ⟨k, o⟩ := q
    rcases cs with _ | ⟨c, cs⟩
    · simp [swO] at h
    · cases c with
      | int v =>
        rcases ts with _ | ⟨t, ts⟩
        · simp [swO] at h
        · simp only [swO, Bool.and_eq_true, decide_eq_true_eq] at h
          obtain ⟨⟨h1, h2⟩, h3⟩ := h
          have h2 : (pc : Int) + o = (t : Int) := of_decide_eq_true h2
          have hs2 : if x = v then K t else swc x kd K cs ts := hs
          by_cases hx : x = v
          · rw [if_pos hx] at hs2
            subst hx
            exact Or.inl ⟨0, o, t, by simp [h1], h2, fun j q hj => absurd hj (Nat.not_lt_zero _), hs2⟩
          · rw [if_neg hx] at hs2
            have hne : k ≠ x.toInt := fun z => hx (Int32.toInt_inj.mp (by rw [h1]; exact z.symm))
            rcases ih cs ts h3 hs2 with ⟨k2, o2, t2, g1, g2, g3, g4⟩ | ⟨g1, g2⟩
            · refine Or.inl ⟨k2 + 1, o2, t2, g1, g2, fun j q hj hq => ?_, g4⟩
              cases j with
              | zero => cases hq; exact hne
              | succ j => exact g3 j q (Nat.lt_of_succ_lt_succ hj) hq
            · refine Or.inr ⟨fun q hq => ?_, g2⟩
              rcases List.mem_cons.mp hq with rfl | hq
              · exact hne
              · exact g1 q hq
      | _ => simp [swO] at h
theorem lks_none : ∀ (ps : List (Int × Int)) (d x : Int), (∀ q ∈ ps, q.1 ≠ x) → Op.lookupswitch.offset ps d x = d := by
  intro ps
  induction ps with
  | nil => intro d x _; rfl
  | cons q ps ih =>
    intro d x h
    have h1 := h q List.mem_cons_self
    have h2 := ih d x fun r hr => h r (List.mem_cons_of_mem _ hr)
    obtain ⟨a, o⟩ := q
    simp [Op.lookupswitch.offset] at h2 ⊢
    rw [if_neg h1]
    exact h2
theorem lks_some : ∀ (ps : List (Int × Int)) (d x : Int) (k : Nat) (o : Int), ps[k]? = some (x, o) → (∀ j q, j < k → ps[j]? = some q → q.1 ≠ x) → Op.lookupswitch.offset ps d x = o := by
  intro ps
  induction ps with
  | nil => intro d x k o h; simp at h
  | cons q ps ih =>
    intro d x k o h hn
    obtain ⟨a, b⟩ := q
    cases k with
    | zero =>
      cases h
      simp [Op.lookupswitch.offset]
    | succ k =>
      have h1 : a ≠ x := hn 0 (a, b) (Nat.succ_pos _) rfl
      have h2 := ih d x k o h fun j q hj hq => hn (j + 1) q (Nat.succ_lt_succ hj) hq
      simp [Op.lookupswitch.offset] at h2 ⊢
      rw [if_neg h1]
      exact h2
theorem dflt_shv (ad : Nat → Nat) (ty : FieldType) : shv ad (defaultValue ty) = defaultValue ty := by cases ty <;> rfl
theorem zero_fun (n : Nat) : (fun j => toI ((List.replicate n (Value.int 0)).getD j .null)) = fun _ => 0 := by
  funext j
  rw [List.getD_eq_getElem?_getD, List.getElem?_replicate]
  split <;> rfl
theorem null_fun (ad : Nat → Nat) (n : Nat) : (fun j => toR ad ((List.replicate n Value.null).getD j .null)) = fun _ => none := by
  funext j
  rw [List.getD_eq_getElem?_getD, List.getElem?_replicate]
  split <;> rfl
def arE (t : Nat) : String := match t with
  | 101 => cnm 3
  | 102 => cnm 5
  | _ => cnm 7
/-- a heap of any kind is a heap -/
theorem heap_asg {D : va_G} {cA : Nat → ClassId} {ad : Nat → Nat} {s : State} (hKV : KV D cA ad s) {k : Nat} (hk : k = 1 ∨ k = 2 ∨ k = 6 ∨ k = 8 ∨ k = 10) {comp c0 : ClassId} (h1 : s.vm.findClass (cnm 3) = some comp) (h2 : s.vm.findClass (cnm k) = some c0) : s.vm.assignable c0 comp = true := by
  have hm : Cond.castable (cnm k) (cnm 3) ∈ lw_tbl := by
    rcases hk with rfl | rfl | rfl | rfl | rfl
    · exact tch_ok 7 _ (List.mem_of_getElem? (i := 52) (by decide +kernel))
    · exact tch_ok 7 _ (List.mem_of_getElem? (i := 51) (by decide +kernel))
    · exact tch_ok 7 _ (List.mem_of_getElem? (i := 50) (by decide +kernel))
    · exact tch_ok 7 _ (List.mem_of_getElem? (i := 53) (by decide +kernel))
    · exact tch_ok 7 _ (List.mem_of_getElem? (i := 54) (by decide +kernel))
  obtain ⟨c1, c2, f1, f2, f3⟩ := Cond.castable_spec (va_Nw.use (A := #[]) rfl (hKV.2.2.1 _ _ hm))
  cases h2.symm.trans f1
  cases h1.symm.trans f2
  exact f3
/-- an object that an array may take -/
theorem mok_any {D : va_G} {cA : Nat → ClassId} {ad : Nat → Nat} {s : State} {H : Heap} {h : MHeap} {xs : List Int32} {t1 t2 : List Value} {t k2 o2 : Nat} {fs2 : List Value} (hKV : KV D cA ad s) (hP : va_P D clsL (toW ad cA h) H) (hpr : h.take 3 = prF xs t1 t2) (g2 : h[o2]? = some (k2, fs2)) (g3 : mok t k2 = true) (ht : 101 ≤ t ∧ t ≤ 103) : va_Any (arE t) s H (ad o2) := by
  have go : ∀ (r : vw_C), clsL[k2]? = some r → (∀ comp c0 : ClassId, s.vm.findClass (arE t) = some comp → s.vm.findClass r.1 = some c0 → s.vm.assignable c0 comp = true) → va_Any (arE t) s H (ad o2) := by
    intro r hc hasg
    have hk := cls_lt hc
    have ho3 := pre_at hpr g2 ⟨by omega, by omega⟩
    have he := toW_get (ad := ad) (cA := cA) ho3 g2
    rw [enc_obj hk] at he
    exact va_rAny hKV.1 hP he hc hasg
  have self : ∀ (k : Nat) (r : vw_C), clsL[k]? = some r → ∀ comp c0 : ClassId, s.vm.findClass r.1 = some comp → s.vm.findClass r.1 = some c0 → s.vm.assignable c0 comp = true := by
    intro k r hc comp c0 h1 h2
    have := (hKV.1.1 k r hc).2
    cases h1.symm.trans this.1
    cases h2.symm.trans this.1
    exact va_assign this
  rcases (show t = 101 ∨ t = 102 ∨ t = 103 by omega) with rfl | rfl | rfl
  · have g3 : [1, 2, 3, 6, 8, 10].contains k2 = true := g3
    simp at g3
    rcases g3 with rfl | rfl | rfl | rfl | rfl | rfl
    · exact go _ rfl fun comp c0 h1 h2 => heap_asg hKV (k := 1) (by simp) h1 h2
    · exact go _ rfl fun comp c0 h1 h2 => heap_asg hKV (k := 2) (by simp) h1 h2
    · exact go _ rfl fun comp c0 h1 h2 => self 3 _ rfl comp c0 h1 h2
    · exact go _ rfl fun comp c0 h1 h2 => heap_asg hKV (k := 6) (by simp) h1 h2
    · exact go _ rfl fun comp c0 h1 h2 => heap_asg hKV (k := 8) (by simp) h1 h2
    · exact go _ rfl fun comp c0 h1 h2 => heap_asg hKV (k := 10) (by simp) h1 h2
  · have g3 : k2 = 5 := Nat.eq_of_beq_eq_true g3
    subst g3
    exact go _ rfl fun comp c0 h1 h2 => self 5 _ rfl comp c0 h1 h2
  · have g3 : k2 = 7 := Nat.eq_of_beq_eq_true g3
    subst g3
    exact go _ rfl fun comp c0 h1 h2 => self 7 _ rfl comp c0 h1 h2
section SIMB
variable {p : Program} {l : Launch} {e : Env} {R : Room} {s : State} {m : MethodId} {args : Array Value} {below : List Frame} {meth : Method} {c : Code}
variable {SX : State → Heap → Prop} {D : va_G} {cA : Nat → ClassId} {ad : Nat → Nat} {B : Nat} {xs : List Int32} {t1 t2 : List Value} {n0 s0 mi mc ms : Nat} {r : Option Value} {h' : MHeap}
/-- what the end of the method is -/
abbrev QQ (below : List Frame) (args : Array Value) (s : State) (D : va_G) (cA : Nat → ClassId) (ad : Nat → Nat) (B : Nat) (xs : List Int32) (t1 t2 : List Value) (r : Option Value) (h' : MHeap) (mc ms : Nat) : State → Prop := MQ below (QcS D cA ad B xs t1 t2 r h') args s mc ms (fun q => B ≤ q)
set_option maxHeartbeats 4000000 in
theorem sim_b {cl : Nat → List Value → Nat → List Value → MHeap → Prop} (C : Cx p s m args meth c SX D cA ad B xs mi) (hmc : mc + n0 = h'.length) (hms : ms + s0 = hsl h') (hRc : mc ≤ R.cells) (hRs : ms ≤ R.slots) {pc len : Nat} {i : Instr} {rs : List Nat} {cs : List Value} {ax : List Nat} (hck : chk1 (mtd mi).1 (mtd mi).2.2 (mtd mi).2.1 (prg mi).2 ((pc, i, rs, cs), len, ax) = true) (hi : grB i = true)
    {L : MLoc} {S : List Value} {h : MHeap}
    (hst : stK False (fun v h1 => v = r ∧ h1 = h') (KN (fun H locs cells slots g => W p l e R s m args below meth c H locs cells slots (QQ below args s D cA ad B xs t1 t2 r h' mc ms) g) (Rl D cA ad B xs t1 t2 s.heap n0 s0 (prg mi).2) h' m ad (pc + len)) (KN (fun H locs cells slots g => W p l e R s m args below meth c H locs cells slots (QQ below args s D cA ad B xs t1 t2 r h' mc ms) g) (Rl D cA ad B xs t1 t2 s.heap n0 s0 (prg mi).2) h' m ad) cl i rs cs L S h)
    {ls : Array Slot} {H : Heap} {locs : List Loc} {cells slots : Nat} (hR : Rl D cA ad B xs t1 t2 s.heap n0 s0 (prg mi).2 L S h ls H locs cells slots) : W p l e R s m args below meth c H locs cells slots (QQ below args s D cA ad B xs t1 t2 r h' mc ms) (F0 m pc ls (S.map (shv ad))) := by
  obtain ⟨hx, hb, hml, hown, hts, hKS, hret, hlocks, hnm, had⟩ := C
  obtain ⟨hLR, hok, hP, hsz, hpr, h3, hS, hcl, hsl1⟩ := id hR
  have hK := hKS.1.1
  have hD := toW_D (cA := cA) had h
  simp only [chk1, Bool.and_eq_true, decide_eq_true_eq] at hck
  obtain ⟨⟨hdec, hlk⟩, hloc⟩ := hck
  cases i
  case getfield k =>
    simp only [lkB, Bool.and_eq_true] at hlk
    obtain ⟨hl, hk⟩ := hlk
    have hl : len = 3 := Nat.eq_of_beq_eq_true hl
    subst hl
    split at hk
    rotate_left
    · cases hk
    rename_i q j ts a0 rc a2 axr
    rcases S with _ | ⟨v, S⟩
    · cases q <;> exact absurd hst id
    have key : ∀ (o t : Nat) (fs : List Value) (w : Value), h[o]? = some (t, fs) → t ∈ ts → fs[j]? = some w → W p l e R s m args below meth c H locs cells slots (QQ below args s D cA ad B xs t1 t2 r h' mc ms) (F0 m (pc + 3) ls (shv ad w :: S.map (shv ad))) → W p l e R s m args below meth c H locs cells slots (QQ below args s D cA ad B xs t1 t2 r h' mc ms) (F0 m pc ls (.ref (ad o) :: S.map (shv ad))) := by
      intro o t fs w ho ht hw kk
      have ha := List.all_eq_true.mp hk t ht
      split at ha
      · rename_i C T N hc
        simp only [Bool.and_eq_true, Bool.or_eq_true, decide_eq_true_eq] at ha
        obtain ⟨⟨h1, h2⟩, h3'⟩ := ha
        have hj : j < N := Nat.le_of_ble_eq_true h1
        obtain ⟨f1, f2⟩ := fld_ok (t := t) (C := C) (N := N) hts h2 h3'
        have ht13 := cls_lt hc
        have ho3 := pre_at hpr ho ⟨by omega, by omega⟩
        have he := toW_get (ad := ad) (cA := cA) ho3 ho
        rw [enc_obj ht13] at he
        exact va_get hx hb hts (clsL_ok t _ hc).2.2 hown hK hP (o - 3) he hc j hj f1 f2 (shv_get hw) hdec kk
      · cases ha
    cases q with
    | zero =>
      obtain ⟨o, rfl, hs1⟩ := dR_F hst
      obtain ⟨t, fs, x, e1, e2, e3, hs2⟩ := gfI_F hs1
      exact key o t fs _ e1 e2 e3 (hs2.2 ls H locs cells slots (hR.re hLR (okS.cons rfl hok.tl)))
    | succ q =>
      obtain ⟨o, rfl, hs1⟩ := dR_F hst
      obtain ⟨t, fs, x, e1, e2, e3, e4, hs2⟩ := gfV_F hs1
      exact key o t fs _ e1 e2 e3 (hs2.2 ls H locs cells slots (hR.re hLR (okS.cons (okV_nr e4) hok.tl)))
  case putfield k =>
    simp only [lkB, Bool.and_eq_true] at hlk
    obtain ⟨hl, hk⟩ := hlk
    have hl : len = 3 := Nat.eq_of_beq_eq_true hl
    subst hl
    split at hk
    rotate_left
    · cases hk
    rename_i q j ts a0 rc a2 axr
    rcases S with _ | ⟨w, _ | ⟨v, S⟩⟩
    · match q, hst with
      | 0, hst => exact absurd hst id
      | 1, hst => exact absurd hst id
      | q + 2, hst => exact absurd hst id
    · match q, hst with
      | 0, hst => exact absurd hst id
      | 1, hst => exact absurd hst id
      | q + 2, hst => exact absurd hst id
    have key : ∀ (o t : Nat) (fs : List Value) (w : Value), h[o]? = some (t, fs) → t ∈ ts → j < fs.length → (∀ ty : FieldType, (match q with
          | 0 => ty = .int
          | 1 => ty = .boolean
          | _ => (∃ n, ty = .object n) ∨ ∃ n, ty = .array n) → narrow ty (shv ad w) = shv ad w ∧ fits ty (shv ad w) = true) →
        KN (fun H locs cells slots g => W p l e R s m args below meth c H locs cells slots (QQ below args s D cA ad B xs t1 t2 r h' mc ms) g) (Rl D cA ad B xs t1 t2 s.heap n0 s0 (prg mi).2) h' m ad (pc + 3) L S (h.set o (t, fs.set j w)) → okS S → W p l e R s m args below meth c H locs cells slots (QQ below args s D cA ad B xs t1 t2 r h' mc ms) (F0 m pc ls (shv ad w :: .ref (ad o) :: S.map (shv ad))) := by
      intro o t fs w ho ht hj0 hty kk hokS
      have ha := List.all_eq_true.mp hk t ht
      split at ha
      · rename_i C T N hc
        simp only [Bool.and_eq_true, Bool.or_eq_true, decide_eq_true_eq] at ha
        obtain ⟨⟨⟨⟨h1, h2⟩, h3'⟩, h4⟩, h5⟩ := ha
        have hj : j < N := Nat.le_of_ble_eq_true h1
        obtain ⟨f1, f2⟩ := fld_ok (t := t) (C := C) (N := N) hts h2 h3'
        have ht13 := cls_lt hc
        have ho3 := pre_at hpr ho ⟨by omega, by omega⟩
        have he := toW_get (ad := ad) (cA := cA) ho3 ho
        rw [enc_obj ht13] at he
        obtain ⟨⟨ty0, hty0⟩, hnm0, hin0⟩ := clsL_ok t _ hc
        have hpd := hty0 j hj
        have hfn : narrow (ty0 j) (shv ad w) = shv ad w ∧ fits (ty0 j) (shv ad w) = true := by
          refine hty (ty0 j) ?_
          match q, h4 with
          | 0, h4 => exact Option.some.inj (hpd.symm.trans (of_decide_eq_true h4))
          | 1, h4 => exact Option.some.inj (hpd.symm.trans (of_decide_eq_true h4))
          | q + 2, h4 =>
            have h4 : (match parseFieldDescriptor (T j).2.2.1 with
              | some (.object _) => true
              | some (.array _) => true
              | _ => false) = true := h4
            rw [hpd] at h4
            split at h4
            · rename_i n hn; exact Or.inl ⟨n, Option.some.inj hn⟩
            · rename_i n hn; exact Or.inr ⟨n, Option.some.inj hn⟩
            · cases h4
        have hfin : (T j).2.2.2 = false ∨ (meth.name = "<init>" ∧ (T j).1 = (mtd mi).1.cls) := by
          rcases h5 with h5 | h5
          · left
            simpa using h5
          · right
            exact ⟨by rw [hnm]; exact h5.1, h5.2⟩
        refine vz_put (C := C) (T := T) (N := N) (ci := t) hx hb hts hin0 ty0 hty0 hnm0 hown hK hP hD hS (o - 3) he hc j hj f1 f2 hfin hpd hfn.1 hfn.2 (by rw [List.length_map]; exact hj0) hdec fun H1 locs1 z1 hP1 hS1 => ?_
        rw [shv_set] at hP1
        exact kk.2 ls H1 locs1 cells slots (hR.set hokS ho3 ho (by simp) z1 (by rw [enc_obj ht13]; exact hP1) hS1)
      · cases ha
    rcases q with _ | _ | q
    · obtain ⟨x, rfl, hs1⟩ := dI_F hst
      obtain ⟨o, rfl, hs2⟩ := dR_F hs1
      obtain ⟨t, fs, e1, e2, e3, hs3⟩ := pfI_F hs2
      exact key o t fs (.int x) e1 e2 e3 (fun ty hty => by subst hty; exact ⟨rfl, rfl⟩) hs3 hok.tl.tl
    · obtain ⟨x, rfl, hs1⟩ := dI_F hst
      obtain ⟨hx01, hs2⟩ := zr_F hs1
      obtain ⟨o, rfl, hs3⟩ := dR_F hs2
      obtain ⟨t, fs, e1, e2, e3, hs4⟩ := pfI_F hs3
      exact key o t fs (.int x) e1 e2 e3 (fun ty hty => by subst hty; exact bool_nf x hx01) hs4 hok.tl.tl
    · obtain ⟨o, rfl, hs1⟩ := dR_F hst
      obtain ⟨t, fs, e1, e2, e3, e4, hs2⟩ := pfV_F hs1
      exact key o t fs w e1 e2 e3 (fun ty hty => by rcases hty with ⟨n, rfl⟩ | ⟨n, rfl⟩ <;> rcases e4 with rfl | ⟨x, rfl⟩ <;> exact ⟨rfl, rfl⟩) hs2 hok.tl.tl
  case arraylength =>
    have hl : len = 1 := Nat.eq_of_beq_eq_true hlk
    subst hl
    rcases S with _ | ⟨v, S⟩
    · exact absurd hst id
    obtain ⟨o, rfl, hs1⟩ := dR_F hst
    obtain ⟨t, vs, e1, e2, hs2⟩ := aln_F hs1
    have kk := hs2.2 ls H locs cells slots (hR.re hLR (okS.cons rfl hok.tl))
    rcases e2 with ⟨rfl, rfl⟩ | ⟨e2, e3⟩
    · have hv := pre_0 hpr e1
      subst hv
      rw [List.length_map] at kk
      exact va_slen hx hb hKS.2.2.2.1 (Nat.lt_of_lt_of_le hKS.2.1 hKS.2.2.1) (Nat.not_le.mpr hKS.2.1) hS hdec kk
    · have ho3 := pre_at hpr e1 ⟨by omega, by omega⟩
      have he := toW_get (ad := ad) (cA := cA) ho3 e1
      rcases Nat.lt_or_ge t 101 with q | q
      · have ht : t = 100 := by omega
        subst ht
        rw [enc_int] at he
        exact va_alen hx hb hK hP (o - 3) 0 he (ty := .int) rfl rfl hdec kk
      · rw [enc_ref q] at he
        rcases (show t = 101 ∨ t = 102 ∨ t = 103 by omega) with rfl | rfl | rfl
        · exact va_alen hx hb hK hP (o - 3) 1 he (ty := .object (cnm 3)) rfl rfl hdec kk
        · exact va_alen hx hb hK hP (o - 3) 2 he (ty := .object (cnm 5)) rfl rfl hdec kk
        · exact va_alen hx hb hK hP (o - 3) 3 he (ty := .object (cnm 7)) rfl rfl hdec kk
  case iaload =>
    have hl : len = 1 := Nat.eq_of_beq_eq_true hlk
    subst hl
    rcases S with _ | ⟨w, _ | ⟨v, S⟩⟩
    · exact absurd hst id
    · exact absurd hst id
    obtain ⟨i, rfl, hs1⟩ := dI_F hst
    obtain ⟨o, rfl, hs2⟩ := dR_F hs1
    obtain ⟨t, vs, x, e1, e2, e3, e4, hs3⟩ := alI_F hs2
    have kk := hs3.2 ls H locs cells slots (hR.re hLR (okS.cons rfl hok.tl.tl))
    have hlt : i.toNatClampNeg < vs.length := (List.getElem?_eq_some_iff.mp e4).1
    rcases e2 with ⟨rfl, rfl⟩ | rfl
    · have hv := pre_0 hpr e1
      subst hv
      rw [List.length_map] at hlt
      have hxx : xs.getD i.toNatClampNeg 0 = x := by
        rw [List.getElem?_map] at e4
        cases hq : xs[i.toNatClampNeg]? with
        | none => rw [hq] at e4; cases e4
        | some y =>
          rw [hq] at e4
          cases e4
          simp [hq]
      refine va_sld hx hb hKS.2.2.2.1 (Nat.lt_of_lt_of_le hKS.2.1 hKS.2.2.1) (Nat.not_le.mpr hKS.2.1) hS (vp_in_mk e3 hlt) hdec ?_
      rw [hxx]
      exact kk
    · have ho3 := pre_at hpr e1 ⟨by omega, by omega⟩
      have he := toW_get (ad := ad) (cA := cA) ho3 e1
      rw [enc_int] at he
      refine va_iald hx hb hK hP (o - 3) 0 he rfl (vp_in_mk e3 hlt) hdec ?_
      have hxx : toI (vs.getD i.toNatClampNeg .null) = x := by simp [List.getD, e4, toI]
      rw [hxx]
      exact kk
  case iastore =>
    have hl : len = 1 := Nat.eq_of_beq_eq_true hlk
    subst hl
    rcases S with _ | ⟨u, _ | ⟨w, _ | ⟨v, S⟩⟩⟩
    · exact absurd hst id
    · exact absurd hst id
    · exact absurd hst id
    obtain ⟨x, rfl, hs0⟩ := dI_F hst
    obtain ⟨i, rfl, hs1⟩ := dI_F hs0
    obtain ⟨o, rfl, hs2⟩ := dR_F hs1
    obtain ⟨vs, e1, e3, e4, hs3⟩ := asI_F hs2
    have ho3 := pre_at hpr e1 ⟨by omega, by omega⟩
    have he := toW_get (ad := ad) (cA := cA) ho3 e1
    rw [enc_int] at he
    refine vz_iast hx hb hK hP hD hS (o - 3) 0 he rfl (vp_in_mk e3 e4) hdec fun H1 locs1 z1 hP1 hS1 => ?_
    exact hs3.2 ls H1 locs1 cells slots (hR.set hok.tl.tl.tl ho3 e1 (by simp) z1 (by rw [enc_int, List.length_set, toI_upd _ _ _ e4]; exact hP1) hS1)
  case aaload =>
    have hl : len = 1 := Nat.eq_of_beq_eq_true hlk
    subst hl
    rcases S with _ | ⟨w, _ | ⟨v, S⟩⟩
    · exact absurd hst id
    · exact absurd hst id
    obtain ⟨i, rfl, hs1⟩ := dI_F hst
    obtain ⟨o, rfl, hs2⟩ := dR_F hs1
    obtain ⟨t, vs, v, e1, e2, e3, e4, e5, e6, hs3⟩ := alV_F hs2
    have kk := hs3.2 ls H locs cells slots (hR.re hLR (okS.cons (okV_nr e6) hok.tl.tl))
    have hlt : i.toNatClampNeg < vs.length := (List.getElem?_eq_some_iff.mp e5).1
    have ho3 := pre_at hpr e1 ⟨by omega, by omega⟩
    have he := toW_get (ad := ad) (cA := cA) ho3 e1
    rw [enc_ref e2] at he
    have hxx : va_rf (toR ad (vs.getD i.toNatClampNeg .null)) = shv ad v := by
      have : vs.getD i.toNatClampNeg .null = v := by simp [List.getD, e5]
      rw [this]
      exact va_rf_toR e6
    rcases (show t = 101 ∨ t = 102 ∨ t = 103 by omega) with rfl | rfl | rfl
    · refine va_aldq (C := cnm 3) hx hb hK hP (o - 3) 1 he rfl (vp_in_mk e4 hlt) hdec ?_
      rw [hxx]
      exact kk
    · refine va_aldq (C := cnm 5) hx hb hK hP (o - 3) 2 he rfl (vp_in_mk e4 hlt) hdec ?_
      rw [hxx]
      exact kk
    · refine va_aldq (C := cnm 7) hx hb hK hP (o - 3) 3 he rfl (vp_in_mk e4 hlt) hdec ?_
      rw [hxx]
      exact kk
  case aastore =>
    have hl : len = 1 := Nat.eq_of_beq_eq_true hlk
    subst hl
    rcases S with _ | ⟨u, _ | ⟨w, _ | ⟨v, S⟩⟩⟩
    · exact absurd hst id
    · exact absurd hst id
    · exact absurd hst id
    obtain ⟨i, rfl, hs1⟩ := dI_F hst
    obtain ⟨o, rfl, hs2⟩ := dR_F hs1
    obtain ⟨t, vs, e1, e2, e2', e3, e4, e5, hs3⟩ := asV_F hs2
    have hu : u = .null ∨ ∃ x, u = .ref x := by
      rcases e5 with e | ⟨o2, _, _, e, _⟩
      · exact Or.inl e
      · exact Or.inr ⟨o2, e⟩
    have ho3 := pre_at hpr e1 ⟨by omega, by omega⟩
    have he := toW_get (ad := ad) (cA := cA) ho3 e1
    rw [enc_ref e2] at he
    have any : ∀ y, toR ad u = some y → va_Any (arE t) s H y := by
      intro y hy
      rcases e5 with rfl | ⟨o2, k2, fs2, rfl, g2, g3⟩
      · cases hy
      · cases hy
        exact mok_any hKS.1 hP hpr g2 g3 ⟨e2, e2'⟩
    show W p l e R s m args below meth c H locs cells slots (QQ below args s D cA ad B xs t1 t2 r h' mc ms) (F0 m pc ls (shv ad u :: .int i :: .ref (ad o) :: S.map (shv ad)))
    rw [← va_rf_toR hu]
    have fin : ∀ (H1 : Heap) (locs1 : List Loc), H1.size = H.size → va_P D clsL ((toW ad cA h).set (o - 3) (ad o, .inl (cA (t - 100), vs.length, .inr (.inr (.inr (.inr (va_up (fun j => toR ad (vs.getD j .null)) i.toNatClampNeg (toR ad u)))))))) H1 → va_S (fun q => B ≤ q) s.heap H1 locs1 → W p l e R s m args below meth c H1 locs1 cells slots (QQ below args s D cA ad B xs t1 t2 r h' mc ms) (F0 m (pc + 1) ls (S.map (shv ad))) := by
      intro H1 locs1 z1 hP1 hS1
      exact hs3.2 ls H1 locs1 cells slots (hR.set hok.tl.tl.tl ho3 e1 (by simp) z1 (by rw [enc_ref e2, List.length_set, toR_upd _ _ _ _ e4]; exact hP1) hS1)
    rcases (show t = 101 ∨ t = 102 ∨ t = 103 by omega) with rfl | rfl | rfl
    · exact vz_aast (E := cnm 3) hx hb hK hP hD hS (o - 3) 1 he rfl any (vp_in_mk e3 e4) hdec fin
    · exact vz_aast (E := cnm 5) hx hb hK hP hD hS (o - 3) 2 he rfl any (vp_in_mk e3 e4) hdec fin
    · exact vz_aast (E := cnm 7) hx hb hK hP hD hS (o - 3) 3 he rfl any (vp_in_mk e3 e4) hdec fin
  case newarray a =>
    simp only [lkB, Bool.and_eq_true, decide_eq_true_eq] at hlk
    obtain ⟨hl, rfl⟩ := hlk
    have hl : len = 2 := Nat.eq_of_beq_eq_true hl
    subst hl
    rcases S with _ | ⟨v, S⟩
    · exact absurd hst id
    obtain ⟨n, rfl, hs1⟩ := dI_F hst
    obtain ⟨e1, e2, hs2⟩ := nwA_F hs1
    have hgr := hs2.1
    rw [List.length_append, hsl_push h3] at hgr
    simp only [List.length_singleton, List.length_replicate] at hgr
    have hA := hK.2 0 (cA 0, .int) rfl
    refine vz_newa hx hb (hts (.arrayClass .int) (tc_ok 1125 rfl rfl)) hP hS hA.2 e1 rfl e2 (by omega) (by omega) hdec fun H1 z1 hP1 hS1 => ?_
    have hadn : ad h.length = H.size := by rw [hsz, ← had]; congr 1; omega
    have := hs2.2 ls H1 locs (cells + 1) (slots + n.toNatClampNeg) ⟨hLR, okS.cons rfl hok.tl, by rw [toW_push h3, hadn, enc_int, zero_fun, List.length_replicate]; exact hP1, by rw [z1, hsz, List.length_append]; simp only [List.length_singleton]; omega, pre_push hpr h3 _, by rw [List.length_append]; omega, hS1, by rw [List.length_append]; simp only [List.length_singleton]; omega, by rw [hsl_push h3]; simp only [List.length_replicate]; omega⟩
    have e9 : (Value.ref h.length :: S).map (shv ad) = .ref H.size :: S.map (shv ad) := by rw [List.map_cons]; show Value.ref (ad h.length) :: _ = _; rw [hadn]
    rw [e9] at this
    exact this
  case anewarray k =>
    simp only [lkB, Bool.and_eq_true] at hlk
    obtain ⟨hl, hk⟩ := hlk
    have hl : len = 3 := Nat.eq_of_beq_eq_true hl
    subst hl
    have key : ∀ (t : Nat) (C : String) (k2 : Nat), 101 ≤ t → (mtdc : True) → [(cA 0, FieldType.int), (cA 1, .object (cnm 3)), (cA 2, .object (cnm 5)), (cA 3, .object (cnm 7))][t - 100]? = some (cA (t - 100), .object C) → va_AO C s → (Cond.classLink (mtd mi).1.cls k C).before args s = true →
        ∀ (n : Int32) (S : List Value), okS S → nwA False h t n .null (fun o h => KN (fun H locs cells slots g => W p l e R s m args below meth c H locs cells slots (QQ below args s D cA ad B xs t1 t2 r h' mc ms) g) (Rl D cA ad B xs t1 t2 s.heap n0 s0 (prg mi).2) h' m ad (pc + 3) L (.ref o :: S) h) →
        W p l e R s m args below meth c H locs cells slots (QQ below args s D cA ad B xs t1 t2 r h' mc ms) (F0 m pc ls (.int n :: S.map (shv ad))) := by
      intro t C k2 ht _ hty hao hcl2 n S hokS hs1
      obtain ⟨e1, e2, hs2⟩ := nwA_F hs1
      have hgr := hs2.1
      rw [List.length_append, hsl_push h3] at hgr
      simp only [List.length_singleton, List.length_replicate] at hgr
      have hA := hK.2 (t - 100) _ hty
      refine vz_newq hx hb hown hcl2 hao hP hS hA.2 e1 rfl e2 (by omega) (by omega) hdec fun H1 z1 hP1 hS1 => ?_
      have hadn : ad h.length = H.size := by rw [hsz, ← had]; congr 1; omega
      have := hs2.2 ls H1 locs (cells + 1) (slots + n.toNatClampNeg) ⟨hLR, okS.cons rfl hokS, by rw [toW_push h3, hadn, enc_ref ht, null_fun, List.length_replicate]; exact hP1, by rw [z1, hsz, List.length_append]; simp only [List.length_singleton]; omega, pre_push hpr h3 _, by rw [List.length_append]; omega, hS1, by rw [List.length_append]; simp only [List.length_singleton]; omega, by rw [hsl_push h3]; simp only [List.length_replicate]; omega⟩
      have e9 : (Value.ref h.length :: S).map (shv ad) = .ref H.size :: S.map (shv ad) := by rw [List.map_cons]; show Value.ref (ad h.length) :: _ = _; rw [hadn]
      rw [e9] at this
      exact this
    rcases S with _ | ⟨v, S⟩
    · exact absurd hst id
    split at hk
    · obtain ⟨n, rfl, hs1⟩ := dI_F hst
      exact key 101 (cnm 3) 0 (by omega) trivial rfl hKS.1.2.2.2.2.1.1 (hts _ (tb_ok hk)) n S hok.tl hs1
    · obtain ⟨n, rfl, hs1⟩ := dI_F hst
      exact key 102 (cnm 5) 0 (by omega) trivial rfl hKS.1.2.2.2.2.1.2.1 (hts _ (tb_ok hk)) n S hok.tl hs1
    · obtain ⟨n, rfl, hs1⟩ := dI_F hst
      exact key 103 (cnm 7) 0 (by omega) trivial rfl hKS.1.2.2.2.2.1.2.2 (hts _ (tb_ok hk)) n S hok.tl hs1
    · cases hk
  case new k =>
    simp only [lkB, Bool.and_eq_true] at hlk
    obtain ⟨hl, hk⟩ := hlk
    have hl : len = 3 := Nat.eq_of_beq_eq_true hl
    subst hl
    split at hk
    rotate_left
    · cases hk
    rename_i t a1 a2 a3
    split at hk
    rotate_left
    · cases hk
    rename_i C T N hc
    simp only [Bool.and_eq_true, decide_eq_true_eq] at hk
    obtain ⟨⟨⟨⟨h1, h2⟩, h3'⟩, h4⟩, h5⟩ := hk
    have ht13 := cls_lt hc
    obtain ⟨⟨ty0, hty0⟩, hnm0, hin0⟩ := clsL_ok t _ hc
    have hcs : ∀ j, j < N → cs[j]? = some (defaultValue (ty0 j)) := by
      intro j hj
      have h6 := List.all_eq_true.mp h5 j (List.mem_range.mpr hj)
      rw [hty0 j hj] at h6
      exact of_decide_eq_true h6
    have hmap : cs.map (shv ad) = cs := by
      apply List.ext_getElem?
      intro j
      rw [List.getElem?_map]
      rcases Nat.lt_or_ge j N with q | q
      · rw [hcs j q]
        show some (shv ad (defaultValue (ty0 j))) = _
        rw [dflt_shv]
      · rw [List.getElem?_eq_none (by omega)]; rfl
    have hs2 : KN (fun H locs cells slots g => W p l e R s m args below meth c H locs cells slots (QQ below args s D cA ad B xs t1 t2 r h' mc ms) g) (Rl D cA ad B xs t1 t2 s.heap n0 s0 (prg mi).2) h' m ad (pc + 3) L (.ref h.length :: S) (h ++ [(t, cs)]) := hst
    have hgr := hs2.1
    rw [List.length_append, hsl_push h3] at hgr
    simp only [List.length_singleton] at hgr
    refine vz_new (C := C) (T := T) (N := N) (ci := t) (fs := cs) hx hb hts hin0 ty0 hty0 hown (hts _ (tb_ok h1)) (hts _ (tb_ok h2)) (hts _ (tb_ok h3')) hK hP hS hc (fun j hj => by simp [vp_V, List.getD, hcs j hj]) (by omega) (by omega) hdec fun H1 z1 hP1 hS1 => ?_
    have hadn : ad h.length = H.size := by rw [hsz, ← had]; congr 1; omega
    have := hs2.2 ls H1 locs (cells + 1) (slots + N) ⟨hLR, okS.cons rfl hok, by rw [toW_push h3, hadn, enc_obj ht13, hmap]; exact hP1, by rw [z1, hsz, List.length_append]; simp only [List.length_singleton]; omega, pre_push hpr h3 _, by rw [List.length_append]; omega, hS1, by rw [List.length_append]; simp only [List.length_singleton]; omega, by rw [hsl_push h3]; simp only [h4]; omega⟩
    have e9 : (Value.ref h.length :: S).map (shv ad) = .ref H.size :: S.map (shv ad) := by rw [List.map_cons]; show Value.ref (ad h.length) :: _ = _; rw [hadn]
    rw [e9] at this
    exact this
  case instanceof k =>
    simp only [lkB, Bool.and_eq_true] at hlk
    obtain ⟨hl, hk⟩ := hlk
    have hl : len = 3 := Nat.eq_of_beq_eq_true hl
    subst hl
    split at hk
    rotate_left
    · cases hk
    rename_i n ts a rc bs
    simp only [Bool.and_eq_true] at hk
    obtain ⟨⟨⟨⟨h1, h2⟩, h3'⟩, h4⟩, h5⟩ := hk
    rcases S with _ | ⟨v, S⟩
    · exact absurd hst id
    rcases dN_F hst with ⟨rfl, hs1⟩ | ⟨o, rfl, hs1⟩
    · exact lv_instN hx hb hdec (hs1.2 ls H locs cells slots (hR.re hLR (okS.cons rfl hok.tl)))
    · obtain ⟨o2, ho2, hs1b⟩ := dR_F hs1
      cases ho2
      obtain ⟨t, fs, e1, hs2⟩ := inO_F hs1b
      have ht13 : t < 13 := by
        have : t ∈ ts := by
          rcases hs2 with ⟨q, _⟩ | ⟨q, _⟩
          · exact List.mem_of_mem_take q
          · exact List.mem_of_mem_drop q
        exact Nat.le_of_ble_eq_true (List.all_eq_true.mp h2 t this)
      have ho3 := pre_at hpr e1 ⟨by omega, by omega⟩
      have he := toW_get (ad := ad) (cA := cA) ho3 e1
      rw [enc_obj ht13] at he
      obtain ⟨rw0, hc⟩ : ∃ r0, clsL[t]? = some r0 := ⟨clsL[t]'(by exact ht13), List.getElem?_eq_getElem _⟩
      have hcn : rw0.1 = cnm t := by
        show _ = (clsL.getD t ("", TX0, 0)).1
        rw [List.getD_eq_getElem?_getD, hc]
        rfl
      have hr0 := va_recv hK hP hc he
      rw [hcn] at hr0
      rcases hs2 with ⟨q, hs3⟩ | ⟨q, hs3⟩
      · have kk := hs3.2 ls H locs cells slots (hR.re hLR (okS.cons rfl hok.tl))
        have hz : ∃ b, (t, b) ∈ (ts.take n).zip bs := by
          obtain ⟨j, hj⟩ := List.getElem?_of_mem q
          have hjl : j < bs.length := by
            have h6 : j < (ts.take n).length := (List.getElem?_eq_some_iff.mp hj).1
            rw [List.length_take] at h6
            have h7 : bs.length = n := Nat.eq_of_beq_eq_true h4
            omega
          refine ⟨bs[j], List.mem_of_getElem? (i := j) ?_⟩
          rw [List.getElem?_zip_eq_some]
          exact ⟨hj, List.getElem?_eq_getElem hjl⟩
        obtain ⟨b, hb2⟩ := hz
        have h8 := List.all_eq_true.mp h3' (t, b) hb2
        simp only [Bool.or_eq_true] at h8
        rcases h8 with h8 | h8
        · have h9 : t = rc := Nat.eq_of_beq_eq_true h8
          subst h9
          exact va_instE hx hb hown (hts _ (tb_ok h1)) hr0 hdec kk
        · exact va_instY hx hb hown (hts _ (tb_ok h1)) (hKS.1.2.2.1 _ _ (tn_ok h8)) hr0 hdec kk
      · have kk := hs3.2 ls H locs cells slots (hR.re hLR (okS.cons rfl hok.tl))
        have h8 := List.all_eq_true.mp h5 t q
        have h9 : (t, rc) ∈ ncP := by simpa using h8
        exact va_instNo hx hb hown (hts _ (tb_ok h1)) (hKS.1.2.2.2.1 _ h9) hr0 hdec kk
  case tableswitch df lo up offs =>
    simp only [lkB] at hlk
    split at hlk
    rotate_left
    · cases hlk
    rename_i t ts
    simp only [Bool.and_eq_true, decide_eq_true_eq] at hlk
    obtain ⟨⟨h1, h2⟩, h3'⟩ := hlk
    have h1 : (pc : Int) + df = (t : Int) := of_decide_eq_true h1
    rcases S with _ | ⟨v, S⟩
    · exact absurd hst id
    obtain ⟨x, rfl, hs1⟩ := dI_F hst
    rcases swO_spec _ _ _ h3' hs1 with ⟨k, o, t2, g1, g2, g3, g4⟩ | ⟨g1, g2⟩
    · rw [List.getElem?_mapIdx] at g1
      cases hq : offs.toList[k]? with
      | none => rw [hq] at g1; cases g1
      | some o' =>
        rw [hq] at g1
        simp only [Option.map_some, Option.some.injEq, Prod.mk.injEq] at g1
        obtain ⟨g5, rfl⟩ := g1
        have hkl : k < offs.size := by
          have := (List.getElem?_eq_some_iff.mp hq).1
          simpa using this
        refine lv_tableIn hx hb hdec (by omega) (by omega) (off := o') ?_ g2 (g4.2 ls H locs cells slots (hR.re hLR hok.tl))
        rw [show (x.toInt - lo).toNat = k by omega, ← Array.getElem?_toList]
        exact hq
    · refine lv_tableOut hx hb hdec ?_ h1 (g2.2 ls H locs cells slots (hR.re hLR hok.tl))
      rcases (show x.toInt < lo ∨ lo ≤ x.toInt by omega) with q | q
      · exact Or.inl q
      · right
        rcases (show up < x.toInt ∨ x.toInt ≤ up by omega) with q2 | q2
        · exact q2
        · exfalso
          have hkl : (x.toInt - lo).toNat < offs.size := by omega
          have hm : (lo + ((x.toInt - lo).toNat : Int), offs[(x.toInt - lo).toNat]) ∈ offs.toList.mapIdx fun k o => (lo + (k : Int), o) := by
            refine List.mem_of_getElem? (i := (x.toInt - lo).toNat) ?_
            rw [List.getElem?_mapIdx]
            simp [hkl]
          exact g1 _ hm (by show lo + ((x.toInt - lo).toNat : Int) = x.toInt; omega)
  case lookupswitch df ps =>
    simp only [lkB] at hlk
    split at hlk
    rotate_left
    · cases hlk
    rename_i t ts
    simp only [Bool.and_eq_true] at hlk
    obtain ⟨⟨h1, h2⟩, h3'⟩ := hlk
    have h1 : (pc : Int) + df = (t : Int) := of_decide_eq_true h1
    rcases S with _ | ⟨v, S⟩
    · exact absurd hst id
    obtain ⟨x, rfl, hs1⟩ := dI_F hst
    rcases swO_spec _ _ _ h3' hs1 with ⟨k, o, t2, g1, g2, g3, g4⟩ | ⟨g1, g2⟩
    · exact lv_lookup hx hb hdec h2 (lks_some _ df _ k o g1 g3) g2 (g4.2 ls H locs cells slots (hR.re hLR hok.tl))
    · exact lv_lookup hx hb hdec h2 (lks_none _ df _ g1) h1 (g2.2 ls H locs cells slots (hR.re hLR hok.tl))
  case ireturn =>
    simp only [lkB, Bool.and_eq_true] at hlk
    obtain ⟨hl, hk⟩ := hlk
    have hl : len = 1 := Nat.eq_of_beq_eq_true hl
    subst hl
    rcases S with _ | ⟨v, _ | ⟨w, S⟩⟩
    · exact absurd hst (by split at hk <;> first | exact id | cases hk)
    · split at hk
      · have hk := of_decide_eq_true hk
        obtain ⟨x, rfl, rfl, rfl⟩ := dI_F hst
        have hcm : cells = mc := by omega
        have hsm : slots = ms := by omega
        subst hcm; subst hsm
        exact W.iret hx hb (by rw [hret]; exact hk) (fun t ht _ => ⟨rfl, by rw [ht]; exact hP, by rw [ht]; exact hsz, hpr, hS.F ht⟩) hS.2.2 hdec hlocks
      · have hk := of_decide_eq_true hk
        obtain ⟨x, rfl, hs1⟩ := dI_F hst
        obtain ⟨hx01, rfl, rfl⟩ := zr_F hs1
        have hcm : cells = mc := by omega
        have hsm : slots = ms := by omega
        subst hcm; subst hsm
        exact W.zret hx hb (by rw [hret]; exact hk) (bool_nf x hx01).1 (fun t ht _ => ⟨rfl, by rw [ht]; exact hP, by rw [ht]; exact hsz, hpr, hS.F ht⟩) hS.2.2 hdec hlocks
      · cases hk
    · exact absurd hst (by split at hk <;> first | exact id | cases hk)
  case lreturn =>
    simp only [lkB, Bool.and_eq_true, decide_eq_true_eq] at hlk
    obtain ⟨hl, hk⟩ := hlk
    have hl : len = 1 := Nat.eq_of_beq_eq_true hl
    subst hl
    rcases S with _ | ⟨v, _ | ⟨w, S⟩⟩
    · exact absurd hst id
    · obtain ⟨x, rfl, rfl, rfl⟩ := dL_F hst
      have hcm : cells = mc := by omega
      have hsm : slots = ms := by omega
      subst hcm; subst hsm
      exact W.lret hx hb (by rw [hret]; exact hk) (fun t ht _ => ⟨rfl, by rw [ht]; exact hP, by rw [ht]; exact hsz, hpr, hS.F ht⟩) hS.2.2 hdec hlocks
    · exact absurd hst id
  case areturn =>
    simp only [lkB, Bool.and_eq_true] at hlk
    obtain ⟨hl, hk⟩ := hlk
    have hl : len = 1 := Nat.eq_of_beq_eq_true hl
    subst hl
    rcases S with _ | ⟨v, _ | ⟨w, S⟩⟩
    · exact absurd hst id
    · obtain ⟨hv, rfl, rfl⟩ := dA_F hst
      have hcm : cells = mc := by omega
      have hsm : slots = ms := by omega
      subst hcm; subst hsm
      have hv2 : shv ad v = .null ∨ ∃ a, shv ad v = .ref a := by
        rcases hv with rfl | ⟨x, rfl⟩
        · exact Or.inl rfl
        · exact Or.inr ⟨ad x, rfl⟩
      cases hrt : (mtd mi).2.2 with
      | none => rw [hrt] at hk; cases hk
      | some ty =>
        rw [hrt] at hk
        have hty : (∃ n, ty = .object n) ∨ ∃ n, ty = .array n := by
          cases ty with
          | object n => exact Or.inl ⟨n, rfl⟩
          | array n => exact Or.inr ⟨n, rfl⟩
          | _ => cases hk
        exact W.aret hx hb (by rw [hret]; exact hrt) hty hv2 (fun t ht _ => ⟨rfl, by rw [ht]; exact hP, by rw [ht]; exact hsz, hpr, hS.F ht⟩) hS.2.2 hdec hlocks
    · exact absurd hst id
  case return_ =>
    simp only [lkB, Bool.and_eq_true, decide_eq_true_eq] at hlk
    obtain ⟨hl, hk⟩ := hlk
    have hl : len = 1 := Nat.eq_of_beq_eq_true hl
    subst hl
    rcases S with _ | ⟨v, S⟩
    · obtain ⟨rfl, rfl⟩ := hst
      have hcm : cells = mc := by omega
      have hsm : slots = ms := by omega
      subst hcm; subst hsm
      exact W.vret hx hb (by rw [hret]; exact hk) (fun t ht _ => ⟨rfl, by rw [ht]; exact hP, by rw [ht]; exact hsz, hpr, hS.F ht⟩) hS.2.2 hdec hlocks
    · exact absurd hst id
  all_goals (cases hi)
end SIMB
end
section
/-! the heap only grows -/
def gr (h h1 : MHeap) : Prop := h.length ≤ h1.length ∧ hsl h ≤ hsl h1
theorem gr_rfl (h : MHeap) : gr h h := ⟨Nat.le_refl _, Nat.le_refl _⟩
theorem gr_trans {a b c : MHeap} (h1 : gr a b) (h2 : gr b c) : gr a c := ⟨Nat.le_trans h1.1 h2.1, Nat.le_trans h1.2 h2.2⟩
theorem gr_set {h : MHeap} {o : Nat} {q q' : MCell} (hq : h[o]? = some q) (hl : q'.2.length = q.2.length) : gr h (h.set o q') := ⟨by rw [List.length_set]; exact Nat.le_refl _, by rw [hsl_set hq hl]; exact Nat.le_refl _⟩
theorem gr_push {h : MHeap} (h3 : 3 ≤ h.length) (q : MCell) : gr h (h ++ [q]) := ⟨by rw [List.length_append]; omega, by rw [hsl_push h3]; omega⟩
theorem dI_T {v : Value} {k : Int32 → Prop} (h : ∀ x, k x) : dI True v k := by cases v <;> first | exact h _ | trivial
theorem dL_T {v : Value} {k : Int64 → Prop} (h : ∀ x, k x) : dL True v k := by cases v <;> first | exact h _ | trivial
theorem dR_T {v : Value} {k : Nat → Prop} (h : ∀ x, k x) : dR True v k := by cases v <;> first | exact h _ | trivial
theorem dA_T {v : Value} {k : Prop} (h : k) : dA True v k := by cases v <;> first | exact h | trivial
theorem dN_T {v : Value} {k1 k2 : Prop} (h1 : k1) (h2 : k2) : dN True v k1 k2 := by cases v <;> first | exact h1 | exact h2 | trivial
theorem dD_T {v : Value} {k : Prop} (h : k) : dD True v k := by cases v <;> first | exact h | trivial
theorem dv_T {y : Int32} {k : Prop} (h : k) : dv True y k := by unfold dv; split <;> first | exact h | trivial
theorem dvL_T {y : Int64} {k : Prop} (h : k) : dvL True y k := by unfold dvL; split <;> first | exact h | trivial
theorem zr_T {y : Int32} {k : Prop} (h : k) : zr True y k := by unfold zr; split <;> first | exact h | trivial
theorem gS_T {q : MSl} {k : Value → Prop} (h : ∀ v, k v) : gS True q k := by rcases q with _ | (v | y) <;> first | exact h _ | trivial
theorem gSL_T {q : MSl} {k : Int64 → Prop} (h : ∀ v, k v) : gSL True q k := by rcases q with _ | (v | y) <;> first | exact h _ | trivial
theorem gfI_T {h : MHeap} {o : Nat} {ts : List Nat} {j : Nat} {k : Int32 → Prop} (e : ∀ x, k x) : gfI True h o ts j k := by
  unfold gfI; (repeat' split) <;> first | exact e _ | trivial
theorem gfV_T {h : MHeap} {o : Nat} {ts : List Nat} {j : Nat} {k : Value → Prop} (e : ∀ x, k x) : gfV True h o ts j k := by
  unfold gfV; (repeat' split) <;> first | exact dA_T (e _) | trivial
theorem pfI_T {h : MHeap} {o : Nat} {ts : List Nat} {j : Nat} {x : Int32} {k : MHeap → Prop} (e : ∀ h1, gr h h1 → k h1) : pfI True h o ts j x k := by
  unfold pfI
  split
  · rename_i hq
    split
    · exact e _ (gr_set hq (by simp))
    · trivial
  · trivial
theorem pfV_T {h : MHeap} {o : Nat} {ts : List Nat} {j : Nat} {x : Value} {k : MHeap → Prop} (e : ∀ h1, gr h h1 → k h1) : pfV True h o ts j x k := by
  unfold pfV
  split
  · rename_i hq
    split
    · exact dA_T (e _ (gr_set hq (by simp)))
    · trivial
  · trivial
theorem aln_T {h : MHeap} {o : Nat} {k : Int32 → Prop} (e : ∀ x, k x) : aln True h o k := by
  unfold aln; (repeat' split) <;> first | exact e _ | trivial
theorem alI_T {h : MHeap} {o : Nat} {i : Int32} {k : Int32 → Prop} (e : ∀ x, k x) : alI True h o i k := by
  unfold alI; (repeat' split) <;> first | exact e _ | trivial
theorem alV_T {h : MHeap} {o : Nat} {i : Int32} {k : Value → Prop} (e : ∀ x, k x) : alV True h o i k := by
  unfold alV; (repeat' split) <;> first | exact dA_T (e _) | trivial
theorem asI_T {h : MHeap} {o : Nat} {i x : Int32} {k : MHeap → Prop} (e : ∀ h1, gr h h1 → k h1) : asI True h o i x k := by
  unfold asI
  split
  · rename_i hq
    split
    · exact e _ (gr_set hq (by simp))
    · trivial
  · trivial
theorem asV_T {h : MHeap} {o : Nat} {i : Int32} {x : Value} {k : MHeap → Prop} (e : ∀ h1, gr h h1 → k h1) : asV True h o i x k := by
  unfold asV
  split
  · rename_i hq
    (repeat' split) <;> first | exact e _ (gr_set hq (by simp)) | trivial
  · trivial
theorem nwA_T {h : MHeap} (h3 : 3 ≤ h.length) {t : Nat} {n : Int32} {v : Value} {k : Nat → MHeap → Prop} (e : ∀ o h1, gr h h1 → k o h1) : nwA True h t n v k := by
  unfold nwA
  split
  · trivial
  · exact e _ _ (gr_push h3 _)
theorem inO_T {h : MHeap} {o : Nat} {ts us : List Nat} {k : Int32 → Prop} (e : ∀ x, k x) : inO True h o ts us k := by
  unfold inO; (repeat' split) <;> first | exact e _ | trivial
theorem vd_T {h : MHeap} {o : Nat} {ps : List Nat} {k : Nat → Prop} (e : ∀ x, k x) : vd True h o ps k := by
  unfold vd; (repeat' split) <;> first | exact e _ | trivial
theorem cond_T {c : Bool} {k : Prop} (e : k) : bif c then k else True := by cases c <;> first | exact e | trivial
theorem swc_T {x : Int32} {kd : Prop} {k : Nat → Prop} (hd : kd) (hk : ∀ t, k t) : ∀ (cs : List Value) (ts : List Nat), swc x kd k cs ts := by
  intro cs
  induction cs with
  | nil => intro ts; unfold swc; exact hd
  | cons c cs ih =>
    intro ts
    cases c with
    | int y =>
      cases ts with
      | nil => unfold swc; exact hd
      | cons t ts =>
        show if x = y then k t else swc x kd k cs ts
        split
        · exact hk _
        · exact ih _
    | _ => unfold swc; exact hd
set_option maxHeartbeats 4000000 in
theorem stK_grow (i : Instr) (rs : List Nat) (cs : List Value) (L : MLoc) (S : List Value) (h : MHeap) (h3 : 3 ≤ h.length) : stK True (fun _ h1 => gr h h1) (fun _ _ h1 => gr h h1) (fun _ _ _ h1 => gr h h1) (fun _ _ _ _ h1 => gr h h1) i rs cs L S h := by
  cases i <;> simp only [stK] <;> repeat' first
    | exact trivial
    | exact gr_rfl _
    | assumption
    | (apply dI_T; intro _)
    | (apply dL_T; intro _)
    | (apply dR_T; intro _)
    | apply dA_T
    | apply dN_T
    | apply dD_T
    | apply dv_T
    | apply dvL_T
    | apply zr_T
    | (apply gS_T; intro _)
    | (apply gSL_T; intro _)
    | (apply gfI_T; intro _)
    | (apply gfV_T; intro _)
    | (apply pfI_T; intro _ _)
    | (apply pfV_T; intro _ _)
    | (apply aln_T; intro _)
    | (apply alI_T; intro _)
    | (apply alV_T; intro _)
    | (apply asI_T; intro _ _)
    | (apply asV_T; intro _ _)
    | (apply nwA_T h3; intro _ _ _)
    | exact gr_push h3 _
    | (apply inO_T; intro _)
    | (apply vd_T; intro _)
    | apply cond_T
    | (apply swc_T; (first | exact gr_rfl _ | exact trivial); intro _)
    | split
end
section
/-! calls -/
theorem pops_spec : ∀ (n : Nat) (acc S as S1 : List Value), pops n acc S = some (as, S1) → ∃ l : List Value, l.length = n ∧ S = l ++ S1 ∧ as = l.reverse ++ acc := by
  intro n
  induction n with
  | zero =>
    intro acc S as S1 h
    cases h
    exact ⟨[], rfl, rfl, rfl⟩
  | succ n ih =>
    intro acc S as S1 h
    cases S with
    | nil => cases h
    | cons v S =>
      obtain ⟨l, h1, h2, h3⟩ := ih (v :: acc) S as S1 h
      exact ⟨v :: l, by simp [h1], by rw [h2]; rfl, by rw [h3]; simp⟩
theorem pops_at {n : Nat} {S as S1 : List Value} {ad : Nat → Nat} (h : pops n [] S = some (as, S1)) : as.length = n ∧ S = as.reverse ++ S1 ∧ S.map (shv ad) = (as.map (shv ad)).reverse ++ S1.map (shv ad) := by
  obtain ⟨l, h1, h2, h3⟩ := pops_spec n [] S as S1 h
  rw [List.append_nil] at h3
  subst h3
  refine ⟨by simp [h1], by rw [h2]; simp, by rw [h2]; simp⟩
theorem cat_sum {ad : Nat → Nat} : ∀ (S : List Value), ((S.map (shv ad)).map fun v => v.category).sum ≤ 2 * S.length := by
  intro S
  induction S with
  | nil => simp
  | cons v S ih =>
    simp only [List.map_cons, List.sum_cons, List.length_cons]
    have : (shv ad v).category ≤ 2 := by rcases lv_cat (shv ad v) with q | q <;> omega
    omega
section CALLS
variable {p : Program} {l : Launch} {e : Env} {R : Room} {s : State} {m : MethodId} {args : Array Value} {below : List Frame} {meth : Method} {c : Code} {Q : State → Prop}
variable {SX : State → Heap → Prop} {D : va_G} {cA : Nat → ClassId} {ad : Nat → Nat} {B : Nat} {xs : List Int32} {t1 t2 : List Value} {n0 s0 mi mc ms nL : Nat} {h' : MHeap}
/-- what is asked of the predicate on texts -/
def SXok (SX : State → Heap → Prop) (B : Nat) : Prop := (∀ (s U : State) (H H' : Heap), SX s H → s.WarmedH U.vm → B ≤ H.size → (∀ q : Nat, q < B → H'[q]? = H[q]?) → SX U H') ∧ ∀ (u U : State) (H : Heap), u.vm = U.vm → SX u H → SX U H
theorem KS.next {H : Heap} {locs : List Loc} (hX : SXok SX B) (h : KS SX D cA ad B xs s s.heap) (hS : va_S (fun q => B ≤ q) s.heap H locs) {U : State} (hU : U.heap = H) (hW : s.WarmedH U.vm) : KS SX D cA ad B xs U U.heap := by
  obtain ⟨h1, h2, h3, h4, h5⟩ := h
  have hk : ∀ q : Nat, q < B → U.heap[q]? = s.heap[q]? := fun q hq => by rw [hU]; exact hS.2.1 q (Nat.lt_of_lt_of_le hq h3) (Nat.not_le.mpr hq)
  exact ⟨KV.warm hW h1, h2, by rw [hU]; exact Nat.le_trans h3 hS.1, va_X.moved hW.alike (h4.kept (hk _ h2)), hX.1 s U s.heap U.heap h5 hW h3 hk⟩
theorem PcS.blind {as : List Value} {h : MHeap} (hX : SXok SX B) : FrameBlind (PcS SX D cA ad B xs t1 t2 as h) := by
  intro a U g mk ⟨h0, ⟨h1, h2, h3, h4, h5⟩, h6⟩
  exact ⟨h0, ⟨KV.same (u := U) rfl h1, h2, h3, va_X.moved (u := U) (Vm.Alike.refl U.vm) h4, hX.2 U (U.calling g mk a) _ rfl h5⟩, h6⟩
theorem PcS.call {as S : List Value} {h : MHeap} {L : MLoc} {ls : Array Slot} {H : Heap} {locs : List Loc} {cells slots : Nat} (hX : SXok SX B) (hKS : KS SX D cA ad B xs s s.heap) (hR : Rl D cA ad B xs t1 t2 s.heap n0 s0 nL L S h ls H locs cells slots) : ∀ U : State, U.heap = H → s.WarmedH U.vm → PcS SX D cA ad B xs t1 t2 as h (as.map (shv ad)).toArray U := by
  intro U hU hW
  obtain ⟨a1, a2, a3, a4, a5, a6, a7, a8, a9⟩ := hR
  exact ⟨rfl, KS.next hX hKS a7 hU hW, by rw [hU]; exact a3, by rw [hU]; exact a4, a5, a6⟩
/-- behind a call -/
theorem call_W {pc : Nat} {ls : Array Slot} {H : Heap} {locs : List Loc} {cells slots m1 m2 : Nat} {st0 rest : List Value} {a : Array Value} {v : Option Value} {h h2 : MHeap} {L : MLoc} {S S1 vs : List Value}
    (hr : va_Run p l e R s m args below meth c H locs cells slots m1 m2 (F0 m pc ls st0) rest (QcS D cA ad B xs t1 t2 v h2 a) (fun q => B ≤ q)) (hR : Rl D cA ad B xs t1 t2 s.heap n0 s0 nL L S h ls H locs cells slots)
    (hm1 : h.length + m1 = h2.length) (hm2 : hsl h + m2 = hsl h2) (hrest : rest = S1.map (shv ad)) (hvs : vs = v.toList) (hok : okS (vs ++ S1)) (hB : B ≤ s.heap.size)
    (kk : KN (fun H locs cells slots g => W p l e R s m args below meth c H locs cells slots Q g) (Rl D cA ad B xs t1 t2 s.heap n0 s0 nL) h' m ad (pc + 3) L (vs ++ S1) h2) : W p l e R s m args below meth c H locs cells slots Q (F0 m pc ls st0) := by
  obtain ⟨a1, a2, a3, a4, a5, a6, a7, a8, a9⟩ := hR
  intro T hT X
  obtain ⟨v', st₀, t, T', L', h0, X', hL, e1, e2, ⟨hv, hP1, hz1, hp1, hF1⟩, st⟩ := hr T hT X
  cases hv
  rw [← e1] at hP1 hz1
  have hF2 := hF1.2
  rw [h0, ← e1] at hF2
  have hF3 := hF1.1
  rw [h0, ← e1] at hF3
  have hS' : va_S (fun q => B ≤ q) s.heap T'.heap (locs ++ L') := by
    refine ⟨Nat.le_trans a7.1 hF3, fun q g1 g2 => ?_, fun q hq => ?_⟩
    · rw [hF2 q (Nat.lt_of_lt_of_le g1 a7.1) g2]
      exact a7.2.1 q g1 g2
    · rcases List.mem_append.mp hq with z | z
      · exact a7.2.2 q z
      · exact hL q z
  obtain ⟨t2, b1, b2⟩ := kk.2 ls T'.heap (locs ++ L') (cells + m1) (slots + m2) ⟨a1, hok, hP1, hz1, hp1, by omega, hS', by omega, by omega⟩ T' rfl X'
  refine ⟨t2, st t2 ?_, b2⟩
  have e9 : (vs ++ S1).map (shv ad) = (v.map (shv ad)).toList ++ rest := by
    rw [hvs, hrest, List.map_append]
    cases v <;> rfl
  rw [e9] at b1
  exact b1
end CALLS
end
