-- ===== PART A: goes FIRST, ahead of the names: the tables' words, and 'selects' of the private methods out of them =====
/-- a private method of a class that the tables say can be made, by its rows of tables_1 -/
def lw_okq (q : MethodName × Nat) : Prop := (q.1.cls ≠ "java/lang/invoke/MethodHandle" ∧ q.1.cls ≠ "java/lang/invoke/VarHandle") ∧ Cond.instantiable q.1.cls q.2 ∈ tables_1 ∧ Cond.privateMethod q.1 ∈ tables_1 ∧ Cond.instanceMethod q.1 ∈ tables_1
theorem lw_p0 : lw_okq (⟨"DownAmongFences", "refuse", "(I)I"⟩, 10) := ⟨⟨by decide +kernel, by decide +kernel⟩, List.mem_of_getElem? (i := 15) (by decide +kernel), List.mem_of_getElem? (i := 343) (by decide +kernel), List.mem_of_getElem? (i := 344) (by decide +kernel)⟩
theorem lw_p1 : lw_okq (⟨"DownAmongFences$Reader", "endOf", "(I)I"⟩, 1) := ⟨⟨by decide +kernel, by decide +kernel⟩, List.mem_of_getElem? (i := 186) (by decide +kernel), List.mem_of_getElem? (i := 383) (by decide +kernel), List.mem_of_getElem? (i := 384) (by decide +kernel)⟩
theorem lw_p2 : lw_okq (⟨"DownAmongFences$Reader", "endOfWind", "(I)I"⟩, 1) := ⟨⟨by decide +kernel, by decide +kernel⟩, List.mem_of_getElem? (i := 186) (by decide +kernel), List.mem_of_getElem? (i := 391) (by decide +kernel), List.mem_of_getElem? (i := 392) (by decide +kernel)⟩
theorem lw_p3 : lw_okq (⟨"DownAmongFences$Reader", "isDigit", "(I)Z"⟩, 1) := ⟨⟨by decide +kernel, by decide +kernel⟩, List.mem_of_getElem? (i := 186) (by decide +kernel), List.mem_of_getElem? (i := 395) (by decide +kernel), List.mem_of_getElem? (i := 396) (by decide +kernel)⟩
theorem lw_p4 : lw_okq (⟨"DownAmongFences$Reader", "endOfDigits", "(III)I"⟩, 1) := ⟨⟨by decide +kernel, by decide +kernel⟩, List.mem_of_getElem? (i := 186) (by decide +kernel), List.mem_of_getElem? (i := 399) (by decide +kernel), List.mem_of_getElem? (i := 400) (by decide +kernel)⟩
theorem lw_p5 : lw_okq (⟨"DownAmongFences$Reader", "tellStatement", "(IILDownAmongFences$World;)Z"⟩, 1) := ⟨⟨by decide +kernel, by decide +kernel⟩, List.mem_of_getElem? (i := 186) (by decide +kernel), List.mem_of_getElem? (i := 407) (by decide +kernel), List.mem_of_getElem? (i := 408) (by decide +kernel)⟩
theorem lw_p6 : lw_okq (⟨"DownAmongFences$Reader", "tellWind", "(ILDownAmongFences$Air;)Z"⟩, 1) := ⟨⟨by decide +kernel, by decide +kernel⟩, List.mem_of_getElem? (i := 186) (by decide +kernel), List.mem_of_getElem? (i := 411) (by decide +kernel), List.mem_of_getElem? (i := 412) (by decide +kernel)⟩
theorem lw_p7 : lw_okq (⟨"DownAmongFences$Reader", "number", "(II)I"⟩, 1) := ⟨⟨by decide +kernel, by decide +kernel⟩, List.mem_of_getElem? (i := 186) (by decide +kernel), List.mem_of_getElem? (i := 415) (by decide +kernel), List.mem_of_getElem? (i := 416) (by decide +kernel)⟩
theorem lw_p8 : lw_okq (⟨"DownAmongFences$Reader", "tellField", "(ILDownAmongFences$Fields;)Z"⟩, 1) := ⟨⟨by decide +kernel, by decide +kernel⟩, List.mem_of_getElem? (i := 186) (by decide +kernel), List.mem_of_getElem? (i := 427) (by decide +kernel), List.mem_of_getElem? (i := 428) (by decide +kernel)⟩
theorem lw_p9 : lw_okq (⟨"DownAmongFences$Reader", "tellRoad", "(ILDownAmongFences$Roads;)Z"⟩, 1) := ⟨⟨by decide +kernel, by decide +kernel⟩, List.mem_of_getElem? (i := 186) (by decide +kernel), List.mem_of_getElem? (i := 439) (by decide +kernel), List.mem_of_getElem? (i := 440) (by decide +kernel)⟩
theorem lw_p10 : lw_okq (⟨"DownAmongFences$Reader", "tellBalloon", "(ILDownAmongFences$Flight;)Z"⟩, 1) := ⟨⟨by decide +kernel, by decide +kernel⟩, List.mem_of_getElem? (i := 186) (by decide +kernel), List.mem_of_getElem? (i := 454) (by decide +kernel), List.mem_of_getElem? (i := 455) (by decide +kernel)⟩
theorem lw_p11 : lw_okq (⟨"DownAmongFences$Reader", "tellHeight", "(ILDownAmongFences$Flight;)Z"⟩, 1) := ⟨⟨by decide +kernel, by decide +kernel⟩, List.mem_of_getElem? (i := 186) (by decide +kernel), List.mem_of_getElem? (i := 458) (by decide +kernel), List.mem_of_getElem? (i := 459) (by decide +kernel)⟩
theorem lw_p12 : lw_okq (⟨"DownAmongFences$Reader", "tellLag", "(ILDownAmongFences$Flight;)Z"⟩, 1) := ⟨⟨by decide +kernel, by decide +kernel⟩, List.mem_of_getElem? (i := 186) (by decide +kernel), List.mem_of_getElem? (i := 462) (by decide +kernel), List.mem_of_getElem? (i := 463) (by decide +kernel)⟩
theorem lw_p13 : lw_okq (⟨"DownAmongFences$Reader", "tellActs", "(IILDownAmongFences$World;)Z"⟩, 1) := ⟨⟨by decide +kernel, by decide +kernel⟩, List.mem_of_getElem? (i := 186) (by decide +kernel), List.mem_of_getElem? (i := 470) (by decide +kernel), List.mem_of_getElem? (i := 471) (by decide +kernel)⟩
theorem lw_p14 : lw_okq (⟨"DownAmongFences", "isField", "(I)Z"⟩, 10) := ⟨⟨by decide +kernel, by decide +kernel⟩, List.mem_of_getElem? (i := 15) (by decide +kernel), List.mem_of_getElem? (i := 529) (by decide +kernel), List.mem_of_getElem? (i := 530) (by decide +kernel)⟩
theorem lw_p15 : lw_okq (⟨"DownAmongFences$Past", "slotOfLatest", "()LDownAmongFences$Flight;"⟩, 3) := ⟨⟨by decide +kernel, by decide +kernel⟩, List.mem_of_getElem? (i := 166) (by decide +kernel), List.mem_of_getElem? (i := 595) (by decide +kernel), List.mem_of_getElem? (i := 596) (by decide +kernel)⟩
def lw_privs_1 : List (MethodName × Nat) := [(⟨"DownAmongFences", "refuse", "(I)I"⟩, 10), (⟨"DownAmongFences$Reader", "endOf", "(I)I"⟩, 1), (⟨"DownAmongFences$Reader", "endOfWind", "(I)I"⟩, 1), (⟨"DownAmongFences$Reader", "isDigit", "(I)Z"⟩, 1), (⟨"DownAmongFences$Reader", "endOfDigits", "(III)I"⟩, 1), (⟨"DownAmongFences$Reader", "tellStatement", "(IILDownAmongFences$World;)Z"⟩, 1), (⟨"DownAmongFences$Reader", "tellWind", "(ILDownAmongFences$Air;)Z"⟩, 1), (⟨"DownAmongFences$Reader", "number", "(II)I"⟩, 1), (⟨"DownAmongFences$Reader", "tellField", "(ILDownAmongFences$Fields;)Z"⟩, 1), (⟨"DownAmongFences$Reader", "tellRoad", "(ILDownAmongFences$Roads;)Z"⟩, 1), (⟨"DownAmongFences$Reader", "tellBalloon", "(ILDownAmongFences$Flight;)Z"⟩, 1), (⟨"DownAmongFences$Reader", "tellHeight", "(ILDownAmongFences$Flight;)Z"⟩, 1), (⟨"DownAmongFences$Reader", "tellLag", "(ILDownAmongFences$Flight;)Z"⟩, 1), (⟨"DownAmongFences$Reader", "tellActs", "(IILDownAmongFences$World;)Z"⟩, 1), (⟨"DownAmongFences", "isField", "(I)Z"⟩, 10), (⟨"DownAmongFences$Past", "slotOfLatest", "()LDownAmongFences$Flight;"⟩, 3)]
theorem lw_r1 : ∀ q ∈ lw_privs_1, lw_okq q := List.forall_mem_cons.mpr ⟨lw_p0, List.forall_mem_cons.mpr ⟨lw_p1, List.forall_mem_cons.mpr ⟨lw_p2, List.forall_mem_cons.mpr ⟨lw_p3, List.forall_mem_cons.mpr ⟨lw_p4, List.forall_mem_cons.mpr ⟨lw_p5, List.forall_mem_cons.mpr ⟨lw_p6, List.forall_mem_cons.mpr ⟨lw_p7, List.forall_mem_cons.mpr ⟨lw_p8, List.forall_mem_cons.mpr ⟨lw_p9, List.forall_mem_cons.mpr ⟨lw_p10, List.forall_mem_cons.mpr ⟨lw_p11, List.forall_mem_cons.mpr ⟨lw_p12, List.forall_mem_cons.mpr ⟨lw_p13, List.forall_mem_cons.mpr ⟨lw_p14, List.forall_mem_cons.mpr ⟨lw_p15, fun _ h => absurd h List.not_mem_nil⟩⟩⟩⟩⟩⟩⟩⟩⟩⟩⟩⟩⟩⟩⟩⟩
theorem lw_p16 : lw_okq (⟨"DownAmongFences$Mind", "rewind", "()V"⟩, 18) := ⟨⟨by decide +kernel, by decide +kernel⟩, List.mem_of_getElem? (i := 216) (by decide +kernel), List.mem_of_getElem? (i := 627) (by decide +kernel), List.mem_of_getElem? (i := 628) (by decide +kernel)⟩
theorem lw_p17 : lw_okq (⟨"DownAmongFences$Mind", "holdTo", "(I)V"⟩, 18) := ⟨⟨by decide +kernel, by decide +kernel⟩, List.mem_of_getElem? (i := 216) (by decide +kernel), List.mem_of_getElem? (i := 635) (by decide +kernel), List.mem_of_getElem? (i := 636) (by decide +kernel)⟩
theorem lw_p18 : lw_okq (⟨"DownAmongFences$Air", "speedTo", "(II)I"⟩, 2) := ⟨⟨by decide +kernel, by decide +kernel⟩, List.mem_of_getElem? (i := 29) (by decide +kernel), List.mem_of_getElem? (i := 722) (by decide +kernel), List.mem_of_getElem? (i := 723) (by decide +kernel)⟩
theorem lw_p19 : lw_okq (⟨"DownAmongFences$Ways", "takeRoads", "(LDownAmongFences$Roads;)V"⟩, 2) := ⟨⟨by decide +kernel, by decide +kernel⟩, List.mem_of_getElem? (i := 295) (by decide +kernel), List.mem_of_getElem? (i := 793) (by decide +kernel), List.mem_of_getElem? (i := 794) (by decide +kernel)⟩
theorem lw_p20 : lw_okq (⟨"DownAmongFences$Ways", "joinRoads", "()V"⟩, 2) := ⟨⟨by decide +kernel, by decide +kernel⟩, List.mem_of_getElem? (i := 295) (by decide +kernel), List.mem_of_getElem? (i := 799) (by decide +kernel), List.mem_of_getElem? (i := 800) (by decide +kernel)⟩
theorem lw_p21 : lw_okq (⟨"DownAmongFences$Air", "layersOfPair", "(LDownAmongFences$Row;I)I"⟩, 2) := ⟨⟨by decide +kernel, by decide +kernel⟩, List.mem_of_getElem? (i := 29) (by decide +kernel), List.mem_of_getElem? (i := 858) (by decide +kernel), List.mem_of_getElem? (i := 859) (by decide +kernel)⟩
theorem lw_p22 : lw_okq (⟨"DownAmongFences$Mind", "flyOneByLot", "(I)I"⟩, 18) := ⟨⟨by decide +kernel, by decide +kernel⟩, List.mem_of_getElem? (i := 216) (by decide +kernel), List.mem_of_getElem? (i := 892) (by decide +kernel), List.mem_of_getElem? (i := 893) (by decide +kernel)⟩
theorem lw_p23 : lw_okq (⟨"DownAmongFences$Mind", "leastLossIf", "(I)I"⟩, 18) := ⟨⟨by decide +kernel, by decide +kernel⟩, List.mem_of_getElem? (i := 216) (by decide +kernel), List.mem_of_getElem? (i := 976) (by decide +kernel), List.mem_of_getElem? (i := 977) (by decide +kernel)⟩
theorem lw_p24 : lw_okq (⟨"DownAmongFences$Ways", "fewestFrom", "(II)I"⟩, 2) := ⟨⟨by decide +kernel, by decide +kernel⟩, List.mem_of_getElem? (i := 295) (by decide +kernel), List.mem_of_getElem? (i := 1002) (by decide +kernel), List.mem_of_getElem? (i := 1003) (by decide +kernel)⟩
theorem lw_p25 : lw_okq (⟨"DownAmongFences$Ways", "throughFirst", "(III)I"⟩, 2) := ⟨⟨by decide +kernel, by decide +kernel⟩, List.mem_of_getElem? (i := 295) (by decide +kernel), List.mem_of_getElem? (i := 1006) (by decide +kernel), List.mem_of_getElem? (i := 1007) (by decide +kernel)⟩
theorem lw_p26 : lw_okq (⟨"DownAmongFences$Ways", "restOf", "(II)I"⟩, 2) := ⟨⟨by decide +kernel, by decide +kernel⟩, List.mem_of_getElem? (i := 295) (by decide +kernel), List.mem_of_getElem? (i := 1010) (by decide +kernel), List.mem_of_getElem? (i := 1011) (by decide +kernel)⟩
theorem lw_p27 : lw_okq (⟨"DownAmongFencesModel", "refuse", "(I)I"⟩, 59) := ⟨⟨by decide +kernel, by decide +kernel⟩, List.mem_of_getElem? (i := 1039) (by decide +kernel), List.mem_of_getElem? (i := 1227) (by decide +kernel), List.mem_of_getElem? (i := 1228) (by decide +kernel)⟩
theorem lw_p28 : lw_okq (⟨"DownAmongFencesModel", "readStatement", "()V"⟩, 59) := ⟨⟨by decide +kernel, by decide +kernel⟩, List.mem_of_getElem? (i := 1039) (by decide +kernel), List.mem_of_getElem? (i := 1235) (by decide +kernel), List.mem_of_getElem? (i := 1236) (by decide +kernel)⟩
theorem lw_p29 : lw_okq (⟨"DownAmongFencesModel", "here", "()I"⟩, 59) := ⟨⟨by decide +kernel, by decide +kernel⟩, List.mem_of_getElem? (i := 1039) (by decide +kernel), List.mem_of_getElem? (i := 1239) (by decide +kernel), List.mem_of_getElem? (i := 1240) (by decide +kernel)⟩
theorem lw_p30 : lw_okq (⟨"DownAmongFencesModel", "readDigits", "(I)I"⟩, 59) := ⟨⟨by decide +kernel, by decide +kernel⟩, List.mem_of_getElem? (i := 1039) (by decide +kernel), List.mem_of_getElem? (i := 1246) (by decide +kernel), List.mem_of_getElem? (i := 1247) (by decide +kernel)⟩
theorem lw_p31 : lw_okq (⟨"DownAmongFencesModel", "readSigned", "()I"⟩, 59) := ⟨⟨by decide +kernel, by decide +kernel⟩, List.mem_of_getElem? (i := 1039) (by decide +kernel), List.mem_of_getElem? (i := 1255) (by decide +kernel), List.mem_of_getElem? (i := 1256) (by decide +kernel)⟩
def lw_privs_2 : List (MethodName × Nat) := [(⟨"DownAmongFences$Mind", "rewind", "()V"⟩, 18), (⟨"DownAmongFences$Mind", "holdTo", "(I)V"⟩, 18), (⟨"DownAmongFences$Air", "speedTo", "(II)I"⟩, 2), (⟨"DownAmongFences$Ways", "takeRoads", "(LDownAmongFences$Roads;)V"⟩, 2), (⟨"DownAmongFences$Ways", "joinRoads", "()V"⟩, 2), (⟨"DownAmongFences$Air", "layersOfPair", "(LDownAmongFences$Row;I)I"⟩, 2), (⟨"DownAmongFences$Mind", "flyOneByLot", "(I)I"⟩, 18), (⟨"DownAmongFences$Mind", "leastLossIf", "(I)I"⟩, 18), (⟨"DownAmongFences$Ways", "fewestFrom", "(II)I"⟩, 2), (⟨"DownAmongFences$Ways", "throughFirst", "(III)I"⟩, 2), (⟨"DownAmongFences$Ways", "restOf", "(II)I"⟩, 2), (⟨"DownAmongFencesModel", "refuse", "(I)I"⟩, 59), (⟨"DownAmongFencesModel", "readStatement", "()V"⟩, 59), (⟨"DownAmongFencesModel", "here", "()I"⟩, 59), (⟨"DownAmongFencesModel", "readDigits", "(I)I"⟩, 59), (⟨"DownAmongFencesModel", "readSigned", "()I"⟩, 59)]
theorem lw_r2 : ∀ q ∈ lw_privs_2, lw_okq q := List.forall_mem_cons.mpr ⟨lw_p16, List.forall_mem_cons.mpr ⟨lw_p17, List.forall_mem_cons.mpr ⟨lw_p18, List.forall_mem_cons.mpr ⟨lw_p19, List.forall_mem_cons.mpr ⟨lw_p20, List.forall_mem_cons.mpr ⟨lw_p21, List.forall_mem_cons.mpr ⟨lw_p22, List.forall_mem_cons.mpr ⟨lw_p23, List.forall_mem_cons.mpr ⟨lw_p24, List.forall_mem_cons.mpr ⟨lw_p25, List.forall_mem_cons.mpr ⟨lw_p26, List.forall_mem_cons.mpr ⟨lw_p27, List.forall_mem_cons.mpr ⟨lw_p28, List.forall_mem_cons.mpr ⟨lw_p29, List.forall_mem_cons.mpr ⟨lw_p30, List.forall_mem_cons.mpr ⟨lw_p31, fun _ h => absurd h List.not_mem_nil⟩⟩⟩⟩⟩⟩⟩⟩⟩⟩⟩⟩⟩⟩⟩⟩
theorem lw_p32 : lw_okq (⟨"DownAmongFencesModel", "readActs", "(I)V"⟩, 59) := ⟨⟨by decide +kernel, by decide +kernel⟩, List.mem_of_getElem? (i := 1039) (by decide +kernel), List.mem_of_getElem? (i := 1259) (by decide +kernel), List.mem_of_getElem? (i := 1260) (by decide +kernel)⟩
theorem lw_p33 : lw_okq (⟨"DownAmongFencesModel", "carryAll", "([IZ)V"⟩, 59) := ⟨⟨by decide +kernel, by decide +kernel⟩, List.mem_of_getElem? (i := 1039) (by decide +kernel), List.mem_of_getElem? (i := 1263) (by decide +kernel), List.mem_of_getElem? (i := 1264) (by decide +kernel)⟩
theorem lw_p34 : lw_okq (⟨"DownAmongFencesModel", "carryFlight", "()V"⟩, 59) := ⟨⟨by decide +kernel, by decide +kernel⟩, List.mem_of_getElem? (i := 1039) (by decide +kernel), List.mem_of_getElem? (i := 1267) (by decide +kernel), List.mem_of_getElem? (i := 1268) (by decide +kernel)⟩
theorem lw_p35 : lw_okq (⟨"DownAmongFencesModel", "carry", "(I)I"⟩, 59) := ⟨⟨by decide +kernel, by decide +kernel⟩, List.mem_of_getElem? (i := 1039) (by decide +kernel), List.mem_of_getElem? (i := 1271) (by decide +kernel), List.mem_of_getElem? (i := 1272) (by decide +kernel)⟩
theorem lw_p36 : lw_okq (⟨"DownAmongFencesModel", "comes", "(I)Z"⟩, 59) := ⟨⟨by decide +kernel, by decide +kernel⟩, List.mem_of_getElem? (i := 1039) (by decide +kernel), List.mem_of_getElem? (i := 1275) (by decide +kernel), List.mem_of_getElem? (i := 1276) (by decide +kernel)⟩
theorem lw_p37 : lw_okq (⟨"DownAmongFencesModel", "fieldComes", "(I)Z"⟩, 59) := ⟨⟨by decide +kernel, by decide +kernel⟩, List.mem_of_getElem? (i := 1039) (by decide +kernel), List.mem_of_getElem? (i := 1279) (by decide +kernel), List.mem_of_getElem? (i := 1280) (by decide +kernel)⟩
theorem lw_p38 : lw_okq (⟨"DownAmongFencesModel", "putRoad", "(III)V"⟩, 59) := ⟨⟨by decide +kernel, by decide +kernel⟩, List.mem_of_getElem? (i := 1039) (by decide +kernel), List.mem_of_getElem? (i := 1288) (by decide +kernel), List.mem_of_getElem? (i := 1289) (by decide +kernel)⟩
theorem lw_p39 : lw_okq (⟨"DownAmongFencesModel", "actsCome", "(I)Z"⟩, 59) := ⟨⟨by decide +kernel, by decide +kernel⟩, List.mem_of_getElem? (i := 1039) (by decide +kernel), List.mem_of_getElem? (i := 1292) (by decide +kernel), List.mem_of_getElem? (i := 1293) (by decide +kernel)⟩
theorem lw_p40 : lw_okq (⟨"DownAmongFencesModel", "stepOn", "(I)V"⟩, 59) := ⟨⟨by decide +kernel, by decide +kernel⟩, List.mem_of_getElem? (i := 1039) (by decide +kernel), List.mem_of_getElem? (i := 1296) (by decide +kernel), List.mem_of_getElem? (i := 1297) (by decide +kernel)⟩
theorem lw_p41 : lw_okq (⟨"DownAmongFencesModel", "risingNow", "()I"⟩, 59) := ⟨⟨by decide +kernel, by decide +kernel⟩, List.mem_of_getElem? (i := 1039) (by decide +kernel), List.mem_of_getElem? (i := 1303) (by decide +kernel), List.mem_of_getElem? (i := 1304) (by decide +kernel)⟩
theorem lw_p42 : lw_okq (⟨"DownAmongFencesModel", "balance", "()I"⟩, 59) := ⟨⟨by decide +kernel, by decide +kernel⟩, List.mem_of_getElem? (i := 1039) (by decide +kernel), List.mem_of_getElem? (i := 1307) (by decide +kernel), List.mem_of_getElem? (i := 1308) (by decide +kernel)⟩
theorem lw_p43 : lw_okq (⟨"DownAmongFencesModel", "settingsCome", "(I)Z"⟩, 59) := ⟨⟨by decide +kernel, by decide +kernel⟩, List.mem_of_getElem? (i := 1039) (by decide +kernel), List.mem_of_getElem? (i := 1311) (by decide +kernel), List.mem_of_getElem? (i := 1312) (by decide +kernel)⟩
theorem lw_p44 : lw_okq (⟨"DownAmongFencesModel", "lagBecomes", "(I)V"⟩, 59) := ⟨⟨by decide +kernel, by decide +kernel⟩, List.mem_of_getElem? (i := 1039) (by decide +kernel), List.mem_of_getElem? (i := 1316) (by decide +kernel), List.mem_of_getElem? (i := 1317) (by decide +kernel)⟩
theorem lw_p45 : lw_okq (⟨"DownAmongFencesModel", "forgetWork", "()V"⟩, 59) := ⟨⟨by decide +kernel, by decide +kernel⟩, List.mem_of_getElem? (i := 1039) (by decide +kernel), List.mem_of_getElem? (i := 1320) (by decide +kernel), List.mem_of_getElem? (i := 1321) (by decide +kernel)⟩
theorem lw_p46 : lw_okq (⟨"DownAmongFencesModel", "isField", "(I)Z"⟩, 59) := ⟨⟨by decide +kernel, by decide +kernel⟩, List.mem_of_getElem? (i := 1039) (by decide +kernel), List.mem_of_getElem? (i := 1345) (by decide +kernel), List.mem_of_getElem? (i := 1346) (by decide +kernel)⟩
theorem lw_p47 : lw_okq (⟨"DownAmongFencesModel", "costOf", "(II)I"⟩, 59) := ⟨⟨by decide +kernel, by decide +kernel⟩, List.mem_of_getElem? (i := 1039) (by decide +kernel), List.mem_of_getElem? (i := 1357) (by decide +kernel), List.mem_of_getElem? (i := 1358) (by decide +kernel)⟩
def lw_privs_3 : List (MethodName × Nat) := [(⟨"DownAmongFencesModel", "readActs", "(I)V"⟩, 59), (⟨"DownAmongFencesModel", "carryAll", "([IZ)V"⟩, 59), (⟨"DownAmongFencesModel", "carryFlight", "()V"⟩, 59), (⟨"DownAmongFencesModel", "carry", "(I)I"⟩, 59), (⟨"DownAmongFencesModel", "comes", "(I)Z"⟩, 59), (⟨"DownAmongFencesModel", "fieldComes", "(I)Z"⟩, 59), (⟨"DownAmongFencesModel", "putRoad", "(III)V"⟩, 59), (⟨"DownAmongFencesModel", "actsCome", "(I)Z"⟩, 59), (⟨"DownAmongFencesModel", "stepOn", "(I)V"⟩, 59), (⟨"DownAmongFencesModel", "risingNow", "()I"⟩, 59), (⟨"DownAmongFencesModel", "balance", "()I"⟩, 59), (⟨"DownAmongFencesModel", "settingsCome", "(I)Z"⟩, 59), (⟨"DownAmongFencesModel", "lagBecomes", "(I)V"⟩, 59), (⟨"DownAmongFencesModel", "forgetWork", "()V"⟩, 59), (⟨"DownAmongFencesModel", "isField", "(I)Z"⟩, 59), (⟨"DownAmongFencesModel", "costOf", "(II)I"⟩, 59)]
theorem lw_r3 : ∀ q ∈ lw_privs_3, lw_okq q := List.forall_mem_cons.mpr ⟨lw_p32, List.forall_mem_cons.mpr ⟨lw_p33, List.forall_mem_cons.mpr ⟨lw_p34, List.forall_mem_cons.mpr ⟨lw_p35, List.forall_mem_cons.mpr ⟨lw_p36, List.forall_mem_cons.mpr ⟨lw_p37, List.forall_mem_cons.mpr ⟨lw_p38, List.forall_mem_cons.mpr ⟨lw_p39, List.forall_mem_cons.mpr ⟨lw_p40, List.forall_mem_cons.mpr ⟨lw_p41, List.forall_mem_cons.mpr ⟨lw_p42, List.forall_mem_cons.mpr ⟨lw_p43, List.forall_mem_cons.mpr ⟨lw_p44, List.forall_mem_cons.mpr ⟨lw_p45, List.forall_mem_cons.mpr ⟨lw_p46, List.forall_mem_cons.mpr ⟨lw_p47, fun _ h => absurd h List.not_mem_nil⟩⟩⟩⟩⟩⟩⟩⟩⟩⟩⟩⟩⟩⟩⟩⟩
theorem lw_p48 : lw_okq (⟨"DownAmongFencesModel", "dragOf", "(I)I"⟩, 59) := ⟨⟨by decide +kernel, by decide +kernel⟩, List.mem_of_getElem? (i := 1039) (by decide +kernel), List.mem_of_getElem? (i := 1361) (by decide +kernel), List.mem_of_getElem? (i := 1362) (by decide +kernel)⟩
theorem lw_p49 : lw_okq (⟨"DownAmongFencesModel", "settingOf", "(I)I"⟩, 59) := ⟨⟨by decide +kernel, by decide +kernel⟩, List.mem_of_getElem? (i := 1039) (by decide +kernel), List.mem_of_getElem? (i := 1376) (by decide +kernel), List.mem_of_getElem? (i := 1377) (by decide +kernel)⟩
theorem lw_p50 : lw_okq (⟨"DownAmongFencesModel", "keepTurn", "()V"⟩, 59) := ⟨⟨by decide +kernel, by decide +kernel⟩, List.mem_of_getElem? (i := 1039) (by decide +kernel), List.mem_of_getElem? (i := 1389) (by decide +kernel), List.mem_of_getElem? (i := 1390) (by decide +kernel)⟩
theorem lw_p51 : lw_okq (⟨"DownAmongFencesModel", "open", "()V"⟩, 59) := ⟨⟨by decide +kernel, by decide +kernel⟩, List.mem_of_getElem? (i := 1039) (by decide +kernel), List.mem_of_getElem? (i := 1404) (by decide +kernel), List.mem_of_getElem? (i := 1405) (by decide +kernel)⟩
theorem lw_p52 : lw_okq (⟨"DownAmongFencesModel", "planOn", "(II)V"⟩, 59) := ⟨⟨by decide +kernel, by decide +kernel⟩, List.mem_of_getElem? (i := 1039) (by decide +kernel), List.mem_of_getElem? (i := 1408) (by decide +kernel), List.mem_of_getElem? (i := 1409) (by decide +kernel)⟩
theorem lw_p53 : lw_okq (⟨"DownAmongFencesModel", "again", "()V"⟩, 59) := ⟨⟨by decide +kernel, by decide +kernel⟩, List.mem_of_getElem? (i := 1039) (by decide +kernel), List.mem_of_getElem? (i := 1412) (by decide +kernel), List.mem_of_getElem? (i := 1413) (by decide +kernel)⟩
theorem lw_p54 : lw_okq (⟨"DownAmongFencesModel", "holdOn", "()V"⟩, 59) := ⟨⟨by decide +kernel, by decide +kernel⟩, List.mem_of_getElem? (i := 1039) (by decide +kernel), List.mem_of_getElem? (i := 1416) (by decide +kernel), List.mem_of_getElem? (i := 1417) (by decide +kernel)⟩
theorem lw_p55 : lw_okq (⟨"DownAmongFencesModel", "workUnderWay", "()I"⟩, 59) := ⟨⟨by decide +kernel, by decide +kernel⟩, List.mem_of_getElem? (i := 1039) (by decide +kernel), List.mem_of_getElem? (i := 1420) (by decide +kernel), List.mem_of_getElem? (i := 1421) (by decide +kernel)⟩
theorem lw_p56 : lw_okq (⟨"DownAmongFencesModel", "planTold", "(I)I"⟩, 59) := ⟨⟨by decide +kernel, by decide +kernel⟩, List.mem_of_getElem? (i := 1039) (by decide +kernel), List.mem_of_getElem? (i := 1424) (by decide +kernel), List.mem_of_getElem? (i := 1425) (by decide +kernel)⟩
theorem lw_p57 : lw_okq (⟨"DownAmongFencesModel", "fieldAt", "()I"⟩, 59) := ⟨⟨by decide +kernel, by decide +kernel⟩, List.mem_of_getElem? (i := 1039) (by decide +kernel), List.mem_of_getElem? (i := 1428) (by decide +kernel), List.mem_of_getElem? (i := 1429) (by decide +kernel)⟩
theorem lw_p58 : lw_okq (⟨"DownAmongFencesModel", "seekPlans", "(I)V"⟩, 59) := ⟨⟨by decide +kernel, by decide +kernel⟩, List.mem_of_getElem? (i := 1039) (by decide +kernel), List.mem_of_getElem? (i := 1436) (by decide +kernel), List.mem_of_getElem? (i := 1437) (by decide +kernel)⟩
theorem lw_p59 : lw_okq (⟨"DownAmongFencesModel", "seekBest", "()V"⟩, 59) := ⟨⟨by decide +kernel, by decide +kernel⟩, List.mem_of_getElem? (i := 1039) (by decide +kernel), List.mem_of_getElem? (i := 1444) (by decide +kernel), List.mem_of_getElem? (i := 1445) (by decide +kernel)⟩
theorem lw_p60 : lw_okq (⟨"DownAmongFencesModel", "twoBy", "(III)I"⟩, 59) := ⟨⟨by decide +kernel, by decide +kernel⟩, List.mem_of_getElem? (i := 1039) (by decide +kernel), List.mem_of_getElem? (i := 1468) (by decide +kernel), List.mem_of_getElem? (i := 1469) (by decide +kernel)⟩
theorem lw_p61 : lw_okq (⟨"DownAmongFencesModel", "swingBy", "(I)V"⟩, 59) := ⟨⟨by decide +kernel, by decide +kernel⟩, List.mem_of_getElem? (i := 1039) (by decide +kernel), List.mem_of_getElem? (i := 1476) (by decide +kernel), List.mem_of_getElem? (i := 1477) (by decide +kernel)⟩
theorem lw_p62 : lw_okq (⟨"DownAmongFencesModel", "driveFrom", "(I)V"⟩, 59) := ⟨⟨by decide +kernel, by decide +kernel⟩, List.mem_of_getElem? (i := 1039) (by decide +kernel), List.mem_of_getElem? (i := 1500) (by decide +kernel), List.mem_of_getElem? (i := 1501) (by decide +kernel)⟩
theorem lw_p63 : lw_okq (⟨"DownAmongFencesModel", "waitBest", "()I"⟩, 59) := ⟨⟨by decide +kernel, by decide +kernel⟩, List.mem_of_getElem? (i := 1039) (by decide +kernel), List.mem_of_getElem? (i := 1509) (by decide +kernel), List.mem_of_getElem? (i := 1510) (by decide +kernel)⟩
def lw_privs_4 : List (MethodName × Nat) := [(⟨"DownAmongFencesModel", "dragOf", "(I)I"⟩, 59), (⟨"DownAmongFencesModel", "settingOf", "(I)I"⟩, 59), (⟨"DownAmongFencesModel", "keepTurn", "()V"⟩, 59), (⟨"DownAmongFencesModel", "open", "()V"⟩, 59), (⟨"DownAmongFencesModel", "planOn", "(II)V"⟩, 59), (⟨"DownAmongFencesModel", "again", "()V"⟩, 59), (⟨"DownAmongFencesModel", "holdOn", "()V"⟩, 59), (⟨"DownAmongFencesModel", "workUnderWay", "()I"⟩, 59), (⟨"DownAmongFencesModel", "planTold", "(I)I"⟩, 59), (⟨"DownAmongFencesModel", "fieldAt", "()I"⟩, 59), (⟨"DownAmongFencesModel", "seekPlans", "(I)V"⟩, 59), (⟨"DownAmongFencesModel", "seekBest", "()V"⟩, 59), (⟨"DownAmongFencesModel", "twoBy", "(III)I"⟩, 59), (⟨"DownAmongFencesModel", "swingBy", "(I)V"⟩, 59), (⟨"DownAmongFencesModel", "driveFrom", "(I)V"⟩, 59), (⟨"DownAmongFencesModel", "waitBest", "()I"⟩, 59)]
theorem lw_r4 : ∀ q ∈ lw_privs_4, lw_okq q := List.forall_mem_cons.mpr ⟨lw_p48, List.forall_mem_cons.mpr ⟨lw_p49, List.forall_mem_cons.mpr ⟨lw_p50, List.forall_mem_cons.mpr ⟨lw_p51, List.forall_mem_cons.mpr ⟨lw_p52, List.forall_mem_cons.mpr ⟨lw_p53, List.forall_mem_cons.mpr ⟨lw_p54, List.forall_mem_cons.mpr ⟨lw_p55, List.forall_mem_cons.mpr ⟨lw_p56, List.forall_mem_cons.mpr ⟨lw_p57, List.forall_mem_cons.mpr ⟨lw_p58, List.forall_mem_cons.mpr ⟨lw_p59, List.forall_mem_cons.mpr ⟨lw_p60, List.forall_mem_cons.mpr ⟨lw_p61, List.forall_mem_cons.mpr ⟨lw_p62, List.forall_mem_cons.mpr ⟨lw_p63, fun _ h => absurd h List.not_mem_nil⟩⟩⟩⟩⟩⟩⟩⟩⟩⟩⟩⟩⟩⟩⟩⟩
theorem lw_p64 : lw_okq (⟨"DownAmongFencesModel", "waitSum", "(I)I"⟩, 59) := ⟨⟨by decide +kernel, by decide +kernel⟩, List.mem_of_getElem? (i := 1039) (by decide +kernel), List.mem_of_getElem? (i := 1513) (by decide +kernel), List.mem_of_getElem? (i := 1514) (by decide +kernel)⟩
theorem lw_p65 : lw_okq (⟨"DownAmongFencesModel", "comesTo", "(III)Z"⟩, 59) := ⟨⟨by decide +kernel, by decide +kernel⟩, List.mem_of_getElem? (i := 1039) (by decide +kernel), List.mem_of_getElem? (i := 1541) (by decide +kernel), List.mem_of_getElem? (i := 1542) (by decide +kernel)⟩
theorem lw_p66 : lw_okq (⟨"DownAmongFencesModel", "layGame", "()V"⟩, 59) := ⟨⟨by decide +kernel, by decide +kernel⟩, List.mem_of_getElem? (i := 1039) (by decide +kernel), List.mem_of_getElem? (i := 1561) (by decide +kernel), List.mem_of_getElem? (i := 1562) (by decide +kernel)⟩
theorem lw_p67 : lw_okq (⟨"DownAmongFencesModel", "turnAir", "()V"⟩, 59) := ⟨⟨by decide +kernel, by decide +kernel⟩, List.mem_of_getElem? (i := 1039) (by decide +kernel), List.mem_of_getElem? (i := 1565) (by decide +kernel), List.mem_of_getElem? (i := 1566) (by decide +kernel)⟩
theorem lw_p68 : lw_okq (⟨"DownAmongFencesModel", "restingPair", "()I"⟩, 59) := ⟨⟨by decide +kernel, by decide +kernel⟩, List.mem_of_getElem? (i := 1039) (by decide +kernel), List.mem_of_getElem? (i := 1569) (by decide +kernel), List.mem_of_getElem? (i := 1570) (by decide +kernel)⟩
theorem lw_p69 : lw_okq (⟨"DownAmongFencesModel", "greaterLoss", "(I)I"⟩, 59) := ⟨⟨by decide +kernel, by decide +kernel⟩, List.mem_of_getElem? (i := 1039) (by decide +kernel), List.mem_of_getElem? (i := 1573) (by decide +kernel), List.mem_of_getElem? (i := 1574) (by decide +kernel)⟩
theorem lw_p70 : lw_okq (⟨"DownAmongFencesModel", "placeNear", "(I)I"⟩, 59) := ⟨⟨by decide +kernel, by decide +kernel⟩, List.mem_of_getElem? (i := 1039) (by decide +kernel), List.mem_of_getElem? (i := 1585) (by decide +kernel), List.mem_of_getElem? (i := 1586) (by decide +kernel)⟩
theorem lw_p71 : lw_okq (⟨"DownAmongFencesModel", "layBetween", "()V"⟩, 59) := ⟨⟨by decide +kernel, by decide +kernel⟩, List.mem_of_getElem? (i := 1039) (by decide +kernel), List.mem_of_getElem? (i := 1593) (by decide +kernel), List.mem_of_getElem? (i := 1594) (by decide +kernel)⟩
theorem lw_p72 : lw_okq (⟨"DownAmongFencesModel", "layTours", "()V"⟩, 59) := ⟨⟨by decide +kernel, by decide +kernel⟩, List.mem_of_getElem? (i := 1039) (by decide +kernel), List.mem_of_getElem? (i := 1597) (by decide +kernel), List.mem_of_getElem? (i := 1598) (by decide +kernel)⟩
theorem lw_p73 : lw_okq (⟨"DownAmongFencesModel", "fitsLayer", "(II)Z"⟩, 59) := ⟨⟨by decide +kernel, by decide +kernel⟩, List.mem_of_getElem? (i := 1039) (by decide +kernel), List.mem_of_getElem? (i := 1609) (by decide +kernel), List.mem_of_getElem? (i := 1610) (by decide +kernel)⟩
def lw_privs_5 : List (MethodName × Nat) := [(⟨"DownAmongFencesModel", "waitSum", "(I)I"⟩, 59), (⟨"DownAmongFencesModel", "comesTo", "(III)Z"⟩, 59), (⟨"DownAmongFencesModel", "layGame", "()V"⟩, 59), (⟨"DownAmongFencesModel", "turnAir", "()V"⟩, 59), (⟨"DownAmongFencesModel", "restingPair", "()I"⟩, 59), (⟨"DownAmongFencesModel", "greaterLoss", "(I)I"⟩, 59), (⟨"DownAmongFencesModel", "placeNear", "(I)I"⟩, 59), (⟨"DownAmongFencesModel", "layBetween", "()V"⟩, 59), (⟨"DownAmongFencesModel", "layTours", "()V"⟩, 59), (⟨"DownAmongFencesModel", "fitsLayer", "(II)Z"⟩, 59)]
theorem lw_r5 : ∀ q ∈ lw_privs_5, lw_okq q := List.forall_mem_cons.mpr ⟨lw_p64, List.forall_mem_cons.mpr ⟨lw_p65, List.forall_mem_cons.mpr ⟨lw_p66, List.forall_mem_cons.mpr ⟨lw_p67, List.forall_mem_cons.mpr ⟨lw_p68, List.forall_mem_cons.mpr ⟨lw_p69, List.forall_mem_cons.mpr ⟨lw_p70, List.forall_mem_cons.mpr ⟨lw_p71, List.forall_mem_cons.mpr ⟨lw_p72, List.forall_mem_cons.mpr ⟨lw_p73, fun _ h => absurd h List.not_mem_nil⟩⟩⟩⟩⟩⟩⟩⟩⟩⟩
def lw_privs : List (MethodName × Nat) := lw_privs_1 ++ (lw_privs_2 ++ (lw_privs_3 ++ (lw_privs_4 ++ (lw_privs_5))))
def lw_tbl : List Cond := k2_sels lw_privs ++ tables_1
theorem lw_privs_ok : ∀ q ∈ lw_privs, lw_okq q := by
  show ∀ q ∈ lw_privs_1 ++ (lw_privs_2 ++ (lw_privs_3 ++ (lw_privs_4 ++ (lw_privs_5)))), lw_okq q
  exact List.forall_mem_append.mpr ⟨lw_r1, List.forall_mem_append.mpr ⟨lw_r2, List.forall_mem_append.mpr ⟨lw_r3, List.forall_mem_append.mpr ⟨lw_r4, lw_r5⟩⟩⟩⟩
def RX0 : String := "DownAmongFences$Air"
def TX0 : u_T := fun k => match k with
  | 0 => ("DownAmongFences$Air", "sides", "[I", true)
  | _ => ("DownAmongFences$Air", "aheads", "[I", true)
def tyX0 : Nat → FieldType := fun k => match k with
  | 0 => .array .int
  | _ => .array .int
abbrev wsX00 : List Cond := u_ws RX0 TX0 2
theorem nmX0 : ∀ a, a < 2 → ∀ b, b < 2 → a ≠ b → (TX0 a).2.1 ≠ (TX0 b).2.1 := by decide +kernel
theorem tyX0_ok : ∀ k, k < 2 → parseFieldDescriptor (TX0 k).2.2.1 = some (tyX0 k) := by decide +kernel
abbrev cX0_init : ByteArray := prog_2_method_1_code
def yX0_init : MethodName := ⟨RX0, "<init>", "()V"⟩
abbrev cX0_copyFrom : ByteArray := prog_2_method_2_code
def yX0_copyFrom : MethodName := ⟨RX0, "copyFrom", "(LDownAmongFences$Air;)V"⟩
abbrev cX0_sideOf : ByteArray := prog_2_method_3_code
def yX0_sideOf : MethodName := ⟨RX0, "sideOf", "(I)I"⟩
abbrev cX0_aheadOf : ByteArray := prog_2_method_4_code
def yX0_aheadOf : MethodName := ⟨RX0, "aheadOf", "(I)I"⟩
abbrev cX0_blow : ByteArray := prog_2_method_5_code
def yX0_blow : MethodName := ⟨RX0, "blow", "(III)V"⟩
abbrev cX0_turnAbout : ByteArray := prog_2_method_6_code
def yX0_turnAbout : MethodName := ⟨RX0, "turnAbout", "()V"⟩
abbrev cX0_dragOf : ByteArray := prog_2_method_7_code
def yX0_dragOf : MethodName := ⟨RX0, "dragOf", "(II)I"⟩
abbrev cX0_layerFarthest : ByteArray := prog_2_method_8_code
def yX0_layerFarthest : MethodName := ⟨RX0, "layerFarthest", "(I)I"⟩
abbrev cX0_speedTo : ByteArray := prog_2_method_9_code
def yX0_speedTo : MethodName := ⟨RX0, "speedTo", "(II)I"⟩
abbrev cX0_fewestSteps : ByteArray := prog_2_method_10_code
def yX0_fewestSteps : MethodName := ⟨RX0, "fewestSteps", "(II)I"⟩
abbrev cX0_layersFor : ByteArray := prog_2_method_11_code
def yX0_layersFor : MethodName := ⟨RX0, "layersFor", "(III)I"⟩
abbrev cX0_layersThatFit : ByteArray := prog_2_method_12_code
def yX0_layersThatFit : MethodName := ⟨RX0, "layersThatFit", "(LDownAmongFences$Row;)I"⟩
abbrev cX0_firstPairWithoutLayer : ByteArray := prog_2_method_13_code
def yX0_firstPairWithoutLayer : MethodName := ⟨RX0, "firstPairWithoutLayer", "(LDownAmongFences$Row;)I"⟩
abbrev cX0_layersOfPair : ByteArray := prog_2_method_14_code
def yX0_layersOfPair : MethodName := ⟨RX0, "layersOfPair", "(LDownAmongFences$Row;I)I"⟩
def RX1 : String := "DownAmongFences$Fields"
def TX1 : u_T := fun k => match k with
  | 0 => ("DownAmongFences$Fields", "known", "I", false)
  | 1 => ("DownAmongFences$Fields", "kinds", "[I", true)
  | 2 => ("DownAmongFences$Fields", "figures", "[I", true)
  | 3 => ("DownAmongFences$Fields", "lefts", "[I", true)
  | 4 => ("DownAmongFences$Fields", "nears", "[I", true)
  | _ => ("DownAmongFences$Fields", "sizes", "[I", true)
def tyX1 : Nat → FieldType := fun k => match k with
  | 0 => .int
  | 1 => .array .int
  | 2 => .array .int
  | 3 => .array .int
  | 4 => .array .int
  | _ => .array .int
abbrev wsX10 : List Cond := u_ws RX1 TX1 6
theorem nmX1 : ∀ a, a < 6 → ∀ b, b < 6 → a ≠ b → (TX1 a).2.1 ≠ (TX1 b).2.1 := by decide +kernel
theorem tyX1_ok : ∀ k, k < 6 → parseFieldDescriptor (TX1 k).2.2.1 = some (tyX1 k) := by decide +kernel
abbrev cX1_init : ByteArray := prog_3_method_1_code
def yX1_init : MethodName := ⟨RX1, "<init>", "()V"⟩
abbrev cX1_copyFrom : ByteArray := prog_3_method_2_code
def yX1_copyFrom : MethodName := ⟨RX1, "copyFrom", "(LDownAmongFences$Fields;)V"⟩
abbrev cX1_isFull : ByteArray := prog_3_method_3_code
def yX1_isFull : MethodName := ⟨RX1, "isFull", "()Z"⟩
abbrev cX1_add : ByteArray := prog_3_method_4_code
def yX1_add : MethodName := ⟨RX1, "add", "(IIIII)V"⟩
abbrev cX1_tellOf : ByteArray := prog_3_method_5_code
def yX1_tellOf : MethodName := ⟨RX1, "tellOf", "(II)I"⟩
abbrev cX1_fieldAt : ByteArray := prog_3_method_6_code
def yX1_fieldAt : MethodName := ⟨RX1, "fieldAt", "(II)I"⟩
abbrev cX1_costOf : ByteArray := prog_3_method_7_code
def yX1_costOf : MethodName := ⟨RX1, "costOf", "(III)I"⟩
def RX2 : String := "DownAmongFences$Flight"
def TX2 : u_T := fun k => match k with
  | 0 => ("DownAmongFences$Flight", "height", "I", false)
  | 1 => ("DownAmongFences$Flight", "x", "I", false)
  | 2 => ("DownAmongFences$Flight", "y", "I", false)
  | 3 => ("DownAmongFences$Flight", "heat", "I", false)
  | 4 => ("DownAmongFences$Flight", "gas", "I", false)
  | 5 => ("DownAmongFences$Flight", "people", "I", false)
  | 6 => ("DownAmongFences$Flight", "lag", "I", false)
  | 7 => ("DownAmongFences$Flight", "step", "I", false)
  | 8 => ("DownAmongFences$Flight", "pace", "I", false)
  | _ => ("DownAmongFences$Flight", "underWay", "I", false)
def tyX2 : Nat → FieldType := fun k => match k with
  | 0 => .int
  | 1 => .int
  | 2 => .int
  | 3 => .int
  | 4 => .int
  | 5 => .int
  | 6 => .int
  | 7 => .int
  | 8 => .int
  | _ => .int
abbrev wsX20 : List Cond := u_ws RX2 TX2 10
theorem nmX2 : ∀ a, a < 10 → ∀ b, b < 10 → a ≠ b → (TX2 a).2.1 ≠ (TX2 b).2.1 := by decide +kernel
theorem tyX2_ok : ∀ k, k < 10 → parseFieldDescriptor (TX2 k).2.2.1 = some (tyX2 k) := by decide +kernel
abbrev cX2_init : ByteArray := prog_4_method_1_code
def yX2_init : MethodName := ⟨RX2, "<init>", "()V"⟩
abbrev cX2_copyFrom : ByteArray := prog_4_method_2_code
def yX2_copyFrom : MethodName := ⟨RX2, "copyFrom", "(LDownAmongFences$Flight;)V"⟩
abbrev cX2_leastOf : ByteArray := prog_4_method_3_code
def yX2_leastOf : MethodName := ⟨RX2, "leastOf", "(I)I"⟩
abbrev cX2_mostOf : ByteArray := prog_4_method_4_code
def yX2_mostOf : MethodName := ⟨RX2, "mostOf", "(I)I"⟩
abbrev cX2_valueOf : ByteArray := prog_4_method_5_code
def yX2_valueOf : MethodName := ⟨RX2, "valueOf", "(I)I"⟩
abbrev cX2_change : ByteArray := prog_4_method_6_code
def yX2_change : MethodName := ⟨RX2, "change", "(II)V"⟩
abbrev cX2_changeLag : ByteArray := prog_4_method_7_code
def yX2_changeLag : MethodName := ⟨RX2, "changeLag", "(I)V"⟩
abbrev cX2_loseWork : ByteArray := prog_4_method_8_code
def yX2_loseWork : MethodName := ⟨RX2, "loseWork", "()V"⟩
abbrev cX2_balance : ByteArray := prog_4_method_9_code
def yX2_balance : MethodName := ⟨RX2, "balance", "()I"⟩
abbrev cX2_climb : ByteArray := prog_4_method_10_code
def yX2_climb : MethodName := ⟨RX2, "climb", "()I"⟩
abbrev cX2_peopleWhoCanLeave : ByteArray := prog_4_method_11_code
def yX2_peopleWhoCanLeave : MethodName := ⟨RX2, "peopleWhoCanLeave", "()I"⟩
abbrev cX2_fly : ByteArray := prog_4_method_12_code
def yX2_fly : MethodName := ⟨RX2, "fly", "(ILDownAmongFences$Air;)V"⟩
abbrev cX2_workOf : ByteArray := prog_4_method_13_code
def yX2_workOf : MethodName := ⟨RX2, "workOf", "(I)I"⟩
abbrev cX2_able : ByteArray := prog_4_method_14_code
def yX2_able : MethodName := ⟨RX2, "able", "(I)I"⟩
abbrev cX2_holdAct : ByteArray := prog_4_method_15_code
def yX2_holdAct : MethodName := ⟨RX2, "holdAct", "()I"⟩
abbrev cX2_feltAct : ByteArray := prog_4_method_16_code
def yX2_feltAct : MethodName := ⟨RX2, "feltAct", "()I"⟩
def RX3 : String := "DownAmongFences$Mind"
def TX3 : u_T := fun k => match k with
  | 0 => ("DownAmongFences$Mind", "air", "LDownAmongFences$Air;", true)
  | 1 => ("DownAmongFences$Mind", "fields", "LDownAmongFences$Fields;", true)
  | 2 => ("DownAmongFences$Mind", "start", "LDownAmongFences$Flight;", true)
  | 3 => ("DownAmongFences$Mind", "held", "LDownAmongFences$Flight;", true)
  | 4 => ("DownAmongFences$Mind", "heldFor", "I", false)
  | 5 => ("DownAmongFences$Mind", "flown", "LDownAmongFences$Flight;", true)
  | 6 => ("DownAmongFences$Mind", "plansFound", "I", false)
  | 7 => ("DownAmongFences$Mind", "firstFound", "I", false)
  | 8 => ("DownAmongFences$Mind", "softestFound", "I", false)
  | 9 => ("DownAmongFences$Mind", "cheapestPlan", "I", false)
  | 10 => ("DownAmongFences$Mind", "cheapestCost", "I", false)
  | 11 => ("DownAmongFences$Mind", "swingAtFirst", "I", false)
  | 12 => ("DownAmongFences$Mind", "swingLater", "I", false)
  | 13 => ("DownAmongFences$Mind", "lotsInFields", "I", false)
  | 14 => ("DownAmongFences$Mind", "lotsCost", "I", false)
  | 15 => ("DownAmongFences$Mind", "topHeight", "I", false)
  | 16 => ("DownAmongFences$Mind", "topStep", "I", false)
  | _ => ("DownAmongFences$Mind", "losses", "[I", true)
def tyX3 : Nat → FieldType := fun k => match k with
  | 0 => .object "DownAmongFences$Air"
  | 1 => .object "DownAmongFences$Fields"
  | 2 => .object "DownAmongFences$Flight"
  | 3 => .object "DownAmongFences$Flight"
  | 4 => .int
  | 5 => .object "DownAmongFences$Flight"
  | 6 => .int
  | 7 => .int
  | 8 => .int
  | 9 => .int
  | 10 => .int
  | 11 => .int
  | 12 => .int
  | 13 => .int
  | 14 => .int
  | 15 => .int
  | 16 => .int
  | _ => .array .int
abbrev wsX30 : List Cond := u_ws RX3 TX3 18
theorem nmX3 : ∀ a, a < 18 → ∀ b, b < 18 → a ≠ b → (TX3 a).2.1 ≠ (TX3 b).2.1 := by decide +kernel
theorem tyX3_ok : ∀ k, k < 18 → parseFieldDescriptor (TX3 k).2.2.1 = some (tyX3 k) := by decide +kernel
abbrev cX3_init : ByteArray := prog_5_method_1_code
def yX3_init : MethodName := ⟨RX3, "<init>", "()V"⟩
abbrev cX3_begin : ByteArray := prog_5_method_2_code
def yX3_begin : MethodName := ⟨RX3, "begin", "(LDownAmongFences$World;)V"⟩
abbrev cX3_rewind : ByteArray := prog_5_method_3_code
def yX3_rewind : MethodName := ⟨RX3, "rewind", "()V"⟩
abbrev cX3_takePeople : ByteArray := prog_5_method_4_code
def yX3_takePeople : MethodName := ⟨RX3, "takePeople", "(I)V"⟩
abbrev cX3_takeGas : ByteArray := prog_5_method_5_code
def yX3_takeGas : MethodName := ⟨RX3, "takeGas", "(I)V"⟩
abbrev cX3_takeLag : ByteArray := prog_5_method_6_code
def yX3_takeLag : MethodName := ⟨RX3, "takeLag", "(I)V"⟩
abbrev cX3_takeSide : ByteArray := prog_5_method_7_code
def yX3_takeSide : MethodName := ⟨RX3, "takeSide", "(I)V"⟩
abbrev cX3_holdFirst : ByteArray := prog_5_method_8_code
def yX3_holdFirst : MethodName := ⟨RX3, "holdFirst", "(I)V"⟩
abbrev cX3_follow : ByteArray := prog_5_method_9_code
def yX3_follow : MethodName := ⟨RX3, "follow", "(II)Z"⟩
abbrev cX3_holdTo : ByteArray := prog_5_method_10_code
def yX3_holdTo : MethodName := ⟨RX3, "holdTo", "(I)V"⟩
abbrev cX3_stepsFlown : ByteArray := prog_5_method_11_code
def yX3_stepsFlown : MethodName := ⟨RX3, "stepsFlown", "()I"⟩
abbrev cX3_fieldThere : ByteArray := prog_5_method_12_code
def yX3_fieldThere : MethodName := ⟨RX3, "fieldThere", "()I"⟩
abbrev cX3_costThere : ByteArray := prog_5_method_13_code
def yX3_costThere : MethodName := ⟨RX3, "costThere", "()I"⟩
abbrev cX3_leadsInto : ByteArray := prog_5_method_14_code
def yX3_leadsInto : MethodName := ⟨RX3, "leadsInto", "(III)Z"⟩
abbrev cX3_seekPlansInto : ByteArray := prog_5_method_15_code
def yX3_seekPlansInto : MethodName := ⟨RX3, "seekPlansInto", "(I)V"⟩
abbrev cX3_seekCheapest : ByteArray := prog_5_method_16_code
def yX3_seekCheapest : MethodName := ⟨RX3, "seekCheapest", "()V"⟩
abbrev cX3_fieldsWithin : ByteArray := prog_5_method_17_code
def yX3_fieldsWithin : MethodName := ⟨RX3, "fieldsWithin", "()I"⟩
abbrev cX3_somePlanLeadsInto : ByteArray := prog_5_method_18_code
def yX3_somePlanLeadsInto : MethodName := ⟨RX3, "somePlanLeadsInto", "(I)Z"⟩
abbrev cX3_hasGasOver : ByteArray := prog_5_method_19_code
def yX3_hasGasOver : MethodName := ⟨RX3, "hasGasOver", "()Z"⟩
abbrev cX3_answerEach : ByteArray := prog_5_method_20_code
def yX3_answerEach : MethodName := ⟨RX3, "answerEach", "(I)V"⟩
abbrev cX3_swingGrows : ByteArray := prog_5_method_21_code
def yX3_swingGrows : MethodName := ⟨RX3, "swingGrows", "()Z"⟩
abbrev cX3_firstHeightUnlike : ByteArray := prog_5_method_22_code
def yX3_firstHeightUnlike : MethodName := ⟨RX3, "firstHeightUnlike", "(LDownAmongFences$Row;)I"⟩
abbrev cX3_flyActs : ByteArray := prog_5_method_23_code
def yX3_flyActs : MethodName := ⟨RX3, "flyActs", "(LDownAmongFences$Row;)V"⟩
abbrev cX3_flyByLot : ByteArray := prog_5_method_24_code
def yX3_flyByLot : MethodName := ⟨RX3, "flyByLot", "(II)V"⟩
abbrev cX3_flyOneByLot : ByteArray := prog_5_method_25_code
def yX3_flyOneByLot : MethodName := ⟨RX3, "flyOneByLot", "(I)I"⟩
abbrev cX3_climbAll : ByteArray := prog_5_method_26_code
def yX3_climbAll : MethodName := ⟨RX3, "climbAll", "()V"⟩
abbrev cX3_playGame : ByteArray := prog_5_method_27_code
def yX3_playGame : MethodName := ⟨RX3, "playGame", "()V"⟩
abbrev cX3_lossBy : ByteArray := prog_5_method_28_code
def yX3_lossBy : MethodName := ⟨RX3, "lossBy", "(II)I"⟩
abbrev cX3_surestLoss : ByteArray := prog_5_method_29_code
def yX3_surestLoss : MethodName := ⟨RX3, "surestLoss", "()I"⟩
abbrev cX3_steadyPair : ByteArray := prog_5_method_30_code
def yX3_steadyPair : MethodName := ⟨RX3, "steadyPair", "()I"⟩
abbrev cX3_leastLossIf : ByteArray := prog_5_method_31_code
def yX3_leastLossIf : MethodName := ⟨RX3, "leastLossIf", "(I)I"⟩
def RX4 : String := "DownAmongFences$Past"
def TX4 : u_T := fun k => match k with
  | 0 => ("DownAmongFences$Past", "length", "I", false)
  | 1 => ("DownAmongFences$Past", "latest", "I", false)
  | _ => ("DownAmongFences$Past", "flights", "[LDownAmongFences$Flight;", true)
def tyX4 : Nat → FieldType := fun k => match k with
  | 0 => .int
  | 1 => .int
  | _ => .array (.object "DownAmongFences$Flight")
abbrev wsX40 : List Cond := u_ws RX4 TX4 3
theorem nmX4 : ∀ a, a < 3 → ∀ b, b < 3 → a ≠ b → (TX4 a).2.1 ≠ (TX4 b).2.1 := by decide +kernel
theorem tyX4_ok : ∀ k, k < 3 → parseFieldDescriptor (TX4 k).2.2.1 = some (tyX4 k) := by decide +kernel
abbrev cX4_init : ByteArray := prog_6_method_1_code
def yX4_init : MethodName := ⟨RX4, "<init>", "()V"⟩
abbrev cX4_add : ByteArray := prog_6_method_2_code
def yX4_add : MethodName := ⟨RX4, "add", "(LDownAmongFences$Flight;)V"⟩
abbrev cX4_takeBack : ByteArray := prog_6_method_3_code
def yX4_takeBack : MethodName := ⟨RX4, "takeBack", "(LDownAmongFences$Flight;)V"⟩
abbrev cX4_forget : ByteArray := prog_6_method_4_code
def yX4_forget : MethodName := ⟨RX4, "forget", "()V"⟩
abbrev cX4_slotOfLatest : ByteArray := prog_6_method_5_code
def yX4_slotOfLatest : MethodName := ⟨RX4, "slotOfLatest", "()LDownAmongFences$Flight;"⟩
def RX5 : String := "DownAmongFences$Reader"
def TX5 : u_T := fun k => match k with
  | _ => ("DownAmongFences$Reader", "letters", "LDownAmongFences$Row;", true)
def tyX5 : Nat → FieldType := fun k => match k with
  | _ => .object "DownAmongFences$Row"
abbrev wsX50 : List Cond := u_ws RX5 TX5 1
theorem nmX5 : ∀ a, a < 1 → ∀ b, b < 1 → a ≠ b → (TX5 a).2.1 ≠ (TX5 b).2.1 := by decide +kernel
theorem tyX5_ok : ∀ k, k < 1 → parseFieldDescriptor (TX5 k).2.2.1 = some (tyX5 k) := by decide +kernel
abbrev cX5_init : ByteArray := prog_7_method_1_code
def yX5_init : MethodName := ⟨RX5, "<init>", "()V"⟩
abbrev cX5_isDigit : ByteArray := prog_7_method_2_code
def yX5_isDigit : MethodName := ⟨RX5, "isDigit", "(I)Z"⟩
abbrev cX5_number : ByteArray := prog_7_method_3_code
def yX5_number : MethodName := ⟨RX5, "number", "(II)I"⟩
abbrev cX5_firstMisplaced : ByteArray := prog_7_method_4_code
def yX5_firstMisplaced : MethodName := ⟨RX5, "firstMisplaced", "()I"⟩
abbrev cX5_tell : ByteArray := prog_7_method_5_code
def yX5_tell : MethodName := ⟨RX5, "tell", "(LDownAmongFences$World;)I"⟩
abbrev cX5_endOf : ByteArray := prog_7_method_6_code
def yX5_endOf : MethodName := ⟨RX5, "endOf", "(I)I"⟩
abbrev cX5_endOfWind : ByteArray := prog_7_method_7_code
def yX5_endOfWind : MethodName := ⟨RX5, "endOfWind", "(I)I"⟩
abbrev cX5_endOfDigits : ByteArray := prog_7_method_8_code
def yX5_endOfDigits : MethodName := ⟨RX5, "endOfDigits", "(III)I"⟩
abbrev cX5_tellStatement : ByteArray := prog_7_method_9_code
def yX5_tellStatement : MethodName := ⟨RX5, "tellStatement", "(IILDownAmongFences$World;)Z"⟩
abbrev cX5_tellWind : ByteArray := prog_7_method_10_code
def yX5_tellWind : MethodName := ⟨RX5, "tellWind", "(ILDownAmongFences$Air;)Z"⟩
abbrev cX5_tellField : ByteArray := prog_7_method_11_code
def yX5_tellField : MethodName := ⟨RX5, "tellField", "(ILDownAmongFences$Fields;)Z"⟩
abbrev cX5_tellRoad : ByteArray := prog_7_method_12_code
def yX5_tellRoad : MethodName := ⟨RX5, "tellRoad", "(ILDownAmongFences$Roads;)Z"⟩
abbrev cX5_tellBalloon : ByteArray := prog_7_method_13_code
def yX5_tellBalloon : MethodName := ⟨RX5, "tellBalloon", "(ILDownAmongFences$Flight;)Z"⟩
abbrev cX5_tellHeight : ByteArray := prog_7_method_14_code
def yX5_tellHeight : MethodName := ⟨RX5, "tellHeight", "(ILDownAmongFences$Flight;)Z"⟩
abbrev cX5_tellLag : ByteArray := prog_7_method_15_code
def yX5_tellLag : MethodName := ⟨RX5, "tellLag", "(ILDownAmongFences$Flight;)Z"⟩
abbrev cX5_tellActs : ByteArray := prog_7_method_16_code
def yX5_tellActs : MethodName := ⟨RX5, "tellActs", "(IILDownAmongFences$World;)Z"⟩
def RX6 : String := "DownAmongFences$Roads"
def TX6 : u_T := fun k => match k with
  | 0 => ("DownAmongFences$Roads", "carPlace", "I", false)
  | _ => ("DownAmongFences$Roads", "lengths", "[I", true)
def tyX6 : Nat → FieldType := fun k => match k with
  | 0 => .int
  | _ => .array .int
abbrev wsX60 : List Cond := u_ws RX6 TX6 2
theorem nmX6 : ∀ a, a < 2 → ∀ b, b < 2 → a ≠ b → (TX6 a).2.1 ≠ (TX6 b).2.1 := by decide +kernel
theorem tyX6_ok : ∀ k, k < 2 → parseFieldDescriptor (TX6 k).2.2.1 = some (tyX6 k) := by decide +kernel
abbrev cX6_init : ByteArray := prog_8_method_1_code
def yX6_init : MethodName := ⟨RX6, "<init>", "()V"⟩
abbrev cX6_copyFrom : ByteArray := prog_8_method_2_code
def yX6_copyFrom : MethodName := ⟨RX6, "copyFrom", "(LDownAmongFences$Roads;)V"⟩
abbrev cX6_between : ByteArray := prog_8_method_3_code
def yX6_between : MethodName := ⟨RX6, "between", "(II)I"⟩
abbrev cX6_lay : ByteArray := prog_8_method_4_code
def yX6_lay : MethodName := ⟨RX6, "lay", "(III)V"⟩
abbrev cX6_nearestTo : ByteArray := prog_8_method_5_code
def yX6_nearestTo : MethodName := ⟨RX6, "nearestTo", "(I)I"⟩
def RX7 : String := "DownAmongFences$Row"
def TX7 : u_T := fun k => match k with
  | 0 => ("DownAmongFences$Row", "length", "I", false)
  | _ => ("DownAmongFences$Row", "told", "[I", true)
def tyX7 : Nat → FieldType := fun k => match k with
  | 0 => .int
  | _ => .array .int
abbrev wsX70 : List Cond := u_ws RX7 TX7 2
theorem nmX7 : ∀ a, a < 2 → ∀ b, b < 2 → a ≠ b → (TX7 a).2.1 ≠ (TX7 b).2.1 := by decide +kernel
theorem tyX7_ok : ∀ k, k < 2 → parseFieldDescriptor (TX7 k).2.2.1 = some (tyX7 k) := by decide +kernel
abbrev cX7_init : ByteArray := prog_9_method_1_code
def yX7_init : MethodName := ⟨RX7, "<init>", "(I)V"⟩
abbrev cX7_isFull : ByteArray := prog_9_method_2_code
def yX7_isFull : MethodName := ⟨RX7, "isFull", "()Z"⟩
abbrev cX7_add : ByteArray := prog_9_method_3_code
def yX7_add : MethodName := ⟨RX7, "add", "(I)I"⟩
abbrev cX7_at : ByteArray := prog_9_method_4_code
def yX7_at : MethodName := ⟨RX7, "at", "(I)I"⟩
abbrev cX7_sum : ByteArray := prog_9_method_5_code
def yX7_sum : MethodName := ⟨RX7, "sum", "()I"⟩
abbrev cX7_drop : ByteArray := prog_9_method_6_code
def yX7_drop : MethodName := ⟨RX7, "drop", "()V"⟩
def RX8 : String := "DownAmongFences$Ways"
def TX8 : u_T := fun k => match k with
  | 0 => ("DownAmongFences$Ways", "shortest", "[I", true)
  | _ => ("DownAmongFences$Ways", "rests", "[I", true)
def tyX8 : Nat → FieldType := fun k => match k with
  | 0 => .array .int
  | _ => .array .int
abbrev wsX80 : List Cond := u_ws RX8 TX8 2
theorem nmX8 : ∀ a, a < 2 → ∀ b, b < 2 → a ≠ b → (TX8 a).2.1 ≠ (TX8 b).2.1 := by decide +kernel
theorem tyX8_ok : ∀ k, k < 2 → parseFieldDescriptor (TX8 k).2.2.1 = some (tyX8 k) := by decide +kernel
abbrev cX8_init : ByteArray := prog_10_method_1_code
def yX8_init : MethodName := ⟨RX8, "<init>", "()V"⟩
abbrev cX8_measure : ByteArray := prog_10_method_2_code
def yX8_measure : MethodName := ⟨RX8, "measure", "(LDownAmongFences$Roads;)V"⟩
abbrev cX8_measureWithout : ByteArray := prog_10_method_3_code
def yX8_measureWithout : MethodName := ⟨RX8, "measureWithout", "(LDownAmongFences$Roads;II)V"⟩
abbrev cX8_takeRoads : ByteArray := prog_10_method_4_code
def yX8_takeRoads : MethodName := ⟨RX8, "takeRoads", "(LDownAmongFences$Roads;)V"⟩
abbrev cX8_joinRoads : ByteArray := prog_10_method_5_code
def yX8_joinRoads : MethodName := ⟨RX8, "joinRoads", "()V"⟩
abbrev cX8_minutes : ByteArray := prog_10_method_6_code
def yX8_minutes : MethodName := ⟨RX8, "minutes", "(II)I"⟩
abbrev cX8_minutesOrNone : ByteArray := prog_10_method_7_code
def yX8_minutesOrNone : MethodName := ⟨RX8, "minutesOrNone", "(II)I"⟩
abbrev cX8_waitFrom : ByteArray := prog_10_method_8_code
def yX8_waitFrom : MethodName := ⟨RX8, "waitFrom", "(ILDownAmongFences$Row;)I"⟩
abbrev cX8_placeToWait : ByteArray := prog_10_method_9_code
def yX8_placeToWait : MethodName := ⟨RX8, "placeToWait", "(LDownAmongFences$Row;)I"⟩
abbrev cX8_seekTours : ByteArray := prog_10_method_10_code
def yX8_seekTours : MethodName := ⟨RX8, "seekTours", "(I)V"⟩
abbrev cX8_fewestFrom : ByteArray := prog_10_method_11_code
def yX8_fewestFrom : MethodName := ⟨RX8, "fewestFrom", "(II)I"⟩
abbrev cX8_throughFirst : ByteArray := prog_10_method_12_code
def yX8_throughFirst : MethodName := ⟨RX8, "throughFirst", "(III)I"⟩
abbrev cX8_restOf : ByteArray := prog_10_method_13_code
def yX8_restOf : MethodName := ⟨RX8, "restOf", "(II)I"⟩
abbrev cX8_tourMinutes : ByteArray := prog_10_method_14_code
def yX8_tourMinutes : MethodName := ⟨RX8, "tourMinutes", "(II)I"⟩
abbrev cX8_tourFirst : ByteArray := prog_10_method_15_code
def yX8_tourFirst : MethodName := ⟨RX8, "tourFirst", "(II)I"⟩
def RX9 : String := "DownAmongFences$World"
def TX9 : u_T := fun k => match k with
  | 0 => ("DownAmongFences$World", "air", "LDownAmongFences$Air;", true)
  | 1 => ("DownAmongFences$World", "fields", "LDownAmongFences$Fields;", true)
  | 2 => ("DownAmongFences$World", "roads", "LDownAmongFences$Roads;", true)
  | _ => ("DownAmongFences$World", "flight", "LDownAmongFences$Flight;", true)
def tyX9 : Nat → FieldType := fun k => match k with
  | 0 => .object "DownAmongFences$Air"
  | 1 => .object "DownAmongFences$Fields"
  | 2 => .object "DownAmongFences$Roads"
  | _ => .object "DownAmongFences$Flight"
abbrev wsX90 : List Cond := u_ws RX9 TX9 4
theorem nmX9 : ∀ a, a < 4 → ∀ b, b < 4 → a ≠ b → (TX9 a).2.1 ≠ (TX9 b).2.1 := by decide +kernel
theorem tyX9_ok : ∀ k, k < 4 → parseFieldDescriptor (TX9 k).2.2.1 = some (tyX9 k) := by decide +kernel
abbrev cX9_init : ByteArray := prog_11_method_1_code
def yX9_init : MethodName := ⟨RX9, "<init>", "()V"⟩
abbrev cX9_copyFrom : ByteArray := prog_11_method_2_code
def yX9_copyFrom : MethodName := ⟨RX9, "copyFrom", "(LDownAmongFences$World;)V"⟩
def RX10 : String := "DownAmongFences"
def TX10 : u_T := fun k => match k with
  | 0 => ("DownAmongFences", "now", "LDownAmongFences$World;", true)
  | 1 => ("DownAmongFences", "told", "LDownAmongFences$World;", true)
  | 2 => ("DownAmongFences", "picture", "LDownAmongFences$World;", true)
  | 3 => ("DownAmongFences", "pictured", "Z", false)
  | 4 => ("DownAmongFences", "past", "LDownAmongFences$Past;", true)
  | 5 => ("DownAmongFences", "reader", "LDownAmongFences$Reader;", true)
  | 6 => ("DownAmongFences", "numbers", "LDownAmongFences$Row;", true)
  | 7 => ("DownAmongFences", "refusals", "[I", true)
  | 8 => ("DownAmongFences", "mind", "LDownAmongFences$Mind;", true)
  | _ => ("DownAmongFences", "ways", "LDownAmongFences$Ways;", true)
def tyX10 : Nat → FieldType := fun k => match k with
  | 0 => .object "DownAmongFences$World"
  | 1 => .object "DownAmongFences$World"
  | 2 => .object "DownAmongFences$World"
  | 3 => .boolean
  | 4 => .object "DownAmongFences$Past"
  | 5 => .object "DownAmongFences$Reader"
  | 6 => .object "DownAmongFences$Row"
  | 7 => .array .int
  | 8 => .object "DownAmongFences$Mind"
  | _ => .object "DownAmongFences$Ways"
abbrev wsX100 : List Cond := u_ws RX10 TX10 10
theorem nmX10 : ∀ a, a < 10 → ∀ b, b < 10 → a ≠ b → (TX10 a).2.1 ≠ (TX10 b).2.1 := by decide +kernel
theorem tyX10_ok : ∀ k, k < 10 → parseFieldDescriptor (TX10 k).2.2.1 = some (tyX10 k) := by decide +kernel
abbrev cX10_init : ByteArray := prog_1_method_1_code
def yX10_init : MethodName := ⟨RX10, "<init>", "()V"⟩
abbrev cX10_feed : ByteArray := prog_1_method_2_code
def yX10_feed : MethodName := ⟨RX10, "feed", "(I)I"⟩
abbrev cX10_land : ByteArray := prog_1_method_3_code
def yX10_land : MethodName := ⟨RX10, "land", "()I"⟩
abbrev cX10_layer : ByteArray := prog_1_method_4_code
def yX10_layer : MethodName := ⟨RX10, "layer", "(II)I"⟩
abbrev cX10_wind : ByteArray := prog_1_method_5_code
def yX10_wind : MethodName := ⟨RX10, "wind", "(III)I"⟩
abbrev cX10_field : ByteArray := prog_1_method_6_code
def yX10_field : MethodName := ⟨RX10, "field", "(II)I"⟩
abbrev cX10_cost : ByteArray := prog_1_method_7_code
def yX10_cost : MethodName := ⟨RX10, "cost", "(II)I"⟩
abbrev cX10_drag : ByteArray := prog_1_method_8_code
def yX10_drag : MethodName := ⟨RX10, "drag", "(I)I"⟩
abbrev cX10_set : ByteArray := prog_1_method_9_code
def yX10_set : MethodName := ⟨RX10, "set", "(II)I"⟩
abbrev cX10_rising : ByteArray := prog_1_method_10_code
def yX10_rising : MethodName := ⟨RX10, "rising", "()I"⟩
abbrev cX10_go : ByteArray := prog_1_method_11_code
def yX10_go : MethodName := ⟨RX10, "go", "(I)I"⟩
abbrev cX10_back : ByteArray := prog_1_method_12_code
def yX10_back : MethodName := ⟨RX10, "back", "()I"⟩
abbrev cX10_plan : ByteArray := prog_1_method_13_code
def yX10_plan : MethodName := ⟨RX10, "plan", "(III)I"⟩
abbrev cX10_had : ByteArray := prog_1_method_14_code
def yX10_had : MethodName := ⟨RX10, "had", "(II)I"⟩
abbrev cX10_best : ByteArray := prog_1_method_15_code
def yX10_best : MethodName := ⟨RX10, "best", "(I)I"⟩
abbrev cX10_left : ByteArray := prog_1_method_16_code
def yX10_left : MethodName := ⟨RX10, "left", "()I"⟩
abbrev cX10_keep : ByteArray := prog_1_method_17_code
def yX10_keep : MethodName := ⟨RX10, "keep", "(I)I"⟩
abbrev cX10_goingOn : ByteArray := prog_1_method_18_code
def yX10_goingOn : MethodName := ⟨RX10, "goingOn", "(I)I"⟩
abbrev cX10_blown : ByteArray := prog_1_method_19_code
def yX10_blown : MethodName := ⟨RX10, "blown", "(I)I"⟩
abbrev cX10_two : ByteArray := prog_1_method_20_code
def yX10_two : MethodName := ⟨RX10, "two", "(III)I"⟩
abbrev cX10_swing : ByteArray := prog_1_method_21_code
def yX10_swing : MethodName := ⟨RX10, "swing", "(I)I"⟩
abbrev cX10_calm : ByteArray := prog_1_method_22_code
def yX10_calm : MethodName := ⟨RX10, "calm", "()I"⟩
abbrev cX10_out : ByteArray := prog_1_method_23_code
def yX10_out : MethodName := ⟨RX10, "out", "()I"⟩
abbrev cX10_road : ByteArray := prog_1_method_24_code
def yX10_road : MethodName := ⟨RX10, "road", "(III)I"⟩
abbrev cX10_car : ByteArray := prog_1_method_25_code
def yX10_car : MethodName := ⟨RX10, "car", "(I)I"⟩
abbrev cX10_drive : ByteArray := prog_1_method_26_code
def yX10_drive : MethodName := ⟨RX10, "drive", "(I)I"⟩
abbrev cX10_waitAt : ByteArray := prog_1_method_27_code
def yX10_waitAt : MethodName := ⟨RX10, "waitAt", "()I"⟩
abbrev cX10_meanWait : ByteArray := prog_1_method_28_code
def yX10_meanWait : MethodName := ⟨RX10, "meanWait", "(I)J"⟩
abbrev cX10_turned : ByteArray := prog_1_method_29_code
def yX10_turned : MethodName := ⟨RX10, "turned", "(II)I"⟩
abbrev cX10_track : ByteArray := prog_1_method_30_code
def yX10_track : MethodName := ⟨RX10, "track", "(I)I"⟩
abbrev cX10_row : ByteArray := prog_1_method_31_code
def yX10_row : MethodName := ⟨RX10, "row", "(I)I"⟩
abbrev cX10_judge : ByteArray := prog_1_method_32_code
def yX10_judge : MethodName := ⟨RX10, "judge", "()I"⟩
abbrev cX10_clear : ByteArray := prog_1_method_33_code
def yX10_clear : MethodName := ⟨RX10, "clear", "()I"⟩
abbrev cX10_lots : ByteArray := prog_1_method_34_code
def yX10_lots : MethodName := ⟨RX10, "lots", "(III)I"⟩
abbrev cX10_crew : ByteArray := prog_1_method_35_code
def yX10_crew : MethodName := ⟨RX10, "crew", "(I)I"⟩
abbrev cX10_whichLag : ByteArray := prog_1_method_36_code
def yX10_whichLag : MethodName := ⟨RX10, "whichLag", "()I"⟩
abbrev cX10_windFor : ByteArray := prog_1_method_37_code
def yX10_windFor : MethodName := ⟨RX10, "windFor", "(IIII)I"⟩
abbrev cX10_span : ByteArray := prog_1_method_38_code
def yX10_span : MethodName := ⟨RX10, "span", "(III)I"⟩
abbrev cX10_flown : ByteArray := prog_1_method_39_code
def yX10_flown : MethodName := ⟨RX10, "flown", "(I)I"⟩
abbrev cX10_ceiling : ByteArray := prog_1_method_40_code
def yX10_ceiling : MethodName := ⟨RX10, "ceiling", "(I)I"⟩
abbrev cX10_game : ByteArray := prog_1_method_41_code
def yX10_game : MethodName := ⟨RX10, "game", "(I)I"⟩
abbrev cX10_another : ByteArray := prog_1_method_42_code
def yX10_another : MethodName := ⟨RX10, "another", "(III)I"⟩
abbrev cX10_chase : ByteArray := prog_1_method_43_code
def yX10_chase : MethodName := ⟨RX10, "chase", "(III)I"⟩
abbrev cX10_tour : ByteArray := prog_1_method_44_code
def yX10_tour : MethodName := ⟨RX10, "tour", "(II)I"⟩
abbrev cX10_twoCars : ByteArray := prog_1_method_45_code
def yX10_twoCars : MethodName := ⟨RX10, "twoCars", "(I)I"⟩
abbrev cX10_image : ByteArray := prog_1_method_46_code
def yX10_image : MethodName := ⟨RX10, "image", "()I"⟩
abbrev cX10_restore : ByteArray := prog_1_method_47_code
def yX10_restore : MethodName := ⟨RX10, "restore", "()I"⟩
abbrev cX10_count : ByteArray := prog_1_method_48_code
def yX10_count : MethodName := ⟨RX10, "count", "(I)I"⟩
abbrev cX10_refuse : ByteArray := prog_1_method_49_code
def yX10_refuse : MethodName := ⟨RX10, "refuse", "(I)I"⟩
abbrev cX10_planRefusal : ByteArray := prog_1_method_50_code
def yX10_planRefusal : MethodName := ⟨RX10, "planRefusal", "(IIII)I"⟩
abbrev cX10_isField : ByteArray := prog_1_method_51_code
def yX10_isField : MethodName := ⟨RX10, "isField", "(I)Z"⟩
abbrev cX10_isLayer : ByteArray := prog_1_method_52_code
def yX10_isLayer : MethodName := ⟨RX10, "isLayer", "(I)Z"⟩
abbrev cX10_isPlace : ByteArray := prog_1_method_53_code
def yX10_isPlace : MethodName := ⟨RX10, "isPlace", "(I)Z"⟩
abbrev cX10_areTwoPlaces : ByteArray := prog_1_method_54_code
def yX10_areTwoPlaces : MethodName := ⟨RX10, "areTwoPlaces", "(II)Z"⟩
abbrev cX10_between : ByteArray := prog_1_method_55_code
def yX10_between : MethodName := ⟨RX10, "between", "(III)I"⟩
abbrev cX10_sharedMeasure : ByteArray := prog_1_method_56_code
def yX10_sharedMeasure : MethodName := ⟨RX10, "sharedMeasure", "(II)I"⟩
def RX11 : String := "DownAmongFencesModel"
def TX11 : u_T := fun k => match k with
  | 0 => ("DownAmongFencesModel", "sides", "[I", true)
  | 1 => ("DownAmongFencesModel", "aheads", "[I", true)
  | 2 => ("DownAmongFencesModel", "height", "I", false)
  | 3 => ("DownAmongFencesModel", "x", "I", false)
  | 4 => ("DownAmongFencesModel", "y", "I", false)
  | 5 => ("DownAmongFencesModel", "heat", "I", false)
  | 6 => ("DownAmongFencesModel", "gas", "I", false)
  | 7 => ("DownAmongFencesModel", "people", "I", false)
  | 8 => ("DownAmongFencesModel", "lag", "I", false)
  | 9 => ("DownAmongFencesModel", "step", "I", false)
  | 10 => ("DownAmongFencesModel", "works", "[I", true)
  | 11 => ("DownAmongFencesModel", "fields", "I", false)
  | 12 => ("DownAmongFencesModel", "kinds", "[I", true)
  | 13 => ("DownAmongFencesModel", "figures", "[I", true)
  | 14 => ("DownAmongFencesModel", "xs", "[I", true)
  | 15 => ("DownAmongFencesModel", "ys", "[I", true)
  | 16 => ("DownAmongFencesModel", "sizes", "[I", true)
  | 17 => ("DownAmongFencesModel", "roads", "[I", true)
  | 18 => ("DownAmongFencesModel", "car", "I", false)
  | 19 => ("DownAmongFencesModel", "thrown", "I", false)
  | 20 => ("DownAmongFencesModel", "refusals", "[I", true)
  | 21 => ("DownAmongFencesModel", "pace", "I", false)
  | 22 => ("DownAmongFencesModel", "letters", "[I", true)
  | 23 => ("DownAmongFencesModel", "letterMany", "I", false)
  | 24 => ("DownAmongFencesModel", "at", "I", false)
  | 25 => ("DownAmongFencesModel", "isBad", "Z", false)
  | 26 => ("DownAmongFencesModel", "statements", "I", false)
  | 27 => ("DownAmongFencesModel", "placeIn", "[I", true)
  | 28 => ("DownAmongFencesModel", "letterOf", "[I", true)
  | 29 => ("DownAmongFencesModel", "told", "[I", true)
  | 30 => ("DownAmongFencesModel", "acts", "[I", true)
  | 31 => ("DownAmongFencesModel", "kept", "[I", true)
  | 32 => ("DownAmongFencesModel", "imaged", "[I", true)
  | 33 => ("DownAmongFencesModel", "hasImage", "Z", false)
  | 34 => ("DownAmongFencesModel", "place0", "I", false)
  | 35 => ("DownAmongFencesModel", "isTaking", "Z", false)
  | 36 => ("DownAmongFencesModel", "keptIn", "[I", false)
  | 37 => ("DownAmongFencesModel", "thought", "[I", true)
  | 38 => ("DownAmongFencesModel", "turns", "[I", true)
  | 39 => ("DownAmongFencesModel", "one", "[I", true)
  | 40 => ("DownAmongFencesModel", "turnedBack", "I", false)
  | 41 => ("DownAmongFencesModel", "comesDown", "Z", false)
  | 42 => ("DownAmongFencesModel", "downPace", "I", false)
  | 43 => ("DownAmongFencesModel", "downSteps", "I", false)
  | 44 => ("DownAmongFencesModel", "hadMany", "I", false)
  | 45 => ("DownAmongFencesModel", "hadFirst", "I", false)
  | 46 => ("DownAmongFencesModel", "hadSoftest", "I", false)
  | 47 => ("DownAmongFencesModel", "bestCode", "I", false)
  | 48 => ("DownAmongFencesModel", "bestCost", "I", false)
  | 49 => ("DownAmongFencesModel", "leftBits", "I", false)
  | 50 => ("DownAmongFencesModel", "outer", "[I", true)
  | 51 => ("DownAmongFencesModel", "swingFirst", "I", false)
  | 52 => ("DownAmongFencesModel", "swingLater", "I", false)
  | 53 => ("DownAmongFencesModel", "minutes", "[I", true)
  | 54 => ("DownAmongFencesModel", "losses", "[I", true)
  | 55 => ("DownAmongFencesModel", "between", "[I", true)
  | 56 => ("DownAmongFencesModel", "tours", "[I", true)
  | 57 => ("DownAmongFencesModel", "row", "[I", true)
  | _ => ("DownAmongFencesModel", "rowMany", "I", false)
def tyX11 : Nat → FieldType := fun k => match k with
  | 0 => .array .int
  | 1 => .array .int
  | 2 => .int
  | 3 => .int
  | 4 => .int
  | 5 => .int
  | 6 => .int
  | 7 => .int
  | 8 => .int
  | 9 => .int
  | 10 => .array .int
  | 11 => .int
  | 12 => .array .int
  | 13 => .array .int
  | 14 => .array .int
  | 15 => .array .int
  | 16 => .array .int
  | 17 => .array .int
  | 18 => .int
  | 19 => .int
  | 20 => .array .int
  | 21 => .int
  | 22 => .array .int
  | 23 => .int
  | 24 => .int
  | 25 => .boolean
  | 26 => .int
  | 27 => .array .int
  | 28 => .array .int
  | 29 => .array .int
  | 30 => .array .int
  | 31 => .array .int
  | 32 => .array .int
  | 33 => .boolean
  | 34 => .int
  | 35 => .boolean
  | 36 => .array .int
  | 37 => .array .int
  | 38 => .array .int
  | 39 => .array .int
  | 40 => .int
  | 41 => .boolean
  | 42 => .int
  | 43 => .int
  | 44 => .int
  | 45 => .int
  | 46 => .int
  | 47 => .int
  | 48 => .int
  | 49 => .int
  | 50 => .array .int
  | 51 => .int
  | 52 => .int
  | 53 => .array .int
  | 54 => .array .int
  | 55 => .array .int
  | 56 => .array .int
  | 57 => .array .int
  | _ => .int
abbrev wsX110 : List Cond := u_ws RX11 TX11 59
theorem nmX11 : ∀ a, a < 59 → ∀ b, b < 59 → a ≠ b → (TX11 a).2.1 ≠ (TX11 b).2.1 := by decide +kernel
theorem tyX11_ok : ∀ k, k < 59 → parseFieldDescriptor (TX11 k).2.2.1 = some (tyX11 k) := by decide +kernel
abbrev cX11_init : ByteArray := prog_13_method_1_code
def yX11_init : MethodName := ⟨RX11, "<init>", "()V"⟩
abbrev cX11_in : ByteArray := prog_13_method_3_code
def yX11_in : MethodName := ⟨RX11, "in", "(JJJ)Z"⟩
abbrev cX11_refuse : ByteArray := prog_13_method_4_code
def yX11_refuse : MethodName := ⟨RX11, "refuse", "(I)I"⟩
abbrev cX11_wrongNumber : ByteArray := prog_13_method_5_code
def yX11_wrongNumber : MethodName := ⟨RX11, "wrongNumber", "(III)I"⟩
abbrev cX11_wrongBit : ByteArray := prog_13_method_6_code
def yX11_wrongBit : MethodName := ⟨RX11, "wrongBit", "(III)I"⟩
abbrev cX11_held : ByteArray := prog_13_method_7_code
def yX11_held : MethodName := ⟨RX11, "held", "(II)I"⟩
abbrev cX11_plainly : ByteArray := prog_13_method_8_code
def yX11_plainly : MethodName := ⟨RX11, "plainly", "(I)I"⟩
abbrev cX11_isField : ByteArray := prog_13_method_9_code
def yX11_isField : MethodName := ⟨RX11, "isField", "(I)Z"⟩
abbrev cX11_isPlace : ByteArray := prog_13_method_10_code
def yX11_isPlace : MethodName := ⟨RX11, "isPlace", "(I)Z"⟩
abbrev cX11_balance : ByteArray := prog_13_method_11_code
def yX11_balance : MethodName := ⟨RX11, "balance", "()I"⟩
abbrev cX11_risingNow : ByteArray := prog_13_method_12_code
def yX11_risingNow : MethodName := ⟨RX11, "risingNow", "()I"⟩
abbrev cX11_stepOn : ByteArray := prog_13_method_13_code
def yX11_stepOn : MethodName := ⟨RX11, "stepOn", "(I)V"⟩
abbrev cX11_forgetWork : ByteArray := prog_13_method_14_code
def yX11_forgetWork : MethodName := ⟨RX11, "forgetWork", "()V"⟩
abbrev cX11_workUnderWay : ByteArray := prog_13_method_15_code
def yX11_workUnderWay : MethodName := ⟨RX11, "workUnderWay", "()I"⟩
abbrev cX11_holdOn : ByteArray := prog_13_method_16_code
def yX11_holdOn : MethodName := ⟨RX11, "holdOn", "()V"⟩
abbrev cX11_fieldAt : ByteArray := prog_13_method_17_code
def yX11_fieldAt : MethodName := ⟨RX11, "fieldAt", "()I"⟩
abbrev cX11_dragOf : ByteArray := prog_13_method_18_code
def yX11_dragOf : MethodName := ⟨RX11, "dragOf", "(I)I"⟩
abbrev cX11_costOf : ByteArray := prog_13_method_19_code
def yX11_costOf : MethodName := ⟨RX11, "costOf", "(II)I"⟩
abbrev cX11_feed : ByteArray := prog_13_method_20_code
def yX11_feed : MethodName := ⟨RX11, "feed", "(I)I"⟩
abbrev cX11_here : ByteArray := prog_13_method_21_code
def yX11_here : MethodName := ⟨RX11, "here", "()I"⟩
abbrev cX11_readDigits : ByteArray := prog_13_method_22_code
def yX11_readDigits : MethodName := ⟨RX11, "readDigits", "(I)I"⟩
abbrev cX11_readSigned : ByteArray := prog_13_method_23_code
def yX11_readSigned : MethodName := ⟨RX11, "readSigned", "()I"⟩
abbrev cX11_isLetter : ByteArray := prog_13_method_24_code
def yX11_isLetter : MethodName := ⟨RX11, "isLetter", "(I)Z"⟩
abbrev cX11_readActs : ByteArray := prog_13_method_25_code
def yX11_readActs : MethodName := ⟨RX11, "readActs", "(I)V"⟩
abbrev cX11_readStatement : ByteArray := prog_13_method_26_code
def yX11_readStatement : MethodName := ⟨RX11, "readStatement", "()V"⟩
abbrev cX11_fieldComes : ByteArray := prog_13_method_27_code
def yX11_fieldComes : MethodName := ⟨RX11, "fieldComes", "(I)Z"⟩
abbrev cX11_lagBecomes : ByteArray := prog_13_method_28_code
def yX11_lagBecomes : MethodName := ⟨RX11, "lagBecomes", "(I)V"⟩
abbrev cX11_settingsCome : ByteArray := prog_13_method_29_code
def yX11_settingsCome : MethodName := ⟨RX11, "settingsCome", "(I)Z"⟩
abbrev cX11_actsCome : ByteArray := prog_13_method_30_code
def yX11_actsCome : MethodName := ⟨RX11, "actsCome", "(I)Z"⟩
abbrev cX11_putRoad : ByteArray := prog_13_method_31_code
def yX11_putRoad : MethodName := ⟨RX11, "putRoad", "(III)V"⟩
abbrev cX11_comes : ByteArray := prog_13_method_32_code
def yX11_comes : MethodName := ⟨RX11, "comes", "(I)Z"⟩
abbrev cX11_land : ByteArray := prog_13_method_33_code
def yX11_land : MethodName := ⟨RX11, "land", "()I"⟩
abbrev cX11_carry : ByteArray := prog_13_method_34_code
def yX11_carry : MethodName := ⟨RX11, "carry", "(I)I"⟩
abbrev cX11_carryFlight : ByteArray := prog_13_method_35_code
def yX11_carryFlight : MethodName := ⟨RX11, "carryFlight", "()V"⟩
abbrev cX11_carryAll : ByteArray := prog_13_method_36_code
def yX11_carryAll : MethodName := ⟨RX11, "carryAll", "([IZ)V"⟩
abbrev cX11_open : ByteArray := prog_13_method_37_code
def yX11_open : MethodName := ⟨RX11, "open", "()V"⟩
abbrev cX11_again : ByteArray := prog_13_method_38_code
def yX11_again : MethodName := ⟨RX11, "again", "()V"⟩
abbrev cX11_image : ByteArray := prog_13_method_39_code
def yX11_image : MethodName := ⟨RX11, "image", "()I"⟩
abbrev cX11_restore : ByteArray := prog_13_method_40_code
def yX11_restore : MethodName := ⟨RX11, "restore", "()I"⟩
abbrev cX11_layer : ByteArray := prog_13_method_41_code
def yX11_layer : MethodName := ⟨RX11, "layer", "(II)I"⟩
abbrev cX11_wind : ByteArray := prog_13_method_42_code
def yX11_wind : MethodName := ⟨RX11, "wind", "(III)I"⟩
abbrev cX11_field : ByteArray := prog_13_method_43_code
def yX11_field : MethodName := ⟨RX11, "field", "(II)I"⟩
abbrev cX11_cost : ByteArray := prog_13_method_44_code
def yX11_cost : MethodName := ⟨RX11, "cost", "(II)I"⟩
abbrev cX11_drag : ByteArray := prog_13_method_45_code
def yX11_drag : MethodName := ⟨RX11, "drag", "(I)I"⟩
abbrev cX11_settingOf : ByteArray := prog_13_method_46_code
def yX11_settingOf : MethodName := ⟨RX11, "settingOf", "(I)I"⟩
abbrev cX11_set : ByteArray := prog_13_method_47_code
def yX11_set : MethodName := ⟨RX11, "set", "(II)I"⟩
abbrev cX11_rising : ByteArray := prog_13_method_48_code
def yX11_rising : MethodName := ⟨RX11, "rising", "()I"⟩
abbrev cX11_keepTurn : ByteArray := prog_13_method_49_code
def yX11_keepTurn : MethodName := ⟨RX11, "keepTurn", "()V"⟩
abbrev cX11_go : ByteArray := prog_13_method_50_code
def yX11_go : MethodName := ⟨RX11, "go", "(I)I"⟩
abbrev cX11_back : ByteArray := prog_13_method_51_code
def yX11_back : MethodName := ⟨RX11, "back", "()I"⟩
abbrev cX11_planOn : ByteArray := prog_13_method_52_code
def yX11_planOn : MethodName := ⟨RX11, "planOn", "(II)V"⟩
abbrev cX11_planTold : ByteArray := prog_13_method_53_code
def yX11_planTold : MethodName := ⟨RX11, "planTold", "(I)I"⟩
abbrev cX11_plan : ByteArray := prog_13_method_54_code
def yX11_plan : MethodName := ⟨RX11, "plan", "(III)I"⟩
abbrev cX11_seekPlans : ByteArray := prog_13_method_55_code
def yX11_seekPlans : MethodName := ⟨RX11, "seekPlans", "(I)V"⟩
abbrev cX11_had : ByteArray := prog_13_method_56_code
def yX11_had : MethodName := ⟨RX11, "had", "(II)I"⟩
abbrev cX11_seekBest : ByteArray := prog_13_method_57_code
def yX11_seekBest : MethodName := ⟨RX11, "seekBest", "()V"⟩
abbrev cX11_best : ByteArray := prog_13_method_58_code
def yX11_best : MethodName := ⟨RX11, "best", "(I)I"⟩
abbrev cX11_left : ByteArray := prog_13_method_59_code
def yX11_left : MethodName := ⟨RX11, "left", "()I"⟩
abbrev cX11_keep : ByteArray := prog_13_method_60_code
def yX11_keep : MethodName := ⟨RX11, "keep", "(I)I"⟩
abbrev cX11_goingOn : ByteArray := prog_13_method_61_code
def yX11_goingOn : MethodName := ⟨RX11, "goingOn", "(I)I"⟩
abbrev cX11_blown : ByteArray := prog_13_method_62_code
def yX11_blown : MethodName := ⟨RX11, "blown", "(I)I"⟩
abbrev cX11_twoBy : ByteArray := prog_13_method_63_code
def yX11_twoBy : MethodName := ⟨RX11, "twoBy", "(III)I"⟩
abbrev cX11_two : ByteArray := prog_13_method_64_code
def yX11_two : MethodName := ⟨RX11, "two", "(III)I"⟩
abbrev cX11_swingBy : ByteArray := prog_13_method_65_code
def yX11_swingBy : MethodName := ⟨RX11, "swingBy", "(I)V"⟩
abbrev cX11_swing : ByteArray := prog_13_method_66_code
def yX11_swing : MethodName := ⟨RX11, "swing", "(I)I"⟩
abbrev cX11_calm : ByteArray := prog_13_method_67_code
def yX11_calm : MethodName := ⟨RX11, "calm", "()I"⟩
abbrev cX11_out : ByteArray := prog_13_method_68_code
def yX11_out : MethodName := ⟨RX11, "out", "()I"⟩
abbrev cX11_driveFrom : ByteArray := prog_13_method_69_code
def yX11_driveFrom : MethodName := ⟨RX11, "driveFrom", "(I)V"⟩
abbrev cX11_road : ByteArray := prog_13_method_70_code
def yX11_road : MethodName := ⟨RX11, "road", "(III)I"⟩
abbrev cX11_car : ByteArray := prog_13_method_71_code
def yX11_car : MethodName := ⟨RX11, "car", "(I)I"⟩
abbrev cX11_drive : ByteArray := prog_13_method_72_code
def yX11_drive : MethodName := ⟨RX11, "drive", "(I)I"⟩
abbrev cX11_waitSum : ByteArray := prog_13_method_73_code
def yX11_waitSum : MethodName := ⟨RX11, "waitSum", "(I)I"⟩
abbrev cX11_waitBest : ByteArray := prog_13_method_74_code
def yX11_waitBest : MethodName := ⟨RX11, "waitBest", "()I"⟩
abbrev cX11_waitAt : ByteArray := prog_13_method_75_code
def yX11_waitAt : MethodName := ⟨RX11, "waitAt", "()I"⟩
abbrev cX11_divisor : ByteArray := prog_13_method_76_code
def yX11_divisor : MethodName := ⟨RX11, "divisor", "(JJ)J"⟩
abbrev cX11_meanWait : ByteArray := prog_13_method_77_code
def yX11_meanWait : MethodName := ⟨RX11, "meanWait", "(I)J"⟩
abbrev cX11_turned : ByteArray := prog_13_method_78_code
def yX11_turned : MethodName := ⟨RX11, "turned", "(II)I"⟩
abbrev cX11_crew : ByteArray := prog_13_method_79_code
def yX11_crew : MethodName := ⟨RX11, "crew", "(I)I"⟩
abbrev cX11_whichLag : ByteArray := prog_13_method_80_code
def yX11_whichLag : MethodName := ⟨RX11, "whichLag", "()I"⟩
abbrev cX11_comesTo : ByteArray := prog_13_method_81_code
def yX11_comesTo : MethodName := ⟨RX11, "comesTo", "(III)Z"⟩
abbrev cX11_windFor : ByteArray := prog_13_method_82_code
def yX11_windFor : MethodName := ⟨RX11, "windFor", "(IIII)I"⟩
abbrev cX11_span : ByteArray := prog_13_method_83_code
def yX11_span : MethodName := ⟨RX11, "span", "(III)I"⟩
abbrev cX11_flown : ByteArray := prog_13_method_84_code
def yX11_flown : MethodName := ⟨RX11, "flown", "(I)I"⟩
abbrev cX11_ceiling : ByteArray := prog_13_method_85_code
def yX11_ceiling : MethodName := ⟨RX11, "ceiling", "(I)I"⟩
abbrev cX11_turnAir : ByteArray := prog_13_method_86_code
def yX11_turnAir : MethodName := ⟨RX11, "turnAir", "()V"⟩
abbrev cX11_layGame : ByteArray := prog_13_method_87_code
def yX11_layGame : MethodName := ⟨RX11, "layGame", "()V"⟩
abbrev cX11_greaterLoss : ByteArray := prog_13_method_88_code
def yX11_greaterLoss : MethodName := ⟨RX11, "greaterLoss", "(I)I"⟩
abbrev cX11_restingPair : ByteArray := prog_13_method_89_code
def yX11_restingPair : MethodName := ⟨RX11, "restingPair", "()I"⟩
abbrev cX11_game : ByteArray := prog_13_method_90_code
def yX11_game : MethodName := ⟨RX11, "game", "(I)I"⟩
abbrev cX11_another : ByteArray := prog_13_method_91_code
def yX11_another : MethodName := ⟨RX11, "another", "(III)I"⟩
abbrev cX11_placeNear : ByteArray := prog_13_method_92_code
def yX11_placeNear : MethodName := ⟨RX11, "placeNear", "(I)I"⟩
abbrev cX11_chase : ByteArray := prog_13_method_93_code
def yX11_chase : MethodName := ⟨RX11, "chase", "(III)I"⟩
abbrev cX11_layBetween : ByteArray := prog_13_method_94_code
def yX11_layBetween : MethodName := ⟨RX11, "layBetween", "()V"⟩
abbrev cX11_layTours : ByteArray := prog_13_method_95_code
def yX11_layTours : MethodName := ⟨RX11, "layTours", "()V"⟩
abbrev cX11_tour : ByteArray := prog_13_method_96_code
def yX11_tour : MethodName := ⟨RX11, "tour", "(II)I"⟩
abbrev cX11_twoCars : ByteArray := prog_13_method_97_code
def yX11_twoCars : MethodName := ⟨RX11, "twoCars", "(I)I"⟩
abbrev cX11_fitsLayer : ByteArray := prog_13_method_98_code
def yX11_fitsLayer : MethodName := ⟨RX11, "fitsLayer", "(II)Z"⟩
abbrev cX11_track : ByteArray := prog_13_method_99_code
def yX11_track : MethodName := ⟨RX11, "track", "(I)I"⟩
abbrev cX11_row : ByteArray := prog_13_method_100_code
def yX11_row : MethodName := ⟨RX11, "row", "(I)I"⟩
abbrev cX11_judge : ByteArray := prog_13_method_101_code
def yX11_judge : MethodName := ⟨RX11, "judge", "()I"⟩
abbrev cX11_clear : ByteArray := prog_13_method_102_code
def yX11_clear : MethodName := ⟨RX11, "clear", "()I"⟩
abbrev cX11_lots : ByteArray := prog_13_method_103_code
def yX11_lots : MethodName := ⟨RX11, "lots", "(III)I"⟩
abbrev cX11_count : ByteArray := prog_13_method_104_code
def yX11_count : MethodName := ⟨RX11, "count", "(I)I"⟩
def RJ9 : String := "java/lang/Math"
def TJ9 : u_T := fun k => match k with
  | _ => ("", "", "", false)
def tyJ9 : Nat → FieldType := fun k => match k with
  | _ => .int
abbrev wsJ90 : List Cond := u_ws RJ9 TJ9 0
theorem nmJ9 : ∀ a, a < 0 → ∀ b, b < 0 → a ≠ b → (TJ9 a).2.1 ≠ (TJ9 b).2.1 := by decide +kernel
theorem tyJ9_ok : ∀ k, k < 0 → parseFieldDescriptor (TJ9 k).2.2.1 = some (tyJ9 k) := by decide +kernel
abbrev cJ9_abs_0f7a4 : ByteArray := prog_14_method_59_code
def yJ9_abs_0f7a4 : MethodName := ⟨RJ9, "abs", "(I)I"⟩
abbrev cJ9_max_7cf53 : ByteArray := prog_14_method_65_code
def yJ9_max_7cf53 : MethodName := ⟨RJ9, "max", "(II)I"⟩
abbrev cJ9_min_7cf53 : ByteArray := prog_14_method_69_code
def yJ9_min_7cf53 : MethodName := ⟨RJ9, "min", "(II)I"⟩
def RL : String := "DownAmongFencesLaw"
abbrev cL_law : ByteArray := code
def yL_law : MethodName := ⟨RL, "law", "([I)Z"⟩
abbrev vwCl : List vw_C := [(RX0, TX0, 2), (RX1, TX1, 6), (RX2, TX2, 10), (RX3, TX3, 18), (RX4, TX4, 3), (RX5, TX5, 1), (RX6, TX6, 2), (RX7, TX7, 2), (RX8, TX8, 2), (RX9, TX9, 4), (RX10, TX10, 10), (RX11, TX11, 59)]
