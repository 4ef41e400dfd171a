-- (began as printed text of this claim: PART A and names)
-- ===== PART A: goes FIRST, ahead of the names: the tables' words, and 'selects' of the private methods out of them =====
/-- a private method of a class that the tables say can be made, by its rows of tables_1 -/
def lw_okq (q : MethodName × Nat) : Prop := (q.1.cls ≠ "java/lang/invoke/MethodHandle" ∧ q.1.cls ≠ "java/lang/invoke/VarHandle") ∧ Cond.instantiable q.1.cls q.2 ∈ tables_1 ∧ Cond.privateMethod q.1 ∈ tables_1 ∧ Cond.instanceMethod q.1 ∈ tables_1
theorem lw_p0 : lw_okq (⟨"FourAskOne", "shelfAt", "(I)LFourAskOne$Shelf;"⟩, 9) := ⟨⟨by decide +kernel, by decide +kernel⟩, List.mem_of_getElem? (i := 22) (by decide +kernel), List.mem_of_getElem? (i := 158) (by decide +kernel), List.mem_of_getElem? (i := 159) (by decide +kernel)⟩
theorem lw_p1 : lw_okq (⟨"FourAskOne", "refuse", "(I)I"⟩, 9) := ⟨⟨by decide +kernel, by decide +kernel⟩, List.mem_of_getElem? (i := 22) (by decide +kernel), List.mem_of_getElem? (i := 162) (by decide +kernel), List.mem_of_getElem? (i := 163) (by decide +kernel)⟩
theorem lw_p2 : lw_okq (⟨"FourAskOne$Shelf", "lowestBits", "(J)J"⟩, 4) := ⟨⟨by decide +kernel, by decide +kernel⟩, List.mem_of_getElem? (i := 31) (by decide +kernel), List.mem_of_getElem? (i := 203) (by decide +kernel), List.mem_of_getElem? (i := 204) (by decide +kernel)⟩
theorem lw_p3 : lw_okq (⟨"FourAskOne", "saysAs", "(LFourAskOne$Way;I)I"⟩, 9) := ⟨⟨by decide +kernel, by decide +kernel⟩, List.mem_of_getElem? (i := 22) (by decide +kernel), List.mem_of_getElem? (i := 259) (by decide +kernel), List.mem_of_getElem? (i := 260) (by decide +kernel)⟩
theorem lw_p4 : lw_okq (⟨"FourAskOne$House", "fillOwn", "(I)V"⟩, 11) := ⟨⟨by decide +kernel, by decide +kernel⟩, List.mem_of_getElem? (i := 65) (by decide +kernel), List.mem_of_getElem? (i := 295) (by decide +kernel), List.mem_of_getElem? (i := 296) (by decide +kernel)⟩
theorem lw_p5 : lw_okq (⟨"FourAskOne$House", "greatest", "()I"⟩, 11) := ⟨⟨by decide +kernel, by decide +kernel⟩, List.mem_of_getElem? (i := 65) (by decide +kernel), List.mem_of_getElem? (i := 299) (by decide +kernel), List.mem_of_getElem? (i := 300) (by decide +kernel)⟩
theorem lw_p6 : lw_okq (⟨"FourAskOne$House", "fillTotals", "([ILFourAskOne$Way;Z)V"⟩, 11) := ⟨⟨by decide +kernel, by decide +kernel⟩, List.mem_of_getElem? (i := 65) (by decide +kernel), List.mem_of_getElem? (i := 325) (by decide +kernel), List.mem_of_getElem? (i := 326) (by decide +kernel)⟩
theorem lw_p7 : lw_okq (⟨"FourAskOne$HouseText", "readItem", "(LFourAskOne$Shelf;)V"⟩, 4) := ⟨⟨by decide +kernel, by decide +kernel⟩, List.mem_of_getElem? (i := 107) (by decide +kernel), List.mem_of_getElem? (i := 591) (by decide +kernel), List.mem_of_getElem? (i := 592) (by decide +kernel)⟩
theorem lw_p8 : lw_okq (⟨"FourAskOne$HouseText", "readWord", "(LFourAskOne$Shelf;)I"⟩, 4) := ⟨⟨by decide +kernel, by decide +kernel⟩, List.mem_of_getElem? (i := 107) (by decide +kernel), List.mem_of_getElem? (i := 595) (by decide +kernel), List.mem_of_getElem? (i := 596) (by decide +kernel)⟩
theorem lw_p9 : lw_okq (⟨"FourAskOne$HouseText", "alikeFrom", "(LFourAskOne$Shelf;Ljava/lang/String;)I"⟩, 4) := ⟨⟨by decide +kernel, by decide +kernel⟩, List.mem_of_getElem? (i := 107) (by decide +kernel), List.mem_of_getElem? (i := 606) (by decide +kernel), List.mem_of_getElem? (i := 607) (by decide +kernel)⟩
theorem lw_p10 : lw_okq (⟨"FourAskOne$HouseText", "mostOf", "(II)I"⟩, 4) := ⟨⟨by decide +kernel, by decide +kernel⟩, List.mem_of_getElem? (i := 107) (by decide +kernel), List.mem_of_getElem? (i := 664) (by decide +kernel), List.mem_of_getElem? (i := 665) (by decide +kernel)⟩
theorem lw_p11 : lw_okq (⟨"FourAskOne$HouseText", "readNumber", "(LFourAskOne$Shelf;II)V"⟩, 4) := ⟨⟨by decide +kernel, by decide +kernel⟩, List.mem_of_getElem? (i := 107) (by decide +kernel), List.mem_of_getElem? (i := 675) (by decide +kernel), List.mem_of_getElem? (i := 676) (by decide +kernel)⟩
theorem lw_p12 : lw_okq (⟨"FourAskOne$HouseText", "pass", "(LFourAskOne$Shelf;I)V"⟩, 4) := ⟨⟨by decide +kernel, by decide +kernel⟩, List.mem_of_getElem? (i := 107) (by decide +kernel), List.mem_of_getElem? (i := 679) (by decide +kernel), List.mem_of_getElem? (i := 680) (by decide +kernel)⟩
theorem lw_p13 : lw_okq (⟨"FourAskOne$HouseText", "isDigit", "(LFourAskOne$Shelf;)Z"⟩, 4) := ⟨⟨by decide +kernel, by decide +kernel⟩, List.mem_of_getElem? (i := 107) (by decide +kernel), List.mem_of_getElem? (i := 683) (by decide +kernel), List.mem_of_getElem? (i := 684) (by decide +kernel)⟩
theorem lw_p14 : lw_okq (⟨"FourAskOne$HouseText", "tell", "(I)V"⟩, 4) := ⟨⟨by decide +kernel, by decide +kernel⟩, List.mem_of_getElem? (i := 107) (by decide +kernel), List.mem_of_getElem? (i := 687) (by decide +kernel), List.mem_of_getElem? (i := 688) (by decide +kernel)⟩
theorem lw_p15 : lw_okq (⟨"FourAskOne", "refuseFar", "(I)I"⟩, 9) := ⟨⟨by decide +kernel, by decide +kernel⟩, List.mem_of_getElem? (i := 22) (by decide +kernel), List.mem_of_getElem? (i := 740) (by decide +kernel), List.mem_of_getElem? (i := 741) (by decide +kernel)⟩
def lw_privs_1 : List (MethodName × Nat) := [(⟨"FourAskOne", "shelfAt", "(I)LFourAskOne$Shelf;"⟩, 9), (⟨"FourAskOne", "refuse", "(I)I"⟩, 9), (⟨"FourAskOne$Shelf", "lowestBits", "(J)J"⟩, 4), (⟨"FourAskOne", "saysAs", "(LFourAskOne$Way;I)I"⟩, 9), (⟨"FourAskOne$House", "fillOwn", "(I)V"⟩, 11), (⟨"FourAskOne$House", "greatest", "()I"⟩, 11), (⟨"FourAskOne$House", "fillTotals", "([ILFourAskOne$Way;Z)V"⟩, 11), (⟨"FourAskOne$HouseText", "readItem", "(LFourAskOne$Shelf;)V"⟩, 4), (⟨"FourAskOne$HouseText", "readWord", "(LFourAskOne$Shelf;)I"⟩, 4), (⟨"FourAskOne$HouseText", "alikeFrom", "(LFourAskOne$Shelf;Ljava/lang/String;)I"⟩, 4), (⟨"FourAskOne$HouseText", "mostOf", "(II)I"⟩, 4), (⟨"FourAskOne$HouseText", "readNumber", "(LFourAskOne$Shelf;II)V"⟩, 4), (⟨"FourAskOne$HouseText", "pass", "(LFourAskOne$Shelf;I)V"⟩, 4), (⟨"FourAskOne$HouseText", "isDigit", "(LFourAskOne$Shelf;)Z"⟩, 4), (⟨"FourAskOne$HouseText", "tell", "(I)V"⟩, 4), (⟨"FourAskOne", "refuseFar", "(I)I"⟩, 9)]
theorem lw_r1 : ∀ q ∈ lw_privs_1, lw_okq q := List.forall_mem_cons.mpr ⟨lw_p0, List.forall_mem_cons.mpr ⟨lw_p1, List.forall_mem_cons.mpr ⟨lw_p2, List.forall_mem_cons.mpr ⟨lw_p3, List.forall_mem_cons.mpr ⟨lw_p4, List.forall_mem_cons.mpr ⟨lw_p5, List.forall_mem_cons.mpr ⟨lw_p6, List.forall_mem_cons.mpr ⟨lw_p7, List.forall_mem_cons.mpr ⟨lw_p8, List.forall_mem_cons.mpr ⟨lw_p9, List.forall_mem_cons.mpr ⟨lw_p10, List.forall_mem_cons.mpr ⟨lw_p11, List.forall_mem_cons.mpr ⟨lw_p12, List.forall_mem_cons.mpr ⟨lw_p13, List.forall_mem_cons.mpr ⟨lw_p14, List.forall_mem_cons.mpr ⟨lw_p15, fun _ h => absurd h List.not_mem_nil⟩⟩⟩⟩⟩⟩⟩⟩⟩⟩⟩⟩⟩⟩⟩⟩
theorem lw_p16 : lw_okq (⟨"FourAskOne$House", "tellsByNumbers", "()I"⟩, 11) := ⟨⟨by decide +kernel, by decide +kernel⟩, List.mem_of_getElem? (i := 65) (by decide +kernel), List.mem_of_getElem? (i := 748) (by decide +kernel), List.mem_of_getElem? (i := 749) (by decide +kernel)⟩
theorem lw_p17 : lw_okq (⟨"FourAskOne$House", "pairTells", "(II)I"⟩, 11) := ⟨⟨by decide +kernel, by decide +kernel⟩, List.mem_of_getElem? (i := 65) (by decide +kernel), List.mem_of_getElem? (i := 752) (by decide +kernel), List.mem_of_getElem? (i := 753) (by decide +kernel)⟩
theorem lw_p18 : lw_okq (⟨"FourAskOne$House", "rank", "([II)I"⟩, 11) := ⟨⟨by decide +kernel, by decide +kernel⟩, List.mem_of_getElem? (i := 65) (by decide +kernel), List.mem_of_getElem? (i := 767) (by decide +kernel), List.mem_of_getElem? (i := 768) (by decide +kernel)⟩
theorem lw_p19 : lw_okq (⟨"FourAskOne$House", "draw", "(I)I"⟩, 11) := ⟨⟨by decide +kernel, by decide +kernel⟩, List.mem_of_getElem? (i := 65) (by decide +kernel), List.mem_of_getElem? (i := 885) (by decide +kernel), List.mem_of_getElem? (i := 886) (by decide +kernel)⟩
theorem lw_p20 : lw_okq (⟨"FourAskOneModel", "isShelf", "(I)Z"⟩, 33) := ⟨⟨by decide +kernel, by decide +kernel⟩, List.mem_of_getElem? (i := 1028) (by decide +kernel), List.mem_of_getElem? (i := 1138) (by decide +kernel), List.mem_of_getElem? (i := 1139) (by decide +kernel)⟩
theorem lw_p21 : lw_okq (⟨"FourAskOneModel", "no", "(I)I"⟩, 33) := ⟨⟨by decide +kernel, by decide +kernel⟩, List.mem_of_getElem? (i := 1028) (by decide +kernel), List.mem_of_getElem? (i := 1142) (by decide +kernel), List.mem_of_getElem? (i := 1143) (by decide +kernel)⟩
theorem lw_p22 : lw_okq (⟨"FourAskOneModel", "isWay", "(I)Z"⟩, 33) := ⟨⟨by decide +kernel, by decide +kernel⟩, List.mem_of_getElem? (i := 1028) (by decide +kernel), List.mem_of_getElem? (i := 1162) (by decide +kernel), List.mem_of_getElem? (i := 1163) (by decide +kernel)⟩
theorem lw_p23 : lw_okq (⟨"FourAskOneModel", "sumOf", "(I)I"⟩, 33) := ⟨⟨by decide +kernel, by decide +kernel⟩, List.mem_of_getElem? (i := 1028) (by decide +kernel), List.mem_of_getElem? (i := 1174) (by decide +kernel), List.mem_of_getElem? (i := 1175) (by decide +kernel)⟩
theorem lw_p24 : lw_okq (⟨"FourAskOneModel", "takenBy", "(IZ)I"⟩, 33) := ⟨⟨by decide +kernel, by decide +kernel⟩, List.mem_of_getElem? (i := 1028) (by decide +kernel), List.mem_of_getElem? (i := 1178) (by decide +kernel), List.mem_of_getElem? (i := 1179) (by decide +kernel)⟩
theorem lw_p25 : lw_okq (⟨"FourAskOneModel", "totalBy", "(IZI)I"⟩, 33) := ⟨⟨by decide +kernel, by decide +kernel⟩, List.mem_of_getElem? (i := 1028) (by decide +kernel), List.mem_of_getElem? (i := 1182) (by decide +kernel), List.mem_of_getElem? (i := 1183) (by decide +kernel)⟩
theorem lw_p26 : lw_okq (⟨"FourAskOneModel", "saidBy", "(IZII)I"⟩, 33) := ⟨⟨by decide +kernel, by decide +kernel⟩, List.mem_of_getElem? (i := 1028) (by decide +kernel), List.mem_of_getElem? (i := 1186) (by decide +kernel), List.mem_of_getElem? (i := 1187) (by decide +kernel)⟩
theorem lw_p27 : lw_okq (⟨"FourAskOneModel", "showsBy", "(III)I"⟩, 33) := ⟨⟨by decide +kernel, by decide +kernel⟩, List.mem_of_getElem? (i := 1028) (by decide +kernel), List.mem_of_getElem? (i := 1190) (by decide +kernel), List.mem_of_getElem? (i := 1191) (by decide +kernel)⟩
theorem lw_p28 : lw_okq (⟨"FourAskOneModel", "feeling", "(I)I"⟩, 33) := ⟨⟨by decide +kernel, by decide +kernel⟩, List.mem_of_getElem? (i := 1028) (by decide +kernel), List.mem_of_getElem? (i := 1194) (by decide +kernel), List.mem_of_getElem? (i := 1195) (by decide +kernel)⟩
theorem lw_p29 : lw_okq (⟨"FourAskOneModel", "wants", "(I)I"⟩, 33) := ⟨⟨by decide +kernel, by decide +kernel⟩, List.mem_of_getElem? (i := 1028) (by decide +kernel), List.mem_of_getElem? (i := 1202) (by decide +kernel), List.mem_of_getElem? (i := 1203) (by decide +kernel)⟩
theorem lw_p30 : lw_okq (⟨"FourAskOneModel", "intAt", "(II)I"⟩, 33) := ⟨⟨by decide +kernel, by decide +kernel⟩, List.mem_of_getElem? (i := 1028) (by decide +kernel), List.mem_of_getElem? (i := 1206) (by decide +kernel), List.mem_of_getElem? (i := 1207) (by decide +kernel)⟩
theorem lw_p31 : lw_okq (⟨"FourAskOneModel", "top", "(I)I"⟩, 33) := ⟨⟨by decide +kernel, by decide +kernel⟩, List.mem_of_getElem? (i := 1028) (by decide +kernel), List.mem_of_getElem? (i := 1210) (by decide +kernel), List.mem_of_getElem? (i := 1211) (by decide +kernel)⟩
def lw_privs_2 : List (MethodName × Nat) := [(⟨"FourAskOne$House", "tellsByNumbers", "()I"⟩, 11), (⟨"FourAskOne$House", "pairTells", "(II)I"⟩, 11), (⟨"FourAskOne$House", "rank", "([II)I"⟩, 11), (⟨"FourAskOne$House", "draw", "(I)I"⟩, 11), (⟨"FourAskOneModel", "isShelf", "(I)Z"⟩, 33), (⟨"FourAskOneModel", "no", "(I)I"⟩, 33), (⟨"FourAskOneModel", "isWay", "(I)Z"⟩, 33), (⟨"FourAskOneModel", "sumOf", "(I)I"⟩, 33), (⟨"FourAskOneModel", "takenBy", "(IZ)I"⟩, 33), (⟨"FourAskOneModel", "totalBy", "(IZI)I"⟩, 33), (⟨"FourAskOneModel", "saidBy", "(IZII)I"⟩, 33), (⟨"FourAskOneModel", "showsBy", "(III)I"⟩, 33), (⟨"FourAskOneModel", "feeling", "(I)I"⟩, 33), (⟨"FourAskOneModel", "wants", "(I)I"⟩, 33), (⟨"FourAskOneModel", "intAt", "(II)I"⟩, 33), (⟨"FourAskOneModel", "top", "(I)I"⟩, 33)]
theorem lw_r2 : ∀ q ∈ lw_privs_2, lw_okq q := List.forall_mem_cons.mpr ⟨lw_p16, List.forall_mem_cons.mpr ⟨lw_p17, List.forall_mem_cons.mpr ⟨lw_p18, List.forall_mem_cons.mpr ⟨lw_p19, List.forall_mem_cons.mpr ⟨lw_p20, List.forall_mem_cons.mpr ⟨lw_p21, List.forall_mem_cons.mpr ⟨lw_p22, List.forall_mem_cons.mpr ⟨lw_p23, List.forall_mem_cons.mpr ⟨lw_p24, List.forall_mem_cons.mpr ⟨lw_p25, List.forall_mem_cons.mpr ⟨lw_p26, List.forall_mem_cons.mpr ⟨lw_p27, List.forall_mem_cons.mpr ⟨lw_p28, List.forall_mem_cons.mpr ⟨lw_p29, List.forall_mem_cons.mpr ⟨lw_p30, List.forall_mem_cons.mpr ⟨lw_p31, fun _ h => absurd h List.not_mem_nil⟩⟩⟩⟩⟩⟩⟩⟩⟩⟩⟩⟩⟩⟩⟩⟩
theorem lw_p32 : lw_okq (⟨"FourAskOneModel", "askers", "(III)I"⟩, 33) := ⟨⟨by decide +kernel, by decide +kernel⟩, List.mem_of_getElem? (i := 1028) (by decide +kernel), List.mem_of_getElem? (i := 1218) (by decide +kernel), List.mem_of_getElem? (i := 1219) (by decide +kernel)⟩
theorem lw_p33 : lw_okq (⟨"FourAskOneModel", "ways", "(II)I"⟩, 33) := ⟨⟨by decide +kernel, by decide +kernel⟩, List.mem_of_getElem? (i := 1028) (by decide +kernel), List.mem_of_getElem? (i := 1226) (by decide +kernel), List.mem_of_getElem? (i := 1227) (by decide +kernel)⟩
theorem lw_p34 : lw_okq (⟨"FourAskOneModel", "isComer", "(I)Z"⟩, 33) := ⟨⟨by decide +kernel, by decide +kernel⟩, List.mem_of_getElem? (i := 1028) (by decide +kernel), List.mem_of_getElem? (i := 1234) (by decide +kernel), List.mem_of_getElem? (i := 1235) (by decide +kernel)⟩
theorem lw_p35 : lw_okq (⟨"FourAskOneModel", "isAsker", "(I)Z"⟩, 33) := ⟨⟨by decide +kernel, by decide +kernel⟩, List.mem_of_getElem? (i := 1028) (by decide +kernel), List.mem_of_getElem? (i := 1242) (by decide +kernel), List.mem_of_getElem? (i := 1243) (by decide +kernel)⟩
theorem lw_p36 : lw_okq (⟨"FourAskOneModel", "placeOf", "(I)I"⟩, 33) := ⟨⟨by decide +kernel, by decide +kernel⟩, List.mem_of_getElem? (i := 1028) (by decide +kernel), List.mem_of_getElem? (i := 1246) (by decide +kernel), List.mem_of_getElem? (i := 1247) (by decide +kernel)⟩
theorem lw_p37 : lw_okq (⟨"FourAskOneModel", "first", "(I)I"⟩, 33) := ⟨⟨by decide +kernel, by decide +kernel⟩, List.mem_of_getElem? (i := 1028) (by decide +kernel), List.mem_of_getElem? (i := 1266) (by decide +kernel), List.mem_of_getElem? (i := 1267) (by decide +kernel)⟩
theorem lw_p38 : lw_okq (⟨"FourAskOneModel", "all", "([IZ)V"⟩, 33) := ⟨⟨by decide +kernel, by decide +kernel⟩, List.mem_of_getElem? (i := 1028) (by decide +kernel), List.mem_of_getElem? (i := 1274) (by decide +kernel), List.mem_of_getElem? (i := 1275) (by decide +kernel)⟩
theorem lw_p39 : lw_okq (⟨"FourAskOneModel", "keeps", "([II[IIZ)I"⟩, 33) := ⟨⟨by decide +kernel, by decide +kernel⟩, List.mem_of_getElem? (i := 1028) (by decide +kernel), List.mem_of_getElem? (i := 1278) (by decide +kernel), List.mem_of_getElem? (i := 1279) (by decide +kernel)⟩
theorem lw_p40 : lw_okq (⟨"FourAskOneModel", "item", "()Z"⟩, 33) := ⟨⟨by decide +kernel, by decide +kernel⟩, List.mem_of_getElem? (i := 1028) (by decide +kernel), List.mem_of_getElem? (i := 1282) (by decide +kernel), List.mem_of_getElem? (i := 1283) (by decide +kernel)⟩
theorem lw_p41 : lw_okq (⟨"FourAskOneModel", "isWordAt", "(I)Z"⟩, 33) := ⟨⟨by decide +kernel, by decide +kernel⟩, List.mem_of_getElem? (i := 1028) (by decide +kernel), List.mem_of_getElem? (i := 1286) (by decide +kernel), List.mem_of_getElem? (i := 1287) (by decide +kernel)⟩
theorem lw_p42 : lw_okq (⟨"FourAskOneModel", "isFull", "(I)Z"⟩, 33) := ⟨⟨by decide +kernel, by decide +kernel⟩, List.mem_of_getElem? (i := 1028) (by decide +kernel), List.mem_of_getElem? (i := 1290) (by decide +kernel), List.mem_of_getElem? (i := 1291) (by decide +kernel)⟩
theorem lw_p43 : lw_okq (⟨"FourAskOneModel", "wrong", "(I)Z"⟩, 33) := ⟨⟨by decide +kernel, by decide +kernel⟩, List.mem_of_getElem? (i := 1028) (by decide +kernel), List.mem_of_getElem? (i := 1294) (by decide +kernel), List.mem_of_getElem? (i := 1295) (by decide +kernel)⟩
theorem lw_p44 : lw_okq (⟨"FourAskOneModel", "word", "()I"⟩, 33) := ⟨⟨by decide +kernel, by decide +kernel⟩, List.mem_of_getElem? (i := 1028) (by decide +kernel), List.mem_of_getElem? (i := 1298) (by decide +kernel), List.mem_of_getElem? (i := 1299) (by decide +kernel)⟩
theorem lw_p45 : lw_okq (⟨"FourAskOneModel", "high", "(II)I"⟩, 33) := ⟨⟨by decide +kernel, by decide +kernel⟩, List.mem_of_getElem? (i := 1028) (by decide +kernel), List.mem_of_getElem? (i := 1302) (by decide +kernel), List.mem_of_getElem? (i := 1303) (by decide +kernel)⟩
theorem lw_p46 : lw_okq (⟨"FourAskOneModel", "number", "(I)Z"⟩, 33) := ⟨⟨by decide +kernel, by decide +kernel⟩, List.mem_of_getElem? (i := 1028) (by decide +kernel), List.mem_of_getElem? (i := 1306) (by decide +kernel), List.mem_of_getElem? (i := 1307) (by decide +kernel)⟩
theorem lw_p47 : lw_okq (⟨"FourAskOneModel", "isDigit", "()Z"⟩, 33) := ⟨⟨by decide +kernel, by decide +kernel⟩, List.mem_of_getElem? (i := 1028) (by decide +kernel), List.mem_of_getElem? (i := 1310) (by decide +kernel), List.mem_of_getElem? (i := 1311) (by decide +kernel)⟩
def lw_privs_3 : List (MethodName × Nat) := [(⟨"FourAskOneModel", "askers", "(III)I"⟩, 33), (⟨"FourAskOneModel", "ways", "(II)I"⟩, 33), (⟨"FourAskOneModel", "isComer", "(I)Z"⟩, 33), (⟨"FourAskOneModel", "isAsker", "(I)Z"⟩, 33), (⟨"FourAskOneModel", "placeOf", "(I)I"⟩, 33), (⟨"FourAskOneModel", "first", "(I)I"⟩, 33), (⟨"FourAskOneModel", "all", "([IZ)V"⟩, 33), (⟨"FourAskOneModel", "keeps", "([II[IIZ)I"⟩, 33), (⟨"FourAskOneModel", "item", "()Z"⟩, 33), (⟨"FourAskOneModel", "isWordAt", "(I)Z"⟩, 33), (⟨"FourAskOneModel", "isFull", "(I)Z"⟩, 33), (⟨"FourAskOneModel", "wrong", "(I)Z"⟩, 33), (⟨"FourAskOneModel", "word", "()I"⟩, 33), (⟨"FourAskOneModel", "high", "(II)I"⟩, 33), (⟨"FourAskOneModel", "number", "(I)Z"⟩, 33), (⟨"FourAskOneModel", "isDigit", "()Z"⟩, 33)]
theorem lw_r3 : ∀ q ∈ lw_privs_3, lw_okq q := List.forall_mem_cons.mpr ⟨lw_p32, List.forall_mem_cons.mpr ⟨lw_p33, List.forall_mem_cons.mpr ⟨lw_p34, List.forall_mem_cons.mpr ⟨lw_p35, List.forall_mem_cons.mpr ⟨lw_p36, List.forall_mem_cons.mpr ⟨lw_p37, List.forall_mem_cons.mpr ⟨lw_p38, List.forall_mem_cons.mpr ⟨lw_p39, List.forall_mem_cons.mpr ⟨lw_p40, List.forall_mem_cons.mpr ⟨lw_p41, List.forall_mem_cons.mpr ⟨lw_p42, List.forall_mem_cons.mpr ⟨lw_p43, List.forall_mem_cons.mpr ⟨lw_p44, List.forall_mem_cons.mpr ⟨lw_p45, List.forall_mem_cons.mpr ⟨lw_p46, List.forall_mem_cons.mpr ⟨lw_p47, fun _ h => absurd h List.not_mem_nil⟩⟩⟩⟩⟩⟩⟩⟩⟩⟩⟩⟩⟩⟩⟩⟩
theorem lw_p48 : lw_okq (⟨"FourAskOneModel", "noTen", "(I)I"⟩, 33) := ⟨⟨by decide +kernel, by decide +kernel⟩, List.mem_of_getElem? (i := 1028) (by decide +kernel), List.mem_of_getElem? (i := 1334) (by decide +kernel), List.mem_of_getElem? (i := 1335) (by decide +kernel)⟩
theorem lw_p49 : lw_okq (⟨"FourAskOneModel", "bestNow", "()I"⟩, 33) := ⟨⟨by decide +kernel, by decide +kernel⟩, List.mem_of_getElem? (i := 1028) (by decide +kernel), List.mem_of_getElem? (i := 1342) (by decide +kernel), List.mem_of_getElem? (i := 1343) (by decide +kernel)⟩
theorem lw_p50 : lw_okq (⟨"FourAskOneModel", "noLow", "(I)I"⟩, 33) := ⟨⟨by decide +kernel, by decide +kernel⟩, List.mem_of_getElem? (i := 1028) (by decide +kernel), List.mem_of_getElem? (i := 1350) (by decide +kernel), List.mem_of_getElem? (i := 1351) (by decide +kernel)⟩
theorem lw_p51 : lw_okq (⟨"FourAskOneModel", "totals", "(IZ)V"⟩, 33) := ⟨⟨by decide +kernel, by decide +kernel⟩, List.mem_of_getElem? (i := 1028) (by decide +kernel), List.mem_of_getElem? (i := 1354) (by decide +kernel), List.mem_of_getElem? (i := 1355) (by decide +kernel)⟩
theorem lw_p52 : lw_okq (⟨"FourAskOneModel", "tellsBy", "(I)I"⟩, 33) := ⟨⟨by decide +kernel, by decide +kernel⟩, List.mem_of_getElem? (i := 1028) (by decide +kernel), List.mem_of_getElem? (i := 1358) (by decide +kernel), List.mem_of_getElem? (i := 1359) (by decide +kernel)⟩
theorem lw_p53 : lw_okq (⟨"FourAskOneModel", "joins", "(III)I"⟩, 33) := ⟨⟨by decide +kernel, by decide +kernel⟩, List.mem_of_getElem? (i := 1028) (by decide +kernel), List.mem_of_getElem? (i := 1374) (by decide +kernel), List.mem_of_getElem? (i := 1375) (by decide +kernel)⟩
theorem lw_p54 : lw_okq (⟨"FourAskOneModel", "comesBy", "(II)I"⟩, 33) := ⟨⟨by decide +kernel, by decide +kernel⟩, List.mem_of_getElem? (i := 1028) (by decide +kernel), List.mem_of_getElem? (i := 1410) (by decide +kernel), List.mem_of_getElem? (i := 1411) (by decide +kernel)⟩
theorem lw_p55 : lw_okq (⟨"FourAskOneModel", "ranked", "(I)I"⟩, 33) := ⟨⟨by decide +kernel, by decide +kernel⟩, List.mem_of_getElem? (i := 1028) (by decide +kernel), List.mem_of_getElem? (i := 1422) (by decide +kernel), List.mem_of_getElem? (i := 1423) (by decide +kernel)⟩
theorem lw_p56 : lw_okq (⟨"FourAskOneModel", "draw", "(I)I"⟩, 33) := ⟨⟨by decide +kernel, by decide +kernel⟩, List.mem_of_getElem? (i := 1028) (by decide +kernel), List.mem_of_getElem? (i := 1434) (by decide +kernel), List.mem_of_getElem? (i := 1435) (by decide +kernel)⟩
theorem lw_p57 : lw_okq (⟨"FourAskOneModel", "feels", "(II)I"⟩, 33) := ⟨⟨by decide +kernel, by decide +kernel⟩, List.mem_of_getElem? (i := 1028) (by decide +kernel), List.mem_of_getElem? (i := 1451) (by decide +kernel), List.mem_of_getElem? (i := 1452) (by decide +kernel)⟩
theorem lw_p58 : lw_okq (⟨"FourAskOneModel", "body", "(I)V"⟩, 33) := ⟨⟨by decide +kernel, by decide +kernel⟩, List.mem_of_getElem? (i := 1028) (by decide +kernel), List.mem_of_getElem? (i := 1455) (by decide +kernel), List.mem_of_getElem? (i := 1456) (by decide +kernel)⟩
theorem lw_p59 : lw_okq (⟨"FourAskOneModel", "asks", "(II)I"⟩, 33) := ⟨⟨by decide +kernel, by decide +kernel⟩, List.mem_of_getElem? (i := 1028) (by decide +kernel), List.mem_of_getElem? (i := 1459) (by decide +kernel), List.mem_of_getElem? (i := 1460) (by decide +kernel)⟩
theorem lw_p60 : lw_okq (⟨"FourAskOneModel", "sums", "(II)I"⟩, 33) := ⟨⟨by decide +kernel, by decide +kernel⟩, List.mem_of_getElem? (i := 1028) (by decide +kernel), List.mem_of_getElem? (i := 1463) (by decide +kernel), List.mem_of_getElem? (i := 1464) (by decide +kernel)⟩
def lw_privs_4 : List (MethodName × Nat) := [(⟨"FourAskOneModel", "noTen", "(I)I"⟩, 33), (⟨"FourAskOneModel", "bestNow", "()I"⟩, 33), (⟨"FourAskOneModel", "noLow", "(I)I"⟩, 33), (⟨"FourAskOneModel", "totals", "(IZ)V"⟩, 33), (⟨"FourAskOneModel", "tellsBy", "(I)I"⟩, 33), (⟨"FourAskOneModel", "joins", "(III)I"⟩, 33), (⟨"FourAskOneModel", "comesBy", "(II)I"⟩, 33), (⟨"FourAskOneModel", "ranked", "(I)I"⟩, 33), (⟨"FourAskOneModel", "draw", "(I)I"⟩, 33), (⟨"FourAskOneModel", "feels", "(II)I"⟩, 33), (⟨"FourAskOneModel", "body", "(I)V"⟩, 33), (⟨"FourAskOneModel", "asks", "(II)I"⟩, 33), (⟨"FourAskOneModel", "sums", "(II)I"⟩, 33)]
theorem lw_r4 : ∀ q ∈ lw_privs_4, lw_okq q := List.forall_mem_cons.mpr ⟨lw_p48, List.forall_mem_cons.mpr ⟨lw_p49, List.forall_mem_cons.mpr ⟨lw_p50, List.forall_mem_cons.mpr ⟨lw_p51, List.forall_mem_cons.mpr ⟨lw_p52, List.forall_mem_cons.mpr ⟨lw_p53, List.forall_mem_cons.mpr ⟨lw_p54, List.forall_mem_cons.mpr ⟨lw_p55, List.forall_mem_cons.mpr ⟨lw_p56, List.forall_mem_cons.mpr ⟨lw_p57, List.forall_mem_cons.mpr ⟨lw_p58, List.forall_mem_cons.mpr ⟨lw_p59, List.forall_mem_cons.mpr ⟨lw_p60, fun _ h => absurd h List.not_mem_nil⟩⟩⟩⟩⟩⟩⟩⟩⟩⟩⟩⟩⟩
def lw_privs : List (MethodName × Nat) := lw_privs_1 ++ (lw_privs_2 ++ (lw_privs_3 ++ (lw_privs_4)))
def lw_tbl : List Cond := k2_sels lw_privs ++ tables_1
theorem lw_privs_ok : ∀ q ∈ lw_privs, lw_okq q := by
  show ∀ q ∈ lw_privs_1 ++ (lw_privs_2 ++ (lw_privs_3 ++ (lw_privs_4))), lw_okq q
  exact List.forall_mem_append.mpr ⟨lw_r1, List.forall_mem_append.mpr ⟨lw_r2, List.forall_mem_append.mpr ⟨lw_r3, lw_r4⟩⟩⟩
-- ===== end of PART A; then your names; then what follows =====
def RX0 : String := "FourAskOne$Blind"
def TX0 : u_T := fun k => match k with
  | 0 => ("FourAskOne$Way", "kind", "I", true)
  | 1 => ("FourAskOne$Way", "number", "I", true)
  | 2 => ("FourAskOne$Way", "a", "I", true)
  | _ => ("FourAskOne$Way", "trace", "LFourAskOne$Trace;", true)
def tyX0 : Nat → FieldType := fun k => match k with
  | 0 => .int
  | 1 => .int
  | 2 => .int
  | _ => .object "FourAskOne$Trace"
abbrev wsX00 : List Cond := u_ws RX0 TX0 4
theorem nmX0 : ∀ a, a < 4 → ∀ b, b < 4 → a ≠ b → (TX0 a).2.1 ≠ (TX0 b).2.1 := by decide +kernel
theorem tyX0_ok : ∀ k, k < 4 → parseFieldDescriptor (TX0 k).2.2.1 = some (tyX0 k) := by decide +kernel
abbrev cX0_init : ByteArray := prog_2_method_1_code
def yX0_init : MethodName := ⟨RX0, "<init>", "(IIILFourAskOne$Trace;)V"⟩
abbrev cX0_shown : ByteArray := prog_2_method_2_code
def yX0_shown : MethodName := ⟨RX0, "shown", "(LFourAskOne$House;II)I"⟩
abbrev cX0_shownWithNames : ByteArray := prog_2_method_3_code
def yX0_shownWithNames : MethodName := ⟨RX0, "shownWithNames", "(LFourAskOne$House;II)I"⟩
abbrev cX0_sums : ByteArray := prog_2_method_4_code
def yX0_sums : MethodName := ⟨RX0, "sums", "(I)I"⟩
abbrev cX0_asks : ByteArray := prog_2_method_5_code
def yX0_asks : MethodName := ⟨RX0, "asks", "(I)I"⟩
def RX1 : String := "FourAskOne$House"
def TX1 : u_T := fun k => match k with
  | 0 => ("FourAskOne$House", "trace", "LFourAskOne$Trace;", true)
  | 1 => ("FourAskOne$House", "comers", "[I", true)
  | 2 => ("FourAskOne$House", "comerCount", "I", false)
  | 3 => ("FourAskOne$House", "askers", "[I", true)
  | 4 => ("FourAskOne$House", "order", "[I", true)
  | 5 => ("FourAskOne$House", "askerCount", "I", false)
  | 6 => ("FourAskOne$House", "ways", "[LFourAskOne$Way;", true)
  | 7 => ("FourAskOne$House", "wayCount", "I", false)
  | 8 => ("FourAskOne$House", "seed", "I", false)
  | 9 => ("FourAskOne$House", "numbers", "[I", true)
  | _ => ("FourAskOne$House", "otherNumbers", "[I", true)
def tyX1 : Nat → FieldType := fun k => match k with
  | 0 => .object "FourAskOne$Trace"
  | 1 => .array .int
  | 2 => .int
  | 3 => .array .int
  | 4 => .array .int
  | 5 => .int
  | 6 => .array (.object "FourAskOne$Way")
  | 7 => .int
  | 8 => .int
  | 9 => .array .int
  | _ => .array .int
abbrev wsX10 : List Cond := u_ws RX1 TX1 11
theorem nmX1 : ∀ a, a < 11 → ∀ b, b < 11 → a ≠ b → (TX1 a).2.1 ≠ (TX1 b).2.1 := by decide +kernel
theorem tyX1_ok : ∀ k, k < 11 → parseFieldDescriptor (TX1 k).2.2.1 = some (tyX1 k) := by decide +kernel
abbrev cX1_init : ByteArray := prog_3_method_1_code
def yX1_init : MethodName := ⟨RX1, "<init>", "(LFourAskOne$Trace;)V"⟩
abbrev cX1_takeOver : ByteArray := prog_3_method_2_code
def yX1_takeOver : MethodName := ⟨RX1, "takeOver", "(LFourAskOne$House;)V"⟩
abbrev cX1_comerCount : ByteArray := prog_3_method_3_code
def yX1_comerCount : MethodName := ⟨RX1, "comerCount", "()I"⟩
abbrev cX1_askerCount : ByteArray := prog_3_method_4_code
def yX1_askerCount : MethodName := ⟨RX1, "askerCount", "()I"⟩
abbrev cX1_wayCount : ByteArray := prog_3_method_5_code
def yX1_wayCount : MethodName := ⟨RX1, "wayCount", "()I"⟩
abbrev cX1_seedNow : ByteArray := prog_3_method_6_code
def yX1_seedNow : MethodName := ⟨RX1, "seedNow", "()I"⟩
abbrev cX1_putSeed : ByteArray := prog_3_method_7_code
def yX1_putSeed : MethodName := ⟨RX1, "putSeed", "(I)V"⟩
abbrev cX1_hasComer : ByteArray := prog_3_method_8_code
def yX1_hasComer : MethodName := ⟨RX1, "hasComer", "(I)Z"⟩
abbrev cX1_hasAsker : ByteArray := prog_3_method_9_code
def yX1_hasAsker : MethodName := ⟨RX1, "hasAsker", "(I)Z"⟩
abbrev cX1_wayAt : ByteArray := prog_3_method_10_code
def yX1_wayAt : MethodName := ⟨RX1, "wayAt", "(I)LFourAskOne$Way;"⟩
abbrev cX1_hasRoomFor : ByteArray := prog_3_method_11_code
def yX1_hasRoomFor : MethodName := ⟨RX1, "hasRoomFor", "(I)Z"⟩
abbrev cX1_comerNumber : ByteArray := prog_3_method_12_code
def yX1_comerNumber : MethodName := ⟨RX1, "comerNumber", "(II)I"⟩
abbrev cX1_putComerNumber : ByteArray := prog_3_method_13_code
def yX1_putComerNumber : MethodName := ⟨RX1, "putComerNumber", "(III)V"⟩
abbrev cX1_askerNumber : ByteArray := prog_3_method_14_code
def yX1_askerNumber : MethodName := ⟨RX1, "askerNumber", "(II)I"⟩
abbrev cX1_putDrawn : ByteArray := prog_3_method_15_code
def yX1_putDrawn : MethodName := ⟨RX1, "putDrawn", "(II)V"⟩
abbrev cX1_addComer : ByteArray := prog_3_method_16_code
def yX1_addComer : MethodName := ⟨RX1, "addComer", "([I)I"⟩
abbrev cX1_addAsker : ByteArray := prog_3_method_17_code
def yX1_addAsker : MethodName := ⟨RX1, "addAsker", "(III)I"⟩
abbrev cX1_addWay : ByteArray := prog_3_method_18_code
def yX1_addWay : MethodName := ⟨RX1, "addWay", "(II)I"⟩
abbrev cX1_addDrawnComer : ByteArray := prog_3_method_19_code
def yX1_addDrawnComer : MethodName := ⟨RX1, "addDrawnComer", "()V"⟩
abbrev cX1_draw : ByteArray := prog_3_method_20_code
def yX1_draw : MethodName := ⟨RX1, "draw", "(I)I"⟩
abbrev cX1_letComersGo : ByteArray := prog_3_method_21_code
def yX1_letComersGo : MethodName := ⟨RX1, "letComersGo", "()I"⟩
abbrev cX1_first : ByteArray := prog_3_method_22_code
def yX1_first : MethodName := ⟨RX1, "first", "()I"⟩
abbrev cX1_placeOf : ByteArray := prog_3_method_23_code
def yX1_placeOf : MethodName := ⟨RX1, "placeOf", "(I)I"⟩
abbrev cX1_putFirst : ByteArray := prog_3_method_24_code
def yX1_putFirst : MethodName := ⟨RX1, "putFirst", "(I)I"⟩
abbrev cX1_sumOfSums : ByteArray := prog_3_method_25_code
def yX1_sumOfSums : MethodName := ⟨RX1, "sumOfSums", "()I"⟩
abbrev cX1_sumsBelow : ByteArray := prog_3_method_26_code
def yX1_sumsBelow : MethodName := ⟨RX1, "sumsBelow", "(I)I"⟩
abbrev cX1_bonus : ByteArray := prog_3_method_27_code
def yX1_bonus : MethodName := ⟨RX1, "bonus", "(II)I"⟩
abbrev cX1_saidByFirst : ByteArray := prog_3_method_28_code
def yX1_saidByFirst : MethodName := ⟨RX1, "saidByFirst", "(ILFourAskOne$Way;ZI)I"⟩
abbrev cX1_saidBy : ByteArray := prog_3_method_29_code
def yX1_saidBy : MethodName := ⟨RX1, "saidBy", "(LFourAskOne$Way;ZII)I"⟩
abbrev cX1_fillTotals : ByteArray := prog_3_method_30_code
def yX1_fillTotals : MethodName := ⟨RX1, "fillTotals", "([ILFourAskOne$Way;Z)V"⟩
abbrev cX1_fillOwn : ByteArray := prog_3_method_31_code
def yX1_fillOwn : MethodName := ⟨RX1, "fillOwn", "(I)V"⟩
abbrev cX1_greatest : ByteArray := prog_3_method_32_code
def yX1_greatest : MethodName := ⟨RX1, "greatest", "()I"⟩
abbrev cX1_firstGreatest : ByteArray := prog_3_method_33_code
def yX1_firstGreatest : MethodName := ⟨RX1, "firstGreatest", "(I)I"⟩
abbrev cX1_bestSum : ByteArray := prog_3_method_34_code
def yX1_bestSum : MethodName := ⟨RX1, "bestSum", "()I"⟩
abbrev cX1_takenBy : ByteArray := prog_3_method_35_code
def yX1_takenBy : MethodName := ⟨RX1, "takenBy", "(LFourAskOne$Way;Z)I"⟩
abbrev cX1_takenWithNames : ByteArray := prog_3_method_36_code
def yX1_takenWithNames : MethodName := ⟨RX1, "takenWithNames", "(LFourAskOne$Blind;)I"⟩
abbrev cX1_agreeing : ByteArray := prog_3_method_37_code
def yX1_agreeing : MethodName := ⟨RX1, "agreeing", "(LFourAskOne$Way;I)I"⟩
abbrev cX1_turnedBy : ByteArray := prog_3_method_38_code
def yX1_turnedBy : MethodName := ⟨RX1, "turnedBy", "(LFourAskOne$Way;)I"⟩
abbrev cX1_pairTells : ByteArray := prog_3_method_39_code
def yX1_pairTells : MethodName := ⟨RX1, "pairTells", "(II)I"⟩
abbrev cX1_sign : ByteArray := prog_3_method_40_code
def yX1_sign : MethodName := ⟨RX1, "sign", "(II)I"⟩
abbrev cX1_tellsByNumbers : ByteArray := prog_3_method_41_code
def yX1_tellsByNumbers : MethodName := ⟨RX1, "tellsByNumbers", "()I"⟩
abbrev cX1_tellsOf : ByteArray := prog_3_method_42_code
def yX1_tellsOf : MethodName := ⟨RX1, "tellsOf", "(LFourAskOne$Way;Z)I"⟩
abbrev cX1_tellsOfNumber : ByteArray := prog_3_method_43_code
def yX1_tellsOfNumber : MethodName := ⟨RX1, "tellsOfNumber", "(I)I"⟩
abbrev cX1_joinedTells : ByteArray := prog_3_method_44_code
def yX1_joinedTells : MethodName := ⟨RX1, "joinedTells", "(LFourAskOne$Way;LFourAskOne$Way;I)I"⟩
abbrev cX1_rightedBy : ByteArray := prog_3_method_45_code
def yX1_rightedBy : MethodName := ⟨RX1, "rightedBy", "(LFourAskOne$Way;I)I"⟩
abbrev cX1_rank : ByteArray := prog_3_method_46_code
def yX1_rank : MethodName := ⟨RX1, "rank", "([II)I"⟩
abbrev cX1_lostBy : ByteArray := prog_3_method_47_code
def yX1_lostBy : MethodName := ⟨RX1, "lostBy", "(LFourAskOne$Way;I)I"⟩
abbrev cX1_headsOf : ByteArray := prog_3_method_48_code
def yX1_headsOf : MethodName := ⟨RX1, "headsOf", "(I)I"⟩
abbrev cX1_faultOfRanking : ByteArray := prog_3_method_49_code
def yX1_faultOfRanking : MethodName := ⟨RX1, "faultOfRanking", "(LFourAskOne$Shelf;)I"⟩
abbrev cX1_tellsOfRanking : ByteArray := prog_3_method_50_code
def yX1_tellsOfRanking : MethodName := ⟨RX1, "tellsOfRanking", "(LFourAskOne$Shelf;)I"⟩
def RX2 : String := "FourAskOne$HouseText"
def TX2 : u_T := fun k => match k with
  | 0 => ("FourAskOne$HouseText", "draft", "LFourAskOne$House;", true)
  | 1 => ("FourAskOne$HouseText", "read", "[I", true)
  | 2 => ("FourAskOne$HouseText", "at", "I", false)
  | _ => ("FourAskOne$HouseText", "fault", "I", false)
def tyX2 : Nat → FieldType := fun k => match k with
  | 0 => .object "FourAskOne$House"
  | 1 => .array .int
  | 2 => .int
  | _ => .int
abbrev wsX20 : List Cond := u_ws RX2 TX2 4
theorem nmX2 : ∀ a, a < 4 → ∀ b, b < 4 → a ≠ b → (TX2 a).2.1 ≠ (TX2 b).2.1 := by decide +kernel
theorem tyX2_ok : ∀ k, k < 4 → parseFieldDescriptor (TX2 k).2.2.1 = some (tyX2 k) := by decide +kernel
abbrev cX2_init : ByteArray := prog_4_method_1_code
def yX2_init : MethodName := ⟨RX2, "<init>", "(LFourAskOne$House;)V"⟩
abbrev cX2_draft : ByteArray := prog_4_method_2_code
def yX2_draft : MethodName := ⟨RX2, "draft", "()LFourAskOne$House;"⟩
abbrev cX2_faultFound : ByteArray := prog_4_method_3_code
def yX2_faultFound : MethodName := ⟨RX2, "faultFound", "()I"⟩
abbrev cX2_read : ByteArray := prog_4_method_4_code
def yX2_read : MethodName := ⟨RX2, "read", "(LFourAskOne$Shelf;LFourAskOne$House;)I"⟩
abbrev cX2_readItem : ByteArray := prog_4_method_5_code
def yX2_readItem : MethodName := ⟨RX2, "readItem", "(LFourAskOne$Shelf;)V"⟩
abbrev cX2_readWord : ByteArray := prog_4_method_6_code
def yX2_readWord : MethodName := ⟨RX2, "readWord", "(LFourAskOne$Shelf;)I"⟩
abbrev cX2_alikeFrom : ByteArray := prog_4_method_7_code
def yX2_alikeFrom : MethodName := ⟨RX2, "alikeFrom", "(LFourAskOne$Shelf;Ljava/lang/String;)I"⟩
abbrev cX2_readNumber : ByteArray := prog_4_method_8_code
def yX2_readNumber : MethodName := ⟨RX2, "readNumber", "(LFourAskOne$Shelf;II)V"⟩
abbrev cX2_isDigit : ByteArray := prog_4_method_9_code
def yX2_isDigit : MethodName := ⟨RX2, "isDigit", "(LFourAskOne$Shelf;)Z"⟩
abbrev cX2_pass : ByteArray := prog_4_method_10_code
def yX2_pass : MethodName := ⟨RX2, "pass", "(LFourAskOne$Shelf;I)V"⟩
abbrev cX2_tell : ByteArray := prog_4_method_11_code
def yX2_tell : MethodName := ⟨RX2, "tell", "(I)V"⟩
abbrev cX2_lettersOf : ByteArray := prog_4_method_12_code
def yX2_lettersOf : MethodName := ⟨RX2, "lettersOf", "(I)Ljava/lang/String;"⟩
abbrev cX2_numbersBehind : ByteArray := prog_4_method_13_code
def yX2_numbersBehind : MethodName := ⟨RX2, "numbersBehind", "(I)I"⟩
abbrev cX2_mostOf : ByteArray := prog_4_method_14_code
def yX2_mostOf : MethodName := ⟨RX2, "mostOf", "(II)I"⟩
def RX3 : String := "FourAskOne$Lettered"
def TX3 : u_T := fun k => match k with
  | 0 => ("FourAskOne$Way", "kind", "I", true)
  | 1 => ("FourAskOne$Way", "number", "I", true)
  | 2 => ("FourAskOne$Way", "a", "I", true)
  | _ => ("FourAskOne$Way", "trace", "LFourAskOne$Trace;", true)
def tyX3 : Nat → FieldType := fun k => match k with
  | 0 => .int
  | 1 => .int
  | 2 => .int
  | _ => .object "FourAskOne$Trace"
abbrev wsX30 : List Cond := u_ws RX3 TX3 4
theorem nmX3 : ∀ a, a < 4 → ∀ b, b < 4 → a ≠ b → (TX3 a).2.1 ≠ (TX3 b).2.1 := by decide +kernel
theorem tyX3_ok : ∀ k, k < 4 → parseFieldDescriptor (TX3 k).2.2.1 = some (tyX3 k) := by decide +kernel
abbrev cX3_init : ByteArray := prog_5_method_1_code
def yX3_init : MethodName := ⟨RX3, "<init>", "(IIILFourAskOne$Trace;)V"⟩
abbrev cX3_shown : ByteArray := prog_5_method_2_code
def yX3_shown : MethodName := ⟨RX3, "shown", "(LFourAskOne$House;II)I"⟩
abbrev cX3_sums : ByteArray := prog_5_method_3_code
def yX3_sums : MethodName := ⟨RX3, "sums", "(I)I"⟩
def RX4 : String := "FourAskOne$Lined"
def TX4 : u_T := fun k => match k with
  | 0 => ("FourAskOne$Way", "kind", "I", true)
  | 1 => ("FourAskOne$Way", "number", "I", true)
  | 2 => ("FourAskOne$Way", "a", "I", true)
  | _ => ("FourAskOne$Way", "trace", "LFourAskOne$Trace;", true)
def tyX4 : Nat → FieldType := fun k => match k with
  | 0 => .int
  | 1 => .int
  | 2 => .int
  | _ => .object "FourAskOne$Trace"
abbrev wsX40 : List Cond := u_ws RX4 TX4 4
theorem nmX4 : ∀ a, a < 4 → ∀ b, b < 4 → a ≠ b → (TX4 a).2.1 ≠ (TX4 b).2.1 := by decide +kernel
theorem tyX4_ok : ∀ k, k < 4 → parseFieldDescriptor (TX4 k).2.2.1 = some (tyX4 k) := by decide +kernel
abbrev cX4_init : ByteArray := prog_6_method_1_code
def yX4_init : MethodName := ⟨RX4, "<init>", "(IIILFourAskOne$Trace;)V"⟩
abbrev cX4_tenths : ByteArray := prog_6_method_2_code
def yX4_tenths : MethodName := ⟨RX4, "tenths", "()I"⟩
abbrev cX4_asks : ByteArray := prog_6_method_3_code
def yX4_asks : MethodName := ⟨RX4, "asks", "(I)I"⟩
def RX5 : String := "FourAskOne$Marked"
def TX5 : u_T := fun k => match k with
  | 0 => ("FourAskOne$Way", "kind", "I", true)
  | 1 => ("FourAskOne$Way", "number", "I", true)
  | 2 => ("FourAskOne$Way", "a", "I", true)
  | _ => ("FourAskOne$Way", "trace", "LFourAskOne$Trace;", true)
def tyX5 : Nat → FieldType := fun k => match k with
  | 0 => .int
  | 1 => .int
  | 2 => .int
  | _ => .object "FourAskOne$Trace"
abbrev wsX50 : List Cond := u_ws RX5 TX5 4
theorem nmX5 : ∀ a, a < 4 → ∀ b, b < 4 → a ≠ b → (TX5 a).2.1 ≠ (TX5 b).2.1 := by decide +kernel
theorem tyX5_ok : ∀ k, k < 4 → parseFieldDescriptor (TX5 k).2.2.1 = some (tyX5 k) := by decide +kernel
abbrev cX5_init : ByteArray := prog_7_method_1_code
def yX5_init : MethodName := ⟨RX5, "<init>", "(IIILFourAskOne$Trace;)V"⟩
abbrev cX5_shown : ByteArray := prog_7_method_2_code
def yX5_shown : MethodName := ⟨RX5, "shown", "(LFourAskOne$House;II)I"⟩
abbrev cX5_feels : ByteArray := prog_7_method_3_code
def yX5_feels : MethodName := ⟨RX5, "feels", "(I)I"⟩
def RX6 : String := "FourAskOne$Shelf"
def TX6 : u_T := fun k => match k with
  | 0 => ("FourAskOne$Shelf", "elements", "[J", true)
  | 1 => ("FourAskOne$Shelf", "sort", "I", false)
  | 2 => ("FourAskOne$Shelf", "size", "I", false)
  | _ => ("FourAskOne$Shelf", "way", "I", false)
def tyX6 : Nat → FieldType := fun k => match k with
  | 0 => .array .long
  | 1 => .int
  | 2 => .int
  | _ => .int
abbrev wsX60 : List Cond := u_ws RX6 TX6 4
theorem nmX6 : ∀ a, a < 4 → ∀ b, b < 4 → a ≠ b → (TX6 a).2.1 ≠ (TX6 b).2.1 := by decide +kernel
theorem tyX6_ok : ∀ k, k < 4 → parseFieldDescriptor (TX6 k).2.2.1 = some (tyX6 k) := by decide +kernel
abbrev cX6_init : ByteArray := prog_8_method_1_code
def yX6_init : MethodName := ⟨RX6, "<init>", "()V"⟩
abbrev cX6_holdRow : ByteArray := prog_8_method_2_code
def yX6_holdRow : MethodName := ⟨RX6, "holdRow", "(II)V"⟩
abbrev cX6_holdWay : ByteArray := prog_8_method_3_code
def yX6_holdWay : MethodName := ⟨RX6, "holdWay", "(I)V"⟩
abbrev cX6_holdsRow : ByteArray := prog_8_method_4_code
def yX6_holdsRow : MethodName := ⟨RX6, "holdsRow", "()Z"⟩
abbrev cX6_holdsWay : ByteArray := prog_8_method_5_code
def yX6_holdsWay : MethodName := ⟨RX6, "holdsWay", "()Z"⟩
abbrev cX6_isOfOtherSort : ByteArray := prog_8_method_6_code
def yX6_isOfOtherSort : MethodName := ⟨RX6, "isOfOtherSort", "(LFourAskOne$Shelf;)Z"⟩
abbrev cX6_sortHeld : ByteArray := prog_8_method_7_code
def yX6_sortHeld : MethodName := ⟨RX6, "sortHeld", "()I"⟩
abbrev cX6_size : ByteArray := prog_8_method_8_code
def yX6_size : MethodName := ⟨RX6, "size", "()I"⟩
abbrev cX6_wayHeld : ByteArray := prog_8_method_9_code
def yX6_wayHeld : MethodName := ⟨RX6, "wayHeld", "()I"⟩
abbrev cX6_hasRun : ByteArray := prog_8_method_10_code
def yX6_hasRun : MethodName := ⟨RX6, "hasRun", "(II)Z"⟩
abbrev cX6_put : ByteArray := prog_8_method_11_code
def yX6_put : MethodName := ⟨RX6, "put", "(IJ)V"⟩
abbrev cX6_lowestBits : ByteArray := prog_8_method_12_code
def yX6_lowestBits : MethodName := ⟨RX6, "lowestBits", "(J)J"⟩
abbrev cX6_takeRun : ByteArray := prog_8_method_13_code
def yX6_takeRun : MethodName := ⟨RX6, "takeRun", "(LFourAskOne$Shelf;III)V"⟩
abbrev cX6_longAt : ByteArray := prog_8_method_14_code
def yX6_longAt : MethodName := ⟨RX6, "longAt", "(I)J"⟩
abbrev cX6_intAt : ByteArray := prog_8_method_15_code
def yX6_intAt : MethodName := ⟨RX6, "intAt", "(I)I"⟩
def RX7 : String := "FourAskOne$Talked"
def TX7 : u_T := fun k => match k with
  | 0 => ("FourAskOne$Way", "kind", "I", true)
  | 1 => ("FourAskOne$Way", "number", "I", true)
  | 2 => ("FourAskOne$Way", "a", "I", true)
  | _ => ("FourAskOne$Way", "trace", "LFourAskOne$Trace;", true)
def tyX7 : Nat → FieldType := fun k => match k with
  | 0 => .int
  | 1 => .int
  | 2 => .int
  | _ => .object "FourAskOne$Trace"
abbrev wsX70 : List Cond := u_ws RX7 TX7 4
theorem nmX7 : ∀ a, a < 4 → ∀ b, b < 4 → a ≠ b → (TX7 a).2.1 ≠ (TX7 b).2.1 := by decide +kernel
theorem tyX7_ok : ∀ k, k < 4 → parseFieldDescriptor (TX7 k).2.2.1 = some (tyX7 k) := by decide +kernel
abbrev cX7_init : ByteArray := prog_9_method_1_code
def yX7_init : MethodName := ⟨RX7, "<init>", "(IIILFourAskOne$Trace;)V"⟩
abbrev cX7_tenths : ByteArray := prog_9_method_2_code
def yX7_tenths : MethodName := ⟨RX7, "tenths", "()I"⟩
abbrev cX7_shown : ByteArray := prog_9_method_3_code
def yX7_shown : MethodName := ⟨RX7, "shown", "(LFourAskOne$House;II)I"⟩
abbrev cX7_feels : ByteArray := prog_9_method_4_code
def yX7_feels : MethodName := ⟨RX7, "feels", "(I)I"⟩
def RX8 : String := "FourAskOne$Trace"
def TX8 : u_T := fun k => match k with
  | 0 => ("FourAskOne$Trace", "bodies", "[I", true)
  | _ => ("FourAskOne$Trace", "ran", "I", false)
def tyX8 : Nat → FieldType := fun k => match k with
  | 0 => .array .int
  | _ => .int
abbrev wsX80 : List Cond := u_ws RX8 TX8 2
theorem nmX8 : ∀ a, a < 2 → ∀ b, b < 2 → a ≠ b → (TX8 a).2.1 ≠ (TX8 b).2.1 := by decide +kernel
theorem tyX8_ok : ∀ k, k < 2 → parseFieldDescriptor (TX8 k).2.2.1 = some (tyX8 k) := by decide +kernel
abbrev cX8_init : ByteArray := prog_10_method_1_code
def yX8_init : MethodName := ⟨RX8, "<init>", "()V"⟩
abbrev cX8_begin : ByteArray := prog_10_method_2_code
def yX8_begin : MethodName := ⟨RX8, "begin", "()V"⟩
abbrev cX8_began : ByteArray := prog_10_method_3_code
def yX8_began : MethodName := ⟨RX8, "began", "(I)V"⟩
abbrev cX8_ran : ByteArray := prog_10_method_4_code
def yX8_ran : MethodName := ⟨RX8, "ran", "()I"⟩
abbrev cX8_bodyAt : ByteArray := prog_10_method_5_code
def yX8_bodyAt : MethodName := ⟨RX8, "bodyAt", "(I)I"⟩
def RX9 : String := "FourAskOne$Way"
def TX9 : u_T := fun k => match k with
  | 0 => ("FourAskOne$Way", "kind", "I", true)
  | 1 => ("FourAskOne$Way", "number", "I", true)
  | 2 => ("FourAskOne$Way", "a", "I", true)
  | _ => ("FourAskOne$Way", "trace", "LFourAskOne$Trace;", true)
def tyX9 : Nat → FieldType := fun k => match k with
  | 0 => .int
  | 1 => .int
  | 2 => .int
  | _ => .object "FourAskOne$Trace"
abbrev wsX90 : List Cond := u_ws RX9 TX9 4
theorem nmX9 : ∀ a, a < 4 → ∀ b, b < 4 → a ≠ b → (TX9 a).2.1 ≠ (TX9 b).2.1 := by decide +kernel
theorem tyX9_ok : ∀ k, k < 4 → parseFieldDescriptor (TX9 k).2.2.1 = some (tyX9 k) := by decide +kernel
abbrev cX9_init : ByteArray := prog_11_method_1_code
def yX9_init : MethodName := ⟨RX9, "<init>", "(IIILFourAskOne$Trace;)V"⟩
abbrev cX9_shown : ByteArray := prog_11_method_2_code
def yX9_shown : MethodName := ⟨RX9, "shown", "(LFourAskOne$House;II)I"⟩
abbrev cX9_firstFeeling : ByteArray := prog_11_method_3_code
def yX9_firstFeeling : MethodName := ⟨RX9, "firstFeeling", "(LFourAskOne$House;II)I"⟩
abbrev cX9_feels : ByteArray := prog_11_method_4_code
def yX9_feels : MethodName := ⟨RX9, "feels", "(I)I"⟩
abbrev cX9_asks : ByteArray := prog_11_method_5_code
def yX9_asks : MethodName := ⟨RX9, "asks", "(I)I"⟩
abbrev cX9_sums : ByteArray := prog_11_method_6_code
def yX9_sums : MethodName := ⟨RX9, "sums", "(I)I"⟩
def RX10 : String := "FourAskOne$Worked"
def TX10 : u_T := fun k => match k with
  | 0 => ("FourAskOne$Way", "kind", "I", true)
  | 1 => ("FourAskOne$Way", "number", "I", true)
  | 2 => ("FourAskOne$Way", "a", "I", true)
  | _ => ("FourAskOne$Way", "trace", "LFourAskOne$Trace;", true)
def tyX10 : Nat → FieldType := fun k => match k with
  | 0 => .int
  | 1 => .int
  | 2 => .int
  | _ => .object "FourAskOne$Trace"
abbrev wsX100 : List Cond := u_ws RX10 TX10 4
theorem nmX10 : ∀ a, a < 4 → ∀ b, b < 4 → a ≠ b → (TX10 a).2.1 ≠ (TX10 b).2.1 := by decide +kernel
theorem tyX10_ok : ∀ k, k < 4 → parseFieldDescriptor (TX10 k).2.2.1 = some (tyX10 k) := by decide +kernel
abbrev cX10_init : ByteArray := prog_12_method_1_code
def yX10_init : MethodName := ⟨RX10, "<init>", "(IIILFourAskOne$Trace;)V"⟩
abbrev cX10_line : ByteArray := prog_12_method_2_code
def yX10_line : MethodName := ⟨RX10, "line", "()I"⟩
abbrev cX10_shown : ByteArray := prog_12_method_3_code
def yX10_shown : MethodName := ⟨RX10, "shown", "(LFourAskOne$House;II)I"⟩
abbrev cX10_asks : ByteArray := prog_12_method_4_code
def yX10_asks : MethodName := ⟨RX10, "asks", "(I)I"⟩
abbrev cX10_sums : ByteArray := prog_12_method_5_code
def yX10_sums : MethodName := ⟨RX10, "sums", "(I)I"⟩
def RX11 : String := "FourAskOne"
def TX11 : u_T := fun k => match k with
  | 0 => ("FourAskOne", "shelves", "[LFourAskOne$Shelf;", true)
  | 1 => ("FourAskOne", "trace", "LFourAskOne$Trace;", true)
  | 2 => ("FourAskOne", "house", "LFourAskOne$House;", true)
  | 3 => ("FourAskOne", "image", "LFourAskOne$House;", true)
  | 4 => ("FourAskOne", "text", "LFourAskOne$HouseText;", true)
  | 5 => ("FourAskOne", "refusals", "[I", true)
  | 6 => ("FourAskOne", "six", "[I", true)
  | 7 => ("FourAskOne", "imaged", "Z", false)
  | _ => ("FourAskOne", "fault", "I", false)
def tyX11 : Nat → FieldType := fun k => match k with
  | 0 => .array (.object "FourAskOne$Shelf")
  | 1 => .object "FourAskOne$Trace"
  | 2 => .object "FourAskOne$House"
  | 3 => .object "FourAskOne$House"
  | 4 => .object "FourAskOne$HouseText"
  | 5 => .array .int
  | 6 => .array .int
  | 7 => .boolean
  | _ => .int
abbrev wsX110 : List Cond := u_ws RX11 TX11 9
theorem nmX11 : ∀ a, a < 9 → ∀ b, b < 9 → a ≠ b → (TX11 a).2.1 ≠ (TX11 b).2.1 := by decide +kernel
theorem tyX11_ok : ∀ k, k < 9 → parseFieldDescriptor (TX11 k).2.2.1 = some (tyX11 k) := by decide +kernel
abbrev cX11_init : ByteArray := prog_1_method_1_code
def yX11_init : MethodName := ⟨RX11, "<init>", "()V"⟩
abbrev cX11_row : ByteArray := prog_1_method_2_code
def yX11_row : MethodName := ⟨RX11, "row", "(III)I"⟩
abbrev cX11_set : ByteArray := prog_1_method_3_code
def yX11_set : MethodName := ⟨RX11, "set", "(IIJ)I"⟩
abbrev cX11_copy : ByteArray := prog_1_method_4_code
def yX11_copy : MethodName := ⟨RX11, "copy", "(IIIII)I"⟩
abbrev cX11_element : ByteArray := prog_1_method_5_code
def yX11_element : MethodName := ⟨RX11, "element", "(II)J"⟩
abbrev cX11_show : ByteArray := prog_1_method_6_code
def yX11_show : MethodName := ⟨RX11, "show", "(II)I"⟩
abbrev cX11_holds : ByteArray := prog_1_method_7_code
def yX11_holds : MethodName := ⟨RX11, "holds", "(I)I"⟩
abbrev cX11_says : ByteArray := prog_1_method_8_code
def yX11_says : MethodName := ⟨RX11, "says", "(II)I"⟩
abbrev cX11_comer : ByteArray := prog_1_method_9_code
def yX11_comer : MethodName := ⟨RX11, "comer", "(II)I"⟩
abbrev cX11_asker : ByteArray := prog_1_method_10_code
def yX11_asker : MethodName := ⟨RX11, "asker", "(III)I"⟩
abbrev cX11_way : ByteArray := prog_1_method_11_code
def yX11_way : MethodName := ⟨RX11, "way", "(II)I"⟩
abbrev cX11_comerOf : ByteArray := prog_1_method_12_code
def yX11_comerOf : MethodName := ⟨RX11, "comerOf", "(II)I"⟩
abbrev cX11_askerOf : ByteArray := prog_1_method_13_code
def yX11_askerOf : MethodName := ⟨RX11, "askerOf", "(II)I"⟩
abbrev cX11_wayOf : ByteArray := prog_1_method_14_code
def yX11_wayOf : MethodName := ⟨RX11, "wayOf", "(II)I"⟩
abbrev cX11_change : ByteArray := prog_1_method_15_code
def yX11_change : MethodName := ⟨RX11, "change", "(III)I"⟩
abbrev cX11_drawn : ByteArray := prog_1_method_16_code
def yX11_drawn : MethodName := ⟨RX11, "drawn", "(II)I"⟩
abbrev cX11_chief : ByteArray := prog_1_method_17_code
def yX11_chief : MethodName := ⟨RX11, "chief", "(I)I"⟩
abbrev cX11_house : ByteArray := prog_1_method_18_code
def yX11_house : MethodName := ⟨RX11, "house", "(I)I"⟩
abbrev cX11_fault : ByteArray := prog_1_method_19_code
def yX11_fault : MethodName := ⟨RX11, "fault", "()I"⟩
abbrev cX11_shows : ByteArray := prog_1_method_20_code
def yX11_shows : MethodName := ⟨RX11, "shows", "(III)I"⟩
abbrev cX11_said : ByteArray := prog_1_method_21_code
def yX11_said : MethodName := ⟨RX11, "said", "(IZII)I"⟩
abbrev cX11_total : ByteArray := prog_1_method_22_code
def yX11_total : MethodName := ⟨RX11, "total", "(IZI)I"⟩
abbrev cX11_taken : ByteArray := prog_1_method_23_code
def yX11_taken : MethodName := ⟨RX11, "taken", "(IZ)I"⟩
abbrev cX11_best : ByteArray := prog_1_method_24_code
def yX11_best : MethodName := ⟨RX11, "best", "()I"⟩
abbrev cX11_tells : ByteArray := prog_1_method_25_code
def yX11_tells : MethodName := ⟨RX11, "tells", "(IZ)I"⟩
abbrev cX11_righted : ByteArray := prog_1_method_26_code
def yX11_righted : MethodName := ⟨RX11, "righted", "(II)I"⟩
abbrev cX11_head : ByteArray := prog_1_method_27_code
def yX11_head : MethodName := ⟨RX11, "head", "()I"⟩
abbrev cX11_joined : ByteArray := prog_1_method_28_code
def yX11_joined : MethodName := ⟨RX11, "joined", "(III)I"⟩
abbrev cX11_weights : ByteArray := prog_1_method_29_code
def yX11_weights : MethodName := ⟨RX11, "weights", "(II)I"⟩
abbrev cX11_heads : ByteArray := prog_1_method_30_code
def yX11_heads : MethodName := ⟨RX11, "heads", "(I)I"⟩
abbrev cX11_agree : ByteArray := prog_1_method_31_code
def yX11_agree : MethodName := ⟨RX11, "agree", "(I)I"⟩
abbrev cX11_wrong : ByteArray := prog_1_method_32_code
def yX11_wrong : MethodName := ⟨RX11, "wrong", "(IZ)I"⟩
abbrev cX11_lost : ByteArray := prog_1_method_33_code
def yX11_lost : MethodName := ⟨RX11, "lost", "(II)I"⟩
abbrev cX11_turned : ByteArray := prog_1_method_34_code
def yX11_turned : MethodName := ⟨RX11, "turned", "(I)I"⟩
abbrev cX11_piece : ByteArray := prog_1_method_35_code
def yX11_piece : MethodName := ⟨RX11, "piece", "()I"⟩
abbrev cX11_comes : ByteArray := prog_1_method_36_code
def yX11_comes : MethodName := ⟨RX11, "comes", "(II)I"⟩
abbrev cX11_lets : ByteArray := prog_1_method_37_code
def yX11_lets : MethodName := ⟨RX11, "lets", "(I)I"⟩
abbrev cX11_judge : ByteArray := prog_1_method_38_code
def yX11_judge : MethodName := ⟨RX11, "judge", "(I)I"⟩
abbrev cX11_told : ByteArray := prog_1_method_39_code
def yX11_told : MethodName := ⟨RX11, "told", "(I)I"⟩
abbrev cX11_come : ByteArray := prog_1_method_40_code
def yX11_come : MethodName := ⟨RX11, "come", "(I)I"⟩
abbrev cX11_clear : ByteArray := prog_1_method_41_code
def yX11_clear : MethodName := ⟨RX11, "clear", "()I"⟩
abbrev cX11_seed : ByteArray := prog_1_method_42_code
def yX11_seed : MethodName := ⟨RX11, "seed", "(I)I"⟩
abbrev cX11_act : ByteArray := prog_1_method_43_code
def yX11_act : MethodName := ⟨RX11, "act", "(III)I"⟩
abbrev cX11_trace : ByteArray := prog_1_method_44_code
def yX11_trace : MethodName := ⟨RX11, "trace", "(I)I"⟩
abbrev cX11_image : ByteArray := prog_1_method_45_code
def yX11_image : MethodName := ⟨RX11, "image", "()I"⟩
abbrev cX11_restore : ByteArray := prog_1_method_46_code
def yX11_restore : MethodName := ⟨RX11, "restore", "()I"⟩
abbrev cX11_status : ByteArray := prog_1_method_47_code
def yX11_status : MethodName := ⟨RX11, "status", "(I)I"⟩
abbrev cX11_shelfAt : ByteArray := prog_1_method_48_code
def yX11_shelfAt : MethodName := ⟨RX11, "shelfAt", "(I)LFourAskOne$Shelf;"⟩
abbrev cX11_whyNoRow : ByteArray := prog_1_method_49_code
def yX11_whyNoRow : MethodName := ⟨RX11, "whyNoRow", "(LFourAskOne$Shelf;)I"⟩
abbrev cX11_refuse : ByteArray := prog_1_method_50_code
def yX11_refuse : MethodName := ⟨RX11, "refuse", "(I)I"⟩
abbrev cX11_refuseFar : ByteArray := prog_1_method_51_code
def yX11_refuseFar : MethodName := ⟨RX11, "refuseFar", "(I)I"⟩
abbrev cX11_isUpTo : ByteArray := prog_1_method_52_code
def yX11_isUpTo : MethodName := ⟨RX11, "isUpTo", "(II)Z"⟩
abbrev cX11_isNumberOfComers : ByteArray := prog_1_method_53_code
def yX11_isNumberOfComers : MethodName := ⟨RX11, "isNumberOfComers", "(I)Z"⟩
abbrev cX11_saysAs : ByteArray := prog_1_method_54_code
def yX11_saysAs : MethodName := ⟨RX11, "saysAs", "(LFourAskOne$Way;I)I"⟩
abbrev cX11_ordersWon : ByteArray := prog_1_method_55_code
def yX11_ordersWon : MethodName := ⟨RX11, "ordersWon", "(II)I"⟩
abbrev cX11_factorial : ByteArray := prog_1_method_56_code
def yX11_factorial : MethodName := ⟨RX11, "factorial", "(I)I"⟩
def RX12 : String := "FourAskOneModel"
def TX12 : u_T := fun k => match k with
  | 0 => ("FourAskOneModel", "comers", "I", false)
  | 1 => ("FourAskOneModel", "askers", "I", false)
  | 2 => ("FourAskOneModel", "ways", "I", false)
  | 3 => ("FourAskOneModel", "seed", "I", false)
  | 4 => ("FourAskOneModel", "fault", "I", false)
  | 5 => ("FourAskOneModel", "refused", "[I", true)
  | 6 => ("FourAskOneModel", "of", "[I", true)
  | 7 => ("FourAskOneModel", "school", "[I", true)
  | 8 => ("FourAskOneModel", "like", "[I", true)
  | 9 => ("FourAskOneModel", "drawn", "[I", true)
  | 10 => ("FourAskOneModel", "order", "[I", true)
  | 11 => ("FourAskOneModel", "kind", "[I", true)
  | 12 => ("FourAskOneModel", "part", "[I", true)
  | 13 => ("FourAskOneModel", "held", "[I", true)
  | 14 => ("FourAskOneModel", "sort", "[I", true)
  | 15 => ("FourAskOneModel", "size", "[I", true)
  | 16 => ("FourAskOneModel", "shown", "[I", true)
  | 17 => ("FourAskOneModel", "cells", "[J", true)
  | 18 => ("FourAskOneModel", "carried", "[J", true)
  | 19 => ("FourAskOneModel", "words", "[I", true)
  | 20 => ("FourAskOneModel", "tell", "[I", true)
  | 21 => ("FourAskOneModel", "base", "I", false)
  | 22 => ("FourAskOneModel", "at", "I", false)
  | 23 => ("FourAskOneModel", "end", "I", false)
  | 24 => ("FourAskOneModel", "told", "I", false)
  | 25 => ("FourAskOneModel", "wrongAt", "I", false)
  | 26 => ("FourAskOneModel", "was", "[I", true)
  | 27 => ("FourAskOneModel", "kept", "[I", true)
  | 28 => ("FourAskOneModel", "gone", "I", false)
  | 29 => ("FourAskOneModel", "number", "[I", true)
  | 30 => ("FourAskOneModel", "trace", "[I", true)
  | 31 => ("FourAskOneModel", "ran", "I", false)
  | _ => ("FourAskOneModel", "isKept", "Z", false)
def tyX12 : Nat → FieldType := fun k => match k with
  | 0 => .int
  | 1 => .int
  | 2 => .int
  | 3 => .int
  | 4 => .int
  | 5 => .array .int
  | 6 => .array .int
  | 7 => .array .int
  | 8 => .array .int
  | 9 => .array .int
  | 10 => .array .int
  | 11 => .array .int
  | 12 => .array .int
  | 13 => .array .int
  | 14 => .array .int
  | 15 => .array .int
  | 16 => .array .int
  | 17 => .array .long
  | 18 => .array .long
  | 19 => .array .int
  | 20 => .array .int
  | 21 => .int
  | 22 => .int
  | 23 => .int
  | 24 => .int
  | 25 => .int
  | 26 => .array .int
  | 27 => .array .int
  | 28 => .int
  | 29 => .array .int
  | 30 => .array .int
  | 31 => .int
  | _ => .boolean
abbrev wsX120 : List Cond := u_ws RX12 TX12 33
theorem nmX12 : ∀ a, a < 33 → ∀ b, b < 33 → a ≠ b → (TX12 a).2.1 ≠ (TX12 b).2.1 := by decide +kernel
theorem tyX12_ok : ∀ k, k < 33 → parseFieldDescriptor (TX12 k).2.2.1 = some (tyX12 k) := by decide +kernel
abbrev cX12_init : ByteArray := prog_14_method_1_code
def yX12_init : MethodName := ⟨RX12, "<init>", "()V"⟩
abbrev cX12_no : ByteArray := prog_14_method_2_code
def yX12_no : MethodName := ⟨RX12, "no", "(I)I"⟩
abbrev cX12_noTen : ByteArray := prog_14_method_3_code
def yX12_noTen : MethodName := ⟨RX12, "noTen", "(I)I"⟩
abbrev cX12_noLow : ByteArray := prog_14_method_4_code
def yX12_noLow : MethodName := ⟨RX12, "noLow", "(I)I"⟩
abbrev cX12_isShelf : ByteArray := prog_14_method_5_code
def yX12_isShelf : MethodName := ⟨RX12, "isShelf", "(I)Z"⟩
abbrev cX12_isComer : ByteArray := prog_14_method_6_code
def yX12_isComer : MethodName := ⟨RX12, "isComer", "(I)Z"⟩
abbrev cX12_isAsker : ByteArray := prog_14_method_7_code
def yX12_isAsker : MethodName := ⟨RX12, "isAsker", "(I)Z"⟩
abbrev cX12_isWay : ByteArray := prog_14_method_8_code
def yX12_isWay : MethodName := ⟨RX12, "isWay", "(I)Z"⟩
abbrev cX12_row : ByteArray := prog_14_method_9_code
def yX12_row : MethodName := ⟨RX12, "row", "(III)I"⟩
abbrev cX12_set : ByteArray := prog_14_method_10_code
def yX12_set : MethodName := ⟨RX12, "set", "(IIJ)I"⟩
abbrev cX12_copy : ByteArray := prog_14_method_11_code
def yX12_copy : MethodName := ⟨RX12, "copy", "(IIIII)I"⟩
abbrev cX12_element : ByteArray := prog_14_method_12_code
def yX12_element : MethodName := ⟨RX12, "element", "(II)J"⟩
abbrev cX12_show : ByteArray := prog_14_method_13_code
def yX12_show : MethodName := ⟨RX12, "show", "(II)I"⟩
abbrev cX12_holds : ByteArray := prog_14_method_14_code
def yX12_holds : MethodName := ⟨RX12, "holds", "(I)I"⟩
abbrev cX12_says : ByteArray := prog_14_method_15_code
def yX12_says : MethodName := ⟨RX12, "says", "(II)I"⟩
abbrev cX12_wants : ByteArray := prog_14_method_16_code
def yX12_wants : MethodName := ⟨RX12, "wants", "(I)I"⟩
abbrev cX12_intAt : ByteArray := prog_14_method_17_code
def yX12_intAt : MethodName := ⟨RX12, "intAt", "(II)I"⟩
abbrev cX12_top : ByteArray := prog_14_method_18_code
def yX12_top : MethodName := ⟨RX12, "top", "(I)I"⟩
abbrev cX12_comer : ByteArray := prog_14_method_19_code
def yX12_comer : MethodName := ⟨RX12, "comer", "(II)I"⟩
abbrev cX12_askers : ByteArray := prog_14_method_20_code
def yX12_askers : MethodName := ⟨RX12, "askers", "(III)I"⟩
abbrev cX12_asker : ByteArray := prog_14_method_21_code
def yX12_asker : MethodName := ⟨RX12, "asker", "(III)I"⟩
abbrev cX12_ways : ByteArray := prog_14_method_22_code
def yX12_ways : MethodName := ⟨RX12, "ways", "(II)I"⟩
abbrev cX12_way : ByteArray := prog_14_method_23_code
def yX12_way : MethodName := ⟨RX12, "way", "(II)I"⟩
abbrev cX12_sumOf : ByteArray := prog_14_method_24_code
def yX12_sumOf : MethodName := ⟨RX12, "sumOf", "(I)I"⟩
abbrev cX12_comerOf : ByteArray := prog_14_method_25_code
def yX12_comerOf : MethodName := ⟨RX12, "comerOf", "(II)I"⟩
abbrev cX12_placeOf : ByteArray := prog_14_method_26_code
def yX12_placeOf : MethodName := ⟨RX12, "placeOf", "(I)I"⟩
abbrev cX12_askerOf : ByteArray := prog_14_method_27_code
def yX12_askerOf : MethodName := ⟨RX12, "askerOf", "(II)I"⟩
abbrev cX12_wayOf : ByteArray := prog_14_method_28_code
def yX12_wayOf : MethodName := ⟨RX12, "wayOf", "(II)I"⟩
abbrev cX12_change : ByteArray := prog_14_method_29_code
def yX12_change : MethodName := ⟨RX12, "change", "(III)I"⟩
abbrev cX12_drawn : ByteArray := prog_14_method_30_code
def yX12_drawn : MethodName := ⟨RX12, "drawn", "(II)I"⟩
abbrev cX12_first : ByteArray := prog_14_method_31_code
def yX12_first : MethodName := ⟨RX12, "first", "(I)I"⟩
abbrev cX12_chief : ByteArray := prog_14_method_32_code
def yX12_chief : MethodName := ⟨RX12, "chief", "(I)I"⟩
abbrev cX12_wrong : ByteArray := prog_14_method_33_code
def yX12_wrong : MethodName := ⟨RX12, "wrong", "(I)Z"⟩
abbrev cX12_word : ByteArray := prog_14_method_34_code
def yX12_word : MethodName := ⟨RX12, "word", "()I"⟩
abbrev cX12_isDigit : ByteArray := prog_14_method_35_code
def yX12_isDigit : MethodName := ⟨RX12, "isDigit", "()Z"⟩
abbrev cX12_number : ByteArray := prog_14_method_36_code
def yX12_number : MethodName := ⟨RX12, "number", "(I)Z"⟩
abbrev cX12_high : ByteArray := prog_14_method_37_code
def yX12_high : MethodName := ⟨RX12, "high", "(II)I"⟩
abbrev cX12_isFull : ByteArray := prog_14_method_38_code
def yX12_isFull : MethodName := ⟨RX12, "isFull", "(I)Z"⟩
abbrev cX12_isWordAt : ByteArray := prog_14_method_39_code
def yX12_isWordAt : MethodName := ⟨RX12, "isWordAt", "(I)Z"⟩
abbrev cX12_item : ByteArray := prog_14_method_40_code
def yX12_item : MethodName := ⟨RX12, "item", "()Z"⟩
abbrev cX12_keeps : ByteArray := prog_14_method_41_code
def yX12_keeps : MethodName := ⟨RX12, "keeps", "([II[IIZ)I"⟩
abbrev cX12_all : ByteArray := prog_14_method_42_code
def yX12_all : MethodName := ⟨RX12, "all", "([IZ)V"⟩
abbrev cX12_house : ByteArray := prog_14_method_43_code
def yX12_house : MethodName := ⟨RX12, "house", "(I)I"⟩
abbrev cX12_fault : ByteArray := prog_14_method_44_code
def yX12_fault : MethodName := ⟨RX12, "fault", "()I"⟩
abbrev cX12_feeling : ByteArray := prog_14_method_45_code
def yX12_feeling : MethodName := ⟨RX12, "feeling", "(I)I"⟩
abbrev cX12_showsBy : ByteArray := prog_14_method_46_code
def yX12_showsBy : MethodName := ⟨RX12, "showsBy", "(III)I"⟩
abbrev cX12_shows : ByteArray := prog_14_method_47_code
def yX12_shows : MethodName := ⟨RX12, "shows", "(III)I"⟩
abbrev cX12_saidBy : ByteArray := prog_14_method_48_code
def yX12_saidBy : MethodName := ⟨RX12, "saidBy", "(IZII)I"⟩
abbrev cX12_said : ByteArray := prog_14_method_49_code
def yX12_said : MethodName := ⟨RX12, "said", "(IZII)I"⟩
abbrev cX12_totalBy : ByteArray := prog_14_method_50_code
def yX12_totalBy : MethodName := ⟨RX12, "totalBy", "(IZI)I"⟩
abbrev cX12_total : ByteArray := prog_14_method_51_code
def yX12_total : MethodName := ⟨RX12, "total", "(IZI)I"⟩
abbrev cX12_takenBy : ByteArray := prog_14_method_52_code
def yX12_takenBy : MethodName := ⟨RX12, "takenBy", "(IZ)I"⟩
abbrev cX12_taken : ByteArray := prog_14_method_53_code
def yX12_taken : MethodName := ⟨RX12, "taken", "(IZ)I"⟩
abbrev cX12_bestNow : ByteArray := prog_14_method_54_code
def yX12_bestNow : MethodName := ⟨RX12, "bestNow", "()I"⟩
abbrev cX12_best : ByteArray := prog_14_method_55_code
def yX12_best : MethodName := ⟨RX12, "best", "()I"⟩
abbrev cX12_tellsBy : ByteArray := prog_14_method_56_code
def yX12_tellsBy : MethodName := ⟨RX12, "tellsBy", "(I)I"⟩
abbrev cX12_totals : ByteArray := prog_14_method_57_code
def yX12_totals : MethodName := ⟨RX12, "totals", "(IZ)V"⟩
abbrev cX12_tells : ByteArray := prog_14_method_58_code
def yX12_tells : MethodName := ⟨RX12, "tells", "(IZ)I"⟩
abbrev cX12_righted : ByteArray := prog_14_method_59_code
def yX12_righted : MethodName := ⟨RX12, "righted", "(II)I"⟩
abbrev cX12_head : ByteArray := prog_14_method_60_code
def yX12_head : MethodName := ⟨RX12, "head", "()I"⟩
abbrev cX12_joins : ByteArray := prog_14_method_61_code
def yX12_joins : MethodName := ⟨RX12, "joins", "(III)I"⟩
abbrev cX12_joined : ByteArray := prog_14_method_62_code
def yX12_joined : MethodName := ⟨RX12, "joined", "(III)I"⟩
abbrev cX12_weights : ByteArray := prog_14_method_63_code
def yX12_weights : MethodName := ⟨RX12, "weights", "(II)I"⟩
abbrev cX12_heads : ByteArray := prog_14_method_64_code
def yX12_heads : MethodName := ⟨RX12, "heads", "(I)I"⟩
abbrev cX12_agree : ByteArray := prog_14_method_65_code
def yX12_agree : MethodName := ⟨RX12, "agree", "(I)I"⟩
abbrev cX12_wrong_ : ByteArray := prog_14_method_66_code
def yX12_wrong_ : MethodName := ⟨RX12, "wrong", "(IZ)I"⟩
abbrev cX12_lost : ByteArray := prog_14_method_67_code
def yX12_lost : MethodName := ⟨RX12, "lost", "(II)I"⟩
abbrev cX12_turned : ByteArray := prog_14_method_68_code
def yX12_turned : MethodName := ⟨RX12, "turned", "(I)I"⟩
abbrev cX12_piece : ByteArray := prog_14_method_69_code
def yX12_piece : MethodName := ⟨RX12, "piece", "()I"⟩
abbrev cX12_comesBy : ByteArray := prog_14_method_70_code
def yX12_comesBy : MethodName := ⟨RX12, "comesBy", "(II)I"⟩
abbrev cX12_comes : ByteArray := prog_14_method_71_code
def yX12_comes : MethodName := ⟨RX12, "comes", "(II)I"⟩
abbrev cX12_lets : ByteArray := prog_14_method_72_code
def yX12_lets : MethodName := ⟨RX12, "lets", "(I)I"⟩
abbrev cX12_ranked : ByteArray := prog_14_method_73_code
def yX12_ranked : MethodName := ⟨RX12, "ranked", "(I)I"⟩
abbrev cX12_judge : ByteArray := prog_14_method_74_code
def yX12_judge : MethodName := ⟨RX12, "judge", "(I)I"⟩
abbrev cX12_told : ByteArray := prog_14_method_75_code
def yX12_told : MethodName := ⟨RX12, "told", "(I)I"⟩
abbrev cX12_draw : ByteArray := prog_14_method_76_code
def yX12_draw : MethodName := ⟨RX12, "draw", "(I)I"⟩
abbrev cX12_come : ByteArray := prog_14_method_77_code
def yX12_come : MethodName := ⟨RX12, "come", "(I)I"⟩
abbrev cX12_clear : ByteArray := prog_14_method_78_code
def yX12_clear : MethodName := ⟨RX12, "clear", "()I"⟩
abbrev cX12_seed : ByteArray := prog_14_method_79_code
def yX12_seed : MethodName := ⟨RX12, "seed", "(I)I"⟩
abbrev cX12_body : ByteArray := prog_14_method_80_code
def yX12_body : MethodName := ⟨RX12, "body", "(I)V"⟩
abbrev cX12_feels : ByteArray := prog_14_method_81_code
def yX12_feels : MethodName := ⟨RX12, "feels", "(II)I"⟩
abbrev cX12_asks : ByteArray := prog_14_method_82_code
def yX12_asks : MethodName := ⟨RX12, "asks", "(II)I"⟩
abbrev cX12_sums : ByteArray := prog_14_method_83_code
def yX12_sums : MethodName := ⟨RX12, "sums", "(II)I"⟩
abbrev cX12_act : ByteArray := prog_14_method_84_code
def yX12_act : MethodName := ⟨RX12, "act", "(III)I"⟩
abbrev cX12_trace : ByteArray := prog_14_method_85_code
def yX12_trace : MethodName := ⟨RX12, "trace", "(I)I"⟩
abbrev cX12_image : ByteArray := prog_14_method_86_code
def yX12_image : MethodName := ⟨RX12, "image", "()I"⟩
abbrev cX12_restore : ByteArray := prog_14_method_87_code
def yX12_restore : MethodName := ⟨RX12, "restore", "()I"⟩
abbrev cX12_status : ByteArray := prog_14_method_88_code
def yX12_status : MethodName := ⟨RX12, "status", "(I)I"⟩
def RJx145de : String := "java/io/Serializable"
def TJx145de : u_T := fun k => match k with
  | _ => ("", "", "", false)
def tyJx145de : Nat → FieldType := fun k => match k with
  | _ => .int
theorem nmJx145de : ∀ a, a < 0 → ∀ b, b < 0 → a ≠ b → (TJx145de a).2.1 ≠ (TJx145de b).2.1 := by decide +kernel
theorem tyJx145de_ok : ∀ k, k < 0 → parseFieldDescriptor (TJx145de k).2.2.1 = some (tyJx145de k) := by decide +kernel
def RJx9f9b0 : String := "java/lang/CharSequence"
def TJx9f9b0 : u_T := fun k => match k with
  | _ => ("", "", "", false)
def tyJx9f9b0 : Nat → FieldType := fun k => match k with
  | _ => .int
theorem nmJx9f9b0 : ∀ a, a < 0 → ∀ b, b < 0 → a ≠ b → (TJx9f9b0 a).2.1 ≠ (TJx9f9b0 b).2.1 := by decide +kernel
theorem tyJx9f9b0_ok : ∀ k, k < 0 → parseFieldDescriptor (TJx9f9b0 k).2.2.1 = some (tyJx9f9b0 k) := by decide +kernel
def RJxb160c : String := "java/lang/Comparable"
def TJxb160c : u_T := fun k => match k with
  | _ => ("", "", "", false)
def tyJxb160c : Nat → FieldType := fun k => match k with
  | _ => .int
theorem nmJxb160c : ∀ a, a < 0 → ∀ b, b < 0 → a ≠ b → (TJxb160c a).2.1 ≠ (TJxb160c b).2.1 := by decide +kernel
theorem tyJxb160c_ok : ∀ k, k < 0 → parseFieldDescriptor (TJxb160c k).2.2.1 = some (tyJxb160c k) := by decide +kernel
def RJ9 : String := "java/lang/Math"
def TJ9 : u_T := fun k => match k with
  | _ => ("", "", "", false)
def tyJ9 : Nat → FieldType := fun k => match k with
  | _ => .int
abbrev wsJ90 : List Cond := u_ws RJ9 TJ9 0
theorem nmJ9 : ∀ a, a < 0 → ∀ b, b < 0 → a ≠ b → (TJ9 a).2.1 ≠ (TJ9 b).2.1 := by decide +kernel
theorem tyJ9_ok : ∀ k, k < 0 → parseFieldDescriptor (TJ9 k).2.2.1 = some (tyJ9 k) := by decide +kernel
abbrev cJ9_max_7cf53 : ByteArray := prog_15_method_65_code
def yJ9_max_7cf53 : MethodName := ⟨RJ9, "max", "(II)I"⟩
abbrev cJ9_min_7cf53 : ByteArray := prog_15_method_69_code
def yJ9_min_7cf53 : MethodName := ⟨RJ9, "min", "(II)I"⟩
def RJ0 : String := "java/lang/String"
def TJ0 : u_T := fun k => match k with
  | _ => ("", "", "", false)
def tyJ0 : Nat → FieldType := fun k => match k with
  | _ => .int
abbrev wsJ00 : List Cond := u_ws RJ0 TJ0 0
theorem nmJ0 : ∀ a, a < 0 → ∀ b, b < 0 → a ≠ b → (TJ0 a).2.1 ≠ (TJ0 b).2.1 := by decide +kernel
theorem tyJ0_ok : ∀ k, k < 0 → parseFieldDescriptor (TJ0 k).2.2.1 = some (tyJ0 k) := by decide +kernel
abbrev cJ0_length_8abf5 : ByteArray := prog_16_method_54_code
def yJ0_length_8abf5 : MethodName := ⟨RJ0, "length", "()I"⟩
abbrev cJ0_charAt_5068e : ByteArray := prog_16_method_56_code
def yJ0_charAt_5068e : MethodName := ⟨RJ0, "charAt", "(I)C"⟩
abbrev cJ0_coder_7d493 : ByteArray := prog_16_method_152_code
def yJ0_coder_7d493 : MethodName := ⟨RJ0, "coder", "()B"⟩
abbrev cJ0_isLatin1_aae02 : ByteArray := prog_16_method_154_code
def yJ0_isLatin1_aae02 : MethodName := ⟨RJ0, "isLatin1", "()Z"⟩
abbrev cJ0_checkIndex_df160 : ByteArray := prog_16_method_155_code
def yJ0_checkIndex_df160 : MethodName := ⟨RJ0, "checkIndex", "(II)V"⟩
def RJ1 : String := "java/lang/StringLatin1"
def TJ1 : u_T := fun k => match k with
  | _ => ("", "", "", false)
def tyJ1 : Nat → FieldType := fun k => match k with
  | _ => .int
abbrev wsJ10 : List Cond := u_ws RJ1 TJ1 0
theorem nmJ1 : ∀ a, a < 0 → ∀ b, b < 0 → a ≠ b → (TJ1 a).2.1 ≠ (TJ1 b).2.1 := by decide +kernel
theorem tyJ1_ok : ∀ k, k < 0 → parseFieldDescriptor (TJ1 k).2.2.1 = some (tyJ1 k) := by decide +kernel
abbrev cJ1_charAt_3b067 : ByteArray := prog_17_method_2_code
def yJ1_charAt_3b067 : MethodName := ⟨RJ1, "charAt", "([BI)C"⟩
def RJ2 : String := "java/lang/StringUTF16"
def TJ2 : u_T := fun k => match k with
  | _ => ("", "", "", false)
def tyJ2 : Nat → FieldType := fun k => match k with
  | _ => .int
abbrev wsJ20 : List Cond := u_ws RJ2 TJ2 0
theorem nmJ2 : ∀ a, a < 0 → ∀ b, b < 0 → a ≠ b → (TJ2 a).2.1 ≠ (TJ2 b).2.1 := by decide +kernel
theorem tyJ2_ok : ∀ k, k < 0 → parseFieldDescriptor (TJ2 k).2.2.1 = some (tyJ2 k) := by decide +kernel
abbrev cJ2_getChar_3b067 : ByteArray := prog_18_method_5_code
def yJ2_getChar_3b067 : MethodName := ⟨RJ2, "getChar", "([BI)C"⟩
abbrev cJ2_length_9d52b : ByteArray := prog_18_method_6_code
def yJ2_length_9d52b : MethodName := ⟨RJ2, "length", "([B)I"⟩
abbrev cJ2_charAt_3b067 : ByteArray := prog_18_method_83_code
def yJ2_charAt_3b067 : MethodName := ⟨RJ2, "charAt", "([BI)C"⟩
abbrev cJ2_checkIndex_2214a : ByteArray := prog_18_method_91_code
def yJ2_checkIndex_2214a : MethodName := ⟨RJ2, "checkIndex", "(I[B)V"⟩
def RJ10 : String := "java/lang/System"
def TJ10 : u_T := fun k => match k with
  | _ => ("", "", "", false)
def tyJ10 : Nat → FieldType := fun k => match k with
  | _ => .int
abbrev wsJ100 : List Cond := u_ws RJ10 TJ10 0
theorem nmJ10 : ∀ a, a < 0 → ∀ b, b < 0 → a ≠ b → (TJ10 a).2.1 ≠ (TJ10 b).2.1 := by decide +kernel
theorem tyJ10_ok : ∀ k, k < 0 → parseFieldDescriptor (TJ10 k).2.2.1 = some (tyJ10 k) := by decide +kernel
def RJxfd54e : String := "java/lang/constant/Constable"
def TJxfd54e : u_T := fun k => match k with
  | _ => ("", "", "", false)
def tyJxfd54e : Nat → FieldType := fun k => match k with
  | _ => .int
theorem nmJxfd54e : ∀ a, a < 0 → ∀ b, b < 0 → a ≠ b → (TJxfd54e a).2.1 ≠ (TJxfd54e b).2.1 := by decide +kernel
theorem tyJxfd54e_ok : ∀ k, k < 0 → parseFieldDescriptor (TJxfd54e k).2.2.1 = some (tyJxfd54e k) := by decide +kernel
def RJx3cf43 : String := "java/lang/constant/ConstantDesc"
def TJx3cf43 : u_T := fun k => match k with
  | _ => ("", "", "", false)
def tyJx3cf43 : Nat → FieldType := fun k => match k with
  | _ => .int
theorem nmJx3cf43 : ∀ a, a < 0 → ∀ b, b < 0 → a ≠ b → (TJx3cf43 a).2.1 ≠ (TJx3cf43 b).2.1 := by decide +kernel
theorem tyJx3cf43_ok : ∀ k, k < 0 → parseFieldDescriptor (TJx3cf43 k).2.2.1 = some (tyJx3cf43 k) := by decide +kernel
def RJ7 : String := "java/util/Arrays"
def TJ7 : u_T := fun k => match k with
  | _ => ("", "", "", false)
def tyJ7 : Nat → FieldType := fun k => match k with
  | _ => .int
abbrev wsJ70 : List Cond := u_ws RJ7 TJ7 0
theorem nmJ7 : ∀ a, a < 0 → ∀ b, b < 0 → a ≠ b → (TJ7 a).2.1 ≠ (TJ7 b).2.1 := by decide +kernel
theorem tyJ7_ok : ∀ k, k < 0 → parseFieldDescriptor (TJ7 k).2.2.1 = some (tyJ7 k) := by decide +kernel
abbrev cJ7_fill_d0a16 : ByteArray := prog_20_method_101_code
def yJ7_fill_d0a16 : MethodName := ⟨RJ7, "fill", "([JJ)V"⟩
def RJ3 : String := "jdk/internal/util/Preconditions"
def TJ3 : u_T := fun k => match k with
  | _ => ("", "", "", false)
def tyJ3 : Nat → FieldType := fun k => match k with
  | _ => .int
abbrev wsJ30 : List Cond := u_ws RJ3 TJ3 0
theorem nmJ3 : ∀ a, a < 0 → ∀ b, b < 0 → a ≠ b → (TJ3 a).2.1 ≠ (TJ3 b).2.1 := by decide +kernel
theorem tyJ3_ok : ∀ k, k < 0 → parseFieldDescriptor (TJ3 k).2.2.1 = some (tyJ3 k) := by decide +kernel
abbrev cJ3_checkIndex_8e157 : ByteArray := prog_21_method_11_code
def yJ3_checkIndex_8e157 : MethodName := ⟨RJ3, "checkIndex", "(IILjava/util/function/BiFunction;)I"⟩
def RL : String := "FourAskOneLaw"
abbrev cL_law : ByteArray := code
def yL_law : MethodName := ⟨RL, "law", "([I)Z"⟩
abbrev vwCl : List vw_C := [(RX0, TX0, 4), (RX1, TX1, 11), (RX2, TX2, 4), (RX3, TX3, 4), (RX4, TX4, 4), (RX5, TX5, 4), (RX6, TX6, 4), (RX7, TX7, 4), (RX8, TX8, 2), (RX9, TX9, 4), (RX10, TX10, 4), (RX11, TX11, 9), (RX12, TX12, 33)]
