-- ===== PART A: goes FIRST, ahead of the names: the tables' words, and 'selects' of the private methods out of them =====
/-- a private method of a class that the tables say can be made, by its rows of tables_1 -/
def lw_okq (q : MethodName × Nat) : Prop := (q.1.cls ≠ "java/lang/invoke/MethodHandle" ∧ q.1.cls ≠ "java/lang/invoke/VarHandle") ∧ Cond.instantiable q.1.cls q.2 ∈ tables_1 ∧ Cond.privateMethod q.1 ∈ tables_1 ∧ Cond.instanceMethod q.1 ∈ tables_1
theorem lw_p0 : lw_okq (⟨"CityRoad", "found", "(I)I"⟩, 18) := ⟨⟨by decide +kernel, by decide +kernel⟩, List.mem_of_getElem? (i := 19) (by decide +kernel), List.mem_of_getElem? (i := 434) (by decide +kernel), List.mem_of_getElem? (i := 435) (by decide +kernel)⟩
theorem lw_p1 : lw_okq (⟨"CityRoad", "tell", "(I)I"⟩, 18) := ⟨⟨by decide +kernel, by decide +kernel⟩, List.mem_of_getElem? (i := 19) (by decide +kernel), List.mem_of_getElem? (i := 464) (by decide +kernel), List.mem_of_getElem? (i := 465) (by decide +kernel)⟩
theorem lw_p2 : lw_okq (⟨"CityRoad", "settle", "(II)V"⟩, 18) := ⟨⟨by decide +kernel, by decide +kernel⟩, List.mem_of_getElem? (i := 19) (by decide +kernel), List.mem_of_getElem? (i := 632) (by decide +kernel), List.mem_of_getElem? (i := 633) (by decide +kernel)⟩
theorem lw_p3 : lw_okq (⟨"CityRoad", "setPrices", "(I)V"⟩, 18) := ⟨⟨by decide +kernel, by decide +kernel⟩, List.mem_of_getElem? (i := 19) (by decide +kernel), List.mem_of_getElem? (i := 713) (by decide +kernel), List.mem_of_getElem? (i := 714) (by decide +kernel)⟩
theorem lw_p4 : lw_okq (⟨"CityRoad", "inForce", "(I)I"⟩, 18) := ⟨⟨by decide +kernel, by decide +kernel⟩, List.mem_of_getElem? (i := 19) (by decide +kernel), List.mem_of_getElem? (i := 722) (by decide +kernel), List.mem_of_getElem? (i := 723) (by decide +kernel)⟩
theorem lw_p5 : lw_okq (⟨"CityRoad$WaySearch", "rouseBeside", "(LCityRoad$Ground;II)V"⟩, 11) := ⟨⟨by decide +kernel, by decide +kernel⟩, List.mem_of_getElem? (i := 239) (by decide +kernel), List.mem_of_getElem? (i := 732) (by decide +kernel), List.mem_of_getElem? (i := 733) (by decide +kernel)⟩
theorem lw_p6 : lw_okq (⟨"CityRoad$WaySearch", "next", "()I"⟩, 11) := ⟨⟨by decide +kernel, by decide +kernel⟩, List.mem_of_getElem? (i := 239) (by decide +kernel), List.mem_of_getElem? (i := 758) (by decide +kernel), List.mem_of_getElem? (i := 759) (by decide +kernel)⟩
theorem lw_p7 : lw_okq (⟨"CityRoad$WaySearch", "improve", "(LCityRoad$Ground;II)Z"⟩, 11) := ⟨⟨by decide +kernel, by decide +kernel⟩, List.mem_of_getElem? (i := 239) (by decide +kernel), List.mem_of_getElem? (i := 763) (by decide +kernel), List.mem_of_getElem? (i := 764) (by decide +kernel)⟩
theorem lw_p8 : lw_okq (⟨"CityRoad$WaySearch", "rest", "(II)I"⟩, 11) := ⟨⟨by decide +kernel, by decide +kernel⟩, List.mem_of_getElem? (i := 239) (by decide +kernel), List.mem_of_getElem? (i := 767) (by decide +kernel), List.mem_of_getElem? (i := 768) (by decide +kernel)⟩
theorem lw_p9 : lw_okq (⟨"CityRoad$WaySearch", "trace", "(I)V"⟩, 11) := ⟨⟨by decide +kernel, by decide +kernel⟩, List.mem_of_getElem? (i := 239) (by decide +kernel), List.mem_of_getElem? (i := 773) (by decide +kernel), List.mem_of_getElem? (i := 774) (by decide +kernel)⟩
theorem lw_p10 : lw_okq (⟨"CityRoad$WaySearch", "firstOfLeast", "(II)I"⟩, 11) := ⟨⟨by decide +kernel, by decide +kernel⟩, List.mem_of_getElem? (i := 239) (by decide +kernel), List.mem_of_getElem? (i := 777) (by decide +kernel), List.mem_of_getElem? (i := 778) (by decide +kernel)⟩
theorem lw_p11 : lw_okq (⟨"CityRoad", "couldCome", "(I)I"⟩, 18) := ⟨⟨by decide +kernel, by decide +kernel⟩, List.mem_of_getElem? (i := 19) (by decide +kernel), List.mem_of_getElem? (i := 944) (by decide +kernel), List.mem_of_getElem? (i := 945) (by decide +kernel)⟩
theorem lw_p12 : lw_okq (⟨"CityRoad", "isEarly", "(II)Z"⟩, 18) := ⟨⟨by decide +kernel, by decide +kernel⟩, List.mem_of_getElem? (i := 19) (by decide +kernel), List.mem_of_getElem? (i := 1015) (by decide +kernel), List.mem_of_getElem? (i := 1016) (by decide +kernel)⟩
theorem lw_p13 : lw_okq (⟨"CityRoad$Rehousing", "listHouses", "(LCityRoad$Buildings;J)I"⟩, 9) := ⟨⟨by decide +kernel, by decide +kernel⟩, List.mem_of_getElem? (i := 283) (by decide +kernel), List.mem_of_getElem? (i := 1048) (by decide +kernel), List.mem_of_getElem? (i := 1049) (by decide +kernel)⟩
theorem lw_p14 : lw_okq (⟨"CityRoad$Rehousing", "listPeople", "(LCityRoad$Buildings;LCityRoad$Persons;J)I"⟩, 9) := ⟨⟨by decide +kernel, by decide +kernel⟩, List.mem_of_getElem? (i := 283) (by decide +kernel), List.mem_of_getElem? (i := 1056) (by decide +kernel), List.mem_of_getElem? (i := 1057) (by decide +kernel)⟩
theorem lw_p15 : lw_okq (⟨"CityRoad$Rehousing", "insert", "(I)V"⟩, 9) := ⟨⟨by decide +kernel, by decide +kernel⟩, List.mem_of_getElem? (i := 283) (by decide +kernel), List.mem_of_getElem? (i := 1068) (by decide +kernel), List.mem_of_getElem? (i := 1069) (by decide +kernel)⟩
def lw_privs_1 : List (MethodName × Nat) := [(⟨"CityRoad", "found", "(I)I"⟩, 18), (⟨"CityRoad", "tell", "(I)I"⟩, 18), (⟨"CityRoad", "settle", "(II)V"⟩, 18), (⟨"CityRoad", "setPrices", "(I)V"⟩, 18), (⟨"CityRoad", "inForce", "(I)I"⟩, 18), (⟨"CityRoad$WaySearch", "rouseBeside", "(LCityRoad$Ground;II)V"⟩, 11), (⟨"CityRoad$WaySearch", "next", "()I"⟩, 11), (⟨"CityRoad$WaySearch", "improve", "(LCityRoad$Ground;II)Z"⟩, 11), (⟨"CityRoad$WaySearch", "rest", "(II)I"⟩, 11), (⟨"CityRoad$WaySearch", "trace", "(I)V"⟩, 11), (⟨"CityRoad$WaySearch", "firstOfLeast", "(II)I"⟩, 11), (⟨"CityRoad", "couldCome", "(I)I"⟩, 18), (⟨"CityRoad", "isEarly", "(II)Z"⟩, 18), (⟨"CityRoad$Rehousing", "listHouses", "(LCityRoad$Buildings;J)I"⟩, 9), (⟨"CityRoad$Rehousing", "listPeople", "(LCityRoad$Buildings;LCityRoad$Persons;J)I"⟩, 9), (⟨"CityRoad$Rehousing", "insert", "(I)V"⟩, 9)]
theorem lw_r1 : ∀ q ∈ lw_privs_1, lw_okq q := List.forall_mem_cons.mpr ⟨lw_p0, List.forall_mem_cons.mpr ⟨lw_p1, List.forall_mem_cons.mpr ⟨lw_p2, List.forall_mem_cons.mpr ⟨lw_p3, List.forall_mem_cons.mpr ⟨lw_p4, List.forall_mem_cons.mpr ⟨lw_p5, List.forall_mem_cons.mpr ⟨lw_p6, List.forall_mem_cons.mpr ⟨lw_p7, List.forall_mem_cons.mpr ⟨lw_p8, List.forall_mem_cons.mpr ⟨lw_p9, List.forall_mem_cons.mpr ⟨lw_p10, List.forall_mem_cons.mpr ⟨lw_p11, List.forall_mem_cons.mpr ⟨lw_p12, List.forall_mem_cons.mpr ⟨lw_p13, List.forall_mem_cons.mpr ⟨lw_p14, List.forall_mem_cons.mpr ⟨lw_p15, fun _ h => absurd h List.not_mem_nil⟩⟩⟩⟩⟩⟩⟩⟩⟩⟩⟩⟩⟩⟩⟩⟩
theorem lw_p16 : lw_okq (⟨"CityRoad$Rehousing", "price", "(II)I"⟩, 9) := ⟨⟨by decide +kernel, by decide +kernel⟩, List.mem_of_getElem? (i := 283) (by decide +kernel), List.mem_of_getElem? (i := 1072) (by decide +kernel), List.mem_of_getElem? (i := 1073) (by decide +kernel)⟩
theorem lw_p17 : lw_okq (⟨"CityRoad$Rehousing", "relax", "(I)Z"⟩, 9) := ⟨⟨by decide +kernel, by decide +kernel⟩, List.mem_of_getElem? (i := 283) (by decide +kernel), List.mem_of_getElem? (i := 1076) (by decide +kernel), List.mem_of_getElem? (i := 1077) (by decide +kernel)⟩
theorem lw_p18 : lw_okq (⟨"CityRoad$Rehousing", "cheapestWithRoom", "()I"⟩, 9) := ⟨⟨by decide +kernel, by decide +kernel⟩, List.mem_of_getElem? (i := 283) (by decide +kernel), List.mem_of_getElem? (i := 1080) (by decide +kernel), List.mem_of_getElem? (i := 1081) (by decide +kernel)⟩
theorem lw_p19 : lw_okq (⟨"CityRoad$Buildings", "nearest", "(IJJ)I"⟩, 14) := ⟨⟨by decide +kernel, by decide +kernel⟩, List.mem_of_getElem? (i := 66) (by decide +kernel), List.mem_of_getElem? (i := 1103) (by decide +kernel), List.mem_of_getElem? (i := 1104) (by decide +kernel)⟩
theorem lw_p20 : lw_okq (⟨"CityRoad$Buildings", "firstIn", "(JJ)I"⟩, 14) := ⟨⟨by decide +kernel, by decide +kernel⟩, List.mem_of_getElem? (i := 66) (by decide +kernel), List.mem_of_getElem? (i := 1107) (by decide +kernel), List.mem_of_getElem? (i := 1108) (by decide +kernel)⟩
theorem lw_p21 : lw_okq (⟨"CityRoad", "loudCells", "(II)J"⟩, 18) := ⟨⟨by decide +kernel, by decide +kernel⟩, List.mem_of_getElem? (i := 19) (by decide +kernel), List.mem_of_getElem? (i := 1118) (by decide +kernel), List.mem_of_getElem? (i := 1119) (by decide +kernel)⟩
theorem lw_p22 : lw_okq (⟨"CityRoad", "isVoidHearing", "(I)Z"⟩, 18) := ⟨⟨by decide +kernel, by decide +kernel⟩, List.mem_of_getElem? (i := 19) (by decide +kernel), List.mem_of_getElem? (i := 1143) (by decide +kernel), List.mem_of_getElem? (i := 1144) (by decide +kernel)⟩
theorem lw_p23 : lw_okq (⟨"CityRoad", "isVoidTaking", "(I)Z"⟩, 18) := ⟨⟨by decide +kernel, by decide +kernel⟩, List.mem_of_getElem? (i := 19) (by decide +kernel), List.mem_of_getElem? (i := 1155) (by decide +kernel), List.mem_of_getElem? (i := 1156) (by decide +kernel)⟩
theorem lw_p24 : lw_okq (⟨"CityRoad$Acts", "drawEnds", "(LCityRoad$Shelf;III)Z"⟩, 6) := ⟨⟨by decide +kernel, by decide +kernel⟩, List.mem_of_getElem? (i := 319) (by decide +kernel), List.mem_of_getElem? (i := 1184) (by decide +kernel), List.mem_of_getElem? (i := 1185) (by decide +kernel)⟩
theorem lw_p25 : lw_okq (⟨"CityRoad$Acts", "isOpen", "(I)Z"⟩, 6) := ⟨⟨by decide +kernel, by decide +kernel⟩, List.mem_of_getElem? (i := 319) (by decide +kernel), List.mem_of_getElem? (i := 1189) (by decide +kernel), List.mem_of_getElem? (i := 1190) (by decide +kernel)⟩
theorem lw_p26 : lw_okq (⟨"CityRoad$Acts", "endAhead", "(I)I"⟩, 6) := ⟨⟨by decide +kernel, by decide +kernel⟩, List.mem_of_getElem? (i := 319) (by decide +kernel), List.mem_of_getElem? (i := 1193) (by decide +kernel), List.mem_of_getElem? (i := 1194) (by decide +kernel)⟩
theorem lw_p27 : lw_okq (⟨"CityRoad$Acts", "keep", "(I)V"⟩, 6) := ⟨⟨by decide +kernel, by decide +kernel⟩, List.mem_of_getElem? (i := 319) (by decide +kernel), List.mem_of_getElem? (i := 1198) (by decide +kernel), List.mem_of_getElem? (i := 1199) (by decide +kernel)⟩
theorem lw_p28 : lw_okq (⟨"CityRoad$Acts", "drawLatest", "(LCityRoad$Shelf;I)V"⟩, 6) := ⟨⟨by decide +kernel, by decide +kernel⟩, List.mem_of_getElem? (i := 319) (by decide +kernel), List.mem_of_getElem? (i := 1202) (by decide +kernel), List.mem_of_getElem? (i := 1203) (by decide +kernel)⟩
theorem lw_p29 : lw_okq (⟨"CityRoad$Acts", "holdBack", "(II)V"⟩, 6) := ⟨⟨by decide +kernel, by decide +kernel⟩, List.mem_of_getElem? (i := 319) (by decide +kernel), List.mem_of_getElem? (i := 1206) (by decide +kernel), List.mem_of_getElem? (i := 1207) (by decide +kernel)⟩
theorem lw_p30 : lw_okq (⟨"CityRoad$Stopper", "search", "(IIJ)Z"⟩, 6) := ⟨⟨by decide +kernel, by decide +kernel⟩, List.mem_of_getElem? (i := 346) (by decide +kernel), List.mem_of_getElem? (i := 1255) (by decide +kernel), List.mem_of_getElem? (i := 1256) (by decide +kernel)⟩
theorem lw_p31 : lw_okq (⟨"CityRoad$Stopper", "visit", "(II)V"⟩, 6) := ⟨⟨by decide +kernel, by decide +kernel⟩, List.mem_of_getElem? (i := 346) (by decide +kernel), List.mem_of_getElem? (i := 1259) (by decide +kernel), List.mem_of_getElem? (i := 1260) (by decide +kernel)⟩
def lw_privs_2 : List (MethodName × Nat) := [(⟨"CityRoad$Rehousing", "price", "(II)I"⟩, 9), (⟨"CityRoad$Rehousing", "relax", "(I)Z"⟩, 9), (⟨"CityRoad$Rehousing", "cheapestWithRoom", "()I"⟩, 9), (⟨"CityRoad$Buildings", "nearest", "(IJJ)I"⟩, 14), (⟨"CityRoad$Buildings", "firstIn", "(JJ)I"⟩, 14), (⟨"CityRoad", "loudCells", "(II)J"⟩, 18), (⟨"CityRoad", "isVoidHearing", "(I)Z"⟩, 18), (⟨"CityRoad", "isVoidTaking", "(I)Z"⟩, 18), (⟨"CityRoad$Acts", "drawEnds", "(LCityRoad$Shelf;III)Z"⟩, 6), (⟨"CityRoad$Acts", "isOpen", "(I)Z"⟩, 6), (⟨"CityRoad$Acts", "endAhead", "(I)I"⟩, 6), (⟨"CityRoad$Acts", "keep", "(I)V"⟩, 6), (⟨"CityRoad$Acts", "drawLatest", "(LCityRoad$Shelf;I)V"⟩, 6), (⟨"CityRoad$Acts", "holdBack", "(II)V"⟩, 6), (⟨"CityRoad$Stopper", "search", "(IIJ)Z"⟩, 6), (⟨"CityRoad$Stopper", "visit", "(II)V"⟩, 6)]
theorem lw_r2 : ∀ q ∈ lw_privs_2, lw_okq q := List.forall_mem_cons.mpr ⟨lw_p16, List.forall_mem_cons.mpr ⟨lw_p17, List.forall_mem_cons.mpr ⟨lw_p18, List.forall_mem_cons.mpr ⟨lw_p19, List.forall_mem_cons.mpr ⟨lw_p20, List.forall_mem_cons.mpr ⟨lw_p21, List.forall_mem_cons.mpr ⟨lw_p22, List.forall_mem_cons.mpr ⟨lw_p23, List.forall_mem_cons.mpr ⟨lw_p24, List.forall_mem_cons.mpr ⟨lw_p25, List.forall_mem_cons.mpr ⟨lw_p26, List.forall_mem_cons.mpr ⟨lw_p27, List.forall_mem_cons.mpr ⟨lw_p28, List.forall_mem_cons.mpr ⟨lw_p29, List.forall_mem_cons.mpr ⟨lw_p30, List.forall_mem_cons.mpr ⟨lw_p31, fun _ h => absurd h List.not_mem_nil⟩⟩⟩⟩⟩⟩⟩⟩⟩⟩⟩⟩⟩⟩⟩⟩
theorem lw_p32 : lw_okq (⟨"CityRoad$Stopper", "leave", "(I)V"⟩, 6) := ⟨⟨by decide +kernel, by decide +kernel⟩, List.mem_of_getElem? (i := 346) (by decide +kernel), List.mem_of_getElem? (i := 1263) (by decide +kernel), List.mem_of_getElem? (i := 1264) (by decide +kernel)⟩
theorem lw_p33 : lw_okq (⟨"CityRoad$Stopper", "enter", "(II)V"⟩, 6) := ⟨⟨by decide +kernel, by decide +kernel⟩, List.mem_of_getElem? (i := 346) (by decide +kernel), List.mem_of_getElem? (i := 1268) (by decide +kernel), List.mem_of_getElem? (i := 1269) (by decide +kernel)⟩
theorem lw_p34 : lw_okq (⟨"CityRoad$Stopper", "push", "(II)V"⟩, 6) := ⟨⟨by decide +kernel, by decide +kernel⟩, List.mem_of_getElem? (i := 346) (by decide +kernel), List.mem_of_getElem? (i := 1275) (by decide +kernel), List.mem_of_getElem? (i := 1276) (by decide +kernel)⟩
theorem lw_p35 : lw_okq (⟨"CityRoad", "weighingFault", "(II)I"⟩, 18) := ⟨⟨by decide +kernel, by decide +kernel⟩, List.mem_of_getElem? (i := 19) (by decide +kernel), List.mem_of_getElem? (i := 1286) (by decide +kernel), List.mem_of_getElem? (i := 1287) (by decide +kernel)⟩
theorem lw_p36 : lw_okq (⟨"CityRoad", "weigh", "(III)I"⟩, 18) := ⟨⟨by decide +kernel, by decide +kernel⟩, List.mem_of_getElem? (i := 19) (by decide +kernel), List.mem_of_getElem? (i := 1290) (by decide +kernel), List.mem_of_getElem? (i := 1291) (by decide +kernel)⟩
theorem lw_p37 : lw_okq (⟨"CityRoadModel", "meets", "(I)I"⟩, 77) := ⟨⟨by decide +kernel, by decide +kernel⟩, List.mem_of_getElem? (i := 1373) (by decide +kernel), List.mem_of_getElem? (i := 1621) (by decide +kernel), List.mem_of_getElem? (i := 1622) (by decide +kernel)⟩
theorem lw_p38 : lw_okq (⟨"CityRoadModel", "askedRow", "(I)I"⟩, 77) := ⟨⟨by decide +kernel, by decide +kernel⟩, List.mem_of_getElem? (i := 1373) (by decide +kernel), List.mem_of_getElem? (i := 1629) (by decide +kernel), List.mem_of_getElem? (i := 1630) (by decide +kernel)⟩
theorem lw_p39 : lw_okq (⟨"CityRoadModel", "askedText", "(I)I"⟩, 77) := ⟨⟨by decide +kernel, by decide +kernel⟩, List.mem_of_getElem? (i := 1373) (by decide +kernel), List.mem_of_getElem? (i := 1652) (by decide +kernel), List.mem_of_getElem? (i := 1653) (by decide +kernel)⟩
theorem lw_p40 : lw_okq (⟨"CityRoadModel", "reads", "(I)I"⟩, 77) := ⟨⟨by decide +kernel, by decide +kernel⟩, List.mem_of_getElem? (i := 1373) (by decide +kernel), List.mem_of_getElem? (i := 1664) (by decide +kernel), List.mem_of_getElem? (i := 1665) (by decide +kernel)⟩
theorem lw_p41 : lw_okq (⟨"CityRoadModel", "inForce", "(III)I"⟩, 77) := ⟨⟨by decide +kernel, by decide +kernel⟩, List.mem_of_getElem? (i := 1373) (by decide +kernel), List.mem_of_getElem? (i := 1685) (by decide +kernel), List.mem_of_getElem? (i := 1686) (by decide +kernel)⟩
theorem lw_p42 : lw_okq (⟨"CityRoadModel", "ruleFor", "(III)I"⟩, 77) := ⟨⟨by decide +kernel, by decide +kernel⟩, List.mem_of_getElem? (i := 1373) (by decide +kernel), List.mem_of_getElem? (i := 1689) (by decide +kernel), List.mem_of_getElem? (i := 1690) (by decide +kernel)⟩
theorem lw_p43 : lw_okq (⟨"CityRoadModel", "on", "(I)I"⟩, 77) := ⟨⟨by decide +kernel, by decide +kernel⟩, List.mem_of_getElem? (i := 1373) (by decide +kernel), List.mem_of_getElem? (i := 1704) (by decide +kernel), List.mem_of_getElem? (i := 1705) (by decide +kernel)⟩
theorem lw_p44 : lw_okq (⟨"CityRoadModel", "tell", "(II)V"⟩, 77) := ⟨⟨by decide +kernel, by decide +kernel⟩, List.mem_of_getElem? (i := 1373) (by decide +kernel), List.mem_of_getElem? (i := 1716) (by decide +kernel), List.mem_of_getElem? (i := 1717) (by decide +kernel)⟩
theorem lw_p45 : lw_okq (⟨"CityRoadModel", "isBuilding", "(I)Z"⟩, 77) := ⟨⟨by decide +kernel, by decide +kernel⟩, List.mem_of_getElem? (i := 1373) (by decide +kernel), List.mem_of_getElem? (i := 1724) (by decide +kernel), List.mem_of_getElem? (i := 1725) (by decide +kernel)⟩
theorem lw_p46 : lw_okq (⟨"CityRoadModel", "valueOf", "(II)I"⟩, 77) := ⟨⟨by decide +kernel, by decide +kernel⟩, List.mem_of_getElem? (i := 1373) (by decide +kernel), List.mem_of_getElem? (i := 1728) (by decide +kernel), List.mem_of_getElem? (i := 1729) (by decide +kernel)⟩
theorem lw_p47 : lw_okq (⟨"CityRoadModel", "houseTells", "(II)I"⟩, 77) := ⟨⟨by decide +kernel, by decide +kernel⟩, List.mem_of_getElem? (i := 1373) (by decide +kernel), List.mem_of_getElem? (i := 1740) (by decide +kernel), List.mem_of_getElem? (i := 1741) (by decide +kernel)⟩
def lw_privs_3 : List (MethodName × Nat) := [(⟨"CityRoad$Stopper", "leave", "(I)V"⟩, 6), (⟨"CityRoad$Stopper", "enter", "(II)V"⟩, 6), (⟨"CityRoad$Stopper", "push", "(II)V"⟩, 6), (⟨"CityRoad", "weighingFault", "(II)I"⟩, 18), (⟨"CityRoad", "weigh", "(III)I"⟩, 18), (⟨"CityRoadModel", "meets", "(I)I"⟩, 77), (⟨"CityRoadModel", "askedRow", "(I)I"⟩, 77), (⟨"CityRoadModel", "askedText", "(I)I"⟩, 77), (⟨"CityRoadModel", "reads", "(I)I"⟩, 77), (⟨"CityRoadModel", "inForce", "(III)I"⟩, 77), (⟨"CityRoadModel", "ruleFor", "(III)I"⟩, 77), (⟨"CityRoadModel", "on", "(I)I"⟩, 77), (⟨"CityRoadModel", "tell", "(II)V"⟩, 77), (⟨"CityRoadModel", "isBuilding", "(I)Z"⟩, 77), (⟨"CityRoadModel", "valueOf", "(II)I"⟩, 77), (⟨"CityRoadModel", "houseTells", "(II)I"⟩, 77)]
theorem lw_r3 : ∀ q ∈ lw_privs_3, lw_okq q := List.forall_mem_cons.mpr ⟨lw_p32, List.forall_mem_cons.mpr ⟨lw_p33, List.forall_mem_cons.mpr ⟨lw_p34, List.forall_mem_cons.mpr ⟨lw_p35, List.forall_mem_cons.mpr ⟨lw_p36, List.forall_mem_cons.mpr ⟨lw_p37, List.forall_mem_cons.mpr ⟨lw_p38, List.forall_mem_cons.mpr ⟨lw_p39, List.forall_mem_cons.mpr ⟨lw_p40, List.forall_mem_cons.mpr ⟨lw_p41, List.forall_mem_cons.mpr ⟨lw_p42, List.forall_mem_cons.mpr ⟨lw_p43, List.forall_mem_cons.mpr ⟨lw_p44, List.forall_mem_cons.mpr ⟨lw_p45, List.forall_mem_cons.mpr ⟨lw_p46, List.forall_mem_cons.mpr ⟨lw_p47, fun _ h => absurd h List.not_mem_nil⟩⟩⟩⟩⟩⟩⟩⟩⟩⟩⟩⟩⟩⟩⟩⟩
theorem lw_p48 : lw_okq (⟨"CityRoadModel", "living", "(I)I"⟩, 77) := ⟨⟨by decide +kernel, by decide +kernel⟩, List.mem_of_getElem? (i := 1373) (by decide +kernel), List.mem_of_getElem? (i := 1744) (by decide +kernel), List.mem_of_getElem? (i := 1745) (by decide +kernel)⟩
theorem lw_p49 : lw_okq (⟨"CityRoadModel", "ask", "(II)I"⟩, 77) := ⟨⟨by decide +kernel, by decide +kernel⟩, List.mem_of_getElem? (i := 1373) (by decide +kernel), List.mem_of_getElem? (i := 1748) (by decide +kernel), List.mem_of_getElem? (i := 1749) (by decide +kernel)⟩
theorem lw_p50 : lw_okq (⟨"CityRoadModel", "hasRoom", "(I)Z"⟩, 77) := ⟨⟨by decide +kernel, by decide +kernel⟩, List.mem_of_getElem? (i := 1373) (by decide +kernel), List.mem_of_getElem? (i := 1756) (by decide +kernel), List.mem_of_getElem? (i := 1757) (by decide +kernel)⟩
theorem lw_p51 : lw_okq (⟨"CityRoadModel", "isPerson", "(I)Z"⟩, 77) := ⟨⟨by decide +kernel, by decide +kernel⟩, List.mem_of_getElem? (i := 1373) (by decide +kernel), List.mem_of_getElem? (i := 1764) (by decide +kernel), List.mem_of_getElem? (i := 1765) (by decide +kernel)⟩
theorem lw_p52 : lw_okq (⟨"CityRoadModel", "personTells", "(II)I"⟩, 77) := ⟨⟨by decide +kernel, by decide +kernel⟩, List.mem_of_getElem? (i := 1373) (by decide +kernel), List.mem_of_getElem? (i := 1768) (by decide +kernel), List.mem_of_getElem? (i := 1769) (by decide +kernel)⟩
theorem lw_p53 : lw_okq (⟨"CityRoadModel", "costOf", "(II)I"⟩, 77) := ⟨⟨by decide +kernel, by decide +kernel⟩, List.mem_of_getElem? (i := 1373) (by decide +kernel), List.mem_of_getElem? (i := 1780) (by decide +kernel), List.mem_of_getElem? (i := 1781) (by decide +kernel)⟩
theorem lw_p54 : lw_okq (⟨"CityRoadModel", "nowInForce", "(I)I"⟩, 77) := ⟨⟨by decide +kernel, by decide +kernel⟩, List.mem_of_getElem? (i := 1373) (by decide +kernel), List.mem_of_getElem? (i := 1784) (by decide +kernel), List.mem_of_getElem? (i := 1785) (by decide +kernel)⟩
theorem lw_p55 : lw_okq (⟨"CityRoadModel", "setLeft", "(II)V"⟩, 77) := ⟨⟨by decide +kernel, by decide +kernel⟩, List.mem_of_getElem? (i := 1373) (by decide +kernel), List.mem_of_getElem? (i := 1788) (by decide +kernel), List.mem_of_getElem? (i := 1789) (by decide +kernel)⟩
theorem lw_p56 : lw_okq (⟨"CityRoadModel", "leads", "(III)Z"⟩, 77) := ⟨⟨by decide +kernel, by decide +kernel⟩, List.mem_of_getElem? (i := 1373) (by decide +kernel), List.mem_of_getElem? (i := 1796) (by decide +kernel), List.mem_of_getElem? (i := 1797) (by decide +kernel)⟩
theorem lw_p57 : lw_okq (⟨"CityRoadModel", "slope", "(II)I"⟩, 77) := ⟨⟨by decide +kernel, by decide +kernel⟩, List.mem_of_getElem? (i := 1373) (by decide +kernel), List.mem_of_getElem? (i := 1800) (by decide +kernel), List.mem_of_getElem? (i := 1801) (by decide +kernel)⟩
theorem lw_p58 : lw_okq (⟨"CityRoadModel", "goOn", "(IIII)I"⟩, 77) := ⟨⟨by decide +kernel, by decide +kernel⟩, List.mem_of_getElem? (i := 1373) (by decide +kernel), List.mem_of_getElem? (i := 1804) (by decide +kernel), List.mem_of_getElem? (i := 1805) (by decide +kernel)⟩
theorem lw_p59 : lw_okq (⟨"CityRoadModel", "enter", "(II)I"⟩, 77) := ⟨⟨by decide +kernel, by decide +kernel⟩, List.mem_of_getElem? (i := 1373) (by decide +kernel), List.mem_of_getElem? (i := 1808) (by decide +kernel), List.mem_of_getElem? (i := 1809) (by decide +kernel)⟩
theorem lw_p60 : lw_okq (⟨"CityRoadModel", "isMark", "(I)Z"⟩, 77) := ⟨⟨by decide +kernel, by decide +kernel⟩, List.mem_of_getElem? (i := 1373) (by decide +kernel), List.mem_of_getElem? (i := 1816) (by decide +kernel), List.mem_of_getElem? (i := 1817) (by decide +kernel)⟩
theorem lw_p61 : lw_okq (⟨"CityRoadModel", "isLine", "(I)Z"⟩, 77) := ⟨⟨by decide +kernel, by decide +kernel⟩, List.mem_of_getElem? (i := 1373) (by decide +kernel), List.mem_of_getElem? (i := 1820) (by decide +kernel), List.mem_of_getElem? (i := 1821) (by decide +kernel)⟩
theorem lw_p62 : lw_okq (⟨"CityRoadModel", "cellsOf", "(I)J"⟩, 77) := ⟨⟨by decide +kernel, by decide +kernel⟩, List.mem_of_getElem? (i := 1373) (by decide +kernel), List.mem_of_getElem? (i := 1827) (by decide +kernel), List.mem_of_getElem? (i := 1828) (by decide +kernel)⟩
theorem lw_p63 : lw_okq (⟨"CityRoadModel", "askedLine", "(I)I"⟩, 77) := ⟨⟨by decide +kernel, by decide +kernel⟩, List.mem_of_getElem? (i := 1373) (by decide +kernel), List.mem_of_getElem? (i := 1838) (by decide +kernel), List.mem_of_getElem? (i := 1839) (by decide +kernel)⟩
def lw_privs_4 : List (MethodName × Nat) := [(⟨"CityRoadModel", "living", "(I)I"⟩, 77), (⟨"CityRoadModel", "ask", "(II)I"⟩, 77), (⟨"CityRoadModel", "hasRoom", "(I)Z"⟩, 77), (⟨"CityRoadModel", "isPerson", "(I)Z"⟩, 77), (⟨"CityRoadModel", "personTells", "(II)I"⟩, 77), (⟨"CityRoadModel", "costOf", "(II)I"⟩, 77), (⟨"CityRoadModel", "nowInForce", "(I)I"⟩, 77), (⟨"CityRoadModel", "setLeft", "(II)V"⟩, 77), (⟨"CityRoadModel", "leads", "(III)Z"⟩, 77), (⟨"CityRoadModel", "slope", "(II)I"⟩, 77), (⟨"CityRoadModel", "goOn", "(IIII)I"⟩, 77), (⟨"CityRoadModel", "enter", "(II)I"⟩, 77), (⟨"CityRoadModel", "isMark", "(I)Z"⟩, 77), (⟨"CityRoadModel", "isLine", "(I)Z"⟩, 77), (⟨"CityRoadModel", "cellsOf", "(I)J"⟩, 77), (⟨"CityRoadModel", "askedLine", "(I)I"⟩, 77)]
theorem lw_r4 : ∀ q ∈ lw_privs_4, lw_okq q := List.forall_mem_cons.mpr ⟨lw_p48, List.forall_mem_cons.mpr ⟨lw_p49, List.forall_mem_cons.mpr ⟨lw_p50, List.forall_mem_cons.mpr ⟨lw_p51, List.forall_mem_cons.mpr ⟨lw_p52, List.forall_mem_cons.mpr ⟨lw_p53, List.forall_mem_cons.mpr ⟨lw_p54, List.forall_mem_cons.mpr ⟨lw_p55, List.forall_mem_cons.mpr ⟨lw_p56, List.forall_mem_cons.mpr ⟨lw_p57, List.forall_mem_cons.mpr ⟨lw_p58, List.forall_mem_cons.mpr ⟨lw_p59, List.forall_mem_cons.mpr ⟨lw_p60, List.forall_mem_cons.mpr ⟨lw_p61, List.forall_mem_cons.mpr ⟨lw_p62, List.forall_mem_cons.mpr ⟨lw_p63, fun _ h => absurd h List.not_mem_nil⟩⟩⟩⟩⟩⟩⟩⟩⟩⟩⟩⟩⟩⟩⟩⟩
theorem lw_p64 : lw_okq (⟨"CityRoadModel", "isNear", "(II)Z"⟩, 77) := ⟨⟨by decide +kernel, by decide +kernel⟩, List.mem_of_getElem? (i := 1373) (by decide +kernel), List.mem_of_getElem? (i := 1846) (by decide +kernel), List.mem_of_getElem? (i := 1847) (by decide +kernel)⟩
theorem lw_p65 : lw_okq (⟨"CityRoadModel", "firstValue", "(I)I"⟩, 77) := ⟨⟨by decide +kernel, by decide +kernel⟩, List.mem_of_getElem? (i := 1373) (by decide +kernel), List.mem_of_getElem? (i := 1854) (by decide +kernel), List.mem_of_getElem? (i := 1855) (by decide +kernel)⟩
theorem lw_p66 : lw_okq (⟨"CityRoadModel", "markTells", "(II)I"⟩, 77) := ⟨⟨by decide +kernel, by decide +kernel⟩, List.mem_of_getElem? (i := 1373) (by decide +kernel), List.mem_of_getElem? (i := 1874) (by decide +kernel), List.mem_of_getElem? (i := 1875) (by decide +kernel)⟩
theorem lw_p67 : lw_okq (⟨"CityRoadModel", "couldCome", "(I)I"⟩, 77) := ⟨⟨by decide +kernel, by decide +kernel⟩, List.mem_of_getElem? (i := 1373) (by decide +kernel), List.mem_of_getElem? (i := 1882) (by decide +kernel), List.mem_of_getElem? (i := 1883) (by decide +kernel)⟩
theorem lw_p68 : lw_okq (⟨"CityRoadModel", "heard", "(II)I"⟩, 77) := ⟨⟨by decide +kernel, by decide +kernel⟩, List.mem_of_getElem? (i := 1373) (by decide +kernel), List.mem_of_getElem? (i := 1906) (by decide +kernel), List.mem_of_getElem? (i := 1907) (by decide +kernel)⟩
theorem lw_p69 : lw_okq (⟨"CityRoadModel", "knew", "(III)Z"⟩, 77) := ⟨⟨by decide +kernel, by decide +kernel⟩, List.mem_of_getElem? (i := 1373) (by decide +kernel), List.mem_of_getElem? (i := 1914) (by decide +kernel), List.mem_of_getElem? (i := 1915) (by decide +kernel)⟩
theorem lw_p70 : lw_okq (⟨"CityRoadModel", "cheapest", "()I"⟩, 77) := ⟨⟨by decide +kernel, by decide +kernel⟩, List.mem_of_getElem? (i := 1373) (by decide +kernel), List.mem_of_getElem? (i := 1922) (by decide +kernel), List.mem_of_getElem? (i := 1923) (by decide +kernel)⟩
theorem lw_p71 : lw_okq (⟨"CityRoadModel", "walk", "(II)I"⟩, 77) := ⟨⟨by decide +kernel, by decide +kernel⟩, List.mem_of_getElem? (i := 1373) (by decide +kernel), List.mem_of_getElem? (i := 1926) (by decide +kernel), List.mem_of_getElem? (i := 1927) (by decide +kernel)⟩
theorem lw_p72 : lw_okq (⟨"CityRoadModel", "relax", "(IIII)Z"⟩, 77) := ⟨⟨by decide +kernel, by decide +kernel⟩, List.mem_of_getElem? (i := 1373) (by decide +kernel), List.mem_of_getElem? (i := 1930) (by decide +kernel), List.mem_of_getElem? (i := 1931) (by decide +kernel)⟩
theorem lw_p73 : lw_okq (⟨"CityRoadModel", "setSteps", "(IJ)V"⟩, 77) := ⟨⟨by decide +kernel, by decide +kernel⟩, List.mem_of_getElem? (i := 1373) (by decide +kernel), List.mem_of_getElem? (i := 1938) (by decide +kernel), List.mem_of_getElem? (i := 1939) (by decide +kernel)⟩
theorem lw_p74 : lw_okq (⟨"CityRoadModel", "loud", "(IIZ)I"⟩, 77) := ⟨⟨by decide +kernel, by decide +kernel⟩, List.mem_of_getElem? (i := 1373) (by decide +kernel), List.mem_of_getElem? (i := 1947) (by decide +kernel), List.mem_of_getElem? (i := 1948) (by decide +kernel)⟩
theorem lw_p75 : lw_okq (⟨"CityRoadModel", "noiseOf", "(III)I"⟩, 77) := ⟨⟨by decide +kernel, by decide +kernel⟩, List.mem_of_getElem? (i := 1373) (by decide +kernel), List.mem_of_getElem? (i := 1951) (by decide +kernel), List.mem_of_getElem? (i := 1952) (by decide +kernel)⟩
theorem lw_p76 : lw_okq (⟨"CityRoadModel", "parks", "(I)I"⟩, 77) := ⟨⟨by decide +kernel, by decide +kernel⟩, List.mem_of_getElem? (i := 1373) (by decide +kernel), List.mem_of_getElem? (i := 1959) (by decide +kernel), List.mem_of_getElem? (i := 1960) (by decide +kernel)⟩
theorem lw_p77 : lw_okq (⟨"CityRoadModel", "isVoidHearing", "(I)Z"⟩, 77) := ⟨⟨by decide +kernel, by decide +kernel⟩, List.mem_of_getElem? (i := 1373) (by decide +kernel), List.mem_of_getElem? (i := 1967) (by decide +kernel), List.mem_of_getElem? (i := 1968) (by decide +kernel)⟩
theorem lw_p78 : lw_okq (⟨"CityRoadModel", "isVoidTaking", "(I)Z"⟩, 77) := ⟨⟨by decide +kernel, by decide +kernel⟩, List.mem_of_getElem? (i := 1373) (by decide +kernel), List.mem_of_getElem? (i := 1971) (by decide +kernel), List.mem_of_getElem? (i := 1972) (by decide +kernel)⟩
theorem lw_p79 : lw_okq (⟨"CityRoadModel", "ahead", "(III)I"⟩, 77) := ⟨⟨by decide +kernel, by decide +kernel⟩, List.mem_of_getElem? (i := 1373) (by decide +kernel), List.mem_of_getElem? (i := 1987) (by decide +kernel), List.mem_of_getElem? (i := 1988) (by decide +kernel)⟩
def lw_privs_5 : List (MethodName × Nat) := [(⟨"CityRoadModel", "isNear", "(II)Z"⟩, 77), (⟨"CityRoadModel", "firstValue", "(I)I"⟩, 77), (⟨"CityRoadModel", "markTells", "(II)I"⟩, 77), (⟨"CityRoadModel", "couldCome", "(I)I"⟩, 77), (⟨"CityRoadModel", "heard", "(II)I"⟩, 77), (⟨"CityRoadModel", "knew", "(III)Z"⟩, 77), (⟨"CityRoadModel", "cheapest", "()I"⟩, 77), (⟨"CityRoadModel", "walk", "(II)I"⟩, 77), (⟨"CityRoadModel", "relax", "(IIII)Z"⟩, 77), (⟨"CityRoadModel", "setSteps", "(IJ)V"⟩, 77), (⟨"CityRoadModel", "loud", "(IIZ)I"⟩, 77), (⟨"CityRoadModel", "noiseOf", "(III)I"⟩, 77), (⟨"CityRoadModel", "parks", "(I)I"⟩, 77), (⟨"CityRoadModel", "isVoidHearing", "(I)Z"⟩, 77), (⟨"CityRoadModel", "isVoidTaking", "(I)Z"⟩, 77), (⟨"CityRoadModel", "ahead", "(III)I"⟩, 77)]
theorem lw_r5 : ∀ q ∈ lw_privs_5, lw_okq q := List.forall_mem_cons.mpr ⟨lw_p64, List.forall_mem_cons.mpr ⟨lw_p65, List.forall_mem_cons.mpr ⟨lw_p66, List.forall_mem_cons.mpr ⟨lw_p67, List.forall_mem_cons.mpr ⟨lw_p68, List.forall_mem_cons.mpr ⟨lw_p69, List.forall_mem_cons.mpr ⟨lw_p70, List.forall_mem_cons.mpr ⟨lw_p71, List.forall_mem_cons.mpr ⟨lw_p72, List.forall_mem_cons.mpr ⟨lw_p73, List.forall_mem_cons.mpr ⟨lw_p74, List.forall_mem_cons.mpr ⟨lw_p75, List.forall_mem_cons.mpr ⟨lw_p76, List.forall_mem_cons.mpr ⟨lw_p77, List.forall_mem_cons.mpr ⟨lw_p78, List.forall_mem_cons.mpr ⟨lw_p79, fun _ h => absurd h List.not_mem_nil⟩⟩⟩⟩⟩⟩⟩⟩⟩⟩⟩⟩⟩⟩⟩⟩
theorem lw_p80 : lw_okq (⟨"CityRoadModel", "comes", "(IIIZ)Z"⟩, 77) := ⟨⟨by decide +kernel, by decide +kernel⟩, List.mem_of_getElem? (i := 1373) (by decide +kernel), List.mem_of_getElem? (i := 2004) (by decide +kernel), List.mem_of_getElem? (i := 2005) (by decide +kernel)⟩
theorem lw_p81 : lw_okq (⟨"CityRoadModel", "finds", "(III)Z"⟩, 77) := ⟨⟨by decide +kernel, by decide +kernel⟩, List.mem_of_getElem? (i := 1373) (by decide +kernel), List.mem_of_getElem? (i := 2008) (by decide +kernel), List.mem_of_getElem? (i := 2009) (by decide +kernel)⟩
theorem lw_p82 : lw_okq (⟨"CityRoadModel", "goAlong", "(II)V"⟩, 77) := ⟨⟨by decide +kernel, by decide +kernel⟩, List.mem_of_getElem? (i := 1373) (by decide +kernel), List.mem_of_getElem? (i := 2012) (by decide +kernel), List.mem_of_getElem? (i := 2013) (by decide +kernel)⟩
theorem lw_p83 : lw_okq (⟨"CityRoadModel", "askedWeights", "(II)I"⟩, 77) := ⟨⟨by decide +kernel, by decide +kernel⟩, List.mem_of_getElem? (i := 1373) (by decide +kernel), List.mem_of_getElem? (i := 2023) (by decide +kernel), List.mem_of_getElem? (i := 2024) (by decide +kernel)⟩
theorem lw_p84 : lw_okq (⟨"CityRoadModel", "judged", "(III)I"⟩, 77) := ⟨⟨by decide +kernel, by decide +kernel⟩, List.mem_of_getElem? (i := 1373) (by decide +kernel), List.mem_of_getElem? (i := 2027) (by decide +kernel), List.mem_of_getElem? (i := 2028) (by decide +kernel)⟩
theorem lw_p85 : lw_okq (⟨"CityRoadModel", "counts", "(I)I"⟩, 77) := ⟨⟨by decide +kernel, by decide +kernel⟩, List.mem_of_getElem? (i := 1373) (by decide +kernel), List.mem_of_getElem? (i := 2047) (by decide +kernel), List.mem_of_getElem? (i := 2048) (by decide +kernel)⟩
theorem lw_p86 : lw_okq (⟨"CityRoadModel", "mix", "(I)V"⟩, 77) := ⟨⟨by decide +kernel, by decide +kernel⟩, List.mem_of_getElem? (i := 1373) (by decide +kernel), List.mem_of_getElem? (i := 2064) (by decide +kernel), List.mem_of_getElem? (i := 2065) (by decide +kernel)⟩
theorem lw_p87 : lw_okq (⟨"CityRoadModel", "mixMark", "(I)V"⟩, 77) := ⟨⟨by decide +kernel, by decide +kernel⟩, List.mem_of_getElem? (i := 1373) (by decide +kernel), List.mem_of_getElem? (i := 2069) (by decide +kernel), List.mem_of_getElem? (i := 2070) (by decide +kernel)⟩
def lw_privs_6 : List (MethodName × Nat) := [(⟨"CityRoadModel", "comes", "(IIIZ)Z"⟩, 77), (⟨"CityRoadModel", "finds", "(III)Z"⟩, 77), (⟨"CityRoadModel", "goAlong", "(II)V"⟩, 77), (⟨"CityRoadModel", "askedWeights", "(II)I"⟩, 77), (⟨"CityRoadModel", "judged", "(III)I"⟩, 77), (⟨"CityRoadModel", "counts", "(I)I"⟩, 77), (⟨"CityRoadModel", "mix", "(I)V"⟩, 77), (⟨"CityRoadModel", "mixMark", "(I)V"⟩, 77)]
theorem lw_r6 : ∀ q ∈ lw_privs_6, lw_okq q := List.forall_mem_cons.mpr ⟨lw_p80, List.forall_mem_cons.mpr ⟨lw_p81, List.forall_mem_cons.mpr ⟨lw_p82, List.forall_mem_cons.mpr ⟨lw_p83, List.forall_mem_cons.mpr ⟨lw_p84, List.forall_mem_cons.mpr ⟨lw_p85, List.forall_mem_cons.mpr ⟨lw_p86, List.forall_mem_cons.mpr ⟨lw_p87, fun _ h => absurd h List.not_mem_nil⟩⟩⟩⟩⟩⟩⟩⟩
def lw_privs : List (MethodName × Nat) := lw_privs_1 ++ (lw_privs_2 ++ (lw_privs_3 ++ (lw_privs_4 ++ (lw_privs_5 ++ (lw_privs_6)))))
def lw_tbl : List Cond := k2_sels lw_privs ++ tables_1
theorem lw_privs_ok : ∀ q ∈ lw_privs, lw_okq q := by
  show ∀ q ∈ lw_privs_1 ++ (lw_privs_2 ++ (lw_privs_3 ++ (lw_privs_4 ++ (lw_privs_5 ++ (lw_privs_6))))), lw_okq q
  exact List.forall_mem_append.mpr ⟨lw_r1, List.forall_mem_append.mpr ⟨lw_r2, List.forall_mem_append.mpr ⟨lw_r3, List.forall_mem_append.mpr ⟨lw_r4, List.forall_mem_append.mpr ⟨lw_r5, lw_r6⟩⟩⟩⟩⟩
def RX0 : String := "CityRoad$Acts"
def TX0 : u_T := fun k => match k with
  | 0 => ("CityRoad$Acts", "number", "I", false)
  | 1 => ("CityRoad$Acts", "end", "I", false)
  | 2 => ("CityRoad$Acts", "ends", "[I", true)
  | 3 => ("CityRoad$Acts", "latest", "[I", true)
  | 4 => ("CityRoad$Acts", "drawn", "[I", true)
  | _ => ("CityRoad$Acts", "order", "[I", true)
def tyX0 : Nat → FieldType := fun k => match k with
  | 0 => .int
  | 1 => .int
  | 2 => .array .int
  | 3 => .array .int
  | 4 => .array .int
  | _ => .array .int
theorem nmX0 : ∀ a, a < 6 → ∀ b, b < 6 → a ≠ b → (TX0 a).2.1 ≠ (TX0 b).2.1 := by decide +kernel
theorem tyX0_ok : ∀ k, k < 6 → parseFieldDescriptor (TX0 k).2.2.1 = some (tyX0 k) := by decide +kernel
def RX1 : String := "CityRoad$Buildings"
def TX1 : u_T := fun k => match k with
  | 0 => ("CityRoad$Buildings", "cells", "[I", true)
  | 1 => ("CityRoad$Buildings", "uses", "[I", true)
  | 2 => ("CityRoad$Buildings", "rooms", "[I", true)
  | 3 => ("CityRoad$Buildings", "dwellers", "[I", true)
  | 4 => ("CityRoad$Buildings", "buyers", "[I", true)
  | 5 => ("CityRoad$Buildings", "worths", "[I", true)
  | 6 => ("CityRoad$Buildings", "taken", "[Z", true)
  | 7 => ("CityRoad$Buildings", "onCells", "[I", true)
  | 8 => ("CityRoad$Buildings", "toldOf", "[I", true)
  | 9 => ("CityRoad$Buildings", "toldDays", "[I", true)
  | 10 => ("CityRoad$Buildings", "toldWorths", "[I", true)
  | 11 => ("CityRoad$Buildings", "walkers", "[I", true)
  | 12 => ("CityRoad$Buildings", "number", "I", false)
  | _ => ("CityRoad$Buildings", "tellings", "I", false)
def tyX1 : Nat → FieldType := fun k => match k with
  | 0 => .array .int
  | 1 => .array .int
  | 2 => .array .int
  | 3 => .array .int
  | 4 => .array .int
  | 5 => .array .int
  | 6 => .array .boolean
  | 7 => .array .int
  | 8 => .array .int
  | 9 => .array .int
  | 10 => .array .int
  | 11 => .array .int
  | 12 => .int
  | _ => .int
theorem nmX1 : ∀ a, a < 14 → ∀ b, b < 14 → a ≠ b → (TX1 a).2.1 ≠ (TX1 b).2.1 := by decide +kernel
theorem tyX1_ok : ∀ k, k < 14 → parseFieldDescriptor (TX1 k).2.2.1 = some (tyX1 k) := by decide +kernel
def RX2 : String := "CityRoad$Dealings"
def TX2 : u_T := fun k => match k with
  | 0 => ("CityRoad$Dealings", "boughts", "[I", true)
  | 1 => ("CityRoad$Dealings", "buyers", "[I", true)
  | 2 => ("CityRoad$Dealings", "buyDays", "[I", true)
  | 3 => ("CityRoad$Dealings", "hearers", "[I", true)
  | 4 => ("CityRoad$Dealings", "lines", "[I", true)
  | 5 => ("CityRoad$Dealings", "heardDays", "[I", true)
  | 6 => ("CityRoad$Dealings", "buys", "I", false)
  | _ => ("CityRoad$Dealings", "heards", "I", false)
def tyX2 : Nat → FieldType := fun k => match k with
  | 0 => .array .int
  | 1 => .array .int
  | 2 => .array .int
  | 3 => .array .int
  | 4 => .array .int
  | 5 => .array .int
  | 6 => .int
  | _ => .int
theorem nmX2 : ∀ a, a < 8 → ∀ b, b < 8 → a ≠ b → (TX2 a).2.1 ≠ (TX2 b).2.1 := by decide +kernel
theorem tyX2_ok : ∀ k, k < 8 → parseFieldDescriptor (TX2 k).2.2.1 = some (tyX2 k) := by decide +kernel
def RX3 : String := "CityRoad$Ground"
def TX3 : u_T := fun k => match k with
  | 0 => ("CityRoad$Ground", "sorts", "[I", true)
  | _ => ("CityRoad$Ground", "heights", "[I", true)
def tyX3 : Nat → FieldType := fun k => match k with
  | 0 => .array .int
  | _ => .array .int
theorem nmX3 : ∀ a, a < 2 → ∀ b, b < 2 → a ≠ b → (TX3 a).2.1 ≠ (TX3 b).2.1 := by decide +kernel
theorem tyX3_ok : ∀ k, k < 2 → parseFieldDescriptor (TX3 k).2.2.1 = some (tyX3 k) := by decide +kernel
def RX4 : String := "CityRoad$Marks"
def TX4 : u_T := fun k => match k with
  | 0 => ("CityRoad$Marks", "kinds", "[I", true)
  | 1 => ("CityRoad$Marks", "days", "[I", true)
  | 2 => ("CityRoad$Marks", "hangs", "[I", true)
  | 3 => ("CityRoad$Marks", "lengths", "[I", true)
  | 4 => ("CityRoad$Marks", "routes", "[I", true)
  | 5 => ("CityRoad$Marks", "sets", "[J", true)
  | 6 => ("CityRoad$Marks", "costs", "[I", true)
  | 7 => ("CityRoad$Marks", "shownDays", "[I", true)
  | 8 => ("CityRoad$Marks", "amounts", "[I", true)
  | 9 => ("CityRoad$Marks", "parties", "[I", true)
  | 10 => ("CityRoad$Marks", "dates", "[I", true)
  | 11 => ("CityRoad$Marks", "hours", "[I", true)
  | 12 => ("CityRoad$Marks", "turnedOut", "[J", true)
  | _ => ("CityRoad$Marks", "number", "I", false)
def tyX4 : Nat → FieldType := fun k => match k with
  | 0 => .array .int
  | 1 => .array .int
  | 2 => .array .int
  | 3 => .array .int
  | 4 => .array .int
  | 5 => .array .long
  | 6 => .array .int
  | 7 => .array .int
  | 8 => .array .int
  | 9 => .array .int
  | 10 => .array .int
  | 11 => .array .int
  | 12 => .array .long
  | _ => .int
theorem nmX4 : ∀ a, a < 14 → ∀ b, b < 14 → a ≠ b → (TX4 a).2.1 ≠ (TX4 b).2.1 := by decide +kernel
theorem tyX4_ok : ∀ k, k < 14 → parseFieldDescriptor (TX4 k).2.2.1 = some (tyX4 k) := by decide +kernel
def RX5 : String := "CityRoad$Persons"
def TX5 : u_T := fun k => match k with
  | 0 => ("CityRoad$Persons", "homes", "[I", true)
  | 1 => ("CityRoad$Persons", "works", "[I", true)
  | 2 => ("CityRoad$Persons", "cars", "[Z", true)
  | 3 => ("CityRoad$Persons", "kins", "[I", true)
  | _ => ("CityRoad$Persons", "number", "I", false)
def tyX5 : Nat → FieldType := fun k => match k with
  | 0 => .array .int
  | 1 => .array .int
  | 2 => .array .boolean
  | 3 => .array .int
  | _ => .int
theorem nmX5 : ∀ a, a < 5 → ∀ b, b < 5 → a ≠ b → (TX5 a).2.1 ≠ (TX5 b).2.1 := by decide +kernel
theorem tyX5_ok : ∀ k, k < 5 → parseFieldDescriptor (TX5 k).2.2.1 = some (tyX5 k) := by decide +kernel
def RX6 : String := "CityRoad$Rehousing"
def TX6 : u_T := fun k => match k with
  | 0 => ("CityRoad$Rehousing", "led", "I", false)
  | 1 => ("CityRoad$Rehousing", "sum", "I", false)
  | 2 => ("CityRoad$Rehousing", "prices", "[I", true)
  | 3 => ("CityRoad$Rehousing", "left", "[I", true)
  | 4 => ("CityRoad$Rehousing", "cells", "[I", true)
  | 5 => ("CityRoad$Rehousing", "at", "[I", true)
  | 6 => ("CityRoad$Rehousing", "least", "[I", true)
  | 7 => ("CityRoad$Rehousing", "comer", "[I", true)
  | _ => ("CityRoad$Rehousing", "nowhere", "I", false)
def tyX6 : Nat → FieldType := fun k => match k with
  | 0 => .int
  | 1 => .int
  | 2 => .array .int
  | 3 => .array .int
  | 4 => .array .int
  | 5 => .array .int
  | 6 => .array .int
  | 7 => .array .int
  | _ => .int
theorem nmX6 : ∀ a, a < 9 → ∀ b, b < 9 → a ≠ b → (TX6 a).2.1 ≠ (TX6 b).2.1 := by decide +kernel
theorem tyX6_ok : ∀ k, k < 9 → parseFieldDescriptor (TX6 k).2.2.1 = some (tyX6 k) := by decide +kernel
def RX7 : String := "CityRoad$Rules"
def TX7 : u_T := fun k => match k with
  | 0 => ("CityRoad$Rules", "toldDays", "[I", true)
  | 1 => ("CityRoad$Rules", "fromDays", "[I", true)
  | 2 => ("CityRoad$Rules", "values", "[I", true)
  | _ => ("CityRoad$Rules", "number", "I", false)
def tyX7 : Nat → FieldType := fun k => match k with
  | 0 => .array .int
  | 1 => .array .int
  | 2 => .array .int
  | _ => .int
theorem nmX7 : ∀ a, a < 4 → ∀ b, b < 4 → a ≠ b → (TX7 a).2.1 ≠ (TX7 b).2.1 := by decide +kernel
theorem tyX7_ok : ∀ k, k < 4 → parseFieldDescriptor (TX7 k).2.2.1 = some (tyX7 k) := by decide +kernel
def RX8 : String := "CityRoad$Shelf"
def TX8 : u_T := fun k => match k with
  | 0 => ("CityRoad$Shelf", "rows", "I", true)
  | 1 => ("CityRoad$Shelf", "blank", "I", true)
  | 2 => ("CityRoad$Shelf", "sizes", "[I", true)
  | _ => ("CityRoad$Shelf", "places", "[I", true)
def tyX8 : Nat → FieldType := fun k => match k with
  | 0 => .int
  | 1 => .int
  | 2 => .array .int
  | _ => .array .int
theorem nmX8 : ∀ a, a < 4 → ∀ b, b < 4 → a ≠ b → (TX8 a).2.1 ≠ (TX8 b).2.1 := by decide +kernel
theorem tyX8_ok : ∀ k, k < 4 → parseFieldDescriptor (TX8 k).2.2.1 = some (tyX8 k) := by decide +kernel
def RX9 : String := "CityRoad$Stopper"
def TX9 : u_T := fun k => match k with
  | 0 => ("CityRoad$Stopper", "open", "[J", true)
  | 1 => ("CityRoad$Stopper", "before", "[I", true)
  | 2 => ("CityRoad$Stopper", "queue", "[I", true)
  | 3 => ("CityRoad$Stopper", "through", "[I", true)
  | 4 => ("CityRoad$Stopper", "along", "[I", true)
  | _ => ("CityRoad$Stopper", "queued", "I", false)
def tyX9 : Nat → FieldType := fun k => match k with
  | 0 => .array .long
  | 1 => .array .int
  | 2 => .array .int
  | 3 => .array .int
  | 4 => .array .int
  | _ => .int
theorem nmX9 : ∀ a, a < 6 → ∀ b, b < 6 → a ≠ b → (TX9 a).2.1 ≠ (TX9 b).2.1 := by decide +kernel
theorem tyX9_ok : ∀ k, k < 6 → parseFieldDescriptor (TX9 k).2.2.1 = some (tyX9 k) := by decide +kernel
def RX10 : String := "CityRoad$WaySearch"
def TX10 : u_T := fun k => match k with
  | 0 => ("CityRoad$WaySearch", "prices", "[I", true)
  | 1 => ("CityRoad$WaySearch", "path", "[I", true)
  | 2 => ("CityRoad$WaySearch", "length", "I", false)
  | 3 => ("CityRoad$WaySearch", "total", "I", false)
  | 4 => ("CityRoad$WaySearch", "byWay", "[I", true)
  | 5 => ("CityRoad$WaySearch", "least", "[I", true)
  | 6 => ("CityRoad$WaySearch", "queue", "[I", true)
  | 7 => ("CityRoad$WaySearch", "waits", "J", false)
  | 8 => ("CityRoad$WaySearch", "first", "I", false)
  | 9 => ("CityRoad$WaySearch", "waiting", "I", false)
  | _ => ("CityRoad$WaySearch", "goal", "I", false)
def tyX10 : Nat → FieldType := fun k => match k with
  | 0 => .array .int
  | 1 => .array .int
  | 2 => .int
  | 3 => .int
  | 4 => .array .int
  | 5 => .array .int
  | 6 => .array .int
  | 7 => .long
  | 8 => .int
  | 9 => .int
  | _ => .int
theorem nmX10 : ∀ a, a < 11 → ∀ b, b < 11 → a ≠ b → (TX10 a).2.1 ≠ (TX10 b).2.1 := by decide +kernel
theorem tyX10_ok : ∀ k, k < 11 → parseFieldDescriptor (TX10 k).2.2.1 = some (tyX10 k) := by decide +kernel
def RX11 : String := "CityRoad"
def TX11 : u_T := fun k => match k with
  | 0 => ("CityRoad", "rows", "LCityRoad$Shelf;", true)
  | 1 => ("CityRoad", "texts", "LCityRoad$Shelf;", true)
  | 2 => ("CityRoad", "ground", "LCityRoad$Ground;", true)
  | 3 => ("CityRoad", "buildings", "LCityRoad$Buildings;", true)
  | 4 => ("CityRoad", "persons", "LCityRoad$Persons;", true)
  | 5 => ("CityRoad", "rules", "LCityRoad$Rules;", true)
  | 6 => ("CityRoad", "marks", "LCityRoad$Marks;", true)
  | 7 => ("CityRoad", "dealings", "LCityRoad$Dealings;", true)
  | 8 => ("CityRoad", "ways", "LCityRoad$WaySearch;", true)
  | 9 => ("CityRoad", "rehousing", "LCityRoad$Rehousing;", true)
  | 10 => ("CityRoad", "plan", "LCityRoad$Acts;", true)
  | 11 => ("CityRoad", "stopper", "LCityRoad$Stopper;", true)
  | 12 => ("CityRoad", "findingCounts", "[I", true)
  | 13 => ("CityRoad", "today", "I", false)
  | 14 => ("CityRoad", "asked", "I", false)
  | 15 => ("CityRoad", "coins", "J", false)
  | 16 => ("CityRoad", "set", "J", false)
  | _ => ("CityRoad", "finding", "I", false)
def tyX11 : Nat → FieldType := fun k => match k with
  | 0 => .object "CityRoad$Shelf"
  | 1 => .object "CityRoad$Shelf"
  | 2 => .object "CityRoad$Ground"
  | 3 => .object "CityRoad$Buildings"
  | 4 => .object "CityRoad$Persons"
  | 5 => .object "CityRoad$Rules"
  | 6 => .object "CityRoad$Marks"
  | 7 => .object "CityRoad$Dealings"
  | 8 => .object "CityRoad$WaySearch"
  | 9 => .object "CityRoad$Rehousing"
  | 10 => .object "CityRoad$Acts"
  | 11 => .object "CityRoad$Stopper"
  | 12 => .array .int
  | 13 => .int
  | 14 => .int
  | 15 => .long
  | 16 => .long
  | _ => .int
theorem nmX11 : ∀ a, a < 18 → ∀ b, b < 18 → a ≠ b → (TX11 a).2.1 ≠ (TX11 b).2.1 := by decide +kernel
theorem tyX11_ok : ∀ k, k < 18 → parseFieldDescriptor (TX11 k).2.2.1 = some (tyX11 k) := by decide +kernel
def RX12 : String := "CityRoadModel"
def TX12 : u_T := fun k => match k with
  | 0 => ("CityRoadModel", "finding", "I", false)
  | 1 => ("CityRoadModel", "findings", "[I", true)
  | 2 => ("CityRoadModel", "asked", "I", false)
  | 3 => ("CityRoadModel", "cellSet", "J", false)
  | 4 => ("CityRoadModel", "today", "I", false)
  | 5 => ("CityRoadModel", "sizes", "[I", true)
  | 6 => ("CityRoadModel", "rows", "[I", true)
  | 7 => ("CityRoadModel", "moving", "[I", true)
  | 8 => ("CityRoadModel", "lengths", "[I", true)
  | 9 => ("CityRoadModel", "texts", "[I", true)
  | 10 => ("CityRoadModel", "rules", "I", false)
  | 11 => ("CityRoadModel", "ruleTold", "[I", true)
  | 12 => ("CityRoadModel", "ruleFrom", "[I", true)
  | 13 => ("CityRoadModel", "ruleSays", "[I", true)
  | 14 => ("CityRoadModel", "items", "[I", true)
  | 15 => ("CityRoadModel", "sorts", "[I", true)
  | 16 => ("CityRoadModel", "heights", "[I", true)
  | 17 => ("CityRoadModel", "buildings", "I", false)
  | 18 => ("CityRoadModel", "cellOfB", "[I", true)
  | 19 => ("CityRoadModel", "uses", "[I", true)
  | 20 => ("CityRoadModel", "rooms", "[I", true)
  | 21 => ("CityRoadModel", "isTaken", "[Z", true)
  | 22 => ("CityRoadModel", "boughtBy", "[I", true)
  | 23 => ("CityRoadModel", "tellings", "I", false)
  | 24 => ("CityRoadModel", "toldOf", "[I", true)
  | 25 => ("CityRoadModel", "toldDay", "[I", true)
  | 26 => ("CityRoadModel", "toldWorth", "[I", true)
  | 27 => ("CityRoadModel", "persons", "I", false)
  | 28 => ("CityRoadModel", "homes", "[I", true)
  | 29 => ("CityRoadModel", "works", "[I", true)
  | 30 => ("CityRoadModel", "hasCar", "[Z", true)
  | 31 => ("CityRoadModel", "kins", "[I", true)
  | 32 => ("CityRoadModel", "marks", "I", false)
  | 33 => ("CityRoadModel", "kinds", "[I", true)
  | 34 => ("CityRoadModel", "made", "[I", true)
  | 35 => ("CityRoadModel", "hangs", "[I", true)
  | 36 => ("CityRoadModel", "costs", "[I", true)
  | 37 => ("CityRoadModel", "shownOn", "[I", true)
  | 38 => ("CityRoadModel", "wayMany", "[I", true)
  | 39 => ("CityRoadModel", "wayCells", "[I", true)
  | 40 => ("CityRoadModel", "paid", "[I", true)
  | 41 => ("CityRoadModel", "whom", "[I", true)
  | 42 => ("CityRoadModel", "lived", "[J", true)
  | 43 => ("CityRoadModel", "first", "[I", true)
  | 44 => ("CityRoadModel", "second", "[I", true)
  | 45 => ("CityRoadModel", "third", "[I", true)
  | 46 => ("CityRoadModel", "left", "[I", true)
  | 47 => ("CityRoadModel", "cellCosts", "[I", true)
  | 48 => ("CityRoadModel", "buys", "I", false)
  | 49 => ("CityRoadModel", "buyOf", "[I", true)
  | 50 => ("CityRoadModel", "buyBy", "[I", true)
  | 51 => ("CityRoadModel", "buyDay", "[I", true)
  | 52 => ("CityRoadModel", "hears", "I", false)
  | 53 => ("CityRoadModel", "hearBy", "[I", true)
  | 54 => ("CityRoadModel", "hearOf", "[I", true)
  | 55 => ("CityRoadModel", "hearDay", "[I", true)
  | 56 => ("CityRoadModel", "goes", "[I", true)
  | 57 => ("CityRoadModel", "mustGo", "[Z", true)
  | 58 => ("CityRoadModel", "spare", "[I", true)
  | 59 => ("CityRoadModel", "reach", "[I", true)
  | 60 => ("CityRoadModel", "byPerson", "[I", true)
  | 61 => ("CityRoadModel", "byHouse", "[I", true)
  | 62 => ("CityRoadModel", "steps", "[I", true)
  | 63 => ("CityRoadModel", "walkers", "[I", true)
  | 64 => ("CityRoadModel", "coins", "J", false)
  | 65 => ("CityRoadModel", "actMany", "I", false)
  | 66 => ("CityRoadModel", "actsEnd", "I", false)
  | 67 => ("CityRoadModel", "actEnd", "[I", true)
  | 68 => ("CityRoadModel", "actLater", "[I", true)
  | 69 => ("CityRoadModel", "ends", "[I", true)
  | 70 => ("CityRoadModel", "laters", "[I", true)
  | 71 => ("CityRoadModel", "isBarred", "[Z", true)
  | 72 => ("CityRoadModel", "through", "[I", true)
  | 73 => ("CityRoadModel", "along", "[I", true)
  | 74 => ("CityRoadModel", "cameFrom", "[I", true)
  | 75 => ("CityRoadModel", "queue", "[I", true)
  | _ => ("CityRoadModel", "h", "J", false)
def tyX12 : Nat → FieldType := fun k => match k with
  | 0 => .int
  | 1 => .array .int
  | 2 => .int
  | 3 => .long
  | 4 => .int
  | 5 => .array .int
  | 6 => .array .int
  | 7 => .array .int
  | 8 => .array .int
  | 9 => .array .int
  | 10 => .int
  | 11 => .array .int
  | 12 => .array .int
  | 13 => .array .int
  | 14 => .array .int
  | 15 => .array .int
  | 16 => .array .int
  | 17 => .int
  | 18 => .array .int
  | 19 => .array .int
  | 20 => .array .int
  | 21 => .array .boolean
  | 22 => .array .int
  | 23 => .int
  | 24 => .array .int
  | 25 => .array .int
  | 26 => .array .int
  | 27 => .int
  | 28 => .array .int
  | 29 => .array .int
  | 30 => .array .boolean
  | 31 => .array .int
  | 32 => .int
  | 33 => .array .int
  | 34 => .array .int
  | 35 => .array .int
  | 36 => .array .int
  | 37 => .array .int
  | 38 => .array .int
  | 39 => .array .int
  | 40 => .array .int
  | 41 => .array .int
  | 42 => .array .long
  | 43 => .array .int
  | 44 => .array .int
  | 45 => .array .int
  | 46 => .array .int
  | 47 => .array .int
  | 48 => .int
  | 49 => .array .int
  | 50 => .array .int
  | 51 => .array .int
  | 52 => .int
  | 53 => .array .int
  | 54 => .array .int
  | 55 => .array .int
  | 56 => .array .int
  | 57 => .array .boolean
  | 58 => .array .int
  | 59 => .array .int
  | 60 => .array .int
  | 61 => .array .int
  | 62 => .array .int
  | 63 => .array .int
  | 64 => .long
  | 65 => .int
  | 66 => .int
  | 67 => .array .int
  | 68 => .array .int
  | 69 => .array .int
  | 70 => .array .int
  | 71 => .array .boolean
  | 72 => .array .int
  | 73 => .array .int
  | 74 => .array .int
  | 75 => .array .int
  | _ => .long
theorem nmX12 : ∀ a, a < 77 → ∀ b, b < 77 → a ≠ b → (TX12 a).2.1 ≠ (TX12 b).2.1 := by decide +kernel
theorem tyX12_ok : ∀ k, k < 77 → parseFieldDescriptor (TX12 k).2.2.1 = some (tyX12 k) := by decide +kernel
def RJ13 : String := "java/lang/Long"
def RJ9 : String := "java/lang/Math"
def RJ10 : String := "java/lang/System"
def RJ7 : String := "java/util/Arrays"
abbrev classes : List vw_C := [(RX0, TX0, 6), (RX1, TX1, 14), (RX2, TX2, 8), (RX3, TX3, 2), (RX4, TX4, 14), (RX5, TX5, 5), (RX6, TX6, 9), (RX7, TX7, 4), (RX8, TX8, 4), (RX9, TX9, 6), (RX10, TX10, 11), (RX11, TX11, 18), (RX12, TX12, 77)]
def tb : List Cond := lw_tbl.filter goodWord
theorem tb_mem {w : Cond} (i : Nat) (h : lw_tbl[i]? = some w) (hg : goodWord w = true) : w ∈ tb := List.mem_filter.mpr ⟨List.mem_of_getElem? h, hg⟩
theorem mem_ps {big ws : List Cond} (ps : List Nat) (hp : ws = ps.filterMap (fun i => big[i]?)) (hg : ws.all goodWord = true) : ∀ w ∈ ws, w ∈ big.filter goodWord := by
  intro w hw
  have hq := List.all_eq_true.mp hg w hw
  rw [hp] at hw
  obtain ⟨i, -, hi⟩ := List.mem_filterMap.mp hw
  exact List.mem_filter.mpr ⟨List.mem_of_getElem? hi, hq⟩
set_option maxRecDepth 100000 in
theorem fw_X0 : ∀ w ∈ u_ws RX0 TX0 6, w ∈ tb := mem_ps [420, 422, 424, 426, 428, 430] (by decide +kernel) (by decide +kernel)
set_option maxRecDepth 100000 in
theorem fw_X1 : ∀ w ∈ u_ws RX1 TX1 14, w ∈ tb := mem_ps [174, 176, 178, 180, 182, 184, 186, 188, 190, 192, 194, 196, 198, 200] (by decide +kernel) (by decide +kernel)
set_option maxRecDepth 100000 in
theorem fw_X2 : ∀ w ∈ u_ws RX2 TX2 8, w ∈ tb := mem_ps [309, 311, 313, 315, 317, 319, 321, 323] (by decide +kernel) (by decide +kernel)
set_option maxRecDepth 100000 in
theorem fw_X3 : ∀ w ∈ u_ws RX3 TX3 2, w ∈ tb := mem_ps [148, 150] (by decide +kernel) (by decide +kernel)
set_option maxRecDepth 100000 in
theorem fw_X4 : ∀ w ∈ u_ws RX4 TX4 14, w ∈ tb := mem_ps [265, 267, 269, 271, 273, 275, 277, 279, 281, 283, 285, 287, 289, 291] (by decide +kernel) (by decide +kernel)
set_option maxRecDepth 100000 in
theorem fw_X5 : ∀ w ∈ u_ws RX5 TX5 5, w ∈ tb := mem_ps [215, 217, 219, 221, 223] (by decide +kernel) (by decide +kernel)
set_option maxRecDepth 100000 in
theorem fw_X6 : ∀ w ∈ u_ws RX6 TX6 9, w ∈ tb := mem_ps [387, 389, 391, 393, 395, 397, 399, 401, 403] (by decide +kernel) (by decide +kernel)
set_option maxRecDepth 100000 in
theorem fw_X7 : ∀ w ∈ u_ws RX7 TX7 4, w ∈ tb := mem_ps [236, 238, 240, 242] (by decide +kernel) (by decide +kernel)
set_option maxRecDepth 100000 in
theorem fw_X8 : ∀ w ∈ u_ws RX8 TX8 4, w ∈ tb := mem_ps [130, 132, 134, 136] (by decide +kernel) (by decide +kernel)
set_option maxRecDepth 100000 in
theorem fw_X9 : ∀ w ∈ u_ws RX9 TX9 6, w ∈ tb := mem_ps [445, 447, 449, 451, 453, 455] (by decide +kernel) (by decide +kernel)
set_option maxRecDepth 100000 in
theorem fw_X10 : ∀ w ∈ u_ws RX10 TX10 11, w ∈ tb := mem_ps [347, 349, 351, 353, 355, 357, 359, 361, 363, 365, 367] (by decide +kernel) (by decide +kernel)
set_option maxRecDepth 100000 in
theorem fw_X11 : ∀ w ∈ u_ws RX11 TX11 18, w ∈ tb := mem_ps [476, 478, 480, 482, 484, 486, 488, 490, 492, 494, 496, 498, 500, 502, 504, 506, 508, 510] (by decide +kernel) (by decide +kernel)
set_option maxRecDepth 100000 in
theorem fw_X12 : ∀ w ∈ u_ws RX12 TX12 77, w ∈ tb := mem_ps [1543, 1545, 1547, 1549, 1551, 1553, 1555, 1557, 1559, 1561, 1563, 1565, 1567, 1569, 1571, 1573, 1575, 1577, 1579, 1581, 1583, 1585, 1587, 1589, 1591, 1593, 1595, 1597, 1599, 1601, 1603, 1605, 1607, 1609, 1611, 1613, 1615, 1617, 1619, 1621, 1623, 1625, 1627, 1629, 1631, 1633, 1635, 1637, 1639, 1641, 1643, 1645, 1647, 1649, 1651, 1653, 1655, 1657, 1659, 1661, 1663, 1665, 1667, 1669, 1671, 1673, 1675, 1677, 1679, 1681, 1683, 1685, 1687, 1689, 1691, 1693, 1695] (by decide +kernel) (by decide +kernel)
