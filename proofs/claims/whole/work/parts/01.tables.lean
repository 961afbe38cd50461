-- ===== PART A: goes FIRST, ahead of the names: the tables' words, and 'selects' of the private methods out of them =====
/-- a private method of a class that the tables say can be made, by its rows of tables_1 -/
def lw_okq (q : MethodName × Nat) : Prop := (q.1.cls ≠ "java/lang/invoke/MethodHandle" ∧ q.1.cls ≠ "java/lang/invoke/VarHandle") ∧ Cond.instantiable q.1.cls q.2 ∈ tables_1 ∧ Cond.privateMethod q.1 ∈ tables_1 ∧ Cond.instanceMethod q.1 ∈ tables_1
theorem lw_p0 : lw_okq (⟨"UnlikeNeighbours$Shed", "cameBeside", "(II)Z"⟩, 16) := ⟨⟨by decide +kernel, by decide +kernel⟩, List.mem_of_getElem? (i := 30) (by decide +kernel), List.mem_of_getElem? (i := 286) (by decide +kernel), List.mem_of_getElem? (i := 287) (by decide +kernel)⟩
theorem lw_p1 : lw_okq (⟨"UnlikeNeighbours$Shed", "isNear", "(II)Z"⟩, 16) := ⟨⟨by decide +kernel, by decide +kernel⟩, List.mem_of_getElem? (i := 30) (by decide +kernel), List.mem_of_getElem? (i := 290) (by decide +kernel), List.mem_of_getElem? (i := 291) (by decide +kernel)⟩
theorem lw_p2 : lw_okq (⟨"UnlikeNeighbours$Shed", "standsNear", "(II)Z"⟩, 16) := ⟨⟨by decide +kernel, by decide +kernel⟩, List.mem_of_getElem? (i := 30) (by decide +kernel), List.mem_of_getElem? (i := 297) (by decide +kernel), List.mem_of_getElem? (i := 298) (by decide +kernel)⟩
theorem lw_p3 : lw_okq (⟨"UnlikeNeighbours$Rules", "isSo", "(ILUnlikeNeighbours$Shed;I)Z"⟩, 8) := ⟨⟨by decide +kernel, by decide +kernel⟩, List.mem_of_getElem? (i := 36) (by decide +kernel), List.mem_of_getElem? (i := 323) (by decide +kernel), List.mem_of_getElem? (i := 324) (by decide +kernel)⟩
theorem lw_p4 : lw_okq (⟨"UnlikeNeighbours$Rules", "compared", "(ILUnlikeNeighbours$Shed;I)I"⟩, 8) := ⟨⟨by decide +kernel, by decide +kernel⟩, List.mem_of_getElem? (i := 36) (by decide +kernel), List.mem_of_getElem? (i := 327) (by decide +kernel), List.mem_of_getElem? (i := 328) (by decide +kernel)⟩
theorem lw_p5 : lw_okq (⟨"UnlikeNeighbours", "standing", "(I)I"⟩, 12) := ⟨⟨by decide +kernel, by decide +kernel⟩, List.mem_of_getElem? (i := 22) (by decide +kernel), List.mem_of_getElem? (i := 337) (by decide +kernel), List.mem_of_getElem? (i := 338) (by decide +kernel)⟩
theorem lw_p6 : lw_okq (⟨"UnlikeNeighbours$Reader", "partTape", "()V"⟩, 7) := ⟨⟨by decide +kernel, by decide +kernel⟩, List.mem_of_getElem? (i := 139) (by decide +kernel), List.mem_of_getElem? (i := 399) (by decide +kernel), List.mem_of_getElem? (i := 400) (by decide +kernel)⟩
theorem lw_p7 : lw_okq (⟨"UnlikeNeighbours$Reader", "nameAt", "(II)I"⟩, 7) := ⟨⟨by decide +kernel, by decide +kernel⟩, List.mem_of_getElem? (i := 139) (by decide +kernel), List.mem_of_getElem? (i := 406) (by decide +kernel), List.mem_of_getElem? (i := 407) (by decide +kernel)⟩
theorem lw_p8 : lw_okq (⟨"UnlikeNeighbours$Reader", "addToken", "(II)V"⟩, 7) := ⟨⟨by decide +kernel, by decide +kernel⟩, List.mem_of_getElem? (i := 139) (by decide +kernel), List.mem_of_getElem? (i := 459) (by decide +kernel), List.mem_of_getElem? (i := 460) (by decide +kernel)⟩
theorem lw_p9 : lw_okq (⟨"UnlikeNeighbours$Reader", "numberAt", "(II)I"⟩, 7) := ⟨⟨by decide +kernel, by decide +kernel⟩, List.mem_of_getElem? (i := 139) (by decide +kernel), List.mem_of_getElem? (i := 463) (by decide +kernel), List.mem_of_getElem? (i := 464) (by decide +kernel)⟩
theorem lw_p10 : lw_okq (⟨"UnlikeNeighbours$Reader", "byteAt", "(I)I"⟩, 7) := ⟨⟨by decide +kernel, by decide +kernel⟩, List.mem_of_getElem? (i := 139) (by decide +kernel), List.mem_of_getElem? (i := 467) (by decide +kernel), List.mem_of_getElem? (i := 468) (by decide +kernel)⟩
theorem lw_p11 : lw_okq (⟨"UnlikeNeighbours$Reader", "peek", "()I"⟩, 7) := ⟨⟨by decide +kernel, by decide +kernel⟩, List.mem_of_getElem? (i := 139) (by decide +kernel), List.mem_of_getElem? (i := 475) (by decide +kernel), List.mem_of_getElem? (i := 476) (by decide +kernel)⟩
theorem lw_p12 : lw_okq (⟨"UnlikeNeighbours$Reader", "readRule", "()Z"⟩, 7) := ⟨⟨by decide +kernel, by decide +kernel⟩, List.mem_of_getElem? (i := 139) (by decide +kernel), List.mem_of_getElem? (i := 479) (by decide +kernel), List.mem_of_getElem? (i := 480) (by decide +kernel)⟩
theorem lw_p13 : lw_okq (⟨"UnlikeNeighbours$Reader", "readCondition", "(I)Z"⟩, 7) := ⟨⟨by decide +kernel, by decide +kernel⟩, List.mem_of_getElem? (i := 139) (by decide +kernel), List.mem_of_getElem? (i := 484) (by decide +kernel), List.mem_of_getElem? (i := 485) (by decide +kernel)⟩
theorem lw_p14 : lw_okq (⟨"UnlikeNeighbours$Reader", "readAll", "(I)Z"⟩, 7) := ⟨⟨by decide +kernel, by decide +kernel⟩, List.mem_of_getElem? (i := 139) (by decide +kernel), List.mem_of_getElem? (i := 488) (by decide +kernel), List.mem_of_getElem? (i := 489) (by decide +kernel)⟩
theorem lw_p15 : lw_okq (⟨"UnlikeNeighbours$Reader", "readOne", "(I)Z"⟩, 7) := ⟨⟨by decide +kernel, by decide +kernel⟩, List.mem_of_getElem? (i := 139) (by decide +kernel), List.mem_of_getElem? (i := 492) (by decide +kernel), List.mem_of_getElem? (i := 493) (by decide +kernel)⟩
def lw_privs_1 : List (MethodName × Nat) := [(⟨"UnlikeNeighbours$Shed", "cameBeside", "(II)Z"⟩, 16), (⟨"UnlikeNeighbours$Shed", "isNear", "(II)Z"⟩, 16), (⟨"UnlikeNeighbours$Shed", "standsNear", "(II)Z"⟩, 16), (⟨"UnlikeNeighbours$Rules", "isSo", "(ILUnlikeNeighbours$Shed;I)Z"⟩, 8), (⟨"UnlikeNeighbours$Rules", "compared", "(ILUnlikeNeighbours$Shed;I)I"⟩, 8), (⟨"UnlikeNeighbours", "standing", "(I)I"⟩, 12), (⟨"UnlikeNeighbours$Reader", "partTape", "()V"⟩, 7), (⟨"UnlikeNeighbours$Reader", "nameAt", "(II)I"⟩, 7), (⟨"UnlikeNeighbours$Reader", "addToken", "(II)V"⟩, 7), (⟨"UnlikeNeighbours$Reader", "numberAt", "(II)I"⟩, 7), (⟨"UnlikeNeighbours$Reader", "byteAt", "(I)I"⟩, 7), (⟨"UnlikeNeighbours$Reader", "peek", "()I"⟩, 7), (⟨"UnlikeNeighbours$Reader", "readRule", "()Z"⟩, 7), (⟨"UnlikeNeighbours$Reader", "readCondition", "(I)Z"⟩, 7), (⟨"UnlikeNeighbours$Reader", "readAll", "(I)Z"⟩, 7), (⟨"UnlikeNeighbours$Reader", "readOne", "(I)Z"⟩, 7)]
theorem lw_r1 : ∀ q ∈ lw_privs_1, lw_okq q := List.forall_mem_cons.mpr ⟨lw_p0, List.forall_mem_cons.mpr ⟨lw_p1, List.forall_mem_cons.mpr ⟨lw_p2, List.forall_mem_cons.mpr ⟨lw_p3, List.forall_mem_cons.mpr ⟨lw_p4, List.forall_mem_cons.mpr ⟨lw_p5, List.forall_mem_cons.mpr ⟨lw_p6, List.forall_mem_cons.mpr ⟨lw_p7, List.forall_mem_cons.mpr ⟨lw_p8, List.forall_mem_cons.mpr ⟨lw_p9, List.forall_mem_cons.mpr ⟨lw_p10, List.forall_mem_cons.mpr ⟨lw_p11, List.forall_mem_cons.mpr ⟨lw_p12, List.forall_mem_cons.mpr ⟨lw_p13, List.forall_mem_cons.mpr ⟨lw_p14, List.forall_mem_cons.mpr ⟨lw_p15, fun _ h => absurd h List.not_mem_nil⟩⟩⟩⟩⟩⟩⟩⟩⟩⟩⟩⟩⟩⟩⟩⟩
theorem lw_p16 : lw_okq (⟨"UnlikeNeighbours$Reader", "readComparison", "()Z"⟩, 7) := ⟨⟨by decide +kernel, by decide +kernel⟩, List.mem_of_getElem? (i := 139) (by decide +kernel), List.mem_of_getElem? (i := 496) (by decide +kernel), List.mem_of_getElem? (i := 497) (by decide +kernel)⟩
theorem lw_p17 : lw_okq (⟨"UnlikeNeighbours$Orders", "visit", "(III)V"⟩, 11) := ⟨⟨by decide +kernel, by decide +kernel⟩, List.mem_of_getElem? (i := 171) (by decide +kernel), List.mem_of_getElem? (i := 579) (by decide +kernel), List.mem_of_getElem? (i := 580) (by decide +kernel)⟩
theorem lw_p18 : lw_okq (⟨"UnlikeNeighbours$Orders", "visitBehind", "(IIII)V"⟩, 11) := ⟨⟨by decide +kernel, by decide +kernel⟩, List.mem_of_getElem? (i := 171) (by decide +kernel), List.mem_of_getElem? (i := 590) (by decide +kernel), List.mem_of_getElem? (i := 591) (by decide +kernel)⟩
theorem lw_p19 : lw_okq (⟨"UnlikeNeighbours$Orders", "costOf", "(II)I"⟩, 11) := ⟨⟨by decide +kernel, by decide +kernel⟩, List.mem_of_getElem? (i := 171) (by decide +kernel), List.mem_of_getElem? (i := 596) (by decide +kernel), List.mem_of_getElem? (i := 597) (by decide +kernel)⟩
theorem lw_p20 : lw_okq (⟨"UnlikeNeighbours", "inFirst", "(II)I"⟩, 12) := ⟨⟨by decide +kernel, by decide +kernel⟩, List.mem_of_getElem? (i := 22) (by decide +kernel), List.mem_of_getElem? (i := 611) (by decide +kernel), List.mem_of_getElem? (i := 612) (by decide +kernel)⟩
theorem lw_p21 : lw_okq (⟨"UnlikeNeighbours$Orders", "leastNext", "(III)I"⟩, 11) := ⟨⟨by decide +kernel, by decide +kernel⟩, List.mem_of_getElem? (i := 171) (by decide +kernel), List.mem_of_getElem? (i := 619) (by decide +kernel), List.mem_of_getElem? (i := 620) (by decide +kernel)⟩
theorem lw_p22 : lw_okq (⟨"UnlikeNeighbours$Orders", "leadsOn", "(IIII)Z"⟩, 11) := ⟨⟨by decide +kernel, by decide +kernel⟩, List.mem_of_getElem? (i := 171) (by decide +kernel), List.mem_of_getElem? (i := 623) (by decide +kernel), List.mem_of_getElem? (i := 624) (by decide +kernel)⟩
theorem lw_p23 : lw_okq (⟨"UnlikeNeighbours$Shed", "fits", "(II)Z"⟩, 16) := ⟨⟨by decide +kernel, by decide +kernel⟩, List.mem_of_getElem? (i := 30) (by decide +kernel), List.mem_of_getElem? (i := 697) (by decide +kernel), List.mem_of_getElem? (i := 698) (by decide +kernel)⟩
theorem lw_p24 : lw_okq (⟨"UnlikeNeighbours$Shed", "couldGoBehind", "(II)I"⟩, 16) := ⟨⟨by decide +kernel, by decide +kernel⟩, List.mem_of_getElem? (i := 30) (by decide +kernel), List.mem_of_getElem? (i := 701) (by decide +kernel), List.mem_of_getElem? (i := 702) (by decide +kernel)⟩
theorem lw_p25 : lw_okq (⟨"UnlikeNeighbours", "isCell", "(II)Z"⟩, 12) := ⟨⟨by decide +kernel, by decide +kernel⟩, List.mem_of_getElem? (i := 22) (by decide +kernel), List.mem_of_getElem? (i := 737) (by decide +kernel), List.mem_of_getElem? (i := 738) (by decide +kernel)⟩
theorem lw_p26 : lw_okq (⟨"UnlikeNeighbours", "holdRow", "(ILUnlikeNeighbours$Sheet;)V"⟩, 12) := ⟨⟨by decide +kernel, by decide +kernel⟩, List.mem_of_getElem? (i := 22) (by decide +kernel), List.mem_of_getElem? (i := 792) (by decide +kernel), List.mem_of_getElem? (i := 793) (by decide +kernel)⟩
theorem lw_p27 : lw_okq (⟨"UnlikeNeighbours", "thingOn", "(I)LUnlikeNeighbours$Thing;"⟩, 12) := ⟨⟨by decide +kernel, by decide +kernel⟩, List.mem_of_getElem? (i := 22) (by decide +kernel), List.mem_of_getElem? (i := 805) (by decide +kernel), List.mem_of_getElem? (i := 806) (by decide +kernel)⟩
theorem lw_p28 : lw_okq (⟨"UnlikeNeighboursModel", "next", "()V"⟩, 34) := ⟨⟨by decide +kernel, by decide +kernel⟩, List.mem_of_getElem? (i := 1023) (by decide +kernel), List.mem_of_getElem? (i := 1157) (by decide +kernel), List.mem_of_getElem? (i := 1158) (by decide +kernel)⟩
theorem lw_p29 : lw_okq (⟨"UnlikeNeighboursModel", "byteAt", "(I)I"⟩, 34) := ⟨⟨by decide +kernel, by decide +kernel⟩, List.mem_of_getElem? (i := 1023) (by decide +kernel), List.mem_of_getElem? (i := 1161) (by decide +kernel), List.mem_of_getElem? (i := 1162) (by decide +kernel)⟩
theorem lw_p30 : lw_okq (⟨"UnlikeNeighboursModel", "readRule", "(I)V"⟩, 34) := ⟨⟨by decide +kernel, by decide +kernel⟩, List.mem_of_getElem? (i := 1023) (by decide +kernel), List.mem_of_getElem? (i := 1171) (by decide +kernel), List.mem_of_getElem? (i := 1172) (by decide +kernel)⟩
theorem lw_p31 : lw_okq (⟨"UnlikeNeighboursModel", "isWord", "(Ljava/lang/String;)Z"⟩, 34) := ⟨⟨by decide +kernel, by decide +kernel⟩, List.mem_of_getElem? (i := 1023) (by decide +kernel), List.mem_of_getElem? (i := 1175) (by decide +kernel), List.mem_of_getElem? (i := 1176) (by decide +kernel)⟩
def lw_privs_2 : List (MethodName × Nat) := [(⟨"UnlikeNeighbours$Reader", "readComparison", "()Z"⟩, 7), (⟨"UnlikeNeighbours$Orders", "visit", "(III)V"⟩, 11), (⟨"UnlikeNeighbours$Orders", "visitBehind", "(IIII)V"⟩, 11), (⟨"UnlikeNeighbours$Orders", "costOf", "(II)I"⟩, 11), (⟨"UnlikeNeighbours", "inFirst", "(II)I"⟩, 12), (⟨"UnlikeNeighbours$Orders", "leastNext", "(III)I"⟩, 11), (⟨"UnlikeNeighbours$Orders", "leadsOn", "(IIII)Z"⟩, 11), (⟨"UnlikeNeighbours$Shed", "fits", "(II)Z"⟩, 16), (⟨"UnlikeNeighbours$Shed", "couldGoBehind", "(II)I"⟩, 16), (⟨"UnlikeNeighbours", "isCell", "(II)Z"⟩, 12), (⟨"UnlikeNeighbours", "holdRow", "(ILUnlikeNeighbours$Sheet;)V"⟩, 12), (⟨"UnlikeNeighbours", "thingOn", "(I)LUnlikeNeighbours$Thing;"⟩, 12), (⟨"UnlikeNeighboursModel", "next", "()V"⟩, 34), (⟨"UnlikeNeighboursModel", "byteAt", "(I)I"⟩, 34), (⟨"UnlikeNeighboursModel", "readRule", "(I)V"⟩, 34), (⟨"UnlikeNeighboursModel", "isWord", "(Ljava/lang/String;)Z"⟩, 34)]
theorem lw_r2 : ∀ q ∈ lw_privs_2, lw_okq q := List.forall_mem_cons.mpr ⟨lw_p16, List.forall_mem_cons.mpr ⟨lw_p17, List.forall_mem_cons.mpr ⟨lw_p18, List.forall_mem_cons.mpr ⟨lw_p19, List.forall_mem_cons.mpr ⟨lw_p20, List.forall_mem_cons.mpr ⟨lw_p21, List.forall_mem_cons.mpr ⟨lw_p22, List.forall_mem_cons.mpr ⟨lw_p23, List.forall_mem_cons.mpr ⟨lw_p24, List.forall_mem_cons.mpr ⟨lw_p25, List.forall_mem_cons.mpr ⟨lw_p26, List.forall_mem_cons.mpr ⟨lw_p27, List.forall_mem_cons.mpr ⟨lw_p28, List.forall_mem_cons.mpr ⟨lw_p29, List.forall_mem_cons.mpr ⟨lw_p30, List.forall_mem_cons.mpr ⟨lw_p31, fun _ h => absurd h List.not_mem_nil⟩⟩⟩⟩⟩⟩⟩⟩⟩⟩⟩⟩⟩⟩⟩⟩
theorem lw_p32 : lw_okq (⟨"UnlikeNeighboursModel", "must", "(Z)V"⟩, 34) := ⟨⟨by decide +kernel, by decide +kernel⟩, List.mem_of_getElem? (i := 1023) (by decide +kernel), List.mem_of_getElem? (i := 1181) (by decide +kernel), List.mem_of_getElem? (i := 1182) (by decide +kernel)⟩
theorem lw_p33 : lw_okq (⟨"UnlikeNeighboursModel", "condition", "()V"⟩, 34) := ⟨⟨by decide +kernel, by decide +kernel⟩, List.mem_of_getElem? (i := 1023) (by decide +kernel), List.mem_of_getElem? (i := 1187) (by decide +kernel), List.mem_of_getElem? (i := 1188) (by decide +kernel)⟩
theorem lw_p34 : lw_okq (⟨"UnlikeNeighboursModel", "all", "()V"⟩, 34) := ⟨⟨by decide +kernel, by decide +kernel⟩, List.mem_of_getElem? (i := 1023) (by decide +kernel), List.mem_of_getElem? (i := 1191) (by decide +kernel), List.mem_of_getElem? (i := 1192) (by decide +kernel)⟩
theorem lw_p35 : lw_okq (⟨"UnlikeNeighboursModel", "one", "()V"⟩, 34) := ⟨⟨by decide +kernel, by decide +kernel⟩, List.mem_of_getElem? (i := 1023) (by decide +kernel), List.mem_of_getElem? (i := 1195) (by decide +kernel), List.mem_of_getElem? (i := 1196) (by decide +kernel)⟩
theorem lw_p36 : lw_okq (⟨"UnlikeNeighboursModel", "tells", "(I)V"⟩, 34) := ⟨⟨by decide +kernel, by decide +kernel⟩, List.mem_of_getElem? (i := 1023) (by decide +kernel), List.mem_of_getElem? (i := 1200) (by decide +kernel), List.mem_of_getElem? (i := 1201) (by decide +kernel)⟩
theorem lw_p37 : lw_okq (⟨"UnlikeNeighboursModel", "isSign", "(I)Z"⟩, 34) := ⟨⟨by decide +kernel, by decide +kernel⟩, List.mem_of_getElem? (i := 1023) (by decide +kernel), List.mem_of_getElem? (i := 1204) (by decide +kernel), List.mem_of_getElem? (i := 1205) (by decide +kernel)⟩
theorem lw_p38 : lw_okq (⟨"UnlikeNeighboursModel", "value", "()V"⟩, 34) := ⟨⟨by decide +kernel, by decide +kernel⟩, List.mem_of_getElem? (i := 1023) (by decide +kernel), List.mem_of_getElem? (i := 1208) (by decide +kernel), List.mem_of_getElem? (i := 1209) (by decide +kernel)⟩
theorem lw_p39 : lw_okq (⟨"UnlikeNeighboursModel", "numberAt", "()I"⟩, 34) := ⟨⟨by decide +kernel, by decide +kernel⟩, List.mem_of_getElem? (i := 1023) (by decide +kernel), List.mem_of_getElem? (i := 1218) (by decide +kernel), List.mem_of_getElem? (i := 1219) (by decide +kernel)⟩
theorem lw_p40 : lw_okq (⟨"UnlikeNeighboursModel", "is", "(II)Z"⟩, 34) := ⟨⟨by decide +kernel, by decide +kernel⟩, List.mem_of_getElem? (i := 1023) (by decide +kernel), List.mem_of_getElem? (i := 1233) (by decide +kernel), List.mem_of_getElem? (i := 1234) (by decide +kernel)⟩
theorem lw_p41 : lw_okq (⟨"UnlikeNeighboursModel", "goodIs", "(II)I"⟩, 34) := ⟨⟨by decide +kernel, by decide +kernel⟩, List.mem_of_getElem? (i := 1023) (by decide +kernel), List.mem_of_getElem? (i := 1237) (by decide +kernel), List.mem_of_getElem? (i := 1238) (by decide +kernel)⟩
theorem lw_p42 : lw_okq (⟨"UnlikeNeighboursModel", "fee", "(I)I"⟩, 34) := ⟨⟨by decide +kernel, by decide +kernel⟩, List.mem_of_getElem? (i := 1023) (by decide +kernel), List.mem_of_getElem? (i := 1241) (by decide +kernel), List.mem_of_getElem? (i := 1242) (by decide +kernel)⟩
theorem lw_p43 : lw_okq (⟨"UnlikeNeighboursModel", "worthOf", "(I)I"⟩, 34) := ⟨⟨by decide +kernel, by decide +kernel⟩, List.mem_of_getElem? (i := 1023) (by decide +kernel), List.mem_of_getElem? (i := 1245) (by decide +kernel), List.mem_of_getElem? (i := 1246) (by decide +kernel)⟩
theorem lw_p44 : lw_okq (⟨"UnlikeNeighboursModel", "holds", "(III)Z"⟩, 34) := ⟨⟨by decide +kernel, by decide +kernel⟩, List.mem_of_getElem? (i := 1023) (by decide +kernel), List.mem_of_getElem? (i := 1255) (by decide +kernel), List.mem_of_getElem? (i := 1256) (by decide +kernel)⟩
theorem lw_p45 : lw_okq (⟨"UnlikeNeighboursModel", "factOf", "(II)I"⟩, 34) := ⟨⟨by decide +kernel, by decide +kernel⟩, List.mem_of_getElem? (i := 1023) (by decide +kernel), List.mem_of_getElem? (i := 1259) (by decide +kernel), List.mem_of_getElem? (i := 1260) (by decide +kernel)⟩
theorem lw_p46 : lw_okq (⟨"UnlikeNeighboursModel", "mayGo", "(I)Z"⟩, 34) := ⟨⟨by decide +kernel, by decide +kernel⟩, List.mem_of_getElem? (i := 1023) (by decide +kernel), List.mem_of_getElem? (i := 1266) (by decide +kernel), List.mem_of_getElem? (i := 1267) (by decide +kernel)⟩
theorem lw_p47 : lw_okq (⟨"UnlikeNeighboursModel", "isTop", "(I)Z"⟩, 34) := ⟨⟨by decide +kernel, by decide +kernel⟩, List.mem_of_getElem? (i := 1023) (by decide +kernel), List.mem_of_getElem? (i := 1270) (by decide +kernel), List.mem_of_getElem? (i := 1271) (by decide +kernel)⟩
def lw_privs_3 : List (MethodName × Nat) := [(⟨"UnlikeNeighboursModel", "must", "(Z)V"⟩, 34), (⟨"UnlikeNeighboursModel", "condition", "()V"⟩, 34), (⟨"UnlikeNeighboursModel", "all", "()V"⟩, 34), (⟨"UnlikeNeighboursModel", "one", "()V"⟩, 34), (⟨"UnlikeNeighboursModel", "tells", "(I)V"⟩, 34), (⟨"UnlikeNeighboursModel", "isSign", "(I)Z"⟩, 34), (⟨"UnlikeNeighboursModel", "value", "()V"⟩, 34), (⟨"UnlikeNeighboursModel", "numberAt", "()I"⟩, 34), (⟨"UnlikeNeighboursModel", "is", "(II)Z"⟩, 34), (⟨"UnlikeNeighboursModel", "goodIs", "(II)I"⟩, 34), (⟨"UnlikeNeighboursModel", "fee", "(I)I"⟩, 34), (⟨"UnlikeNeighboursModel", "worthOf", "(I)I"⟩, 34), (⟨"UnlikeNeighboursModel", "holds", "(III)Z"⟩, 34), (⟨"UnlikeNeighboursModel", "factOf", "(II)I"⟩, 34), (⟨"UnlikeNeighboursModel", "mayGo", "(I)Z"⟩, 34), (⟨"UnlikeNeighboursModel", "isTop", "(I)Z"⟩, 34)]
theorem lw_r3 : ∀ q ∈ lw_privs_3, lw_okq q := List.forall_mem_cons.mpr ⟨lw_p32, List.forall_mem_cons.mpr ⟨lw_p33, List.forall_mem_cons.mpr ⟨lw_p34, List.forall_mem_cons.mpr ⟨lw_p35, List.forall_mem_cons.mpr ⟨lw_p36, List.forall_mem_cons.mpr ⟨lw_p37, List.forall_mem_cons.mpr ⟨lw_p38, List.forall_mem_cons.mpr ⟨lw_p39, List.forall_mem_cons.mpr ⟨lw_p40, List.forall_mem_cons.mpr ⟨lw_p41, List.forall_mem_cons.mpr ⟨lw_p42, List.forall_mem_cons.mpr ⟨lw_p43, List.forall_mem_cons.mpr ⟨lw_p44, List.forall_mem_cons.mpr ⟨lw_p45, List.forall_mem_cons.mpr ⟨lw_p46, List.forall_mem_cons.mpr ⟨lw_p47, fun _ h => absurd h List.not_mem_nil⟩⟩⟩⟩⟩⟩⟩⟩⟩⟩⟩⟩⟩⟩⟩⟩
theorem lw_p48 : lw_okq (⟨"UnlikeNeighboursModel", "isIn", "(I)Z"⟩, 34) := ⟨⟨by decide +kernel, by decide +kernel⟩, List.mem_of_getElem? (i := 1023) (by decide +kernel), List.mem_of_getElem? (i := 1274) (by decide +kernel), List.mem_of_getElem? (i := 1275) (by decide +kernel)⟩
theorem lw_p49 : lw_okq (⟨"UnlikeNeighboursModel", "cameBeside", "(II)Z"⟩, 34) := ⟨⟨by decide +kernel, by decide +kernel⟩, List.mem_of_getElem? (i := 1023) (by decide +kernel), List.mem_of_getElem? (i := 1278) (by decide +kernel), List.mem_of_getElem? (i := 1279) (by decide +kernel)⟩
theorem lw_p50 : lw_okq (⟨"UnlikeNeighboursModel", "isNear", "(II)Z"⟩, 34) := ⟨⟨by decide +kernel, by decide +kernel⟩, List.mem_of_getElem? (i := 1023) (by decide +kernel), List.mem_of_getElem? (i := 1282) (by decide +kernel), List.mem_of_getElem? (i := 1283) (by decide +kernel)⟩
theorem lw_p51 : lw_okq (⟨"UnlikeNeighboursModel", "standsFor", "(II)Z"⟩, 34) := ⟨⟨by decide +kernel, by decide +kernel⟩, List.mem_of_getElem? (i := 1023) (by decide +kernel), List.mem_of_getElem? (i := 1287) (by decide +kernel), List.mem_of_getElem? (i := 1288) (by decide +kernel)⟩
theorem lw_p52 : lw_okq (⟨"UnlikeNeighboursModel", "comes", "(II)I"⟩, 34) := ⟨⟨by decide +kernel, by decide +kernel⟩, List.mem_of_getElem? (i := 1023) (by decide +kernel), List.mem_of_getElem? (i := 1295) (by decide +kernel), List.mem_of_getElem? (i := 1296) (by decide +kernel)⟩
theorem lw_p53 : lw_okq (⟨"UnlikeNeighboursModel", "wentFor", "(I)I"⟩, 34) := ⟨⟨by decide +kernel, by decide +kernel⟩, List.mem_of_getElem? (i := 1023) (by decide +kernel), List.mem_of_getElem? (i := 1327) (by decide +kernel), List.mem_of_getElem? (i := 1328) (by decide +kernel)⟩
theorem lw_p54 : lw_okq (⟨"UnlikeNeighboursModel", "out", "(I)V"⟩, 34) := ⟨⟨by decide +kernel, by decide +kernel⟩, List.mem_of_getElem? (i := 1023) (by decide +kernel), List.mem_of_getElem? (i := 1331) (by decide +kernel), List.mem_of_getElem? (i := 1332) (by decide +kernel)⟩
theorem lw_p55 : lw_okq (⟨"UnlikeNeighboursModel", "home", "()I"⟩, 34) := ⟨⟨by decide +kernel, by decide +kernel⟩, List.mem_of_getElem? (i := 1023) (by decide +kernel), List.mem_of_getElem? (i := 1339) (by decide +kernel), List.mem_of_getElem? (i := 1340) (by decide +kernel)⟩
theorem lw_p56 : lw_okq (⟨"UnlikeNeighboursModel", "waysOn", "()I"⟩, 34) := ⟨⟨by decide +kernel, by decide +kernel⟩, List.mem_of_getElem? (i := 1023) (by decide +kernel), List.mem_of_getElem? (i := 1355) (by decide +kernel), List.mem_of_getElem? (i := 1356) (by decide +kernel)⟩
theorem lw_p57 : lw_okq (⟨"UnlikeNeighboursModel", "inMany", "()I"⟩, 34) := ⟨⟨by decide +kernel, by decide +kernel⟩, List.mem_of_getElem? (i := 1023) (by decide +kernel), List.mem_of_getElem? (i := 1359) (by decide +kernel), List.mem_of_getElem? (i := 1360) (by decide +kernel)⟩
theorem lw_p58 : lw_okq (⟨"UnlikeNeighboursModel", "orderTold", "(II)I"⟩, 34) := ⟨⟨by decide +kernel, by decide +kernel⟩, List.mem_of_getElem? (i := 1023) (by decide +kernel), List.mem_of_getElem? (i := 1367) (by decide +kernel), List.mem_of_getElem? (i := 1368) (by decide +kernel)⟩
theorem lw_p59 : lw_okq (⟨"UnlikeNeighboursModel", "findFirst", "(I)Z"⟩, 34) := ⟨⟨by decide +kernel, by decide +kernel⟩, List.mem_of_getElem? (i := 1023) (by decide +kernel), List.mem_of_getElem? (i := 1371) (by decide +kernel), List.mem_of_getElem? (i := 1372) (by decide +kernel)⟩
theorem lw_p60 : lw_okq (⟨"UnlikeNeighboursModel", "longestOn", "()I"⟩, 34) := ⟨⟨by decide +kernel, by decide +kernel⟩, List.mem_of_getElem? (i := 1023) (by decide +kernel), List.mem_of_getElem? (i := 1375) (by decide +kernel), List.mem_of_getElem? (i := 1376) (by decide +kernel)⟩
theorem lw_p61 : lw_okq (⟨"UnlikeNeighboursModel", "costOn", "(I)I"⟩, 34) := ⟨⟨by decide +kernel, by decide +kernel⟩, List.mem_of_getElem? (i := 1023) (by decide +kernel), List.mem_of_getElem? (i := 1379) (by decide +kernel), List.mem_of_getElem? (i := 1380) (by decide +kernel)⟩
theorem lw_p62 : lw_okq (⟨"UnlikeNeighboursModel", "goesOn", "(IIII)Z"⟩, 34) := ⟨⟨by decide +kernel, by decide +kernel⟩, List.mem_of_getElem? (i := 1023) (by decide +kernel), List.mem_of_getElem? (i := 1383) (by decide +kernel), List.mem_of_getElem? (i := 1384) (by decide +kernel)⟩
theorem lw_p63 : lw_okq (⟨"UnlikeNeighboursModel", "goneOn", "()I"⟩, 34) := ⟨⟨by decide +kernel, by decide +kernel⟩, List.mem_of_getElem? (i := 1023) (by decide +kernel), List.mem_of_getElem? (i := 1407) (by decide +kernel), List.mem_of_getElem? (i := 1408) (by decide +kernel)⟩
def lw_privs_4 : List (MethodName × Nat) := [(⟨"UnlikeNeighboursModel", "isIn", "(I)Z"⟩, 34), (⟨"UnlikeNeighboursModel", "cameBeside", "(II)Z"⟩, 34), (⟨"UnlikeNeighboursModel", "isNear", "(II)Z"⟩, 34), (⟨"UnlikeNeighboursModel", "standsFor", "(II)Z"⟩, 34), (⟨"UnlikeNeighboursModel", "comes", "(II)I"⟩, 34), (⟨"UnlikeNeighboursModel", "wentFor", "(I)I"⟩, 34), (⟨"UnlikeNeighboursModel", "out", "(I)V"⟩, 34), (⟨"UnlikeNeighboursModel", "home", "()I"⟩, 34), (⟨"UnlikeNeighboursModel", "waysOn", "()I"⟩, 34), (⟨"UnlikeNeighboursModel", "inMany", "()I"⟩, 34), (⟨"UnlikeNeighboursModel", "orderTold", "(II)I"⟩, 34), (⟨"UnlikeNeighboursModel", "findFirst", "(I)Z"⟩, 34), (⟨"UnlikeNeighboursModel", "longestOn", "()I"⟩, 34), (⟨"UnlikeNeighboursModel", "costOn", "(I)I"⟩, 34), (⟨"UnlikeNeighboursModel", "goesOn", "(IIII)Z"⟩, 34), (⟨"UnlikeNeighboursModel", "goneOn", "()I"⟩, 34)]
theorem lw_r4 : ∀ q ∈ lw_privs_4, lw_okq q := List.forall_mem_cons.mpr ⟨lw_p48, List.forall_mem_cons.mpr ⟨lw_p49, List.forall_mem_cons.mpr ⟨lw_p50, List.forall_mem_cons.mpr ⟨lw_p51, List.forall_mem_cons.mpr ⟨lw_p52, List.forall_mem_cons.mpr ⟨lw_p53, List.forall_mem_cons.mpr ⟨lw_p54, List.forall_mem_cons.mpr ⟨lw_p55, List.forall_mem_cons.mpr ⟨lw_p56, List.forall_mem_cons.mpr ⟨lw_p57, List.forall_mem_cons.mpr ⟨lw_p58, List.forall_mem_cons.mpr ⟨lw_p59, List.forall_mem_cons.mpr ⟨lw_p60, List.forall_mem_cons.mpr ⟨lw_p61, List.forall_mem_cons.mpr ⟨lw_p62, List.forall_mem_cons.mpr ⟨lw_p63, fun _ h => absurd h List.not_mem_nil⟩⟩⟩⟩⟩⟩⟩⟩⟩⟩⟩⟩⟩⟩⟩⟩
theorem lw_p64 : lw_okq (⟨"UnlikeNeighboursModel", "winsOn", "()Z"⟩, 34) := ⟨⟨by decide +kernel, by decide +kernel⟩, List.mem_of_getElem? (i := 1023) (by decide +kernel), List.mem_of_getElem? (i := 1427) (by decide +kernel), List.mem_of_getElem? (i := 1428) (by decide +kernel)⟩
theorem lw_p65 : lw_okq (⟨"UnlikeNeighboursModel", "fitting", "(I)I"⟩, 34) := ⟨⟨by decide +kernel, by decide +kernel⟩, List.mem_of_getElem? (i := 1023) (by decide +kernel), List.mem_of_getElem? (i := 1447) (by decide +kernel), List.mem_of_getElem? (i := 1448) (by decide +kernel)⟩
theorem lw_p66 : lw_okq (⟨"UnlikeNeighboursModel", "fits", "(II)Z"⟩, 34) := ⟨⟨by decide +kernel, by decide +kernel⟩, List.mem_of_getElem? (i := 1023) (by decide +kernel), List.mem_of_getElem? (i := 1451) (by decide +kernel), List.mem_of_getElem? (i := 1452) (by decide +kernel)⟩
theorem lw_p67 : lw_okq (⟨"UnlikeNeighboursModel", "could", "(II)Z"⟩, 34) := ⟨⟨by decide +kernel, by decide +kernel⟩, List.mem_of_getElem? (i := 1023) (by decide +kernel), List.mem_of_getElem? (i := 1455) (by decide +kernel), List.mem_of_getElem? (i := 1456) (by decide +kernel)⟩
theorem lw_p68 : lw_okq (⟨"UnlikeNeighboursModel", "drawn", "()I"⟩, 34) := ⟨⟨by decide +kernel, by decide +kernel⟩, List.mem_of_getElem? (i := 1023) (by decide +kernel), List.mem_of_getElem? (i := 1471) (by decide +kernel), List.mem_of_getElem? (i := 1472) (by decide +kernel)⟩
theorem lw_p69 : lw_okq (⟨"UnlikeNeighboursModel", "back", "(I)I"⟩, 34) := ⟨⟨by decide +kernel, by decide +kernel⟩, List.mem_of_getElem? (i := 1023) (by decide +kernel), List.mem_of_getElem? (i := 1484) (by decide +kernel), List.mem_of_getElem? (i := 1485) (by decide +kernel)⟩
theorem lw_p70 : lw_okq (⟨"UnlikeNeighboursModel", "isRow", "(II)Z"⟩, 34) := ⟨⟨by decide +kernel, by decide +kernel⟩, List.mem_of_getElem? (i := 1023) (by decide +kernel), List.mem_of_getElem? (i := 1496) (by decide +kernel), List.mem_of_getElem? (i := 1497) (by decide +kernel)⟩
theorem lw_p71 : lw_okq (⟨"UnlikeNeighboursModel", "refuses", "(II)I"⟩, 34) := ⟨⟨by decide +kernel, by decide +kernel⟩, List.mem_of_getElem? (i := 1023) (by decide +kernel), List.mem_of_getElem? (i := 1523) (by decide +kernel), List.mem_of_getElem? (i := 1524) (by decide +kernel)⟩
theorem lw_p72 : lw_okq (⟨"UnlikeNeighboursModel", "onShelf", "(I)I"⟩, 34) := ⟨⟨by decide +kernel, by decide +kernel⟩, List.mem_of_getElem? (i := 1023) (by decide +kernel), List.mem_of_getElem? (i := 1544) (by decide +kernel), List.mem_of_getElem? (i := 1545) (by decide +kernel)⟩
theorem lw_p73 : lw_okq (⟨"UnlikeNeighboursModel", "kindOf", "(I)I"⟩, 34) := ⟨⟨by decide +kernel, by decide +kernel⟩, List.mem_of_getElem? (i := 1023) (by decide +kernel), List.mem_of_getElem? (i := 1548) (by decide +kernel), List.mem_of_getElem? (i := 1549) (by decide +kernel)⟩
theorem lw_p74 : lw_okq (⟨"UnlikeNeighboursModel", "voiced", "(II)I"⟩, 34) := ⟨⟨by decide +kernel, by decide +kernel⟩, List.mem_of_getElem? (i := 1023) (by decide +kernel), List.mem_of_getElem? (i := 1556) (by decide +kernel), List.mem_of_getElem? (i := 1557) (by decide +kernel)⟩
theorem lw_p75 : lw_okq (⟨"UnlikeNeighboursModel", "bodyFrom", "(III)I"⟩, 34) := ⟨⟨by decide +kernel, by decide +kernel⟩, List.mem_of_getElem? (i := 1023) (by decide +kernel), List.mem_of_getElem? (i := 1560) (by decide +kernel), List.mem_of_getElem? (i := 1561) (by decide +kernel)⟩
theorem lw_p76 : lw_okq (⟨"UnlikeNeighboursModel", "body", "(III)I"⟩, 34) := ⟨⟨by decide +kernel, by decide +kernel⟩, List.mem_of_getElem? (i := 1023) (by decide +kernel), List.mem_of_getElem? (i := 1567) (by decide +kernel), List.mem_of_getElem? (i := 1568) (by decide +kernel)⟩
theorem lw_p77 : lw_okq (⟨"UnlikeNeighboursModel", "began", "(I)V"⟩, 34) := ⟨⟨by decide +kernel, by decide +kernel⟩, List.mem_of_getElem? (i := 1023) (by decide +kernel), List.mem_of_getElem? (i := 1571) (by decide +kernel), List.mem_of_getElem? (i := 1572) (by decide +kernel)⟩
def lw_privs_5 : List (MethodName × Nat) := [(⟨"UnlikeNeighboursModel", "winsOn", "()Z"⟩, 34), (⟨"UnlikeNeighboursModel", "fitting", "(I)I"⟩, 34), (⟨"UnlikeNeighboursModel", "fits", "(II)Z"⟩, 34), (⟨"UnlikeNeighboursModel", "could", "(II)Z"⟩, 34), (⟨"UnlikeNeighboursModel", "drawn", "()I"⟩, 34), (⟨"UnlikeNeighboursModel", "back", "(I)I"⟩, 34), (⟨"UnlikeNeighboursModel", "isRow", "(II)Z"⟩, 34), (⟨"UnlikeNeighboursModel", "refuses", "(II)I"⟩, 34), (⟨"UnlikeNeighboursModel", "onShelf", "(I)I"⟩, 34), (⟨"UnlikeNeighboursModel", "kindOf", "(I)I"⟩, 34), (⟨"UnlikeNeighboursModel", "voiced", "(II)I"⟩, 34), (⟨"UnlikeNeighboursModel", "bodyFrom", "(III)I"⟩, 34), (⟨"UnlikeNeighboursModel", "body", "(III)I"⟩, 34), (⟨"UnlikeNeighboursModel", "began", "(I)V"⟩, 34)]
theorem lw_r5 : ∀ q ∈ lw_privs_5, lw_okq q := List.forall_mem_cons.mpr ⟨lw_p64, List.forall_mem_cons.mpr ⟨lw_p65, List.forall_mem_cons.mpr ⟨lw_p66, List.forall_mem_cons.mpr ⟨lw_p67, List.forall_mem_cons.mpr ⟨lw_p68, List.forall_mem_cons.mpr ⟨lw_p69, List.forall_mem_cons.mpr ⟨lw_p70, List.forall_mem_cons.mpr ⟨lw_p71, List.forall_mem_cons.mpr ⟨lw_p72, List.forall_mem_cons.mpr ⟨lw_p73, List.forall_mem_cons.mpr ⟨lw_p74, List.forall_mem_cons.mpr ⟨lw_p75, List.forall_mem_cons.mpr ⟨lw_p76, List.forall_mem_cons.mpr ⟨lw_p77, fun _ h => absurd h List.not_mem_nil⟩⟩⟩⟩⟩⟩⟩⟩⟩⟩⟩⟩⟩⟩
def lw_privs : List (MethodName × Nat) := lw_privs_1 ++ (lw_privs_2 ++ (lw_privs_3 ++ (lw_privs_4 ++ (lw_privs_5))))
def lw_tbl : List Cond := k2_sels lw_privs ++ tables_1
theorem lw_privs_ok : ∀ q ∈ lw_privs, lw_okq q := by
  show ∀ q ∈ lw_privs_1 ++ (lw_privs_2 ++ (lw_privs_3 ++ (lw_privs_4 ++ (lw_privs_5)))), lw_okq q
  exact List.forall_mem_append.mpr ⟨lw_r1, List.forall_mem_append.mpr ⟨lw_r2, List.forall_mem_append.mpr ⟨lw_r3, List.forall_mem_append.mpr ⟨lw_r4, lw_r5⟩⟩⟩⟩
def RX0 : String := "UnlikeNeighbours$Goat"
def TX0 : u_T := fun k => match k with
  | 0 => ("UnlikeNeighbours$Thing", "n", "I", true)
  | 1 => ("UnlikeNeighbours$Thing", "a", "I", true)
  | 2 => ("UnlikeNeighbours$Thing", "trace", "[I", true)
  | 3 => ("UnlikeNeighbours$Thing", "bodies", "I", false)
  | _ => ("UnlikeNeighbours$Thing", "isParted", "Z", false)
def tyX0 : Nat → FieldType := fun k => match k with
  | 0 => .int
  | 1 => .int
  | 2 => .array .int
  | 3 => .int
  | _ => .boolean
abbrev wsX00 : List Cond := u_ws RX0 TX0 5
theorem nmX0 : ∀ a, a < 5 → ∀ b, b < 5 → a ≠ b → (TX0 a).2.1 ≠ (TX0 b).2.1 := by decide +kernel
theorem tyX0_ok : ∀ k, k < 5 → parseFieldDescriptor (TX0 k).2.2.1 = some (tyX0 k) := by decide +kernel
abbrev cX0_init : ByteArray := prog_2_method_1_code
def yX0_init : MethodName := ⟨RX0, "<init>", "(II)V"⟩
abbrev cX0_weighs : ByteArray := prog_2_method_2_code
def yX0_weighs : MethodName := ⟨RX0, "weighs", "(I)I"⟩
abbrev cX0_tells : ByteArray := prog_2_method_3_code
def yX0_tells : MethodName := ⟨RX0, "tells", "(I)I"⟩
def RX1 : String := "UnlikeNeighbours$Living"
def TX1 : u_T := fun k => match k with
  | 0 => ("UnlikeNeighbours$Thing", "n", "I", true)
  | 1 => ("UnlikeNeighbours$Thing", "a", "I", true)
  | 2 => ("UnlikeNeighbours$Thing", "trace", "[I", true)
  | 3 => ("UnlikeNeighbours$Thing", "bodies", "I", false)
  | _ => ("UnlikeNeighbours$Thing", "isParted", "Z", false)
def tyX1 : Nat → FieldType := fun k => match k with
  | 0 => .int
  | 1 => .int
  | 2 => .array .int
  | 3 => .int
  | _ => .boolean
abbrev wsX10 : List Cond := u_ws RX1 TX1 5
theorem nmX1 : ∀ a, a < 5 → ∀ b, b < 5 → a ≠ b → (TX1 a).2.1 ≠ (TX1 b).2.1 := by decide +kernel
theorem tyX1_ok : ∀ k, k < 5 → parseFieldDescriptor (TX1 k).2.2.1 = some (tyX1 k) := by decide +kernel
abbrev cX1_init : ByteArray := prog_3_method_1_code
def yX1_init : MethodName := ⟨RX1, "<init>", "(II)V"⟩
abbrev cX1_turns : ByteArray := prog_3_method_2_code
def yX1_turns : MethodName := ⟨RX1, "turns", "(I)I"⟩
def RX2 : String := "UnlikeNeighbours$Orders"
def TX2 : u_T := fun k => match k with
  | 0 => ("UnlikeNeighbours$Orders", "shed", "LUnlikeNeighbours$Shed;", true)
  | 1 => ("UnlikeNeighbours$Orders", "studied", "[I", true)
  | 2 => ("UnlikeNeighbours$Orders", "studies", "I", false)
  | 3 => ("UnlikeNeighbours$Orders", "ways", "[I", true)
  | 4 => ("UnlikeNeighbours$Orders", "most", "[I", true)
  | 5 => ("UnlikeNeighbours$Orders", "cost", "[I", true)
  | 6 => ("UnlikeNeighbours$Orders", "wins", "[Z", true)
  | 7 => ("UnlikeNeighbours$Orders", "fees", "[I", true)
  | 8 => ("UnlikeNeighbours$Orders", "atFirst", "I", false)
  | 9 => ("UnlikeNeighbours$Orders", "goers", "I", false)
  | _ => ("UnlikeNeighbours$Orders", "first", "[I", true)
def tyX2 : Nat → FieldType := fun k => match k with
  | 0 => .object "UnlikeNeighbours$Shed"
  | 1 => .array .int
  | 2 => .int
  | 3 => .array .int
  | 4 => .array .int
  | 5 => .array .int
  | 6 => .array .boolean
  | 7 => .array .int
  | 8 => .int
  | 9 => .int
  | _ => .array .int
abbrev wsX20 : List Cond := u_ws RX2 TX2 11
theorem nmX2 : ∀ a, a < 11 → ∀ b, b < 11 → a ≠ b → (TX2 a).2.1 ≠ (TX2 b).2.1 := by decide +kernel
theorem tyX2_ok : ∀ k, k < 11 → parseFieldDescriptor (TX2 k).2.2.1 = some (tyX2 k) := by decide +kernel
abbrev cX2_init : ByteArray := prog_4_method_1_code
def yX2_init : MethodName := ⟨RX2, "<init>", "(LUnlikeNeighbours$Shed;)V"⟩
abbrev cX2_study : ByteArray := prog_4_method_2_code
def yX2_study : MethodName := ⟨RX2, "study", "()I"⟩
abbrev cX2_visit : ByteArray := prog_4_method_3_code
def yX2_visit : MethodName := ⟨RX2, "visit", "(III)V"⟩
abbrev cX2_visitBehind : ByteArray := prog_4_method_4_code
def yX2_visitBehind : MethodName := ⟨RX2, "visitBehind", "(IIII)V"⟩
abbrev cX2_costOf : ByteArray := prog_4_method_5_code
def yX2_costOf : MethodName := ⟨RX2, "costOf", "(II)I"⟩
abbrev cX2_stateOf : ByteArray := prog_4_method_6_code
def yX2_stateOf : MethodName := ⟨RX2, "stateOf", "(II)I"⟩
abbrev cX2_waysBehind : ByteArray := prog_4_method_7_code
def yX2_waysBehind : MethodName := ⟨RX2, "waysBehind", "(II)I"⟩
abbrev cX2_wins : ByteArray := prog_4_method_8_code
def yX2_wins : MethodName := ⟨RX2, "wins", "(II)Z"⟩
abbrev cX2_leastCost : ByteArray := prog_4_method_9_code
def yX2_leastCost : MethodName := ⟨RX2, "leastCost", "()I"⟩
abbrev cX2_findFirst : ByteArray := prog_4_method_10_code
def yX2_findFirst : MethodName := ⟨RX2, "findFirst", "(I)I"⟩
abbrev cX2_leastNext : ByteArray := prog_4_method_11_code
def yX2_leastNext : MethodName := ⟨RX2, "leastNext", "(III)I"⟩
abbrev cX2_leadsOn : ByteArray := prog_4_method_12_code
def yX2_leadsOn : MethodName := ⟨RX2, "leadsOn", "(IIII)Z"⟩
def RX3 : String := "UnlikeNeighbours$Reader"
def TX3 : u_T := fun k => match k with
  | 0 => ("UnlikeNeighbours$Reader", "size", "I", false)
  | 1 => ("UnlikeNeighbours$Reader", "tape", "[B", true)
  | 2 => ("UnlikeNeighbours$Reader", "tokens", "[I", true)
  | 3 => ("UnlikeNeighbours$Reader", "places", "[I", true)
  | 4 => ("UnlikeNeighbours$Reader", "tokenCount", "I", false)
  | 5 => ("UnlikeNeighbours$Reader", "next", "I", false)
  | _ => ("UnlikeNeighbours$Reader", "draft", "LUnlikeNeighbours$Rules;", true)
def tyX3 : Nat → FieldType := fun k => match k with
  | 0 => .int
  | 1 => .array .byte
  | 2 => .array .int
  | 3 => .array .int
  | 4 => .int
  | 5 => .int
  | _ => .object "UnlikeNeighbours$Rules"
abbrev wsX30 : List Cond := u_ws RX3 TX3 7
theorem nmX3 : ∀ a, a < 7 → ∀ b, b < 7 → a ≠ b → (TX3 a).2.1 ≠ (TX3 b).2.1 := by decide +kernel
theorem tyX3_ok : ∀ k, k < 7 → parseFieldDescriptor (TX3 k).2.2.1 = some (tyX3 k) := by decide +kernel
abbrev cX3_init : ByteArray := prog_5_method_1_code
def yX3_init : MethodName := ⟨RX3, "<init>", "()V"⟩
abbrev cX3_take : ByteArray := prog_5_method_2_code
def yX3_take : MethodName := ⟨RX3, "take", "(JI)I"⟩
abbrev cX3_readInto : ByteArray := prog_5_method_3_code
def yX3_readInto : MethodName := ⟨RX3, "readInto", "(LUnlikeNeighbours$Rules;)I"⟩
abbrev cX3_partTape : ByteArray := prog_5_method_4_code
def yX3_partTape : MethodName := ⟨RX3, "partTape", "()V"⟩
abbrev cX3_addToken : ByteArray := prog_5_method_5_code
def yX3_addToken : MethodName := ⟨RX3, "addToken", "(II)V"⟩
abbrev cX3_sortOf : ByteArray := prog_5_method_6_code
def yX3_sortOf : MethodName := ⟨RX3, "sortOf", "(B)I"⟩
abbrev cX3_nameAt : ByteArray := prog_5_method_7_code
def yX3_nameAt : MethodName := ⟨RX3, "nameAt", "(II)I"⟩
abbrev cX3_numberAt : ByteArray := prog_5_method_8_code
def yX3_numberAt : MethodName := ⟨RX3, "numberAt", "(II)I"⟩
abbrev cX3_byteAt : ByteArray := prog_5_method_9_code
def yX3_byteAt : MethodName := ⟨RX3, "byteAt", "(I)I"⟩
abbrev cX3_peek : ByteArray := prog_5_method_10_code
def yX3_peek : MethodName := ⟨RX3, "peek", "()I"⟩
abbrev cX3_readRule : ByteArray := prog_5_method_11_code
def yX3_readRule : MethodName := ⟨RX3, "readRule", "()Z"⟩
abbrev cX3_readCondition : ByteArray := prog_5_method_12_code
def yX3_readCondition : MethodName := ⟨RX3, "readCondition", "(I)Z"⟩
abbrev cX3_readAll : ByteArray := prog_5_method_13_code
def yX3_readAll : MethodName := ⟨RX3, "readAll", "(I)Z"⟩
abbrev cX3_readOne : ByteArray := prog_5_method_14_code
def yX3_readOne : MethodName := ⟨RX3, "readOne", "(I)Z"⟩
abbrev cX3_readComparison : ByteArray := prog_5_method_15_code
def yX3_readComparison : MethodName := ⟨RX3, "readComparison", "()Z"⟩
abbrev cX3_isValue : ByteArray := prog_5_method_16_code
def yX3_isValue : MethodName := ⟨RX3, "isValue", "(I)Z"⟩
def RX4 : String := "UnlikeNeighbours$Royal"
def TX4 : u_T := fun k => match k with
  | 0 => ("UnlikeNeighbours$Thing", "n", "I", true)
  | 1 => ("UnlikeNeighbours$Thing", "a", "I", true)
  | 2 => ("UnlikeNeighbours$Thing", "trace", "[I", true)
  | 3 => ("UnlikeNeighbours$Thing", "bodies", "I", false)
  | _ => ("UnlikeNeighbours$Thing", "isParted", "Z", false)
def tyX4 : Nat → FieldType := fun k => match k with
  | 0 => .int
  | 1 => .int
  | 2 => .array .int
  | 3 => .int
  | _ => .boolean
abbrev wsX40 : List Cond := u_ws RX4 TX4 5
theorem nmX4 : ∀ a, a < 5 → ∀ b, b < 5 → a ≠ b → (TX4 a).2.1 ≠ (TX4 b).2.1 := by decide +kernel
theorem tyX4_ok : ∀ k, k < 5 → parseFieldDescriptor (TX4 k).2.2.1 = some (tyX4 k) := by decide +kernel
abbrev cX4_init : ByteArray := prog_6_method_1_code
def yX4_init : MethodName := ⟨RX4, "<init>", "(II)V"⟩
abbrev cX4_turns : ByteArray := prog_6_method_2_code
def yX4_turns : MethodName := ⟨RX4, "turns", "(I)I"⟩
abbrev cX4_splits : ByteArray := prog_6_method_3_code
def yX4_splits : MethodName := ⟨RX4, "splits", "(I)I"⟩
def RX5 : String := "UnlikeNeighbours$Rules"
def TX5 : u_T := fun k => match k with
  | 0 => ("UnlikeNeighbours$Rules", "count", "I", false)
  | 1 => ("UnlikeNeighbours$Rules", "kind", "[I", true)
  | 2 => ("UnlikeNeighbours$Rules", "change", "[I", true)
  | 3 => ("UnlikeNeighbours$Rules", "end", "[I", true)
  | 4 => ("UnlikeNeighbours$Rules", "steps", "I", false)
  | 5 => ("UnlikeNeighbours$Rules", "sign", "[I", true)
  | 6 => ("UnlikeNeighbours$Rules", "left", "[I", true)
  | _ => ("UnlikeNeighbours$Rules", "right", "[I", true)
def tyX5 : Nat → FieldType := fun k => match k with
  | 0 => .int
  | 1 => .array .int
  | 2 => .array .int
  | 3 => .array .int
  | 4 => .int
  | 5 => .array .int
  | 6 => .array .int
  | _ => .array .int
abbrev wsX50 : List Cond := u_ws RX5 TX5 8
theorem nmX5 : ∀ a, a < 8 → ∀ b, b < 8 → a ≠ b → (TX5 a).2.1 ≠ (TX5 b).2.1 := by decide +kernel
theorem tyX5_ok : ∀ k, k < 8 → parseFieldDescriptor (TX5 k).2.2.1 = some (tyX5 k) := by decide +kernel
abbrev cX5_init : ByteArray := prog_7_method_1_code
def yX5_init : MethodName := ⟨RX5, "<init>", "()V"⟩
abbrev cX5_clear : ByteArray := prog_7_method_2_code
def yX5_clear : MethodName := ⟨RX5, "clear", "()V"⟩
abbrev cX5_addStep : ByteArray := prog_7_method_3_code
def yX5_addStep : MethodName := ⟨RX5, "addStep", "(III)V"⟩
abbrev cX5_addRule : ByteArray := prog_7_method_4_code
def yX5_addRule : MethodName := ⟨RX5, "addRule", "(II)V"⟩
abbrev cX5_changeFor : ByteArray := prog_7_method_5_code
def yX5_changeFor : MethodName := ⟨RX5, "changeFor", "(LUnlikeNeighbours$Shed;I)I"⟩
abbrev cX5_isSo : ByteArray := prog_7_method_6_code
def yX5_isSo : MethodName := ⟨RX5, "isSo", "(ILUnlikeNeighbours$Shed;I)Z"⟩
abbrev cX5_compared : ByteArray := prog_7_method_7_code
def yX5_compared : MethodName := ⟨RX5, "compared", "(ILUnlikeNeighbours$Shed;I)I"⟩
abbrev cX5_valueOf : ByteArray := prog_7_method_8_code
def yX5_valueOf : MethodName := ⟨RX5, "valueOf", "(ILUnlikeNeighbours$Shed;I)I"⟩
abbrev cX5_copyFrom : ByteArray := prog_7_method_9_code
def yX5_copyFrom : MethodName := ⟨RX5, "copyFrom", "(LUnlikeNeighbours$Rules;)V"⟩
def RX6 : String := "UnlikeNeighbours$Sealed"
def TX6 : u_T := fun k => match k with
  | 0 => ("UnlikeNeighbours$Thing", "n", "I", true)
  | 1 => ("UnlikeNeighbours$Thing", "a", "I", true)
  | 2 => ("UnlikeNeighbours$Thing", "trace", "[I", true)
  | 3 => ("UnlikeNeighbours$Thing", "bodies", "I", false)
  | _ => ("UnlikeNeighbours$Thing", "isParted", "Z", false)
def tyX6 : Nat → FieldType := fun k => match k with
  | 0 => .int
  | 1 => .int
  | 2 => .array .int
  | 3 => .int
  | _ => .boolean
abbrev wsX60 : List Cond := u_ws RX6 TX6 5
theorem nmX6 : ∀ a, a < 5 → ∀ b, b < 5 → a ≠ b → (TX6 a).2.1 ≠ (TX6 b).2.1 := by decide +kernel
theorem tyX6_ok : ∀ k, k < 5 → parseFieldDescriptor (TX6 k).2.2.1 = some (tyX6 k) := by decide +kernel
abbrev cX6_init : ByteArray := prog_8_method_1_code
def yX6_init : MethodName := ⟨RX6, "<init>", "(II)V"⟩
abbrev cX6_splits : ByteArray := prog_8_method_2_code
def yX6_splits : MethodName := ⟨RX6, "splits", "(I)I"⟩
def RX7 : String := "UnlikeNeighbours$Shed"
def TX7 : u_T := fun k => match k with
  | 0 => ("UnlikeNeighbours$Shed", "kind", "[I", true)
  | 1 => ("UnlikeNeighbours$Shed", "bay", "[I", true)
  | 2 => ("UnlikeNeighbours$Shed", "cloth", "[I", true)
  | 3 => ("UnlikeNeighbours$Shed", "worth", "[I", true)
  | 4 => ("UnlikeNeighbours$Shed", "mateSets", "[I", true)
  | 5 => ("UnlikeNeighbours$Shed", "goods", "I", false)
  | 6 => ("UnlikeNeighbours$Shed", "inside", "I", false)
  | 7 => ("UnlikeNeighbours$Shed", "line", "[I", true)
  | 8 => ("UnlikeNeighbours$Shed", "out", "I", false)
  | 9 => ("UnlikeNeighbours$Shed", "gap", "I", false)
  | 10 => ("UnlikeNeighbours$Shed", "day", "I", false)
  | 11 => ("UnlikeNeighbours$Shed", "rules", "LUnlikeNeighbours$Rules;", true)
  | 12 => ("UnlikeNeighbours$Shed", "reportGood", "[I", true)
  | 13 => ("UnlikeNeighbours$Shed", "reportCould", "[I", true)
  | 14 => ("UnlikeNeighbours$Shed", "reports", "I", false)
  | _ => ("UnlikeNeighbours$Shed", "lot", "I", false)
def tyX7 : Nat → FieldType := fun k => match k with
  | 0 => .array .int
  | 1 => .array .int
  | 2 => .array .int
  | 3 => .array .int
  | 4 => .array .int
  | 5 => .int
  | 6 => .int
  | 7 => .array .int
  | 8 => .int
  | 9 => .int
  | 10 => .int
  | 11 => .object "UnlikeNeighbours$Rules"
  | 12 => .array .int
  | 13 => .array .int
  | 14 => .int
  | _ => .int
abbrev wsX70 : List Cond := u_ws RX7 TX7 16
theorem nmX7 : ∀ a, a < 16 → ∀ b, b < 16 → a ≠ b → (TX7 a).2.1 ≠ (TX7 b).2.1 := by decide +kernel
theorem tyX7_ok : ∀ k, k < 16 → parseFieldDescriptor (TX7 k).2.2.1 = some (tyX7 k) := by decide +kernel
abbrev cX7_init : ByteArray := prog_9_method_1_code
def yX7_init : MethodName := ⟨RX7, "<init>", "()V"⟩
abbrev cX7_has : ByteArray := prog_9_method_2_code
def yX7_has : MethodName := ⟨RX7, "has", "(I)Z"⟩
abbrev cX7_add : ByteArray := prog_9_method_3_code
def yX7_add : MethodName := ⟨RX7, "add", "(IIII)I"⟩
abbrev cX7_addReport : ByteArray := prog_9_method_4_code
def yX7_addReport : MethodName := ⟨RX7, "addReport", "(II)I"⟩
abbrev cX7_becomeKind : ByteArray := prog_9_method_5_code
def yX7_becomeKind : MethodName := ⟨RX7, "becomeKind", "(II)V"⟩
abbrev cX7_becomeGap : ByteArray := prog_9_method_6_code
def yX7_becomeGap : MethodName := ⟨RX7, "becomeGap", "(I)V"⟩
abbrev cX7_renewMates : ByteArray := prog_9_method_7_code
def yX7_renewMates : MethodName := ⟨RX7, "renewMates", "()V"⟩
abbrev cX7_cameBeside : ByteArray := prog_9_method_8_code
def yX7_cameBeside : MethodName := ⟨RX7, "cameBeside", "(II)Z"⟩
abbrev cX7_standsNear : ByteArray := prog_9_method_9_code
def yX7_standsNear : MethodName := ⟨RX7, "standsNear", "(II)Z"⟩
abbrev cX7_isNear : ByteArray := prog_9_method_10_code
def yX7_isNear : MethodName := ⟨RX7, "isNear", "(II)Z"⟩
abbrev cX7_last : ByteArray := prog_9_method_11_code
def yX7_last : MethodName := ⟨RX7, "last", "()I"⟩
abbrev cX7_topsOf : ByteArray := prog_9_method_12_code
def yX7_topsOf : MethodName := ⟨RX7, "topsOf", "(I)I"⟩
abbrev cX7_mayGo : ByteArray := prog_9_method_13_code
def yX7_mayGo : MethodName := ⟨RX7, "mayGo", "(II)I"⟩
abbrev cX7_putOut : ByteArray := prog_9_method_14_code
def yX7_putOut : MethodName := ⟨RX7, "putOut", "(I)V"⟩
abbrev cX7_bringBack : ByteArray := prog_9_method_15_code
def yX7_bringBack : MethodName := ⟨RX7, "bringBack", "()I"⟩
abbrev cX7_placeInLine : ByteArray := prog_9_method_16_code
def yX7_placeInLine : MethodName := ⟨RX7, "placeInLine", "(I)I"⟩
abbrev cX7_fee : ByteArray := prog_9_method_17_code
def yX7_fee : MethodName := ⟨RX7, "fee", "(I)I"⟩
abbrev cX7_placesBut : ByteArray := prog_9_method_18_code
def yX7_placesBut : MethodName := ⟨RX7, "placesBut", "(I)I"⟩
abbrev cX7_fits : ByteArray := prog_9_method_19_code
def yX7_fits : MethodName := ⟨RX7, "fits", "(II)Z"⟩
abbrev cX7_couldGoBehind : ByteArray := prog_9_method_20_code
def yX7_couldGoBehind : MethodName := ⟨RX7, "couldGoBehind", "(II)I"⟩
abbrev cX7_copyFrom : ByteArray := prog_9_method_21_code
def yX7_copyFrom : MethodName := ⟨RX7, "copyFrom", "(LUnlikeNeighbours$Shed;)V"⟩
def RX8 : String := "UnlikeNeighbours$Sheet"
def TX8 : u_T := fun k => match k with
  | 0 => ("UnlikeNeighbours$Sheet", "sort", "I", false)
  | 1 => ("UnlikeNeighbours$Sheet", "count", "I", false)
  | _ => ("UnlikeNeighbours$Sheet", "items", "[I", true)
def tyX8 : Nat → FieldType := fun k => match k with
  | 0 => .int
  | 1 => .int
  | _ => .array .int
abbrev wsX80 : List Cond := u_ws RX8 TX8 3
theorem nmX8 : ∀ a, a < 3 → ∀ b, b < 3 → a ≠ b → (TX8 a).2.1 ≠ (TX8 b).2.1 := by decide +kernel
theorem tyX8_ok : ∀ k, k < 3 → parseFieldDescriptor (TX8 k).2.2.1 = some (tyX8 k) := by decide +kernel
abbrev cX8_init : ByteArray := prog_10_method_1_code
def yX8_init : MethodName := ⟨RX8, "<init>", "()V"⟩
abbrev cX8_become : ByteArray := prog_10_method_2_code
def yX8_become : MethodName := ⟨RX8, "become", "(II)V"⟩
abbrev cX8_has : ByteArray := prog_10_method_3_code
def yX8_has : MethodName := ⟨RX8, "has", "(I)Z"⟩
abbrev cX8_refusalAs : ByteArray := prog_10_method_4_code
def yX8_refusalAs : MethodName := ⟨RX8, "refusalAs", "(I)I"⟩
abbrev cX8_narrowed : ByteArray := prog_10_method_5_code
def yX8_narrowed : MethodName := ⟨RX8, "narrowed", "(I)I"⟩
def RX9 : String := "UnlikeNeighbours$Thing"
def TX9 : u_T := fun k => match k with
  | 0 => ("UnlikeNeighbours$Thing", "n", "I", true)
  | 1 => ("UnlikeNeighbours$Thing", "a", "I", true)
  | 2 => ("UnlikeNeighbours$Thing", "trace", "[I", true)
  | 3 => ("UnlikeNeighbours$Thing", "bodies", "I", false)
  | _ => ("UnlikeNeighbours$Thing", "isParted", "Z", false)
def tyX9 : Nat → FieldType := fun k => match k with
  | 0 => .int
  | 1 => .int
  | 2 => .array .int
  | 3 => .int
  | _ => .boolean
abbrev wsX90 : List Cond := u_ws RX9 TX9 5
theorem nmX9 : ∀ a, a < 5 → ∀ b, b < 5 → a ≠ b → (TX9 a).2.1 ≠ (TX9 b).2.1 := by decide +kernel
theorem tyX9_ok : ∀ k, k < 5 → parseFieldDescriptor (TX9 k).2.2.1 = some (tyX9 k) := by decide +kernel
abbrev cX9_init : ByteArray := prog_11_method_1_code
def yX9_init : MethodName := ⟨RX9, "<init>", "(II)V"⟩
abbrev cX9_ran : ByteArray := prog_11_method_2_code
def yX9_ran : MethodName := ⟨RX9, "ran", "(I)V"⟩
abbrev cX9_weighs : ByteArray := prog_11_method_3_code
def yX9_weighs : MethodName := ⟨RX9, "weighs", "(I)I"⟩
abbrev cX9_turns : ByteArray := prog_11_method_4_code
def yX9_turns : MethodName := ⟨RX9, "turns", "(I)I"⟩
abbrev cX9_splits : ByteArray := prog_11_method_5_code
def yX9_splits : MethodName := ⟨RX9, "splits", "(I)I"⟩
abbrev cX9_tells : ByteArray := prog_11_method_6_code
def yX9_tells : MethodName := ⟨RX9, "tells", "(I)I"⟩
def RX10 : String := "UnlikeNeighbours$Twin"
def TX10 : u_T := fun k => match k with
  | 0 => ("UnlikeNeighbours$Thing", "n", "I", true)
  | 1 => ("UnlikeNeighbours$Thing", "a", "I", true)
  | 2 => ("UnlikeNeighbours$Thing", "trace", "[I", true)
  | 3 => ("UnlikeNeighbours$Thing", "bodies", "I", false)
  | _ => ("UnlikeNeighbours$Thing", "isParted", "Z", false)
def tyX10 : Nat → FieldType := fun k => match k with
  | 0 => .int
  | 1 => .int
  | 2 => .array .int
  | 3 => .int
  | _ => .boolean
abbrev wsX100 : List Cond := u_ws RX10 TX10 5
theorem nmX10 : ∀ a, a < 5 → ∀ b, b < 5 → a ≠ b → (TX10 a).2.1 ≠ (TX10 b).2.1 := by decide +kernel
theorem tyX10_ok : ∀ k, k < 5 → parseFieldDescriptor (TX10 k).2.2.1 = some (tyX10 k) := by decide +kernel
abbrev cX10_init : ByteArray := prog_12_method_1_code
def yX10_init : MethodName := ⟨RX10, "<init>", "(II)V"⟩
abbrev cX10_weighs : ByteArray := prog_12_method_2_code
def yX10_weighs : MethodName := ⟨RX10, "weighs", "(I)I"⟩
def RX11 : String := "UnlikeNeighbours"
def TX11 : u_T := fun k => match k with
  | 0 => ("UnlikeNeighbours", "now", "LUnlikeNeighbours$Shed;", true)
  | 1 => ("UnlikeNeighbours", "kept", "LUnlikeNeighbours$Shed;", true)
  | 2 => ("UnlikeNeighbours", "isKept", "Z", false)
  | 3 => ("UnlikeNeighbours", "reader", "LUnlikeNeighbours$Reader;", true)
  | 4 => ("UnlikeNeighbours", "orders", "LUnlikeNeighbours$Orders;", true)
  | 5 => ("UnlikeNeighbours", "rows", "[I", true)
  | 6 => ("UnlikeNeighbours", "rowCount", "I", false)
  | 7 => ("UnlikeNeighbours", "sheets", "[LUnlikeNeighbours$Sheet;", true)
  | 8 => ("UnlikeNeighbours", "held", "[I", true)
  | 9 => ("UnlikeNeighbours", "heldWhich", "[I", true)
  | 10 => ("UnlikeNeighbours", "heldItems", "[I", true)
  | _ => ("UnlikeNeighbours", "latest", "LUnlikeNeighbours$Thing;", false)
def tyX11 : Nat → FieldType := fun k => match k with
  | 0 => .object "UnlikeNeighbours$Shed"
  | 1 => .object "UnlikeNeighbours$Shed"
  | 2 => .boolean
  | 3 => .object "UnlikeNeighbours$Reader"
  | 4 => .object "UnlikeNeighbours$Orders"
  | 5 => .array .int
  | 6 => .int
  | 7 => .array (.object "UnlikeNeighbours$Sheet")
  | 8 => .array .int
  | 9 => .array .int
  | 10 => .array .int
  | _ => .object "UnlikeNeighbours$Thing"
abbrev wsX110 : List Cond := u_ws RX11 TX11 12
theorem nmX11 : ∀ a, a < 12 → ∀ b, b < 12 → a ≠ b → (TX11 a).2.1 ≠ (TX11 b).2.1 := by decide +kernel
theorem tyX11_ok : ∀ k, k < 12 → parseFieldDescriptor (TX11 k).2.2.1 = some (tyX11 k) := by decide +kernel
abbrev cX11_init : ByteArray := prog_1_method_1_code
def yX11_init : MethodName := ⟨RX11, "<init>", "()V"⟩
abbrev cX11_good : ByteArray := prog_1_method_2_code
def yX11_good : MethodName := ⟨RX11, "good", "(IIII)I"⟩
abbrev cX11_goodOf : ByteArray := prog_1_method_3_code
def yX11_goodOf : MethodName := ⟨RX11, "goodOf", "(II)I"⟩
abbrev cX11_standing : ByteArray := prog_1_method_4_code
def yX11_standing : MethodName := ⟨RX11, "standing", "(I)I"⟩
abbrev cX11_change : ByteArray := prog_1_method_5_code
def yX11_change : MethodName := ⟨RX11, "change", "(III)I"⟩
abbrev cX11_remake : ByteArray := prog_1_method_6_code
def yX11_remake : MethodName := ⟨RX11, "remake", "(II)I"⟩
abbrev cX11_let : ByteArray := prog_1_method_7_code
def yX11_let : MethodName := ⟨RX11, "let", "(II)I"⟩
abbrev cX11_feed : ByteArray := prog_1_method_8_code
def yX11_feed : MethodName := ⟨RX11, "feed", "(JI)I"⟩
abbrev cX11_rules : ByteArray := prog_1_method_9_code
def yX11_rules : MethodName := ⟨RX11, "rules", "()I"⟩
abbrev cX11_beside : ByteArray := prog_1_method_10_code
def yX11_beside : MethodName := ⟨RX11, "beside", "(II)I"⟩
abbrev cX11_mates : ByteArray := prog_1_method_11_code
def yX11_mates : MethodName := ⟨RX11, "mates", "(I)I"⟩
abbrev cX11_may : ByteArray := prog_1_method_12_code
def yX11_may : MethodName := ⟨RX11, "may", "()I"⟩
abbrev cX11_tops : ByteArray := prog_1_method_13_code
def yX11_tops : MethodName := ⟨RX11, "tops", "()I"⟩
abbrev cX11_go : ByteArray := prog_1_method_14_code
def yX11_go : MethodName := ⟨RX11, "go", "(I)I"⟩
abbrev cX11_come : ByteArray := prog_1_method_15_code
def yX11_come : MethodName := ⟨RX11, "come", "()I"⟩
abbrev cX11_line : ByteArray := prog_1_method_16_code
def yX11_line : MethodName := ⟨RX11, "line", "(I)I"⟩
abbrev cX11_paid : ByteArray := prog_1_method_17_code
def yX11_paid : MethodName := ⟨RX11, "paid", "()I"⟩
abbrev cX11_ways : ByteArray := prog_1_method_18_code
def yX11_ways : MethodName := ⟨RX11, "ways", "()I"⟩
abbrev cX11_way : ByteArray := prog_1_method_19_code
def yX11_way : MethodName := ⟨RX11, "way", "(I)I"⟩
abbrev cX11_longest : ByteArray := prog_1_method_20_code
def yX11_longest : MethodName := ⟨RX11, "longest", "()I"⟩
abbrev cX11_far : ByteArray := prog_1_method_21_code
def yX11_far : MethodName := ⟨RX11, "far", "(I)I"⟩
abbrev cX11_cheapest : ByteArray := prog_1_method_22_code
def yX11_cheapest : MethodName := ⟨RX11, "cheapest", "()I"⟩
abbrev cX11_cheap : ByteArray := prog_1_method_23_code
def yX11_cheap : MethodName := ⟨RX11, "cheap", "(I)I"⟩
abbrev cX11_inFirst : ByteArray := prog_1_method_24_code
def yX11_inFirst : MethodName := ⟨RX11, "inFirst", "(II)I"⟩
abbrev cX11_never : ByteArray := prog_1_method_25_code
def yX11_never : MethodName := ⟨RX11, "never", "()I"⟩
abbrev cX11_best : ByteArray := prog_1_method_26_code
def yX11_best : MethodName := ⟨RX11, "best", "()I"⟩
abbrev cX11_goat : ByteArray := prog_1_method_27_code
def yX11_goat : MethodName := ⟨RX11, "goat", "()I"⟩
abbrev cX11_gapFor : ByteArray := prog_1_method_28_code
def yX11_gapFor : MethodName := ⟨RX11, "gapFor", "()I"⟩
abbrev cX11_game : ByteArray := prog_1_method_29_code
def yX11_game : MethodName := ⟨RX11, "game", "()I"⟩
abbrev cX11_play : ByteArray := prog_1_method_30_code
def yX11_play : MethodName := ⟨RX11, "play", "()I"⟩
abbrev cX11_report : ByteArray := prog_1_method_31_code
def yX11_report : MethodName := ⟨RX11, "report", "(II)I"⟩
abbrev cX11_forget : ByteArray := prog_1_method_32_code
def yX11_forget : MethodName := ⟨RX11, "forget", "()I"⟩
abbrev cX11_span : ByteArray := prog_1_method_33_code
def yX11_span : MethodName := ⟨RX11, "span", "(I)I"⟩
abbrev cX11_liar : ByteArray := prog_1_method_34_code
def yX11_liar : MethodName := ⟨RX11, "liar", "()I"⟩
abbrev cX11_seed : ByteArray := prog_1_method_35_code
def yX11_seed : MethodName := ⟨RX11, "seed", "(I)I"⟩
abbrev cX11_draw : ByteArray := prog_1_method_36_code
def yX11_draw : MethodName := ⟨RX11, "draw", "()I"⟩
abbrev cX11_often : ByteArray := prog_1_method_37_code
def yX11_often : MethodName := ⟨RX11, "often", "(I)I"⟩
abbrev cX11_lotBehind : ByteArray := prog_1_method_38_code
def yX11_lotBehind : MethodName := ⟨RX11, "lotBehind", "(I)I"⟩
abbrev cX11_drawnOf : ByteArray := prog_1_method_39_code
def yX11_drawnOf : MethodName := ⟨RX11, "drawnOf", "(II)I"⟩
abbrev cX11_prove : ByteArray := prog_1_method_40_code
def yX11_prove : MethodName := ⟨RX11, "prove", "()I"⟩
abbrev cX11_row : ByteArray := prog_1_method_41_code
def yX11_row : MethodName := ⟨RX11, "row", "(II)I"⟩
abbrev cX11_alterRow : ByteArray := prog_1_method_42_code
def yX11_alterRow : MethodName := ⟨RX11, "alterRow", "(III)I"⟩
abbrev cX11_isCell : ByteArray := prog_1_method_43_code
def yX11_isCell : MethodName := ⟨RX11, "isCell", "(II)Z"⟩
abbrev cX11_judge : ByteArray := prog_1_method_44_code
def yX11_judge : MethodName := ⟨RX11, "judge", "()I"⟩
abbrev cX11_sheet : ByteArray := prog_1_method_45_code
def yX11_sheet : MethodName := ⟨RX11, "sheet", "(III)I"⟩
abbrev cX11_write : ByteArray := prog_1_method_46_code
def yX11_write : MethodName := ⟨RX11, "write", "(III)I"⟩
abbrev cX11_item : ByteArray := prog_1_method_47_code
def yX11_item : MethodName := ⟨RX11, "item", "(III)I"⟩
abbrev cX11_goes : ByteArray := prog_1_method_48_code
def yX11_goes : MethodName := ⟨RX11, "goes", "(III)I"⟩
abbrev cX11_goats : ByteArray := prog_1_method_49_code
def yX11_goats : MethodName := ⟨RX11, "goats", "(III)I"⟩
abbrev cX11_shelf : ByteArray := prog_1_method_50_code
def yX11_shelf : MethodName := ⟨RX11, "shelf", "(III)I"⟩
abbrev cX11_holdRow : ByteArray := prog_1_method_51_code
def yX11_holdRow : MethodName := ⟨RX11, "holdRow", "(ILUnlikeNeighbours$Sheet;)V"⟩
abbrev cX11_taken : ByteArray := prog_1_method_52_code
def yX11_taken : MethodName := ⟨RX11, "taken", "(II)I"⟩
abbrev cX11_act : ByteArray := prog_1_method_53_code
def yX11_act : MethodName := ⟨RX11, "act", "(III)I"⟩
abbrev cX11_thingOn : ByteArray := prog_1_method_54_code
def yX11_thingOn : MethodName := ⟨RX11, "thingOn", "(I)LUnlikeNeighbours$Thing;"⟩
abbrev cX11_trace : ByteArray := prog_1_method_55_code
def yX11_trace : MethodName := ⟨RX11, "trace", "(I)I"⟩
abbrev cX11_many : ByteArray := prog_1_method_56_code
def yX11_many : MethodName := ⟨RX11, "many", "(I)I"⟩
abbrev cX11_keep : ByteArray := prog_1_method_57_code
def yX11_keep : MethodName := ⟨RX11, "keep", "()I"⟩
abbrev cX11_again : ByteArray := prog_1_method_58_code
def yX11_again : MethodName := ⟨RX11, "again", "()I"⟩
abbrev cX11_isBetween : ByteArray := prog_1_method_59_code
def yX11_isBetween : MethodName := ⟨RX11, "isBetween", "(III)Z"⟩
abbrev cX11_isSheet : ByteArray := prog_1_method_60_code
def yX11_isSheet : MethodName := ⟨RX11, "isSheet", "(I)Z"⟩
abbrev cX11_holds : ByteArray := prog_1_method_61_code
def yX11_holds : MethodName := ⟨RX11, "holds", "(II)Z"⟩
abbrev cX11_without : ByteArray := prog_1_method_62_code
def yX11_without : MethodName := ⟨RX11, "without", "(II)I"⟩
abbrev cX11_isOrIsUnder : ByteArray := prog_1_method_63_code
def yX11_isOrIsUnder : MethodName := ⟨RX11, "isOrIsUnder", "(II)Z"⟩
def RX12 : String := "UnlikeNeighboursModel"
def TX12 : u_T := fun k => match k with
  | 0 => ("UnlikeNeighboursModel", "now", "[I", true)
  | 1 => ("UnlikeNeighboursModel", "kept", "[I", true)
  | 2 => ("UnlikeNeighboursModel", "aside", "[I", true)
  | 3 => ("UnlikeNeighboursModel", "isKept", "Z", false)
  | 4 => ("UnlikeNeighboursModel", "tape", "[I", true)
  | 5 => ("UnlikeNeighboursModel", "taped", "I", false)
  | 6 => ("UnlikeNeighboursModel", "begins", "I", false)
  | 7 => ("UnlikeNeighboursModel", "ends", "I", false)
  | 8 => ("UnlikeNeighboursModel", "sort", "I", false)
  | 9 => ("UnlikeNeighboursModel", "isWrong", "Z", false)
  | 10 => ("UnlikeNeighboursModel", "open", "I", false)
  | 11 => ("UnlikeNeighboursModel", "code", "[I", true)
  | 12 => ("UnlikeNeighboursModel", "coded", "I", false)
  | 13 => ("UnlikeNeighboursModel", "facts", "[Ljava/lang/String;", true)
  | 14 => ("UnlikeNeighboursModel", "kinds", "[Ljava/lang/String;", true)
  | 15 => ("UnlikeNeighboursModel", "ruleAt", "[I", true)
  | 16 => ("UnlikeNeighboursModel", "ruleKind", "[I", true)
  | 17 => ("UnlikeNeighboursModel", "ruleDoes", "[I", true)
  | 18 => ("UnlikeNeighboursModel", "ruleBy", "[I", true)
  | 19 => ("UnlikeNeighboursModel", "pile", "[I", true)
  | 20 => ("UnlikeNeighboursModel", "order", "[I", true)
  | 21 => ("UnlikeNeighboursModel", "ordered", "I", false)
  | 22 => ("UnlikeNeighboursModel", "rows", "[I", true)
  | 23 => ("UnlikeNeighboursModel", "rowMany", "I", false)
  | 24 => ("UnlikeNeighboursModel", "items", "[I", true)
  | 25 => ("UnlikeNeighboursModel", "sorts", "[I", true)
  | 26 => ("UnlikeNeighboursModel", "sizes", "[I", true)
  | 27 => ("UnlikeNeighboursModel", "holds", "[I", true)
  | 28 => ("UnlikeNeighboursModel", "held", "[I", true)
  | 29 => ("UnlikeNeighboursModel", "heldSize", "[I", true)
  | 30 => ("UnlikeNeighboursModel", "trace", "[I", true)
  | 31 => ("UnlikeNeighboursModel", "traced", "I", false)
  | 32 => ("UnlikeNeighboursModel", "speaker", "I", false)
  | _ => ("UnlikeNeighboursModel", "isParted", "Z", false)
def tyX12 : Nat → FieldType := fun k => match k with
  | 0 => .array .int
  | 1 => .array .int
  | 2 => .array .int
  | 3 => .boolean
  | 4 => .array .int
  | 5 => .int
  | 6 => .int
  | 7 => .int
  | 8 => .int
  | 9 => .boolean
  | 10 => .int
  | 11 => .array .int
  | 12 => .int
  | 13 => .array (.object "java/lang/String")
  | 14 => .array (.object "java/lang/String")
  | 15 => .array .int
  | 16 => .array .int
  | 17 => .array .int
  | 18 => .array .int
  | 19 => .array .int
  | 20 => .array .int
  | 21 => .int
  | 22 => .array .int
  | 23 => .int
  | 24 => .array .int
  | 25 => .array .int
  | 26 => .array .int
  | 27 => .array .int
  | 28 => .array .int
  | 29 => .array .int
  | 30 => .array .int
  | 31 => .int
  | 32 => .int
  | _ => .boolean
abbrev wsX120 : List Cond := u_ws RX12 TX12 34
theorem nmX12 : ∀ a, a < 34 → ∀ b, b < 34 → a ≠ b → (TX12 a).2.1 ≠ (TX12 b).2.1 := by decide +kernel
theorem tyX12_ok : ∀ k, k < 34 → parseFieldDescriptor (TX12 k).2.2.1 = some (tyX12 k) := by decide +kernel
abbrev cX12_init : ByteArray := prog_14_method_1_code
def yX12_init : MethodName := ⟨RX12, "<init>", "()V"⟩
abbrev cX12_in : ByteArray := prog_14_method_2_code
def yX12_in : MethodName := ⟨RX12, "in", "(III)Z"⟩
abbrev cX12_copy : ByteArray := prog_14_method_3_code
def yX12_copy : MethodName := ⟨RX12, "copy", "([I[I)V"⟩
abbrev cX12_is : ByteArray := prog_14_method_4_code
def yX12_is : MethodName := ⟨RX12, "is", "(II)Z"⟩
abbrev cX12_comes : ByteArray := prog_14_method_5_code
def yX12_comes : MethodName := ⟨RX12, "comes", "(II)I"⟩
abbrev cX12_back : ByteArray := prog_14_method_6_code
def yX12_back : MethodName := ⟨RX12, "back", "(I)I"⟩
abbrev cX12_feed : ByteArray := prog_14_method_7_code
def yX12_feed : MethodName := ⟨RX12, "feed", "(JI)I"⟩
abbrev cX12_isLetter : ByteArray := prog_14_method_8_code
def yX12_isLetter : MethodName := ⟨RX12, "isLetter", "(I)Z"⟩
abbrev cX12_isDigit : ByteArray := prog_14_method_9_code
def yX12_isDigit : MethodName := ⟨RX12, "isDigit", "(I)Z"⟩
abbrev cX12_byteAt : ByteArray := prog_14_method_10_code
def yX12_byteAt : MethodName := ⟨RX12, "byteAt", "(I)I"⟩
abbrev cX12_next : ByteArray := prog_14_method_11_code
def yX12_next : MethodName := ⟨RX12, "next", "()V"⟩
abbrev cX12_isWord : ByteArray := prog_14_method_12_code
def yX12_isWord : MethodName := ⟨RX12, "isWord", "(Ljava/lang/String;)Z"⟩
abbrev cX12_isSign : ByteArray := prog_14_method_13_code
def yX12_isSign : MethodName := ⟨RX12, "isSign", "(I)Z"⟩
abbrev cX12_must : ByteArray := prog_14_method_14_code
def yX12_must : MethodName := ⟨RX12, "must", "(Z)V"⟩
abbrev cX12_tells : ByteArray := prog_14_method_15_code
def yX12_tells : MethodName := ⟨RX12, "tells", "(I)V"⟩
abbrev cX12_condition : ByteArray := prog_14_method_16_code
def yX12_condition : MethodName := ⟨RX12, "condition", "()V"⟩
abbrev cX12_all : ByteArray := prog_14_method_17_code
def yX12_all : MethodName := ⟨RX12, "all", "()V"⟩
abbrev cX12_one : ByteArray := prog_14_method_18_code
def yX12_one : MethodName := ⟨RX12, "one", "()V"⟩
abbrev cX12_value : ByteArray := prog_14_method_19_code
def yX12_value : MethodName := ⟨RX12, "value", "()V"⟩
abbrev cX12_numberAt : ByteArray := prog_14_method_20_code
def yX12_numberAt : MethodName := ⟨RX12, "numberAt", "()I"⟩
abbrev cX12_readRule : ByteArray := prog_14_method_21_code
def yX12_readRule : MethodName := ⟨RX12, "readRule", "(I)V"⟩
abbrev cX12_rules : ByteArray := prog_14_method_22_code
def yX12_rules : MethodName := ⟨RX12, "rules", "()I"⟩
abbrev cX12_factOf : ByteArray := prog_14_method_23_code
def yX12_factOf : MethodName := ⟨RX12, "factOf", "(II)I"⟩
abbrev cX12_holds : ByteArray := prog_14_method_24_code
def yX12_holds : MethodName := ⟨RX12, "holds", "(III)Z"⟩
abbrev cX12_did : ByteArray := prog_14_method_25_code
def yX12_did : MethodName := ⟨RX12, "did", "(III)Z"⟩
abbrev cX12_goodAt : ByteArray := prog_14_method_26_code
def yX12_goodAt : MethodName := ⟨RX12, "goodAt", "(II)I"⟩
abbrev cX12_goodIs : ByteArray := prog_14_method_27_code
def yX12_goodIs : MethodName := ⟨RX12, "goodIs", "(II)I"⟩
abbrev cX12_good : ByteArray := prog_14_method_28_code
def yX12_good : MethodName := ⟨RX12, "good", "(IIII)I"⟩
abbrev cX12_above : ByteArray := prog_14_method_29_code
def yX12_above : MethodName := ⟨RX12, "above", "(I)I"⟩
abbrev cX12_isUnder : ByteArray := prog_14_method_30_code
def yX12_isUnder : MethodName := ⟨RX12, "isUnder", "(II)Z"⟩
abbrev cX12_worthOf : ByteArray := prog_14_method_31_code
def yX12_worthOf : MethodName := ⟨RX12, "worthOf", "(I)I"⟩
abbrev cX12_fee : ByteArray := prog_14_method_32_code
def yX12_fee : MethodName := ⟨RX12, "fee", "(I)I"⟩
abbrev cX12_isIn : ByteArray := prog_14_method_33_code
def yX12_isIn : MethodName := ⟨RX12, "isIn", "(I)Z"⟩
abbrev cX12_isTop : ByteArray := prog_14_method_34_code
def yX12_isTop : MethodName := ⟨RX12, "isTop", "(I)Z"⟩
abbrev cX12_isNear : ByteArray := prog_14_method_35_code
def yX12_isNear : MethodName := ⟨RX12, "isNear", "(II)Z"⟩
abbrev cX12_standsFor : ByteArray := prog_14_method_36_code
def yX12_standsFor : MethodName := ⟨RX12, "standsFor", "(II)Z"⟩
abbrev cX12_cameBeside : ByteArray := prog_14_method_37_code
def yX12_cameBeside : MethodName := ⟨RX12, "cameBeside", "(II)Z"⟩
abbrev cX12_mayGo : ByteArray := prog_14_method_38_code
def yX12_mayGo : MethodName := ⟨RX12, "mayGo", "(I)Z"⟩
abbrev cX12_goodOf : ByteArray := prog_14_method_39_code
def yX12_goodOf : MethodName := ⟨RX12, "goodOf", "(II)I"⟩
abbrev cX12_change : ByteArray := prog_14_method_40_code
def yX12_change : MethodName := ⟨RX12, "change", "(III)I"⟩
abbrev cX12_remake : ByteArray := prog_14_method_41_code
def yX12_remake : MethodName := ⟨RX12, "remake", "(II)I"⟩
abbrev cX12_let : ByteArray := prog_14_method_42_code
def yX12_let : MethodName := ⟨RX12, "let", "(II)I"⟩
abbrev cX12_beside : ByteArray := prog_14_method_43_code
def yX12_beside : MethodName := ⟨RX12, "beside", "(II)I"⟩
abbrev cX12_mates : ByteArray := prog_14_method_44_code
def yX12_mates : MethodName := ⟨RX12, "mates", "(I)I"⟩
abbrev cX12_may : ByteArray := prog_14_method_45_code
def yX12_may : MethodName := ⟨RX12, "may", "()I"⟩
abbrev cX12_tops : ByteArray := prog_14_method_46_code
def yX12_tops : MethodName := ⟨RX12, "tops", "()I"⟩
abbrev cX12_out : ByteArray := prog_14_method_47_code
def yX12_out : MethodName := ⟨RX12, "out", "(I)V"⟩
abbrev cX12_home : ByteArray := prog_14_method_48_code
def yX12_home : MethodName := ⟨RX12, "home", "()I"⟩
abbrev cX12_wentFor : ByteArray := prog_14_method_49_code
def yX12_wentFor : MethodName := ⟨RX12, "wentFor", "(I)I"⟩
abbrev cX12_go : ByteArray := prog_14_method_50_code
def yX12_go : MethodName := ⟨RX12, "go", "(I)I"⟩
abbrev cX12_come : ByteArray := prog_14_method_51_code
def yX12_come : MethodName := ⟨RX12, "come", "()I"⟩
abbrev cX12_line : ByteArray := prog_14_method_52_code
def yX12_line : MethodName := ⟨RX12, "line", "(I)I"⟩
abbrev cX12_paid : ByteArray := prog_14_method_53_code
def yX12_paid : MethodName := ⟨RX12, "paid", "()I"⟩
abbrev cX12_inMany : ByteArray := prog_14_method_54_code
def yX12_inMany : MethodName := ⟨RX12, "inMany", "()I"⟩
abbrev cX12_waysOn : ByteArray := prog_14_method_55_code
def yX12_waysOn : MethodName := ⟨RX12, "waysOn", "()I"⟩
abbrev cX12_longestOn : ByteArray := prog_14_method_56_code
def yX12_longestOn : MethodName := ⟨RX12, "longestOn", "()I"⟩
abbrev cX12_costOn : ByteArray := prog_14_method_57_code
def yX12_costOn : MethodName := ⟨RX12, "costOn", "(I)I"⟩
abbrev cX12_goneOn : ByteArray := prog_14_method_58_code
def yX12_goneOn : MethodName := ⟨RX12, "goneOn", "()I"⟩
abbrev cX12_winsOn : ByteArray := prog_14_method_59_code
def yX12_winsOn : MethodName := ⟨RX12, "winsOn", "()Z"⟩
abbrev cX12_goesOn : ByteArray := prog_14_method_60_code
def yX12_goesOn : MethodName := ⟨RX12, "goesOn", "(IIII)Z"⟩
abbrev cX12_findFirst : ByteArray := prog_14_method_61_code
def yX12_findFirst : MethodName := ⟨RX12, "findFirst", "(I)Z"⟩
abbrev cX12_orderTold : ByteArray := prog_14_method_62_code
def yX12_orderTold : MethodName := ⟨RX12, "orderTold", "(II)I"⟩
abbrev cX12_ways : ByteArray := prog_14_method_63_code
def yX12_ways : MethodName := ⟨RX12, "ways", "()I"⟩
abbrev cX12_way : ByteArray := prog_14_method_64_code
def yX12_way : MethodName := ⟨RX12, "way", "(I)I"⟩
abbrev cX12_longest : ByteArray := prog_14_method_65_code
def yX12_longest : MethodName := ⟨RX12, "longest", "()I"⟩
abbrev cX12_far : ByteArray := prog_14_method_66_code
def yX12_far : MethodName := ⟨RX12, "far", "(I)I"⟩
abbrev cX12_cheapest : ByteArray := prog_14_method_67_code
def yX12_cheapest : MethodName := ⟨RX12, "cheapest", "()I"⟩
abbrev cX12_cheap : ByteArray := prog_14_method_68_code
def yX12_cheap : MethodName := ⟨RX12, "cheap", "(I)I"⟩
abbrev cX12_never : ByteArray := prog_14_method_69_code
def yX12_never : MethodName := ⟨RX12, "never", "()I"⟩
abbrev cX12_best : ByteArray := prog_14_method_70_code
def yX12_best : MethodName := ⟨RX12, "best", "()I"⟩
abbrev cX12_goat : ByteArray := prog_14_method_71_code
def yX12_goat : MethodName := ⟨RX12, "goat", "()I"⟩
abbrev cX12_gapFor : ByteArray := prog_14_method_72_code
def yX12_gapFor : MethodName := ⟨RX12, "gapFor", "()I"⟩
abbrev cX12_game : ByteArray := prog_14_method_73_code
def yX12_game : MethodName := ⟨RX12, "game", "()I"⟩
abbrev cX12_play : ByteArray := prog_14_method_74_code
def yX12_play : MethodName := ⟨RX12, "play", "()I"⟩
abbrev cX12_report : ByteArray := prog_14_method_75_code
def yX12_report : MethodName := ⟨RX12, "report", "(II)I"⟩
abbrev cX12_forget : ByteArray := prog_14_method_76_code
def yX12_forget : MethodName := ⟨RX12, "forget", "()I"⟩
abbrev cX12_could : ByteArray := prog_14_method_77_code
def yX12_could : MethodName := ⟨RX12, "could", "(II)Z"⟩
abbrev cX12_fits : ByteArray := prog_14_method_78_code
def yX12_fits : MethodName := ⟨RX12, "fits", "(II)Z"⟩
abbrev cX12_fitting : ByteArray := prog_14_method_79_code
def yX12_fitting : MethodName := ⟨RX12, "fitting", "(I)I"⟩
abbrev cX12_span : ByteArray := prog_14_method_80_code
def yX12_span : MethodName := ⟨RX12, "span", "(I)I"⟩
abbrev cX12_liar : ByteArray := prog_14_method_81_code
def yX12_liar : MethodName := ⟨RX12, "liar", "()I"⟩
abbrev cX12_seed : ByteArray := prog_14_method_82_code
def yX12_seed : MethodName := ⟨RX12, "seed", "(I)I"⟩
abbrev cX12_drawn : ByteArray := prog_14_method_83_code
def yX12_drawn : MethodName := ⟨RX12, "drawn", "()I"⟩
abbrev cX12_draw : ByteArray := prog_14_method_84_code
def yX12_draw : MethodName := ⟨RX12, "draw", "()I"⟩
abbrev cX12_often : ByteArray := prog_14_method_85_code
def yX12_often : MethodName := ⟨RX12, "often", "(I)I"⟩
abbrev cX12_prove : ByteArray := prog_14_method_86_code
def yX12_prove : MethodName := ⟨RX12, "prove", "()I"⟩
abbrev cX12_isRow : ByteArray := prog_14_method_87_code
def yX12_isRow : MethodName := ⟨RX12, "isRow", "(II)Z"⟩
abbrev cX12_row : ByteArray := prog_14_method_88_code
def yX12_row : MethodName := ⟨RX12, "row", "(II)I"⟩
abbrev cX12_alterRow : ByteArray := prog_14_method_89_code
def yX12_alterRow : MethodName := ⟨RX12, "alterRow", "(III)I"⟩
abbrev cX12_judge : ByteArray := prog_14_method_90_code
def yX12_judge : MethodName := ⟨RX12, "judge", "()I"⟩
abbrev cX12_isSheet : ByteArray := prog_14_method_91_code
def yX12_isSheet : MethodName := ⟨RX12, "isSheet", "(I)Z"⟩
abbrev cX12_sheet : ByteArray := prog_14_method_92_code
def yX12_sheet : MethodName := ⟨RX12, "sheet", "(III)I"⟩
abbrev cX12_write : ByteArray := prog_14_method_93_code
def yX12_write : MethodName := ⟨RX12, "write", "(III)I"⟩
abbrev cX12_refuses : ByteArray := prog_14_method_94_code
def yX12_refuses : MethodName := ⟨RX12, "refuses", "(II)I"⟩
abbrev cX12_item : ByteArray := prog_14_method_95_code
def yX12_item : MethodName := ⟨RX12, "item", "(III)I"⟩
abbrev cX12_goes : ByteArray := prog_14_method_96_code
def yX12_goes : MethodName := ⟨RX12, "goes", "(III)I"⟩
abbrev cX12_goats : ByteArray := prog_14_method_97_code
def yX12_goats : MethodName := ⟨RX12, "goats", "(III)I"⟩
abbrev cX12_shelf : ByteArray := prog_14_method_98_code
def yX12_shelf : MethodName := ⟨RX12, "shelf", "(III)I"⟩
abbrev cX12_onShelf : ByteArray := prog_14_method_99_code
def yX12_onShelf : MethodName := ⟨RX12, "onShelf", "(I)I"⟩
abbrev cX12_kindOf : ByteArray := prog_14_method_100_code
def yX12_kindOf : MethodName := ⟨RX12, "kindOf", "(I)I"⟩
abbrev cX12_taken : ByteArray := prog_14_method_101_code
def yX12_taken : MethodName := ⟨RX12, "taken", "(II)I"⟩
abbrev cX12_began : ByteArray := prog_14_method_102_code
def yX12_began : MethodName := ⟨RX12, "began", "(I)V"⟩
abbrev cX12_hasOwn : ByteArray := prog_14_method_103_code
def yX12_hasOwn : MethodName := ⟨RX12, "hasOwn", "(II)Z"⟩
abbrev cX12_voiced : ByteArray := prog_14_method_104_code
def yX12_voiced : MethodName := ⟨RX12, "voiced", "(II)I"⟩
abbrev cX12_bodyFrom : ByteArray := prog_14_method_105_code
def yX12_bodyFrom : MethodName := ⟨RX12, "bodyFrom", "(III)I"⟩
abbrev cX12_body : ByteArray := prog_14_method_106_code
def yX12_body : MethodName := ⟨RX12, "body", "(III)I"⟩
abbrev cX12_act : ByteArray := prog_14_method_107_code
def yX12_act : MethodName := ⟨RX12, "act", "(III)I"⟩
abbrev cX12_trace : ByteArray := prog_14_method_108_code
def yX12_trace : MethodName := ⟨RX12, "trace", "(I)I"⟩
abbrev cX12_many : ByteArray := prog_14_method_109_code
def yX12_many : MethodName := ⟨RX12, "many", "(I)I"⟩
abbrev cX12_keep : ByteArray := prog_14_method_110_code
def yX12_keep : MethodName := ⟨RX12, "keep", "()I"⟩
abbrev cX12_again : ByteArray := prog_14_method_111_code
def yX12_again : MethodName := ⟨RX12, "again", "()I"⟩
def RJ6 : String := "java/lang/Integer"
def TJ6 : u_T := fun k => match k with
  | _ => ("", "", "", false)
def tyJ6 : Nat → FieldType := fun k => match k with
  | _ => .int
abbrev wsJ60 : List Cond := u_ws RJ6 TJ6 0
theorem nmJ6 : ∀ a, a < 0 → ∀ b, b < 0 → a ≠ b → (TJ6 a).2.1 ≠ (TJ6 b).2.1 := by decide +kernel
theorem tyJ6_ok : ∀ k, k < 0 → parseFieldDescriptor (TJ6 k).2.2.1 = some (tyJ6 k) := by decide +kernel
abbrev cJ6_bitCount_0f7a4 : ByteArray := prog_15_method_49_code
def yJ6_bitCount_0f7a4 : MethodName := ⟨RJ6, "bitCount", "(I)I"⟩
def RJ9 : String := "java/lang/Math"
def TJ9 : u_T := fun k => match k with
  | _ => ("", "", "", false)
def tyJ9 : Nat → FieldType := fun k => match k with
  | _ => .int
abbrev wsJ90 : List Cond := u_ws RJ9 TJ9 0
theorem nmJ9 : ∀ a, a < 0 → ∀ b, b < 0 → a ≠ b → (TJ9 a).2.1 ≠ (TJ9 b).2.1 := by decide +kernel
theorem tyJ9_ok : ∀ k, k < 0 → parseFieldDescriptor (TJ9 k).2.2.1 = some (tyJ9 k) := by decide +kernel
abbrev cJ9_abs_0f7a4 : ByteArray := prog_16_method_59_code
def yJ9_abs_0f7a4 : MethodName := ⟨RJ9, "abs", "(I)I"⟩
abbrev cJ9_max_7cf53 : ByteArray := prog_16_method_65_code
def yJ9_max_7cf53 : MethodName := ⟨RJ9, "max", "(II)I"⟩
abbrev cJ9_min_7cf53 : ByteArray := prog_16_method_69_code
def yJ9_min_7cf53 : MethodName := ⟨RJ9, "min", "(II)I"⟩
def RJ0 : String := "java/lang/String"
def TJ0 : u_T := fun k => match k with
  | _ => ("", "", "", false)
def tyJ0 : Nat → FieldType := fun k => match k with
  | _ => .int
abbrev wsJ00 : List Cond := u_ws RJ0 TJ0 0
theorem nmJ0 : ∀ a, a < 0 → ∀ b, b < 0 → a ≠ b → (TJ0 a).2.1 ≠ (TJ0 b).2.1 := by decide +kernel
theorem tyJ0_ok : ∀ k, k < 0 → parseFieldDescriptor (TJ0 k).2.2.1 = some (tyJ0 k) := by decide +kernel
abbrev cJ0_length_8abf5 : ByteArray := prog_17_method_54_code
def yJ0_length_8abf5 : MethodName := ⟨RJ0, "length", "()I"⟩
abbrev cJ0_charAt_5068e : ByteArray := prog_17_method_56_code
def yJ0_charAt_5068e : MethodName := ⟨RJ0, "charAt", "(I)C"⟩
abbrev cJ0_coder_7d493 : ByteArray := prog_17_method_152_code
def yJ0_coder_7d493 : MethodName := ⟨RJ0, "coder", "()B"⟩
abbrev cJ0_isLatin1_aae02 : ByteArray := prog_17_method_154_code
def yJ0_isLatin1_aae02 : MethodName := ⟨RJ0, "isLatin1", "()Z"⟩
abbrev cJ0_checkIndex_df160 : ByteArray := prog_17_method_155_code
def yJ0_checkIndex_df160 : MethodName := ⟨RJ0, "checkIndex", "(II)V"⟩
def RJ1 : String := "java/lang/StringLatin1"
def TJ1 : u_T := fun k => match k with
  | _ => ("", "", "", false)
def tyJ1 : Nat → FieldType := fun k => match k with
  | _ => .int
abbrev wsJ10 : List Cond := u_ws RJ1 TJ1 0
theorem nmJ1 : ∀ a, a < 0 → ∀ b, b < 0 → a ≠ b → (TJ1 a).2.1 ≠ (TJ1 b).2.1 := by decide +kernel
theorem tyJ1_ok : ∀ k, k < 0 → parseFieldDescriptor (TJ1 k).2.2.1 = some (tyJ1 k) := by decide +kernel
abbrev cJ1_charAt_3b067 : ByteArray := prog_18_method_2_code
def yJ1_charAt_3b067 : MethodName := ⟨RJ1, "charAt", "([BI)C"⟩
def RJ2 : String := "java/lang/StringUTF16"
def TJ2 : u_T := fun k => match k with
  | _ => ("", "", "", false)
def tyJ2 : Nat → FieldType := fun k => match k with
  | _ => .int
abbrev wsJ20 : List Cond := u_ws RJ2 TJ2 0
theorem nmJ2 : ∀ a, a < 0 → ∀ b, b < 0 → a ≠ b → (TJ2 a).2.1 ≠ (TJ2 b).2.1 := by decide +kernel
theorem tyJ2_ok : ∀ k, k < 0 → parseFieldDescriptor (TJ2 k).2.2.1 = some (tyJ2 k) := by decide +kernel
abbrev cJ2_getChar_3b067 : ByteArray := prog_19_method_5_code
def yJ2_getChar_3b067 : MethodName := ⟨RJ2, "getChar", "([BI)C"⟩
abbrev cJ2_length_9d52b : ByteArray := prog_19_method_6_code
def yJ2_length_9d52b : MethodName := ⟨RJ2, "length", "([B)I"⟩
abbrev cJ2_charAt_3b067 : ByteArray := prog_19_method_83_code
def yJ2_charAt_3b067 : MethodName := ⟨RJ2, "charAt", "([BI)C"⟩
abbrev cJ2_checkIndex_2214a : ByteArray := prog_19_method_91_code
def yJ2_checkIndex_2214a : MethodName := ⟨RJ2, "checkIndex", "(I[B)V"⟩
def RJ10 : String := "java/lang/System"
def TJ10 : u_T := fun k => match k with
  | _ => ("", "", "", false)
def tyJ10 : Nat → FieldType := fun k => match k with
  | _ => .int
abbrev wsJ100 : List Cond := u_ws RJ10 TJ10 0
theorem nmJ10 : ∀ a, a < 0 → ∀ b, b < 0 → a ≠ b → (TJ10 a).2.1 ≠ (TJ10 b).2.1 := by decide +kernel
theorem tyJ10_ok : ∀ k, k < 0 → parseFieldDescriptor (TJ10 k).2.2.1 = some (tyJ10 k) := by decide +kernel
def RJ3 : String := "jdk/internal/util/Preconditions"
def TJ3 : u_T := fun k => match k with
  | _ => ("", "", "", false)
def tyJ3 : Nat → FieldType := fun k => match k with
  | _ => .int
abbrev wsJ30 : List Cond := u_ws RJ3 TJ3 0
theorem nmJ3 : ∀ a, a < 0 → ∀ b, b < 0 → a ≠ b → (TJ3 a).2.1 ≠ (TJ3 b).2.1 := by decide +kernel
theorem tyJ3_ok : ∀ k, k < 0 → parseFieldDescriptor (TJ3 k).2.2.1 = some (tyJ3 k) := by decide +kernel
abbrev cJ3_checkIndex_8e157 : ByteArray := prog_21_method_11_code
def yJ3_checkIndex_8e157 : MethodName := ⟨RJ3, "checkIndex", "(IILjava/util/function/BiFunction;)I"⟩
def RL : String := "UnlikeNeighboursLaw"
abbrev cL_law : ByteArray := code
def yL_law : MethodName := ⟨RL, "law", "([I)Z"⟩
/-- the words that a callee may be given at once: they stay true wherever the machine goes on -/
def TB : List Cond := lw_tbl.filter goodWord
