section
-- ===== PART A: goes FIRST, ahead of the names: the tables' words, and 'selects' of the private methods out of them =====
/-- a private method of a class that the tables say can be made, by its rows of tables_1 -/
def lw_okq (q : MethodName × Nat) : Prop := (q.1.cls ≠ "java/lang/invoke/MethodHandle" ∧ q.1.cls ≠ "java/lang/invoke/VarHandle") ∧ Cond.instantiable q.1.cls q.2 ∈ tables_1 ∧ Cond.privateMethod q.1 ∈ tables_1 ∧ Cond.instanceMethod q.1 ∈ tables_1
theorem lw_p0 : lw_okq (⟨"PassingFrames$Text", "readDevice", "(I)Z"⟩, 10) := ⟨⟨by decide +kernel, by decide +kernel⟩, List.mem_of_getElem? (i := 30) (by decide +kernel), List.mem_of_getElem? (i := 404) (by decide +kernel), List.mem_of_getElem? (i := 405) (by decide +kernel)⟩
theorem lw_p1 : lw_okq (⟨"PassingFrames$Text", "numberAt", "(II)I"⟩, 10) := ⟨⟨by decide +kernel, by decide +kernel⟩, List.mem_of_getElem? (i := 30) (by decide +kernel), List.mem_of_getElem? (i := 408) (by decide +kernel), List.mem_of_getElem? (i := 409) (by decide +kernel)⟩
theorem lw_p2 : lw_okq (⟨"PassingFrames$Text", "has", "(IC)Z"⟩, 10) := ⟨⟨by decide +kernel, by decide +kernel⟩, List.mem_of_getElem? (i := 30) (by decide +kernel), List.mem_of_getElem? (i := 412) (by decide +kernel), List.mem_of_getElem? (i := 413) (by decide +kernel)⟩
theorem lw_p3 : lw_okq (⟨"PassingFrames$Text", "hasNumber", "(I)Z"⟩, 10) := ⟨⟨by decide +kernel, by decide +kernel⟩, List.mem_of_getElem? (i := 30) (by decide +kernel), List.mem_of_getElem? (i := 419) (by decide +kernel), List.mem_of_getElem? (i := 420) (by decide +kernel)⟩
theorem lw_p4 : lw_okq (⟨"PassingFrames$Text", "readEnd", "(I)Z"⟩, 10) := ⟨⟨by decide +kernel, by decide +kernel⟩, List.mem_of_getElem? (i := 30) (by decide +kernel), List.mem_of_getElem? (i := 423) (by decide +kernel), List.mem_of_getElem? (i := 424) (by decide +kernel)⟩
theorem lw_p5 : lw_okq (⟨"PassingFrames", "findOverlay", "(II)LPassingFrames$Overlay;"⟩, 4) := ⟨⟨by decide +kernel, by decide +kernel⟩, List.mem_of_getElem? (i := 22) (by decide +kernel), List.mem_of_getElem? (i := 602) (by decide +kernel), List.mem_of_getElem? (i := 603) (by decide +kernel)⟩
theorem lw_p6 : lw_okq (⟨"PassingFrames$Master", "passA", "()V"⟩, 5) := ⟨⟨by decide +kernel, by decide +kernel⟩, List.mem_of_getElem? (i := 243) (by decide +kernel), List.mem_of_getElem? (i := 683) (by decide +kernel), List.mem_of_getElem? (i := 684) (by decide +kernel)⟩
theorem lw_p7 : lw_okq (⟨"PassingFrames$Ring", "wireTimes", "(II)I"⟩, 7) := ⟨⟨by decide +kernel, by decide +kernel⟩, List.mem_of_getElem? (i := 77) (by decide +kernel), List.mem_of_getElem? (i := 692) (by decide +kernel), List.mem_of_getElem? (i := 693) (by decide +kernel)⟩
theorem lw_p8 : lw_okq (⟨"PassingFrames$Datagram", "means", "(LPassingFrames$Device;I)Z"⟩, 10) := ⟨⟨by decide +kernel, by decide +kernel⟩, List.mem_of_getElem? (i := 266) (by decide +kernel), List.mem_of_getElem? (i := 702) (by decide +kernel), List.mem_of_getElem? (i := 703) (by decide +kernel)⟩
theorem lw_p9 : lw_okq (⟨"PassingFrames$Datagram", "addressing", "()I"⟩, 10) := ⟨⟨by decide +kernel, by decide +kernel⟩, List.mem_of_getElem? (i := 266) (by decide +kernel), List.mem_of_getElem? (i := 706) (by decide +kernel), List.mem_of_getElem? (i := 707) (by decide +kernel)⟩
theorem lw_p10 : lw_okq (⟨"PassingFrames$Datagram", "readInto", "(LPassingFrames$Cargo;LPassingFrames$Device;)Z"⟩, 10) := ⟨⟨by decide +kernel, by decide +kernel⟩, List.mem_of_getElem? (i := 266) (by decide +kernel), List.mem_of_getElem? (i := 714) (by decide +kernel), List.mem_of_getElem? (i := 715) (by decide +kernel)⟩
theorem lw_p11 : lw_okq (⟨"PassingFrames$Datagram", "mayRead", "(LPassingFrames$Device;)Z"⟩, 10) := ⟨⟨by decide +kernel, by decide +kernel⟩, List.mem_of_getElem? (i := 266) (by decide +kernel), List.mem_of_getElem? (i := 718) (by decide +kernel), List.mem_of_getElem? (i := 719) (by decide +kernel)⟩
theorem lw_p12 : lw_okq (⟨"PassingFrames$Datagram", "byteOver", "(ILPassingFrames$Overlay;)I"⟩, 10) := ⟨⟨by decide +kernel, by decide +kernel⟩, List.mem_of_getElem? (i := 266) (by decide +kernel), List.mem_of_getElem? (i := 722) (by decide +kernel), List.mem_of_getElem? (i := 723) (by decide +kernel)⟩
theorem lw_p13 : lw_okq (⟨"PassingFrames$Datagram", "combines", "()Z"⟩, 10) := ⟨⟨by decide +kernel, by decide +kernel⟩, List.mem_of_getElem? (i := 266) (by decide +kernel), List.mem_of_getElem? (i := 731) (by decide +kernel), List.mem_of_getElem? (i := 732) (by decide +kernel)⟩
theorem lw_p14 : lw_okq (⟨"PassingFrames$Datagram", "writeFrom", "(LPassingFrames$Cargo;LPassingFrames$Device;)Z"⟩, 10) := ⟨⟨by decide +kernel, by decide +kernel⟩, List.mem_of_getElem? (i := 266) (by decide +kernel), List.mem_of_getElem? (i := 735) (by decide +kernel), List.mem_of_getElem? (i := 736) (by decide +kernel)⟩
theorem lw_p15 : lw_okq (⟨"PassingFrames$Datagram", "mayWrite", "(LPassingFrames$Device;)Z"⟩, 10) := ⟨⟨by decide +kernel, by decide +kernel⟩, List.mem_of_getElem? (i := 266) (by decide +kernel), List.mem_of_getElem? (i := 739) (by decide +kernel), List.mem_of_getElem? (i := 740) (by decide +kernel)⟩
def lw_privs_1 : List (MethodName × Nat) := [(⟨"PassingFrames$Text", "readDevice", "(I)Z"⟩, 10), (⟨"PassingFrames$Text", "numberAt", "(II)I"⟩, 10), (⟨"PassingFrames$Text", "has", "(IC)Z"⟩, 10), (⟨"PassingFrames$Text", "hasNumber", "(I)Z"⟩, 10), (⟨"PassingFrames$Text", "readEnd", "(I)Z"⟩, 10), (⟨"PassingFrames", "findOverlay", "(II)LPassingFrames$Overlay;"⟩, 4), (⟨"PassingFrames$Master", "passA", "()V"⟩, 5), (⟨"PassingFrames$Ring", "wireTimes", "(II)I"⟩, 7), (⟨"PassingFrames$Datagram", "means", "(LPassingFrames$Device;I)Z"⟩, 10), (⟨"PassingFrames$Datagram", "addressing", "()I"⟩, 10), (⟨"PassingFrames$Datagram", "readInto", "(LPassingFrames$Cargo;LPassingFrames$Device;)Z"⟩, 10), (⟨"PassingFrames$Datagram", "mayRead", "(LPassingFrames$Device;)Z"⟩, 10), (⟨"PassingFrames$Datagram", "byteOver", "(ILPassingFrames$Overlay;)I"⟩, 10), (⟨"PassingFrames$Datagram", "combines", "()Z"⟩, 10), (⟨"PassingFrames$Datagram", "writeFrom", "(LPassingFrames$Cargo;LPassingFrames$Device;)Z"⟩, 10), (⟨"PassingFrames$Datagram", "mayWrite", "(LPassingFrames$Device;)Z"⟩, 10)]
theorem lw_r1 : ∀ q ∈ lw_privs_1, lw_okq q := List.forall_mem_cons.mpr ⟨lw_p0, List.forall_mem_cons.mpr ⟨lw_p1, List.forall_mem_cons.mpr ⟨lw_p2, List.forall_mem_cons.mpr ⟨lw_p3, List.forall_mem_cons.mpr ⟨lw_p4, List.forall_mem_cons.mpr ⟨lw_p5, List.forall_mem_cons.mpr ⟨lw_p6, List.forall_mem_cons.mpr ⟨lw_p7, List.forall_mem_cons.mpr ⟨lw_p8, List.forall_mem_cons.mpr ⟨lw_p9, List.forall_mem_cons.mpr ⟨lw_p10, List.forall_mem_cons.mpr ⟨lw_p11, List.forall_mem_cons.mpr ⟨lw_p12, List.forall_mem_cons.mpr ⟨lw_p13, List.forall_mem_cons.mpr ⟨lw_p14, List.forall_mem_cons.mpr ⟨lw_p15, fun _ h => absurd h List.not_mem_nil⟩⟩⟩⟩⟩⟩⟩⟩⟩⟩⟩⟩⟩⟩⟩⟩
theorem lw_p16 : lw_okq (⟨"PassingFrames$Master", "passB", "()V"⟩, 5) := ⟨⟨by decide +kernel, by decide +kernel⟩, List.mem_of_getElem? (i := 243) (by decide +kernel), List.mem_of_getElem? (i := 743) (by decide +kernel), List.mem_of_getElem? (i := 744) (by decide +kernel)⟩
theorem lw_p17 : lw_okq (⟨"PassingFrames$Ring", "sideTrip", "(II)I"⟩, 7) := ⟨⟨by decide +kernel, by decide +kernel⟩, List.mem_of_getElem? (i := 77) (by decide +kernel), List.mem_of_getElem? (i := 762) (by decide +kernel), List.mem_of_getElem? (i := 763) (by decide +kernel)⟩
theorem lw_p18 : lw_okq (⟨"PassingFrames$Master", "receive", "()I"⟩, 5) := ⟨⟨by decide +kernel, by decide +kernel⟩, List.mem_of_getElem? (i := 243) (by decide +kernel), List.mem_of_getElem? (i := 777) (by decide +kernel), List.mem_of_getElem? (i := 778) (by decide +kernel)⟩
theorem lw_p19 : lw_okq (⟨"PassingFrames$Datagram", "joinedByte", "(I)I"⟩, 10) := ⟨⟨by decide +kernel, by decide +kernel⟩, List.mem_of_getElem? (i := 266) (by decide +kernel), List.mem_of_getElem? (i := 786) (by decide +kernel), List.mem_of_getElem? (i := 787) (by decide +kernel)⟩
theorem lw_p20 : lw_okq (⟨"PassingFrames$Master", "compare", "(LPassingFrames$Datagram;)V"⟩, 5) := ⟨⟨by decide +kernel, by decide +kernel⟩, List.mem_of_getElem? (i := 243) (by decide +kernel), List.mem_of_getElem? (i := 790) (by decide +kernel), List.mem_of_getElem? (i := 791) (by decide +kernel)⟩
theorem lw_p21 : lw_okq (⟨"PassingFrames$Expectations", "indexOf", "(I)I"⟩, 3) := ⟨⟨by decide +kernel, by decide +kernel⟩, List.mem_of_getElem? (i := 251) (by decide +kernel), List.mem_of_getElem? (i := 806) (by decide +kernel), List.mem_of_getElem? (i := 807) (by decide +kernel)⟩
theorem lw_p22 : lw_okq (⟨"PassingFrames$Expectations", "forgetOldest", "()V"⟩, 3) := ⟨⟨by decide +kernel, by decide +kernel⟩, List.mem_of_getElem? (i := 251) (by decide +kernel), List.mem_of_getElem? (i := 815) (by decide +kernel), List.mem_of_getElem? (i := 816) (by decide +kernel)⟩
theorem lw_p23 : lw_okq (⟨"PassingFrames", "deliver", "(LPassingFrames$Mailboxes;I)I"⟩, 4) := ⟨⟨by decide +kernel, by decide +kernel⟩, List.mem_of_getElem? (i := 22) (by decide +kernel), List.mem_of_getElem? (i := 876) (by decide +kernel), List.mem_of_getElem? (i := 877) (by decide +kernel)⟩
theorem lw_p24 : lw_okq (⟨"PassingFrames$Clocks", "setTimes", "(I)V"⟩, 3) := ⟨⟨by decide +kernel, by decide +kernel⟩, List.mem_of_getElem? (i := 227) (by decide +kernel), List.mem_of_getElem? (i := 915) (by decide +kernel), List.mem_of_getElem? (i := 916) (by decide +kernel)⟩
theorem lw_p25 : lw_okq (⟨"PassingFrames$Clocks", "turnBefore", "(II)I"⟩, 3) := ⟨⟨by decide +kernel, by decide +kernel⟩, List.mem_of_getElem? (i := 227) (by decide +kernel), List.mem_of_getElem? (i := 925) (by decide +kernel), List.mem_of_getElem? (i := 926) (by decide +kernel)⟩
theorem lw_p26 : lw_okq (⟨"PassingFrames$Clocks", "setDelays", "(I)V"⟩, 3) := ⟨⟨by decide +kernel, by decide +kernel⟩, List.mem_of_getElem? (i := 227) (by decide +kernel), List.mem_of_getElem? (i := 933) (by decide +kernel), List.mem_of_getElem? (i := 934) (by decide +kernel)⟩
theorem lw_p27 : lw_okq (⟨"PassingFrames$Clocks", "gap", "(I)I"⟩, 3) := ⟨⟨by decide +kernel, by decide +kernel⟩, List.mem_of_getElem? (i := 227) (by decide +kernel), List.mem_of_getElem? (i := 937) (by decide +kernel), List.mem_of_getElem? (i := 938) (by decide +kernel)⟩
theorem lw_p28 : lw_okq (⟨"PassingFrames$Clocks", "setOffsets", "(I)V"⟩, 3) := ⟨⟨by decide +kernel, by decide +kernel⟩, List.mem_of_getElem? (i := 227) (by decide +kernel), List.mem_of_getElem? (i := 943) (by decide +kernel), List.mem_of_getElem? (i := 944) (by decide +kernel)⟩
theorem lw_p29 : lw_okq (⟨"PassingFramesModel", "empty", "()V"⟩, 50) := ⟨⟨by decide +kernel, by decide +kernel⟩, List.mem_of_getElem? (i := 1006) (by decide +kernel), List.mem_of_getElem? (i := 1012) (by decide +kernel), List.mem_of_getElem? (i := 1013) (by decide +kernel)⟩
theorem lw_p30 : lw_okq (⟨"PassingFramesModel", "deviceIs", "(IIII)V"⟩, 50) := ⟨⟨by decide +kernel, by decide +kernel⟩, List.mem_of_getElem? (i := 1006) (by decide +kernel), List.mem_of_getElem? (i := 1016) (by decide +kernel), List.mem_of_getElem? (i := 1017) (by decide +kernel)⟩
theorem lw_p31 : lw_okq (⟨"PassingFramesModel", "begin", "()V"⟩, 50) := ⟨⟨by decide +kernel, by decide +kernel⟩, List.mem_of_getElem? (i := 1006) (by decide +kernel), List.mem_of_getElem? (i := 1020) (by decide +kernel), List.mem_of_getElem? (i := 1021) (by decide +kernel)⟩
def lw_privs_2 : List (MethodName × Nat) := [(⟨"PassingFrames$Master", "passB", "()V"⟩, 5), (⟨"PassingFrames$Ring", "sideTrip", "(II)I"⟩, 7), (⟨"PassingFrames$Master", "receive", "()I"⟩, 5), (⟨"PassingFrames$Datagram", "joinedByte", "(I)I"⟩, 10), (⟨"PassingFrames$Master", "compare", "(LPassingFrames$Datagram;)V"⟩, 5), (⟨"PassingFrames$Expectations", "indexOf", "(I)I"⟩, 3), (⟨"PassingFrames$Expectations", "forgetOldest", "()V"⟩, 3), (⟨"PassingFrames", "deliver", "(LPassingFrames$Mailboxes;I)I"⟩, 4), (⟨"PassingFrames$Clocks", "setTimes", "(I)V"⟩, 3), (⟨"PassingFrames$Clocks", "turnBefore", "(II)I"⟩, 3), (⟨"PassingFrames$Clocks", "setDelays", "(I)V"⟩, 3), (⟨"PassingFrames$Clocks", "gap", "(I)I"⟩, 3), (⟨"PassingFrames$Clocks", "setOffsets", "(I)V"⟩, 3), (⟨"PassingFramesModel", "empty", "()V"⟩, 50), (⟨"PassingFramesModel", "deviceIs", "(IIII)V"⟩, 50), (⟨"PassingFramesModel", "begin", "()V"⟩, 50)]
theorem lw_r2 : ∀ q ∈ lw_privs_2, lw_okq q := List.forall_mem_cons.mpr ⟨lw_p16, List.forall_mem_cons.mpr ⟨lw_p17, List.forall_mem_cons.mpr ⟨lw_p18, List.forall_mem_cons.mpr ⟨lw_p19, List.forall_mem_cons.mpr ⟨lw_p20, List.forall_mem_cons.mpr ⟨lw_p21, List.forall_mem_cons.mpr ⟨lw_p22, List.forall_mem_cons.mpr ⟨lw_p23, List.forall_mem_cons.mpr ⟨lw_p24, List.forall_mem_cons.mpr ⟨lw_p25, List.forall_mem_cons.mpr ⟨lw_p26, List.forall_mem_cons.mpr ⟨lw_p27, List.forall_mem_cons.mpr ⟨lw_p28, List.forall_mem_cons.mpr ⟨lw_p29, List.forall_mem_cons.mpr ⟨lw_p30, List.forall_mem_cons.mpr ⟨lw_p31, fun _ h => absurd h List.not_mem_nil⟩⟩⟩⟩⟩⟩⟩⟩⟩⟩⟩⟩⟩⟩⟩⟩
theorem lw_p32 : lw_okq (⟨"PassingFramesModel", "becomeInit", "(I)V"⟩, 50) := ⟨⟨by decide +kernel, by decide +kernel⟩, List.mem_of_getElem? (i := 1006) (by decide +kernel), List.mem_of_getElem? (i := 1024) (by decide +kernel), List.mem_of_getElem? (i := 1025) (by decide +kernel)⟩
theorem lw_p33 : lw_okq (⟨"PassingFramesModel", "readAll", "()I"⟩, 50) := ⟨⟨by decide +kernel, by decide +kernel⟩, List.mem_of_getElem? (i := 1006) (by decide +kernel), List.mem_of_getElem? (i := 1196) (by decide +kernel), List.mem_of_getElem? (i := 1197) (by decide +kernel)⟩
theorem lw_p34 : lw_okq (⟨"PassingFramesModel", "letterAt", "(I)I"⟩, 50) := ⟨⟨by decide +kernel, by decide +kernel⟩, List.mem_of_getElem? (i := 1006) (by decide +kernel), List.mem_of_getElem? (i := 1200) (by decide +kernel), List.mem_of_getElem? (i := 1201) (by decide +kernel)⟩
theorem lw_p35 : lw_okq (⟨"PassingFramesModel", "deviceItem", "()Z"⟩, 50) := ⟨⟨by decide +kernel, by decide +kernel⟩, List.mem_of_getElem? (i := 1006) (by decide +kernel), List.mem_of_getElem? (i := 1204) (by decide +kernel), List.mem_of_getElem? (i := 1205) (by decide +kernel)⟩
theorem lw_p36 : lw_okq (⟨"PassingFramesModel", "figures", "(I)I"⟩, 50) := ⟨⟨by decide +kernel, by decide +kernel⟩, List.mem_of_getElem? (i := 1006) (by decide +kernel), List.mem_of_getElem? (i := 1208) (by decide +kernel), List.mem_of_getElem? (i := 1209) (by decide +kernel)⟩
theorem lw_p37 : lw_okq (⟨"PassingFramesModel", "ends", "()Z"⟩, 50) := ⟨⟨by decide +kernel, by decide +kernel⟩, List.mem_of_getElem? (i := 1006) (by decide +kernel), List.mem_of_getElem? (i := 1214) (by decide +kernel), List.mem_of_getElem? (i := 1215) (by decide +kernel)⟩
theorem lw_p38 : lw_okq (⟨"PassingFramesModel", "endItem", "()Z"⟩, 50) := ⟨⟨by decide +kernel, by decide +kernel⟩, List.mem_of_getElem? (i := 1006) (by decide +kernel), List.mem_of_getElem? (i := 1218) (by decide +kernel), List.mem_of_getElem? (i := 1219) (by decide +kernel)⟩
theorem lw_p39 : lw_okq (⟨"PassingFramesModel", "isDevice", "(I)Z"⟩, 50) := ⟨⟨by decide +kernel, by decide +kernel⟩, List.mem_of_getElem? (i := 1006) (by decide +kernel), List.mem_of_getElem? (i := 1230) (by decide +kernel), List.mem_of_getElem? (i := 1231) (by decide +kernel)⟩
theorem lw_p40 : lw_okq (⟨"PassingFramesModel", "sideOf", "(I)I"⟩, 50) := ⟨⟨by decide +kernel, by decide +kernel⟩, List.mem_of_getElem? (i := 1006) (by decide +kernel), List.mem_of_getElem? (i := 1235) (by decide +kernel), List.mem_of_getElem? (i := 1236) (by decide +kernel)⟩
theorem lw_p41 : lw_okq (⟨"PassingFramesModel", "sideA", "()I"⟩, 50) := ⟨⟨by decide +kernel, by decide +kernel⟩, List.mem_of_getElem? (i := 1006) (by decide +kernel), List.mem_of_getElem? (i := 1239) (by decide +kernel), List.mem_of_getElem? (i := 1240) (by decide +kernel)⟩
theorem lw_p42 : lw_okq (⟨"PassingFramesModel", "firstB", "()I"⟩, 50) := ⟨⟨by decide +kernel, by decide +kernel⟩, List.mem_of_getElem? (i := 1006) (by decide +kernel), List.mem_of_getElem? (i := 1243) (by decide +kernel), List.mem_of_getElem? (i := 1244) (by decide +kernel)⟩
theorem lw_p43 : lw_okq (⟨"PassingFramesModel", "byteAt", "(III)I"⟩, 50) := ⟨⟨by decide +kernel, by decide +kernel⟩, List.mem_of_getElem? (i := 1006) (by decide +kernel), List.mem_of_getElem? (i := 1252) (by decide +kernel), List.mem_of_getElem? (i := 1253) (by decide +kernel)⟩
theorem lw_p44 : lw_okq (⟨"PassingFramesModel", "systemAt", "(II)J"⟩, 50) := ⟨⟨by decide +kernel, by decide +kernel⟩, List.mem_of_getElem? (i := 1006) (by decide +kernel), List.mem_of_getElem? (i := 1256) (by decide +kernel), List.mem_of_getElem? (i := 1257) (by decide +kernel)⟩
theorem lw_p45 : lw_okq (⟨"PassingFramesModel", "ownAt", "(II)J"⟩, 50) := ⟨⟨by decide +kernel, by decide +kernel⟩, List.mem_of_getElem? (i := 1006) (by decide +kernel), List.mem_of_getElem? (i := 1260) (by decide +kernel), List.mem_of_getElem? (i := 1261) (by decide +kernel)⟩
theorem lw_p46 : lw_okq (⟨"PassingFramesModel", "cutMany", "()I"⟩, 50) := ⟨⟨by decide +kernel, by decide +kernel⟩, List.mem_of_getElem? (i := 1006) (by decide +kernel), List.mem_of_getElem? (i := 1276) (by decide +kernel), List.mem_of_getElem? (i := 1277) (by decide +kernel)⟩
theorem lw_p47 : lw_okq (⟨"PassingFramesModel", "isGram", "(IIII)Z"⟩, 50) := ⟨⟨by decide +kernel, by decide +kernel⟩, List.mem_of_getElem? (i := 1006) (by decide +kernel), List.mem_of_getElem? (i := 1308) (by decide +kernel), List.mem_of_getElem? (i := 1309) (by decide +kernel)⟩
def lw_privs_3 : List (MethodName × Nat) := [(⟨"PassingFramesModel", "becomeInit", "(I)V"⟩, 50), (⟨"PassingFramesModel", "readAll", "()I"⟩, 50), (⟨"PassingFramesModel", "letterAt", "(I)I"⟩, 50), (⟨"PassingFramesModel", "deviceItem", "()Z"⟩, 50), (⟨"PassingFramesModel", "figures", "(I)I"⟩, 50), (⟨"PassingFramesModel", "ends", "()Z"⟩, 50), (⟨"PassingFramesModel", "endItem", "()Z"⟩, 50), (⟨"PassingFramesModel", "isDevice", "(I)Z"⟩, 50), (⟨"PassingFramesModel", "sideOf", "(I)I"⟩, 50), (⟨"PassingFramesModel", "sideA", "()I"⟩, 50), (⟨"PassingFramesModel", "firstB", "()I"⟩, 50), (⟨"PassingFramesModel", "byteAt", "(III)I"⟩, 50), (⟨"PassingFramesModel", "systemAt", "(II)J"⟩, 50), (⟨"PassingFramesModel", "ownAt", "(II)J"⟩, 50), (⟨"PassingFramesModel", "cutMany", "()I"⟩, 50), (⟨"PassingFramesModel", "isGram", "(IIII)Z"⟩, 50)]
theorem lw_r3 : ∀ q ∈ lw_privs_3, lw_okq q := List.forall_mem_cons.mpr ⟨lw_p32, List.forall_mem_cons.mpr ⟨lw_p33, List.forall_mem_cons.mpr ⟨lw_p34, List.forall_mem_cons.mpr ⟨lw_p35, List.forall_mem_cons.mpr ⟨lw_p36, List.forall_mem_cons.mpr ⟨lw_p37, List.forall_mem_cons.mpr ⟨lw_p38, List.forall_mem_cons.mpr ⟨lw_p39, List.forall_mem_cons.mpr ⟨lw_p40, List.forall_mem_cons.mpr ⟨lw_p41, List.forall_mem_cons.mpr ⟨lw_p42, List.forall_mem_cons.mpr ⟨lw_p43, List.forall_mem_cons.mpr ⟨lw_p44, List.forall_mem_cons.mpr ⟨lw_p45, List.forall_mem_cons.mpr ⟨lw_p46, List.forall_mem_cons.mpr ⟨lw_p47, fun _ h => absurd h List.not_mem_nil⟩⟩⟩⟩⟩⟩⟩⟩⟩⟩⟩⟩⟩⟩⟩⟩
theorem lw_p48 : lw_okq (⟨"PassingFramesModel", "goes", "()V"⟩, 50) := ⟨⟨by decide +kernel, by decide +kernel⟩, List.mem_of_getElem? (i := 1006) (by decide +kernel), List.mem_of_getElem? (i := 1328) (by decide +kernel), List.mem_of_getElem? (i := 1329) (by decide +kernel)⟩
theorem lw_p49 : lw_okq (⟨"PassingFramesModel", "goesOut", "(I)V"⟩, 50) := ⟨⟨by decide +kernel, by decide +kernel⟩, List.mem_of_getElem? (i := 1006) (by decide +kernel), List.mem_of_getElem? (i := 1332) (by decide +kernel), List.mem_of_getElem? (i := 1333) (by decide +kernel)⟩
theorem lw_p50 : lw_okq (⟨"PassingFramesModel", "whenBy", "(I)I"⟩, 50) := ⟨⟨by decide +kernel, by decide +kernel⟩, List.mem_of_getElem? (i := 1006) (by decide +kernel), List.mem_of_getElem? (i := 1336) (by decide +kernel), List.mem_of_getElem? (i := 1337) (by decide +kernel)⟩
theorem lw_p51 : lw_okq (⟨"PassingFramesModel", "wires", "(II)I"⟩, 50) := ⟨⟨by decide +kernel, by decide +kernel⟩, List.mem_of_getElem? (i := 1006) (by decide +kernel), List.mem_of_getElem? (i := 1340) (by decide +kernel), List.mem_of_getElem? (i := 1341) (by decide +kernel)⟩
theorem lw_p52 : lw_okq (⟨"PassingFramesModel", "edit", "(IIII)V"⟩, 50) := ⟨⟨by decide +kernel, by decide +kernel⟩, List.mem_of_getElem? (i := 1006) (by decide +kernel), List.mem_of_getElem? (i := 1344) (by decide +kernel), List.mem_of_getElem? (i := 1345) (by decide +kernel)⟩
theorem lw_p53 : lw_okq (⟨"PassingFramesModel", "editOwn", "(IIII)V"⟩, 50) := ⟨⟨by decide +kernel, by decide +kernel⟩, List.mem_of_getElem? (i := 1006) (by decide +kernel), List.mem_of_getElem? (i := 1349) (by decide +kernel), List.mem_of_getElem? (i := 1350) (by decide +kernel)⟩
theorem lw_p54 : lw_okq (⟨"PassingFramesModel", "editMap", "(IIII)V"⟩, 50) := ⟨⟨by decide +kernel, by decide +kernel⟩, List.mem_of_getElem? (i := 1006) (by decide +kernel), List.mem_of_getElem? (i := 1353) (by decide +kernel), List.mem_of_getElem? (i := 1354) (by decide +kernel)⟩
theorem lw_p55 : lw_okq (⟨"PassingFramesModel", "byteOver", "(III)I"⟩, 50) := ⟨⟨by decide +kernel, by decide +kernel⟩, List.mem_of_getElem? (i := 1006) (by decide +kernel), List.mem_of_getElem? (i := 1357) (by decide +kernel), List.mem_of_getElem? (i := 1358) (by decide +kernel)⟩
theorem lw_p56 : lw_okq (⟨"PassingFramesModel", "trip", "()I"⟩, 50) := ⟨⟨by decide +kernel, by decide +kernel⟩, List.mem_of_getElem? (i := 1006) (by decide +kernel), List.mem_of_getElem? (i := 1361) (by decide +kernel), List.mem_of_getElem? (i := 1362) (by decide +kernel)⟩
theorem lw_p57 : lw_okq (⟨"PassingFramesModel", "isCut", "()Z"⟩, 50) := ⟨⟨by decide +kernel, by decide +kernel⟩, List.mem_of_getElem? (i := 1006) (by decide +kernel), List.mem_of_getElem? (i := 1365) (by decide +kernel), List.mem_of_getElem? (i := 1366) (by decide +kernel)⟩
theorem lw_p58 : lw_okq (⟨"PassingFramesModel", "tripOf", "(II)I"⟩, 50) := ⟨⟨by decide +kernel, by decide +kernel⟩, List.mem_of_getElem? (i := 1006) (by decide +kernel), List.mem_of_getElem? (i := 1369) (by decide +kernel), List.mem_of_getElem? (i := 1370) (by decide +kernel)⟩
theorem lw_p59 : lw_okq (⟨"PassingFramesModel", "isLost", "()Z"⟩, 50) := ⟨⟨by decide +kernel, by decide +kernel⟩, List.mem_of_getElem? (i := 1006) (by decide +kernel), List.mem_of_getElem? (i := 1373) (by decide +kernel), List.mem_of_getElem? (i := 1374) (by decide +kernel)⟩
theorem lw_p60 : lw_okq (⟨"PassingFramesModel", "joins", "()V"⟩, 50) := ⟨⟨by decide +kernel, by decide +kernel⟩, List.mem_of_getElem? (i := 1006) (by decide +kernel), List.mem_of_getElem? (i := 1377) (by decide +kernel), List.mem_of_getElem? (i := 1378) (by decide +kernel)⟩
theorem lw_p61 : lw_okq (⟨"PassingFramesModel", "keeps", "(I)V"⟩, 50) := ⟨⟨by decide +kernel, by decide +kernel⟩, List.mem_of_getElem? (i := 1006) (by decide +kernel), List.mem_of_getElem? (i := 1381) (by decide +kernel), List.mem_of_getElem? (i := 1382) (by decide +kernel)⟩
theorem lw_p62 : lw_okq (⟨"PassingFramesModel", "keptAt", "(I)I"⟩, 50) := ⟨⟨by decide +kernel, by decide +kernel⟩, List.mem_of_getElem? (i := 1006) (by decide +kernel), List.mem_of_getElem? (i := 1385) (by decide +kernel), List.mem_of_getElem? (i := 1386) (by decide +kernel)⟩
theorem lw_p63 : lw_okq (⟨"PassingFramesModel", "takesOff", "(I)I"⟩, 50) := ⟨⟨by decide +kernel, by decide +kernel⟩, List.mem_of_getElem? (i := 1006) (by decide +kernel), List.mem_of_getElem? (i := 1406) (by decide +kernel), List.mem_of_getElem? (i := 1407) (by decide +kernel)⟩
def lw_privs_4 : List (MethodName × Nat) := [(⟨"PassingFramesModel", "goes", "()V"⟩, 50), (⟨"PassingFramesModel", "goesOut", "(I)V"⟩, 50), (⟨"PassingFramesModel", "whenBy", "(I)I"⟩, 50), (⟨"PassingFramesModel", "wires", "(II)I"⟩, 50), (⟨"PassingFramesModel", "edit", "(IIII)V"⟩, 50), (⟨"PassingFramesModel", "editOwn", "(IIII)V"⟩, 50), (⟨"PassingFramesModel", "editMap", "(IIII)V"⟩, 50), (⟨"PassingFramesModel", "byteOver", "(III)I"⟩, 50), (⟨"PassingFramesModel", "trip", "()I"⟩, 50), (⟨"PassingFramesModel", "isCut", "()Z"⟩, 50), (⟨"PassingFramesModel", "tripOf", "(II)I"⟩, 50), (⟨"PassingFramesModel", "isLost", "()Z"⟩, 50), (⟨"PassingFramesModel", "joins", "()V"⟩, 50), (⟨"PassingFramesModel", "keeps", "(I)V"⟩, 50), (⟨"PassingFramesModel", "keptAt", "(I)I"⟩, 50), (⟨"PassingFramesModel", "takesOff", "(I)I"⟩, 50)]
theorem lw_r4 : ∀ q ∈ lw_privs_4, lw_okq q := List.forall_mem_cons.mpr ⟨lw_p48, List.forall_mem_cons.mpr ⟨lw_p49, List.forall_mem_cons.mpr ⟨lw_p50, List.forall_mem_cons.mpr ⟨lw_p51, List.forall_mem_cons.mpr ⟨lw_p52, List.forall_mem_cons.mpr ⟨lw_p53, List.forall_mem_cons.mpr ⟨lw_p54, List.forall_mem_cons.mpr ⟨lw_p55, List.forall_mem_cons.mpr ⟨lw_p56, List.forall_mem_cons.mpr ⟨lw_p57, List.forall_mem_cons.mpr ⟨lw_p58, List.forall_mem_cons.mpr ⟨lw_p59, List.forall_mem_cons.mpr ⟨lw_p60, List.forall_mem_cons.mpr ⟨lw_p61, List.forall_mem_cons.mpr ⟨lw_p62, List.forall_mem_cons.mpr ⟨lw_p63, fun _ h => absurd h List.not_mem_nil⟩⟩⟩⟩⟩⟩⟩⟩⟩⟩⟩⟩⟩⟩⟩⟩
theorem lw_p64 : lw_okq (⟨"PassingFramesModel", "isTalkedTo", "(I)Z"⟩, 50) := ⟨⟨by decide +kernel, by decide +kernel⟩, List.mem_of_getElem? (i := 1006) (by decide +kernel), List.mem_of_getElem? (i := 1414) (by decide +kernel), List.mem_of_getElem? (i := 1415) (by decide +kernel)⟩
theorem lw_p65 : lw_okq (⟨"PassingFramesModel", "pushes", "(I)I"⟩, 50) := ⟨⟨by decide +kernel, by decide +kernel⟩, List.mem_of_getElem? (i := 1006) (by decide +kernel), List.mem_of_getElem? (i := 1422) (by decide +kernel), List.mem_of_getElem? (i := 1423) (by decide +kernel)⟩
theorem lw_p66 : lw_okq (⟨"PassingFramesModel", "gone", "(I)J"⟩, 50) := ⟨⟨by decide +kernel, by decide +kernel⟩, List.mem_of_getElem? (i := 1006) (by decide +kernel), List.mem_of_getElem? (i := 1443) (by decide +kernel), List.mem_of_getElem? (i := 1444) (by decide +kernel)⟩
def lw_privs_5 : List (MethodName × Nat) := [(⟨"PassingFramesModel", "isTalkedTo", "(I)Z"⟩, 50), (⟨"PassingFramesModel", "pushes", "(I)I"⟩, 50), (⟨"PassingFramesModel", "gone", "(I)J"⟩, 50)]
theorem lw_r5 : ∀ q ∈ lw_privs_5, lw_okq q := List.forall_mem_cons.mpr ⟨lw_p64, List.forall_mem_cons.mpr ⟨lw_p65, List.forall_mem_cons.mpr ⟨lw_p66, fun _ h => absurd h List.not_mem_nil⟩⟩⟩
def lw_privs : List (MethodName × Nat) := lw_privs_1 ++ (lw_privs_2 ++ (lw_privs_3 ++ (lw_privs_4 ++ (lw_privs_5))))
def lw_tbl : List Cond := k2_sels lw_privs ++ tables_1
theorem lw_privs_ok : ∀ q ∈ lw_privs, lw_okq q := by
  show ∀ q ∈ lw_privs_1 ++ (lw_privs_2 ++ (lw_privs_3 ++ (lw_privs_4 ++ (lw_privs_5)))), lw_okq q
  exact List.forall_mem_append.mpr ⟨lw_r1, List.forall_mem_append.mpr ⟨lw_r2, List.forall_mem_append.mpr ⟨lw_r3, List.forall_mem_append.mpr ⟨lw_r4, lw_r5⟩⟩⟩⟩
end
section

def RX0 : String := "PassingFrames$Cargo"
def TX0 : u_T := fun k => match k with
  | 0 => ("PassingFrames$Cargo", "bytes", "[I", true)
  | 1 => ("PassingFrames$Cargo", "came", "[I", true)
  | _ => ("PassingFrames$Cargo", "counter", "I", false)
def tyX0 : Nat → FieldType := fun k => match k with
  | 0 => .array .int
  | 1 => .array .int
  | _ => .int
abbrev wsX00 : List Cond := u_ws RX0 TX0 3
theorem nmX0 : ∀ a, a < 3 → ∀ b, b < 3 → a ≠ b → (TX0 a).2.1 ≠ (TX0 b).2.1 := by decide +kernel
theorem tyX0_ok : ∀ k, k < 3 → parseFieldDescriptor (TX0 k).2.2.1 = some (tyX0 k) := by decide +kernel
abbrev cX0_init : ByteArray := prog_2_method_1_code
def yX0_init : MethodName := ⟨RX0, "<init>", "()V"⟩
abbrev cX0_load : ByteArray := prog_2_method_2_code
def yX0_load : MethodName := ⟨RX0, "load", "([I)V"⟩
abbrev cX0_arrive : ByteArray := prog_2_method_3_code
def yX0_arrive : MethodName := ⟨RX0, "arrive", "()V"⟩
def RX1 : String := "PassingFrames$Clocks"
def TX1 : u_T := fun k => match k with
  | 0 => ("PassingFrames$Clocks", "ring", "LPassingFrames$Ring;", true)
  | 1 => ("PassingFrames$Clocks", "timesOut", "[I", true)
  | _ => ("PassingFrames$Clocks", "timesBack", "[I", true)
def tyX1 : Nat → FieldType := fun k => match k with
  | 0 => .object "PassingFrames$Ring"
  | 1 => .array .int
  | _ => .array .int
abbrev wsX10 : List Cond := u_ws RX1 TX1 3
theorem nmX1 : ∀ a, a < 3 → ∀ b, b < 3 → a ≠ b → (TX1 a).2.1 ≠ (TX1 b).2.1 := by decide +kernel
theorem tyX1_ok : ∀ k, k < 3 → parseFieldDescriptor (TX1 k).2.2.1 = some (tyX1 k) := by decide +kernel
abbrev cX1_init : ByteArray := prog_3_method_1_code
def yX1_init : MethodName := ⟨RX1, "<init>", "(LPassingFrames$Ring;)V"⟩
abbrev cX1_synchronize : ByteArray := prog_3_method_2_code
def yX1_synchronize : MethodName := ⟨RX1, "synchronize", "()I"⟩
abbrev cX1_turnBefore : ByteArray := prog_3_method_3_code
def yX1_turnBefore : MethodName := ⟨RX1, "turnBefore", "(II)I"⟩
abbrev cX1_setTimes : ByteArray := prog_3_method_4_code
def yX1_setTimes : MethodName := ⟨RX1, "setTimes", "(I)V"⟩
abbrev cX1_setDelays : ByteArray := prog_3_method_5_code
def yX1_setDelays : MethodName := ⟨RX1, "setDelays", "(I)V"⟩
abbrev cX1_gap : ByteArray := prog_3_method_6_code
def yX1_gap : MethodName := ⟨RX1, "gap", "(I)I"⟩
abbrev cX1_setOffsets : ByteArray := prog_3_method_7_code
def yX1_setOffsets : MethodName := ⟨RX1, "setOffsets", "(I)V"⟩
abbrev cX1_correct : ByteArray := prog_3_method_8_code
def yX1_correct : MethodName := ⟨RX1, "correct", "(I)I"⟩
abbrev cX1_spread : ByteArray := prog_3_method_9_code
def yX1_spread : MethodName := ⟨RX1, "spread", "()I"⟩
def RX2 : String := "PassingFrames$Datagram"
def TX2 : u_T := fun k => match k with
  | 0 => ("PassingFrames$Datagram", "command", "I", false)
  | 1 => ("PassingFrames$Datagram", "address", "I", false)
  | 2 => ("PassingFrames$Datagram", "offset", "I", false)
  | 3 => ("PassingFrames$Datagram", "length", "I", false)
  | 4 => ("PassingFrames$Datagram", "bytes", "[I", true)
  | 5 => ("PassingFrames$Datagram", "cargoA", "LPassingFrames$Cargo;", true)
  | 6 => ("PassingFrames$Datagram", "cargoB", "LPassingFrames$Cargo;", true)
  | 7 => ("PassingFrames$Datagram", "homeBytes", "[I", true)
  | 8 => ("PassingFrames$Datagram", "homeCounter", "I", false)
  | _ => ("PassingFrames$Datagram", "homeLength", "I", false)
def tyX2 : Nat → FieldType := fun k => match k with
  | 0 => .int
  | 1 => .int
  | 2 => .int
  | 3 => .int
  | 4 => .array .int
  | 5 => .object "PassingFrames$Cargo"
  | 6 => .object "PassingFrames$Cargo"
  | 7 => .array .int
  | 8 => .int
  | _ => .int
abbrev wsX20 : List Cond := u_ws RX2 TX2 10
theorem nmX2 : ∀ a, a < 10 → ∀ b, b < 10 → a ≠ b → (TX2 a).2.1 ≠ (TX2 b).2.1 := by decide +kernel
theorem tyX2_ok : ∀ k, k < 10 → parseFieldDescriptor (TX2 k).2.2.1 = some (tyX2 k) := by decide +kernel
abbrev cX2_init : ByteArray := prog_4_method_1_code
def yX2_init : MethodName := ⟨RX2, "<init>", "()V"⟩
abbrev cX2_begin : ByteArray := prog_4_method_2_code
def yX2_begin : MethodName := ⟨RX2, "begin", "()V"⟩
abbrev cX2_order : ByteArray := prog_4_method_3_code
def yX2_order : MethodName := ⟨RX2, "order", "(IIII)V"⟩
abbrev cX2_leave : ByteArray := prog_4_method_4_code
def yX2_leave : MethodName := ⟨RX2, "leave", "()V"⟩
abbrev cX2_edit : ByteArray := prog_4_method_5_code
def yX2_edit : MethodName := ⟨RX2, "edit", "(LPassingFrames$Cargo;LPassingFrames$Device;I)V"⟩
abbrev cX2_addressing : ByteArray := prog_4_method_6_code
def yX2_addressing : MethodName := ⟨RX2, "addressing", "()I"⟩
abbrev cX2_means : ByteArray := prog_4_method_7_code
def yX2_means : MethodName := ⟨RX2, "means", "(LPassingFrames$Device;I)Z"⟩
abbrev cX2_combines : ByteArray := prog_4_method_8_code
def yX2_combines : MethodName := ⟨RX2, "combines", "()Z"⟩
abbrev cX2_mayRead : ByteArray := prog_4_method_9_code
def yX2_mayRead : MethodName := ⟨RX2, "mayRead", "(LPassingFrames$Device;)Z"⟩
abbrev cX2_mayWrite : ByteArray := prog_4_method_10_code
def yX2_mayWrite : MethodName := ⟨RX2, "mayWrite", "(LPassingFrames$Device;)Z"⟩
abbrev cX2_readInto : ByteArray := prog_4_method_11_code
def yX2_readInto : MethodName := ⟨RX2, "readInto", "(LPassingFrames$Cargo;LPassingFrames$Device;)Z"⟩
abbrev cX2_writeFrom : ByteArray := prog_4_method_12_code
def yX2_writeFrom : MethodName := ⟨RX2, "writeFrom", "(LPassingFrames$Cargo;LPassingFrames$Device;)Z"⟩
abbrev cX2_byteOver : ByteArray := prog_4_method_13_code
def yX2_byteOver : MethodName := ⟨RX2, "byteOver", "(ILPassingFrames$Overlay;)I"⟩
abbrev cX2_comeHome : ByteArray := prog_4_method_14_code
def yX2_comeHome : MethodName := ⟨RX2, "comeHome", "(Z)V"⟩
abbrev cX2_joinedByte : ByteArray := prog_4_method_15_code
def yX2_joinedByte : MethodName := ⟨RX2, "joinedByte", "(I)I"⟩
abbrev cX2_likeness : ByteArray := prog_4_method_16_code
def yX2_likeness : MethodName := ⟨RX2, "likeness", "()I"⟩
def RX3 : String := "PassingFrames$Device"
def TX3 : u_T := fun k => match k with
  | 0 => ("PassingFrames$Device", "bytes", "[I", true)
  | 1 => ("PassingFrames$Device", "readMap", "LPassingFrames$Overlay;", true)
  | 2 => ("PassingFrames$Device", "writeMap", "LPassingFrames$Overlay;", true)
  | 3 => ("PassingFrames$Device", "boxes", "LPassingFrames$Mailboxes;", true)
  | 4 => ("PassingFrames$Device", "number", "I", false)
  | 5 => ("PassingFrames$Device", "start", "I", false)
  | 6 => ("PassingFrames$Device", "rate", "I", false)
  | 7 => ("PassingFrames$Device", "state", "I", false)
  | 8 => ("PassingFrames$Device", "offset", "I", false)
  | _ => ("PassingFrames$Device", "delay", "I", false)
def tyX3 : Nat → FieldType := fun k => match k with
  | 0 => .array .int
  | 1 => .object "PassingFrames$Overlay"
  | 2 => .object "PassingFrames$Overlay"
  | 3 => .object "PassingFrames$Mailboxes"
  | 4 => .int
  | 5 => .int
  | 6 => .int
  | 7 => .int
  | 8 => .int
  | _ => .int
abbrev wsX30 : List Cond := u_ws RX3 TX3 10
theorem nmX3 : ∀ a, a < 10 → ∀ b, b < 10 → a ≠ b → (TX3 a).2.1 ≠ (TX3 b).2.1 := by decide +kernel
theorem tyX3_ok : ∀ k, k < 10 → parseFieldDescriptor (TX3 k).2.2.1 = some (tyX3 k) := by decide +kernel
abbrev cX3_init : ByteArray := prog_5_method_1_code
def yX3_init : MethodName := ⟨RX3, "<init>", "()V"⟩
abbrev cX3_begin : ByteArray := prog_5_method_2_code
def yX3_begin : MethodName := ⟨RX3, "begin", "(III)V"⟩
abbrev cX3_enter : ByteArray := prog_5_method_3_code
def yX3_enter : MethodName := ⟨RX3, "enter", "(I)V"⟩
abbrev cX3_overlay : ByteArray := prog_5_method_4_code
def yX3_overlay : MethodName := ⟨RX3, "overlay", "(I)LPassingFrames$Overlay;"⟩
abbrev cX3_ownClock : ByteArray := prog_5_method_5_code
def yX3_ownClock : MethodName := ⟨RX3, "ownClock", "(I)I"⟩
abbrev cX3_systemClock : ByteArray := prog_5_method_6_code
def yX3_systemClock : MethodName := ⟨RX3, "systemClock", "(I)I"⟩
abbrev cX3_showAt : ByteArray := prog_5_method_7_code
def yX3_showAt : MethodName := ⟨RX3, "showAt", "(I)V"⟩
def RX4 : String := "PassingFrames$Expectations"
def TX4 : u_T := fun k => match k with
  | 0 => ("PassingFrames$Expectations", "likenesses", "[I", true)
  | 1 => ("PassingFrames$Expectations", "counters", "[I", true)
  | _ => ("PassingFrames$Expectations", "size", "I", false)
def tyX4 : Nat → FieldType := fun k => match k with
  | 0 => .array .int
  | 1 => .array .int
  | _ => .int
abbrev wsX40 : List Cond := u_ws RX4 TX4 3
theorem nmX4 : ∀ a, a < 3 → ∀ b, b < 3 → a ≠ b → (TX4 a).2.1 ≠ (TX4 b).2.1 := by decide +kernel
theorem tyX4_ok : ∀ k, k < 3 → parseFieldDescriptor (TX4 k).2.2.1 = some (tyX4 k) := by decide +kernel
abbrev cX4_init : ByteArray := prog_6_method_1_code
def yX4_init : MethodName := ⟨RX4, "<init>", "()V"⟩
abbrev cX4_empty : ByteArray := prog_6_method_2_code
def yX4_empty : MethodName := ⟨RX4, "empty", "()V"⟩
abbrev cX4_size : ByteArray := prog_6_method_3_code
def yX4_size : MethodName := ⟨RX4, "size", "()I"⟩
abbrev cX4_indexOf : ByteArray := prog_6_method_4_code
def yX4_indexOf : MethodName := ⟨RX4, "indexOf", "(I)I"⟩
abbrev cX4_counterOf : ByteArray := prog_6_method_5_code
def yX4_counterOf : MethodName := ⟨RX4, "counterOf", "(I)I"⟩
abbrev cX4_remember : ByteArray := prog_6_method_6_code
def yX4_remember : MethodName := ⟨RX4, "remember", "(II)V"⟩
abbrev cX4_forgetOldest : ByteArray := prog_6_method_7_code
def yX4_forgetOldest : MethodName := ⟨RX4, "forgetOldest", "()V"⟩
def RX5 : String := "PassingFrames$Mailboxes"
def TX5 : u_T := fun k => match k with
  | 0 => ("PassingFrames$Mailboxes", "outbox", "LPassingFrames$Queue;", true)
  | 1 => ("PassingFrames$Mailboxes", "inbox", "LPassingFrames$Queue;", true)
  | 2 => ("PassingFrames$Mailboxes", "outBit", "I", false)
  | 3 => ("PassingFrames$Mailboxes", "inBit", "I", false)
  | 4 => ("PassingFrames$Mailboxes", "masterOutBit", "I", false)
  | 5 => ("PassingFrames$Mailboxes", "masterInBit", "I", false)
  | 6 => ("PassingFrames$Mailboxes", "last", "I", false)
  | _ => ("PassingFrames$Mailboxes", "pending", "I", false)
def tyX5 : Nat → FieldType := fun k => match k with
  | 0 => .object "PassingFrames$Queue"
  | 1 => .object "PassingFrames$Queue"
  | 2 => .int
  | 3 => .int
  | 4 => .int
  | 5 => .int
  | 6 => .int
  | _ => .int
abbrev wsX50 : List Cond := u_ws RX5 TX5 8
theorem nmX5 : ∀ a, a < 8 → ∀ b, b < 8 → a ≠ b → (TX5 a).2.1 ≠ (TX5 b).2.1 := by decide +kernel
theorem tyX5_ok : ∀ k, k < 8 → parseFieldDescriptor (TX5 k).2.2.1 = some (tyX5 k) := by decide +kernel
abbrev cX5_init : ByteArray := prog_7_method_1_code
def yX5_init : MethodName := ⟨RX5, "<init>", "()V"⟩
abbrev cX5_begin : ByteArray := prog_7_method_2_code
def yX5_begin : MethodName := ⟨RX5, "begin", "()V"⟩
abbrev cX5_give : ByteArray := prog_7_method_3_code
def yX5_give : MethodName := ⟨RX5, "give", "()I"⟩
abbrev cX5_confirmGiven : ByteArray := prog_7_method_4_code
def yX5_confirmGiven : MethodName := ⟨RX5, "confirmGiven", "()V"⟩
abbrev cX5_accept : ByteArray := prog_7_method_5_code
def yX5_accept : MethodName := ⟨RX5, "accept", "(I)Z"⟩
abbrev cX5_confirmAccepted : ByteArray := prog_7_method_6_code
def yX5_confirmAccepted : MethodName := ⟨RX5, "confirmAccepted", "()V"⟩
abbrev cX5_property : ByteArray := prog_7_method_7_code
def yX5_property : MethodName := ⟨RX5, "property", "(I)I"⟩
def RX6 : String := "PassingFrames$Master"
def TX6 : u_T := fun k => match k with
  | 0 => ("PassingFrames$Master", "ring", "LPassingFrames$Ring;", true)
  | 1 => ("PassingFrames$Master", "datagrams", "[LPassingFrames$Datagram;", true)
  | 2 => ("PassingFrames$Master", "expectations", "LPassingFrames$Expectations;", true)
  | 3 => ("PassingFrames$Master", "shortOnes", "I", false)
  | _ => ("PassingFrames$Master", "framesToLose", "I", false)
def tyX6 : Nat → FieldType := fun k => match k with
  | 0 => .object "PassingFrames$Ring"
  | 1 => .array (.object "PassingFrames$Datagram")
  | 2 => .object "PassingFrames$Expectations"
  | 3 => .int
  | _ => .int
abbrev wsX60 : List Cond := u_ws RX6 TX6 5
theorem nmX6 : ∀ a, a < 5 → ∀ b, b < 5 → a ≠ b → (TX6 a).2.1 ≠ (TX6 b).2.1 := by decide +kernel
theorem tyX6_ok : ∀ k, k < 5 → parseFieldDescriptor (TX6 k).2.2.1 = some (tyX6 k) := by decide +kernel
abbrev cX6_init : ByteArray := prog_8_method_1_code
def yX6_init : MethodName := ⟨RX6, "<init>", "(LPassingFrames$Ring;)V"⟩
abbrev cX6_begin : ByteArray := prog_8_method_2_code
def yX6_begin : MethodName := ⟨RX6, "begin", "()V"⟩
abbrev cX6_find : ByteArray := prog_8_method_3_code
def yX6_find : MethodName := ⟨RX6, "find", "(I)LPassingFrames$Datagram;"⟩
abbrev cX6_hasCommands : ByteArray := prog_8_method_4_code
def yX6_hasCommands : MethodName := ⟨RX6, "hasCommands", "()Z"⟩
abbrev cX6_shortOnes : ByteArray := prog_8_method_5_code
def yX6_shortOnes : MethodName := ⟨RX6, "shortOnes", "()I"⟩
abbrev cX6_rememberedOnes : ByteArray := prog_8_method_6_code
def yX6_rememberedOnes : MethodName := ⟨RX6, "rememberedOnes", "()I"⟩
abbrev cX6_framesToLose : ByteArray := prog_8_method_7_code
def yX6_framesToLose : MethodName := ⟨RX6, "framesToLose", "()I"⟩
abbrev cX6_replaceLosses : ByteArray := prog_8_method_8_code
def yX6_replaceLosses : MethodName := ⟨RX6, "replaceLosses", "(I)I"⟩
abbrev cX6_expectedOf : ByteArray := prog_8_method_9_code
def yX6_expectedOf : MethodName := ⟨RX6, "expectedOf", "(LPassingFrames$Datagram;)I"⟩
abbrev cX6_frameComesHome : ByteArray := prog_8_method_10_code
def yX6_frameComesHome : MethodName := ⟨RX6, "frameComesHome", "()Z"⟩
abbrev cX6_sendFrame : ByteArray := prog_8_method_11_code
def yX6_sendFrame : MethodName := ⟨RX6, "sendFrame", "()I"⟩
abbrev cX6_passA : ByteArray := prog_8_method_12_code
def yX6_passA : MethodName := ⟨RX6, "passA", "()V"⟩
abbrev cX6_passB : ByteArray := prog_8_method_13_code
def yX6_passB : MethodName := ⟨RX6, "passB", "()V"⟩
abbrev cX6_receive : ByteArray := prog_8_method_14_code
def yX6_receive : MethodName := ⟨RX6, "receive", "()I"⟩
abbrev cX6_compare : ByteArray := prog_8_method_15_code
def yX6_compare : MethodName := ⟨RX6, "compare", "(LPassingFrames$Datagram;)V"⟩
def RX7 : String := "PassingFrames$Overlay"
def TX7 : u_T := fun k => match k with
  | 0 => ("PassingFrames$Overlay", "place", "I", false)
  | 1 => ("PassingFrames$Overlay", "length", "I", false)
  | _ => ("PassingFrames$Overlay", "firstByte", "I", false)
def tyX7 : Nat → FieldType := fun k => match k with
  | 0 => .int
  | 1 => .int
  | _ => .int
abbrev wsX70 : List Cond := u_ws RX7 TX7 3
theorem nmX7 : ∀ a, a < 3 → ∀ b, b < 3 → a ≠ b → (TX7 a).2.1 ≠ (TX7 b).2.1 := by decide +kernel
theorem tyX7_ok : ∀ k, k < 3 → parseFieldDescriptor (TX7 k).2.2.1 = some (tyX7 k) := by decide +kernel
abbrev cX7_init : ByteArray := prog_9_method_1_code
def yX7_init : MethodName := ⟨RX7, "<init>", "()V"⟩
abbrev cX7_lie : ByteArray := prog_9_method_2_code
def yX7_lie : MethodName := ⟨RX7, "lie", "(III)V"⟩
abbrev cX7_remove : ByteArray := prog_9_method_3_code
def yX7_remove : MethodName := ⟨RX7, "remove", "()V"⟩
abbrev cX7_exists : ByteArray := prog_9_method_4_code
def yX7_exists : MethodName := ⟨RX7, "exists", "()Z"⟩
abbrev cX7_meets : ByteArray := prog_9_method_5_code
def yX7_meets : MethodName := ⟨RX7, "meets", "(II)Z"⟩
abbrev cX7_byteOver : ByteArray := prog_9_method_6_code
def yX7_byteOver : MethodName := ⟨RX7, "byteOver", "(I)I"⟩
def RX8 : String := "PassingFrames$Queue"
def TX8 : u_T := fun k => match k with
  | 0 => ("PassingFrames$Queue", "messages", "[I", true)
  | _ => ("PassingFrames$Queue", "size", "I", false)
def tyX8 : Nat → FieldType := fun k => match k with
  | 0 => .array .int
  | _ => .int
abbrev wsX80 : List Cond := u_ws RX8 TX8 2
theorem nmX8 : ∀ a, a < 2 → ∀ b, b < 2 → a ≠ b → (TX8 a).2.1 ≠ (TX8 b).2.1 := by decide +kernel
theorem tyX8_ok : ∀ k, k < 2 → parseFieldDescriptor (TX8 k).2.2.1 = some (tyX8 k) := by decide +kernel
abbrev cX8_init : ByteArray := prog_10_method_1_code
def yX8_init : MethodName := ⟨RX8, "<init>", "()V"⟩
abbrev cX8_size : ByteArray := prog_10_method_2_code
def yX8_size : MethodName := ⟨RX8, "size", "()I"⟩
abbrev cX8_empty : ByteArray := prog_10_method_3_code
def yX8_empty : MethodName := ⟨RX8, "empty", "()V"⟩
abbrev cX8_append : ByteArray := prog_10_method_4_code
def yX8_append : MethodName := ⟨RX8, "append", "(I)Z"⟩
abbrev cX8_removeOldest : ByteArray := prog_10_method_5_code
def yX8_removeOldest : MethodName := ⟨RX8, "removeOldest", "()I"⟩
def RX9 : String := "PassingFrames$Ring"
def TX9 : u_T := fun k => match k with
  | 0 => ("PassingFrames$Ring", "devices", "[LPassingFrames$Device;", true)
  | 1 => ("PassingFrames$Ring", "wires", "[I", true)
  | 2 => ("PassingFrames$Ring", "cuts", "[I", true)
  | 3 => ("PassingFrames$Ring", "size", "I", false)
  | 4 => ("PassingFrames$Ring", "pass", "I", false)
  | 5 => ("PassingFrames$Ring", "turn", "I", false)
  | _ => ("PassingFrames$Ring", "time", "I", false)
def tyX9 : Nat → FieldType := fun k => match k with
  | 0 => .array (.object "PassingFrames$Device")
  | 1 => .array .int
  | 2 => .array .int
  | 3 => .int
  | 4 => .int
  | 5 => .int
  | _ => .int
abbrev wsX90 : List Cond := u_ws RX9 TX9 7
theorem nmX9 : ∀ a, a < 7 → ∀ b, b < 7 → a ≠ b → (TX9 a).2.1 ≠ (TX9 b).2.1 := by decide +kernel
theorem tyX9_ok : ∀ k, k < 7 → parseFieldDescriptor (TX9 k).2.2.1 = some (tyX9 k) := by decide +kernel
abbrev cX9_init : ByteArray := prog_11_method_1_code
def yX9_init : MethodName := ⟨RX9, "<init>", "()V"⟩
abbrev cX9_build : ByteArray := prog_11_method_2_code
def yX9_build : MethodName := ⟨RX9, "build", "(LPassingFrames$Text;)V"⟩
abbrev cX9_find : ByteArray := prog_11_method_3_code
def yX9_find : MethodName := ⟨RX9, "find", "(I)LPassingFrames$Device;"⟩
abbrev cX9_size : ByteArray := prog_11_method_4_code
def yX9_size : MethodName := ⟨RX9, "size", "()I"⟩
abbrev cX9_time : ByteArray := prog_11_method_5_code
def yX9_time : MethodName := ⟨RX9, "time", "()I"⟩
abbrev cX9_pass : ByteArray := prog_11_method_6_code
def yX9_pass : MethodName := ⟨RX9, "pass", "()I"⟩
abbrev cX9_turn : ByteArray := prog_11_method_7_code
def yX9_turn : MethodName := ⟨RX9, "turn", "()I"⟩
abbrev cX9_passTime : ByteArray := prog_11_method_8_code
def yX9_passTime : MethodName := ⟨RX9, "passTime", "(I)V"⟩
abbrev cX9_wireTime : ByteArray := prog_11_method_9_code
def yX9_wireTime : MethodName := ⟨RX9, "wireTime", "(I)I"⟩
abbrev cX9_wireTimes : ByteArray := prog_11_method_10_code
def yX9_wireTimes : MethodName := ⟨RX9, "wireTimes", "(II)I"⟩
abbrev cX9_changeWire : ByteArray := prog_11_method_11_code
def yX9_changeWire : MethodName := ⟨RX9, "changeWire", "(II)Z"⟩
abbrev cX9_cutWires : ByteArray := prog_11_method_12_code
def yX9_cutWires : MethodName := ⟨RX9, "cutWires", "()I"⟩
abbrev cX9_sizeOfA : ByteArray := prog_11_method_13_code
def yX9_sizeOfA : MethodName := ⟨RX9, "sizeOfA", "()I"⟩
abbrev cX9_firstOfB : ByteArray := prog_11_method_14_code
def yX9_firstOfB : MethodName := ⟨RX9, "firstOfB", "()I"⟩
abbrev cX9_sizeOfB : ByteArray := prog_11_method_15_code
def yX9_sizeOfB : MethodName := ⟨RX9, "sizeOfB", "()I"⟩
abbrev cX9_sideOf : ByteArray := prog_11_method_16_code
def yX9_sideOf : MethodName := ⟨RX9, "sideOf", "(I)I"⟩
abbrev cX9_isReached : ByteArray := prog_11_method_17_code
def yX9_isReached : MethodName := ⟨RX9, "isReached", "(I)Z"⟩
abbrev cX9_timeOnA : ByteArray := prog_11_method_18_code
def yX9_timeOnA : MethodName := ⟨RX9, "timeOnA", "(I)I"⟩
abbrev cX9_timeOnB : ByteArray := prog_11_method_19_code
def yX9_timeOnB : MethodName := ⟨RX9, "timeOnB", "(I)I"⟩
abbrev cX9_trip : ByteArray := prog_11_method_20_code
def yX9_trip : MethodName := ⟨RX9, "trip", "()I"⟩
abbrev cX9_sideTrip : ByteArray := prog_11_method_21_code
def yX9_sideTrip : MethodName := ⟨RX9, "sideTrip", "(II)I"⟩
abbrev cX9_isTaken : ByteArray := prog_11_method_22_code
def yX9_isTaken : MethodName := ⟨RX9, "isTaken", "(IIII)Z"⟩
def RX10 : String := "PassingFrames$Text"
def TX10 : u_T := fun k => match k with
  | 0 => ("PassingFrames$Text", "signs", "[C", true)
  | 1 => ("PassingFrames$Text", "numbers", "[I", true)
  | 2 => ("PassingFrames$Text", "wires", "[I", true)
  | 3 => ("PassingFrames$Text", "starts", "[I", true)
  | 4 => ("PassingFrames$Text", "rates", "[I", true)
  | 5 => ("PassingFrames$Text", "length", "I", false)
  | 6 => ("PassingFrames$Text", "devices", "I", false)
  | 7 => ("PassingFrames$Text", "lastWire", "I", false)
  | 8 => ("PassingFrames$Text", "pass", "I", false)
  | _ => ("PassingFrames$Text", "turn", "I", false)
def tyX10 : Nat → FieldType := fun k => match k with
  | 0 => .array .char
  | 1 => .array .int
  | 2 => .array .int
  | 3 => .array .int
  | 4 => .array .int
  | 5 => .int
  | 6 => .int
  | 7 => .int
  | 8 => .int
  | _ => .int
abbrev wsX100 : List Cond := u_ws RX10 TX10 10
theorem nmX10 : ∀ a, a < 10 → ∀ b, b < 10 → a ≠ b → (TX10 a).2.1 ≠ (TX10 b).2.1 := by decide +kernel
theorem tyX10_ok : ∀ k, k < 10 → parseFieldDescriptor (TX10 k).2.2.1 = some (tyX10 k) := by decide +kernel
abbrev cX10_init : ByteArray := prog_12_method_1_code
def yX10_init : MethodName := ⟨RX10, "<init>", "()V"⟩
abbrev cX10_append : ByteArray := prog_12_method_2_code
def yX10_append : MethodName := ⟨RX10, "append", "(C)Z"⟩
abbrev cX10_empty : ByteArray := prog_12_method_3_code
def yX10_empty : MethodName := ⟨RX10, "empty", "()V"⟩
abbrev cX10_length : ByteArray := prog_12_method_4_code
def yX10_length : MethodName := ⟨RX10, "length", "()I"⟩
abbrev cX10_devices : ByteArray := prog_12_method_5_code
def yX10_devices : MethodName := ⟨RX10, "devices", "()I"⟩
abbrev cX10_readRing : ByteArray := prog_12_method_6_code
def yX10_readRing : MethodName := ⟨RX10, "readRing", "()I"⟩
abbrev cX10_readDevice : ByteArray := prog_12_method_7_code
def yX10_readDevice : MethodName := ⟨RX10, "readDevice", "(I)Z"⟩
abbrev cX10_hasNumber : ByteArray := prog_12_method_8_code
def yX10_hasNumber : MethodName := ⟨RX10, "hasNumber", "(I)Z"⟩
abbrev cX10_readEnd : ByteArray := prog_12_method_9_code
def yX10_readEnd : MethodName := ⟨RX10, "readEnd", "(I)Z"⟩
abbrev cX10_has : ByteArray := prog_12_method_10_code
def yX10_has : MethodName := ⟨RX10, "has", "(IC)Z"⟩
abbrev cX10_numberAt : ByteArray := prog_12_method_11_code
def yX10_numberAt : MethodName := ⟨RX10, "numberAt", "(II)I"⟩
def RX11 : String := "PassingFrames"
def TX11 : u_T := fun k => match k with
  | 0 => ("PassingFrames", "text", "LPassingFrames$Text;", true)
  | 1 => ("PassingFrames", "ring", "LPassingFrames$Ring;", true)
  | 2 => ("PassingFrames", "clocks", "LPassingFrames$Clocks;", true)
  | _ => ("PassingFrames", "master", "LPassingFrames$Master;", true)
def tyX11 : Nat → FieldType := fun k => match k with
  | 0 => .object "PassingFrames$Text"
  | 1 => .object "PassingFrames$Ring"
  | 2 => .object "PassingFrames$Clocks"
  | _ => .object "PassingFrames$Master"
abbrev wsX110 : List Cond := u_ws RX11 TX11 4
theorem nmX11 : ∀ a, a < 4 → ∀ b, b < 4 → a ≠ b → (TX11 a).2.1 ≠ (TX11 b).2.1 := by decide +kernel
theorem tyX11_ok : ∀ k, k < 4 → parseFieldDescriptor (TX11 k).2.2.1 = some (tyX11 k) := by decide +kernel
abbrev cX11_init : ByteArray := prog_1_method_1_code
def yX11_init : MethodName := ⟨RX11, "<init>", "()V"⟩
abbrev cX11_write : ByteArray := prog_1_method_2_code
def yX11_write : MethodName := ⟨RX11, "write", "(I)I"⟩
abbrev cX11_wipe : ByteArray := prog_1_method_3_code
def yX11_wipe : MethodName := ⟨RX11, "wipe", "()I"⟩
abbrev cX11_fault : ByteArray := prog_1_method_4_code
def yX11_fault : MethodName := ⟨RX11, "fault", "()I"⟩
abbrev cX11_lay : ByteArray := prog_1_method_5_code
def yX11_lay : MethodName := ⟨RX11, "lay", "()I"⟩
abbrev cX11_device : ByteArray := prog_1_method_6_code
def yX11_device : MethodName := ⟨RX11, "device", "(II)I"⟩
abbrev cX11_memory : ByteArray := prog_1_method_7_code
def yX11_memory : MethodName := ⟨RX11, "memory", "(II)I"⟩
abbrev cX11_own : ByteArray := prog_1_method_8_code
def yX11_own : MethodName := ⟨RX11, "own", "(III)I"⟩
abbrev cX11_cut : ByteArray := prog_1_method_9_code
def yX11_cut : MethodName := ⟨RX11, "cut", "(II)I"⟩
abbrev cX11_lose : ByteArray := prog_1_method_10_code
def yX11_lose : MethodName := ⟨RX11, "lose", "(I)I"⟩
abbrev cX11_state : ByteArray := prog_1_method_11_code
def yX11_state : MethodName := ⟨RX11, "state", "(II)I"⟩
abbrev cX11_map : ByteArray := prog_1_method_12_code
def yX11_map : MethodName := ⟨RX11, "map", "(IIIII)I"⟩
abbrev cX11_unmap : ByteArray := prog_1_method_13_code
def yX11_unmap : MethodName := ⟨RX11, "unmap", "(II)I"⟩
abbrev cX11_mapped : ByteArray := prog_1_method_14_code
def yX11_mapped : MethodName := ⟨RX11, "mapped", "(III)I"⟩
abbrev cX11_findOverlay : ByteArray := prog_1_method_15_code
def yX11_findOverlay : MethodName := ⟨RX11, "findOverlay", "(II)LPassingFrames$Overlay;"⟩
abbrev cX11_gram : ByteArray := prog_1_method_16_code
def yX11_gram : MethodName := ⟨RX11, "gram", "(IIIII)I"⟩
abbrev cX11_isAddress : ByteArray := prog_1_method_17_code
def yX11_isAddress : MethodName := ⟨RX11, "isAddress", "(III)Z"⟩
abbrev cX11_clear : ByteArray := prog_1_method_18_code
def yX11_clear : MethodName := ⟨RX11, "clear", "(I)I"⟩
abbrev cX11_put : ByteArray := prog_1_method_19_code
def yX11_put : MethodName := ⟨RX11, "put", "(III)I"⟩
abbrev cX11_send : ByteArray := prog_1_method_20_code
def yX11_send : MethodName := ⟨RX11, "send", "()I"⟩
abbrev cX11_home : ByteArray := prog_1_method_21_code
def yX11_home : MethodName := ⟨RX11, "home", "(II)I"⟩
abbrev cX11_expected : ByteArray := prog_1_method_22_code
def yX11_expected : MethodName := ⟨RX11, "expected", "(I)I"⟩
abbrev cX11_tell : ByteArray := prog_1_method_23_code
def yX11_tell : MethodName := ⟨RX11, "tell", "(II)I"⟩
abbrev cX11_take : ByteArray := prog_1_method_24_code
def yX11_take : MethodName := ⟨RX11, "take", "(I)I"⟩
abbrev cX11_fetch : ByteArray := prog_1_method_25_code
def yX11_fetch : MethodName := ⟨RX11, "fetch", "(I)I"⟩
abbrev cX11_push : ByteArray := prog_1_method_26_code
def yX11_push : MethodName := ⟨RX11, "push", "(II)I"⟩
abbrev cX11_again : ByteArray := prog_1_method_27_code
def yX11_again : MethodName := ⟨RX11, "again", "(I)I"⟩
abbrev cX11_deliver : ByteArray := prog_1_method_28_code
def yX11_deliver : MethodName := ⟨RX11, "deliver", "(LPassingFrames$Mailboxes;I)I"⟩
abbrev cX11_box : ByteArray := prog_1_method_29_code
def yX11_box : MethodName := ⟨RX11, "box", "(II)I"⟩
abbrev cX11_later : ByteArray := prog_1_method_30_code
def yX11_later : MethodName := ⟨RX11, "later", "(I)I"⟩
abbrev cX11_level : ByteArray := prog_1_method_31_code
def yX11_level : MethodName := ⟨RX11, "level", "()I"⟩
abbrev cX11_steer : ByteArray := prog_1_method_32_code
def yX11_steer : MethodName := ⟨RX11, "steer", "(I)I"⟩
abbrev cX11_clock : ByteArray := prog_1_method_33_code
def yX11_clock : MethodName := ⟨RX11, "clock", "(II)I"⟩
abbrev cX11_apart : ByteArray := prog_1_method_34_code
def yX11_apart : MethodName := ⟨RX11, "apart", "()I"⟩
abbrev cX11_count : ByteArray := prog_1_method_35_code
def yX11_count : MethodName := ⟨RX11, "count", "(I)I"⟩
abbrev cX11_isWithin : ByteArray := prog_1_method_36_code
def yX11_isWithin : MethodName := ⟨RX11, "isWithin", "(III)Z"⟩
abbrev cX11_isByte : ByteArray := prog_1_method_37_code
def yX11_isByte : MethodName := ⟨RX11, "isByte", "(I)Z"⟩
abbrev cX11_isMessage : ByteArray := prog_1_method_38_code
def yX11_isMessage : MethodName := ⟨RX11, "isMessage", "(I)Z"⟩
def RX12 : String := "PassingFramesModel"
def TX12 : u_T := fun k => match k with
  | 0 => ("PassingFramesModel", "length", "I", false)
  | 1 => ("PassingFramesModel", "text", "[I", true)
  | 2 => ("PassingFramesModel", "spot", "I", false)
  | 3 => ("PassingFramesModel", "readMany", "I", false)
  | 4 => ("PassingFramesModel", "readNumber", "[I", true)
  | 5 => ("PassingFramesModel", "readWire", "[I", true)
  | 6 => ("PassingFramesModel", "readStart", "[I", true)
  | 7 => ("PassingFramesModel", "readRate", "[I", true)
  | 8 => ("PassingFramesModel", "readPass", "I", false)
  | 9 => ("PassingFramesModel", "readTurn", "I", false)
  | 10 => ("PassingFramesModel", "many", "I", false)
  | 11 => ("PassingFramesModel", "number", "[I", true)
  | 12 => ("PassingFramesModel", "wire", "[I", true)
  | 13 => ("PassingFramesModel", "start", "[I", true)
  | 14 => ("PassingFramesModel", "rate", "[I", true)
  | 15 => ("PassingFramesModel", "pass", "I", false)
  | 16 => ("PassingFramesModel", "turn", "I", false)
  | 17 => ("PassingFramesModel", "cuts", "[I", true)
  | 18 => ("PassingFramesModel", "state", "[I", true)
  | 19 => ("PassingFramesModel", "bytes", "[I", true)
  | 20 => ("PassingFramesModel", "offset", "[I", true)
  | 21 => ("PassingFramesModel", "delay", "[I", true)
  | 22 => ("PassingFramesModel", "time", "I", false)
  | 23 => ("PassingFramesModel", "toLose", "I", false)
  | 24 => ("PassingFramesModel", "mapPlace", "[I", true)
  | 25 => ("PassingFramesModel", "mapMany", "[I", true)
  | 26 => ("PassingFramesModel", "mapByte", "[I", true)
  | 27 => ("PassingFramesModel", "box", "[I", true)
  | 28 => ("PassingFramesModel", "boxMany", "[I", true)
  | 29 => ("PassingFramesModel", "boxBit", "[I", true)
  | 30 => ("PassingFramesModel", "masterBit", "[I", true)
  | 31 => ("PassingFramesModel", "last", "[I", true)
  | 32 => ("PassingFramesModel", "pending", "[I", true)
  | 33 => ("PassingFramesModel", "command", "[I", true)
  | 34 => ("PassingFramesModel", "address", "[I", true)
  | 35 => ("PassingFramesModel", "from", "[I", true)
  | 36 => ("PassingFramesModel", "count", "[I", true)
  | 37 => ("PassingFramesModel", "puts", "[I", true)
  | 38 => ("PassingFramesModel", "frame", "[I", true)
  | 39 => ("PassingFramesModel", "counter", "[I", true)
  | 40 => ("PassingFramesModel", "isHome", "Z", false)
  | 41 => ("PassingFramesModel", "homeMany", "[I", true)
  | 42 => ("PassingFramesModel", "homeCounter", "[I", true)
  | 43 => ("PassingFramesModel", "homeBytes", "[I", true)
  | 44 => ("PassingFramesModel", "kept", "I", false)
  | 45 => ("PassingFramesModel", "keep", "[I", true)
  | 46 => ("PassingFramesModel", "shorts", "I", false)
  | 47 => ("PassingFramesModel", "came", "[I", true)
  | 48 => ("PassingFramesModel", "there", "[I", true)
  | _ => ("PassingFramesModel", "back", "[I", true)
def tyX12 : Nat → FieldType := fun k => match k with
  | 0 => .int
  | 1 => .array .int
  | 2 => .int
  | 3 => .int
  | 4 => .array .int
  | 5 => .array .int
  | 6 => .array .int
  | 7 => .array .int
  | 8 => .int
  | 9 => .int
  | 10 => .int
  | 11 => .array .int
  | 12 => .array .int
  | 13 => .array .int
  | 14 => .array .int
  | 15 => .int
  | 16 => .int
  | 17 => .array .int
  | 18 => .array .int
  | 19 => .array .int
  | 20 => .array .int
  | 21 => .array .int
  | 22 => .int
  | 23 => .int
  | 24 => .array .int
  | 25 => .array .int
  | 26 => .array .int
  | 27 => .array .int
  | 28 => .array .int
  | 29 => .array .int
  | 30 => .array .int
  | 31 => .array .int
  | 32 => .array .int
  | 33 => .array .int
  | 34 => .array .int
  | 35 => .array .int
  | 36 => .array .int
  | 37 => .array .int
  | 38 => .array .int
  | 39 => .array .int
  | 40 => .boolean
  | 41 => .array .int
  | 42 => .array .int
  | 43 => .array .int
  | 44 => .int
  | 45 => .array .int
  | 46 => .int
  | 47 => .array .int
  | 48 => .array .int
  | _ => .array .int
abbrev wsX120 : List Cond := u_ws RX12 TX12 50
theorem nmX12 : ∀ a, a < 50 → ∀ b, b < 50 → a ≠ b → (TX12 a).2.1 ≠ (TX12 b).2.1 := by decide +kernel
theorem tyX12_ok : ∀ k, k < 50 → parseFieldDescriptor (TX12 k).2.2.1 = some (tyX12 k) := by decide +kernel
abbrev cX12_init : ByteArray := prog_14_method_1_code
def yX12_init : MethodName := ⟨RX12, "<init>", "()V"⟩
abbrev cX12_in : ByteArray := prog_14_method_2_code
def yX12_in : MethodName := ⟨RX12, "in", "(JJJ)Z"⟩
abbrev cX12_empty : ByteArray := prog_14_method_3_code
def yX12_empty : MethodName := ⟨RX12, "empty", "()V"⟩
abbrev cX12_deviceIs : ByteArray := prog_14_method_4_code
def yX12_deviceIs : MethodName := ⟨RX12, "deviceIs", "(IIII)V"⟩
abbrev cX12_write : ByteArray := prog_14_method_5_code
def yX12_write : MethodName := ⟨RX12, "write", "(I)I"⟩
abbrev cX12_wipe : ByteArray := prog_14_method_6_code
def yX12_wipe : MethodName := ⟨RX12, "wipe", "()I"⟩
abbrev cX12_letterAt : ByteArray := prog_14_method_7_code
def yX12_letterAt : MethodName := ⟨RX12, "letterAt", "(I)I"⟩
abbrev cX12_figures : ByteArray := prog_14_method_8_code
def yX12_figures : MethodName := ⟨RX12, "figures", "(I)I"⟩
abbrev cX12_ends : ByteArray := prog_14_method_9_code
def yX12_ends : MethodName := ⟨RX12, "ends", "()Z"⟩
abbrev cX12_deviceItem : ByteArray := prog_14_method_10_code
def yX12_deviceItem : MethodName := ⟨RX12, "deviceItem", "()Z"⟩
abbrev cX12_endItem : ByteArray := prog_14_method_11_code
def yX12_endItem : MethodName := ⟨RX12, "endItem", "()Z"⟩
abbrev cX12_readAll : ByteArray := prog_14_method_12_code
def yX12_readAll : MethodName := ⟨RX12, "readAll", "()I"⟩
abbrev cX12_fault : ByteArray := prog_14_method_13_code
def yX12_fault : MethodName := ⟨RX12, "fault", "()I"⟩
abbrev cX12_lay : ByteArray := prog_14_method_14_code
def yX12_lay : MethodName := ⟨RX12, "lay", "()I"⟩
abbrev cX12_begin : ByteArray := prog_14_method_15_code
def yX12_begin : MethodName := ⟨RX12, "begin", "()V"⟩
abbrev cX12_becomeInit : ByteArray := prog_14_method_16_code
def yX12_becomeInit : MethodName := ⟨RX12, "becomeInit", "(I)V"⟩
abbrev cX12_isDevice : ByteArray := prog_14_method_17_code
def yX12_isDevice : MethodName := ⟨RX12, "isDevice", "(I)Z"⟩
abbrev cX12_sideA : ByteArray := prog_14_method_18_code
def yX12_sideA : MethodName := ⟨RX12, "sideA", "()I"⟩
abbrev cX12_isCut : ByteArray := prog_14_method_19_code
def yX12_isCut : MethodName := ⟨RX12, "isCut", "()Z"⟩
abbrev cX12_firstB : ByteArray := prog_14_method_20_code
def yX12_firstB : MethodName := ⟨RX12, "firstB", "()I"⟩
abbrev cX12_sideOf : ByteArray := prog_14_method_21_code
def yX12_sideOf : MethodName := ⟨RX12, "sideOf", "(I)I"⟩
abbrev cX12_wires : ByteArray := prog_14_method_22_code
def yX12_wires : MethodName := ⟨RX12, "wires", "(II)I"⟩
abbrev cX12_whenBy : ByteArray := prog_14_method_23_code
def yX12_whenBy : MethodName := ⟨RX12, "whenBy", "(I)I"⟩
abbrev cX12_tripOf : ByteArray := prog_14_method_24_code
def yX12_tripOf : MethodName := ⟨RX12, "tripOf", "(II)I"⟩
abbrev cX12_trip : ByteArray := prog_14_method_25_code
def yX12_trip : MethodName := ⟨RX12, "trip", "()I"⟩
abbrev cX12_ownAt : ByteArray := prog_14_method_26_code
def yX12_ownAt : MethodName := ⟨RX12, "ownAt", "(II)J"⟩
abbrev cX12_systemAt : ByteArray := prog_14_method_27_code
def yX12_systemAt : MethodName := ⟨RX12, "systemAt", "(II)J"⟩
abbrev cX12_byteAt : ByteArray := prog_14_method_28_code
def yX12_byteAt : MethodName := ⟨RX12, "byteAt", "(III)I"⟩
abbrev cX12_device : ByteArray := prog_14_method_29_code
def yX12_device : MethodName := ⟨RX12, "device", "(II)I"⟩
abbrev cX12_memory : ByteArray := prog_14_method_30_code
def yX12_memory : MethodName := ⟨RX12, "memory", "(II)I"⟩
abbrev cX12_own : ByteArray := prog_14_method_31_code
def yX12_own : MethodName := ⟨RX12, "own", "(III)I"⟩
abbrev cX12_cutMany : ByteArray := prog_14_method_32_code
def yX12_cutMany : MethodName := ⟨RX12, "cutMany", "()I"⟩
abbrev cX12_cut : ByteArray := prog_14_method_33_code
def yX12_cut : MethodName := ⟨RX12, "cut", "(II)I"⟩
abbrev cX12_lose : ByteArray := prog_14_method_34_code
def yX12_lose : MethodName := ⟨RX12, "lose", "(I)I"⟩
abbrev cX12_state : ByteArray := prog_14_method_35_code
def yX12_state : MethodName := ⟨RX12, "state", "(II)I"⟩
abbrev cX12_map : ByteArray := prog_14_method_36_code
def yX12_map : MethodName := ⟨RX12, "map", "(IIIII)I"⟩
abbrev cX12_unmap : ByteArray := prog_14_method_37_code
def yX12_unmap : MethodName := ⟨RX12, "unmap", "(II)I"⟩
abbrev cX12_mapped : ByteArray := prog_14_method_38_code
def yX12_mapped : MethodName := ⟨RX12, "mapped", "(III)I"⟩
abbrev cX12_isGram : ByteArray := prog_14_method_39_code
def yX12_isGram : MethodName := ⟨RX12, "isGram", "(IIII)Z"⟩
abbrev cX12_gram : ByteArray := prog_14_method_40_code
def yX12_gram : MethodName := ⟨RX12, "gram", "(IIIII)I"⟩
abbrev cX12_clear : ByteArray := prog_14_method_41_code
def yX12_clear : MethodName := ⟨RX12, "clear", "(I)I"⟩
abbrev cX12_put : ByteArray := prog_14_method_42_code
def yX12_put : MethodName := ⟨RX12, "put", "(III)I"⟩
abbrev cX12_editOwn : ByteArray := prog_14_method_43_code
def yX12_editOwn : MethodName := ⟨RX12, "editOwn", "(IIII)V"⟩
abbrev cX12_byteOver : ByteArray := prog_14_method_44_code
def yX12_byteOver : MethodName := ⟨RX12, "byteOver", "(III)I"⟩
abbrev cX12_editMap : ByteArray := prog_14_method_45_code
def yX12_editMap : MethodName := ⟨RX12, "editMap", "(IIII)V"⟩
abbrev cX12_edit : ByteArray := prog_14_method_46_code
def yX12_edit : MethodName := ⟨RX12, "edit", "(IIII)V"⟩
abbrev cX12_goesOut : ByteArray := prog_14_method_47_code
def yX12_goesOut : MethodName := ⟨RX12, "goesOut", "(I)V"⟩
abbrev cX12_goes : ByteArray := prog_14_method_48_code
def yX12_goes : MethodName := ⟨RX12, "goes", "()V"⟩
abbrev cX12_joins : ByteArray := prog_14_method_49_code
def yX12_joins : MethodName := ⟨RX12, "joins", "()V"⟩
abbrev cX12_keptAt : ByteArray := prog_14_method_50_code
def yX12_keptAt : MethodName := ⟨RX12, "keptAt", "(I)I"⟩
abbrev cX12_keeps : ByteArray := prog_14_method_51_code
def yX12_keeps : MethodName := ⟨RX12, "keeps", "(I)V"⟩
abbrev cX12_isLost : ByteArray := prog_14_method_52_code
def yX12_isLost : MethodName := ⟨RX12, "isLost", "()Z"⟩
abbrev cX12_send : ByteArray := prog_14_method_53_code
def yX12_send : MethodName := ⟨RX12, "send", "()I"⟩
abbrev cX12_home : ByteArray := prog_14_method_54_code
def yX12_home : MethodName := ⟨RX12, "home", "(II)I"⟩
abbrev cX12_expected : ByteArray := prog_14_method_55_code
def yX12_expected : MethodName := ⟨RX12, "expected", "(I)I"⟩
abbrev cX12_isTalkedTo : ByteArray := prog_14_method_56_code
def yX12_isTalkedTo : MethodName := ⟨RX12, "isTalkedTo", "(I)Z"⟩
abbrev cX12_tell : ByteArray := prog_14_method_57_code
def yX12_tell : MethodName := ⟨RX12, "tell", "(II)I"⟩
abbrev cX12_takesOff : ByteArray := prog_14_method_58_code
def yX12_takesOff : MethodName := ⟨RX12, "takesOff", "(I)I"⟩
abbrev cX12_take : ByteArray := prog_14_method_59_code
def yX12_take : MethodName := ⟨RX12, "take", "(I)I"⟩
abbrev cX12_fetch : ByteArray := prog_14_method_60_code
def yX12_fetch : MethodName := ⟨RX12, "fetch", "(I)I"⟩
abbrev cX12_pushes : ByteArray := prog_14_method_61_code
def yX12_pushes : MethodName := ⟨RX12, "pushes", "(I)I"⟩
abbrev cX12_push : ByteArray := prog_14_method_62_code
def yX12_push : MethodName := ⟨RX12, "push", "(II)I"⟩
abbrev cX12_again : ByteArray := prog_14_method_63_code
def yX12_again : MethodName := ⟨RX12, "again", "(I)I"⟩
abbrev cX12_box : ByteArray := prog_14_method_64_code
def yX12_box : MethodName := ⟨RX12, "box", "(II)I"⟩
abbrev cX12_later : ByteArray := prog_14_method_65_code
def yX12_later : MethodName := ⟨RX12, "later", "(I)I"⟩
abbrev cX12_gone : ByteArray := prog_14_method_66_code
def yX12_gone : MethodName := ⟨RX12, "gone", "(I)J"⟩
abbrev cX12_level : ByteArray := prog_14_method_67_code
def yX12_level : MethodName := ⟨RX12, "level", "()I"⟩
abbrev cX12_steer : ByteArray := prog_14_method_68_code
def yX12_steer : MethodName := ⟨RX12, "steer", "(I)I"⟩
abbrev cX12_clock : ByteArray := prog_14_method_69_code
def yX12_clock : MethodName := ⟨RX12, "clock", "(II)I"⟩
abbrev cX12_apart : ByteArray := prog_14_method_70_code
def yX12_apart : MethodName := ⟨RX12, "apart", "()I"⟩
abbrev cX12_count : ByteArray := prog_14_method_71_code
def yX12_count : MethodName := ⟨RX12, "count", "(I)I"⟩
def RJx145de : String := "java/io/Serializable"
def TJx145de : u_T := fun k => match k with
  | _ => ("", "", "", false)
def tyJx145de : Nat → FieldType := fun k => match k with
  | _ => .int
abbrev wsJx145de0 : List Cond := u_ws RJx145de TJx145de 0
theorem nmJx145de : ∀ a, a < 0 → ∀ b, b < 0 → a ≠ b → (TJx145de a).2.1 ≠ (TJx145de b).2.1 := by decide +kernel
theorem tyJx145de_ok : ∀ k, k < 0 → parseFieldDescriptor (TJx145de k).2.2.1 = some (tyJx145de k) := by decide +kernel
def RJx9f9b0 : String := "java/lang/CharSequence"
def TJx9f9b0 : u_T := fun k => match k with
  | _ => ("", "", "", false)
def tyJx9f9b0 : Nat → FieldType := fun k => match k with
  | _ => .int
abbrev wsJx9f9b00 : List Cond := u_ws RJx9f9b0 TJx9f9b0 0
theorem nmJx9f9b0 : ∀ a, a < 0 → ∀ b, b < 0 → a ≠ b → (TJx9f9b0 a).2.1 ≠ (TJx9f9b0 b).2.1 := by decide +kernel
theorem tyJx9f9b0_ok : ∀ k, k < 0 → parseFieldDescriptor (TJx9f9b0 k).2.2.1 = some (tyJx9f9b0 k) := by decide +kernel
def RJxb160c : String := "java/lang/Comparable"
def TJxb160c : u_T := fun k => match k with
  | _ => ("", "", "", false)
def tyJxb160c : Nat → FieldType := fun k => match k with
  | _ => .int
abbrev wsJxb160c0 : List Cond := u_ws RJxb160c TJxb160c 0
theorem nmJxb160c : ∀ a, a < 0 → ∀ b, b < 0 → a ≠ b → (TJxb160c a).2.1 ≠ (TJxb160c b).2.1 := by decide +kernel
theorem tyJxb160c_ok : ∀ k, k < 0 → parseFieldDescriptor (TJxb160c k).2.2.1 = some (tyJxb160c k) := by decide +kernel
def RJ9 : String := "java/lang/Math"
def TJ9 : u_T := fun k => match k with
  | _ => ("", "", "", false)
def tyJ9 : Nat → FieldType := fun k => match k with
  | _ => .int
abbrev wsJ90 : List Cond := u_ws RJ9 TJ9 0
theorem nmJ9 : ∀ a, a < 0 → ∀ b, b < 0 → a ≠ b → (TJ9 a).2.1 ≠ (TJ9 b).2.1 := by decide +kernel
theorem tyJ9_ok : ∀ k, k < 0 → parseFieldDescriptor (TJ9 k).2.2.1 = some (tyJ9 k) := by decide +kernel
abbrev cJ9_floorDiv_7cf53 : ByteArray := prog_15_method_47_code
def yJ9_floorDiv_7cf53 : MethodName := ⟨RJ9, "floorDiv", "(II)I"⟩
abbrev cJ9_floorMod_7cf53 : ByteArray := prog_15_method_50_code
def yJ9_floorMod_7cf53 : MethodName := ⟨RJ9, "floorMod", "(II)I"⟩
abbrev cJ9_abs_0f7a4 : ByteArray := prog_15_method_59_code
def yJ9_abs_0f7a4 : MethodName := ⟨RJ9, "abs", "(I)I"⟩
abbrev cJ9_max_7cf53 : ByteArray := prog_15_method_65_code
def yJ9_max_7cf53 : MethodName := ⟨RJ9, "max", "(II)I"⟩
abbrev cJ9_min_7cf53 : ByteArray := prog_15_method_69_code
def yJ9_min_7cf53 : MethodName := ⟨RJ9, "min", "(II)I"⟩
def RJ0 : String := "java/lang/String"
def TJ0 : u_T := fun k => match k with
  | _ => ("", "", "", false)
def tyJ0 : Nat → FieldType := fun k => match k with
  | _ => .int
abbrev wsJ00 : List Cond := u_ws RJ0 TJ0 0
theorem nmJ0 : ∀ a, a < 0 → ∀ b, b < 0 → a ≠ b → (TJ0 a).2.1 ≠ (TJ0 b).2.1 := by decide +kernel
theorem tyJ0_ok : ∀ k, k < 0 → parseFieldDescriptor (TJ0 k).2.2.1 = some (tyJ0 k) := by decide +kernel
abbrev cJ0_length_8abf5 : ByteArray := prog_16_method_54_code
def yJ0_length_8abf5 : MethodName := ⟨RJ0, "length", "()I"⟩
abbrev cJ0_charAt_5068e : ByteArray := prog_16_method_56_code
def yJ0_charAt_5068e : MethodName := ⟨RJ0, "charAt", "(I)C"⟩
abbrev cJ0_coder_7d493 : ByteArray := prog_16_method_152_code
def yJ0_coder_7d493 : MethodName := ⟨RJ0, "coder", "()B"⟩
abbrev cJ0_isLatin1_aae02 : ByteArray := prog_16_method_154_code
def yJ0_isLatin1_aae02 : MethodName := ⟨RJ0, "isLatin1", "()Z"⟩
abbrev cJ0_checkIndex_df160 : ByteArray := prog_16_method_155_code
def yJ0_checkIndex_df160 : MethodName := ⟨RJ0, "checkIndex", "(II)V"⟩
def RJ1 : String := "java/lang/StringLatin1"
def TJ1 : u_T := fun k => match k with
  | _ => ("", "", "", false)
def tyJ1 : Nat → FieldType := fun k => match k with
  | _ => .int
abbrev wsJ10 : List Cond := u_ws RJ1 TJ1 0
theorem nmJ1 : ∀ a, a < 0 → ∀ b, b < 0 → a ≠ b → (TJ1 a).2.1 ≠ (TJ1 b).2.1 := by decide +kernel
theorem tyJ1_ok : ∀ k, k < 0 → parseFieldDescriptor (TJ1 k).2.2.1 = some (tyJ1 k) := by decide +kernel
abbrev cJ1_charAt_3b067 : ByteArray := prog_17_method_2_code
def yJ1_charAt_3b067 : MethodName := ⟨RJ1, "charAt", "([BI)C"⟩
def RJ2 : String := "java/lang/StringUTF16"
def TJ2 : u_T := fun k => match k with
  | _ => ("", "", "", false)
def tyJ2 : Nat → FieldType := fun k => match k with
  | _ => .int
abbrev wsJ20 : List Cond := u_ws RJ2 TJ2 0
theorem nmJ2 : ∀ a, a < 0 → ∀ b, b < 0 → a ≠ b → (TJ2 a).2.1 ≠ (TJ2 b).2.1 := by decide +kernel
theorem tyJ2_ok : ∀ k, k < 0 → parseFieldDescriptor (TJ2 k).2.2.1 = some (tyJ2 k) := by decide +kernel
abbrev cJ2_getChar_3b067 : ByteArray := prog_18_method_5_code
def yJ2_getChar_3b067 : MethodName := ⟨RJ2, "getChar", "([BI)C"⟩
abbrev cJ2_length_9d52b : ByteArray := prog_18_method_6_code
def yJ2_length_9d52b : MethodName := ⟨RJ2, "length", "([B)I"⟩
abbrev cJ2_charAt_3b067 : ByteArray := prog_18_method_83_code
def yJ2_charAt_3b067 : MethodName := ⟨RJ2, "charAt", "([BI)C"⟩
abbrev cJ2_checkIndex_2214a : ByteArray := prog_18_method_91_code
def yJ2_checkIndex_2214a : MethodName := ⟨RJ2, "checkIndex", "(I[B)V"⟩
def RJ10 : String := "java/lang/System"
def TJ10 : u_T := fun k => match k with
  | _ => ("", "", "", false)
def tyJ10 : Nat → FieldType := fun k => match k with
  | _ => .int
abbrev wsJ100 : List Cond := u_ws RJ10 TJ10 0
theorem nmJ10 : ∀ a, a < 0 → ∀ b, b < 0 → a ≠ b → (TJ10 a).2.1 ≠ (TJ10 b).2.1 := by decide +kernel
theorem tyJ10_ok : ∀ k, k < 0 → parseFieldDescriptor (TJ10 k).2.2.1 = some (tyJ10 k) := by decide +kernel
def RJxfd54e : String := "java/lang/constant/Constable"
def TJxfd54e : u_T := fun k => match k with
  | _ => ("", "", "", false)
def tyJxfd54e : Nat → FieldType := fun k => match k with
  | _ => .int
abbrev wsJxfd54e0 : List Cond := u_ws RJxfd54e TJxfd54e 0
theorem nmJxfd54e : ∀ a, a < 0 → ∀ b, b < 0 → a ≠ b → (TJxfd54e a).2.1 ≠ (TJxfd54e b).2.1 := by decide +kernel
theorem tyJxfd54e_ok : ∀ k, k < 0 → parseFieldDescriptor (TJxfd54e k).2.2.1 = some (tyJxfd54e k) := by decide +kernel
def RJx3cf43 : String := "java/lang/constant/ConstantDesc"
def TJx3cf43 : u_T := fun k => match k with
  | _ => ("", "", "", false)
def tyJx3cf43 : Nat → FieldType := fun k => match k with
  | _ => .int
abbrev wsJx3cf430 : List Cond := u_ws RJx3cf43 TJx3cf43 0
theorem nmJx3cf43 : ∀ a, a < 0 → ∀ b, b < 0 → a ≠ b → (TJx3cf43 a).2.1 ≠ (TJx3cf43 b).2.1 := by decide +kernel
theorem tyJx3cf43_ok : ∀ k, k < 0 → parseFieldDescriptor (TJx3cf43 k).2.2.1 = some (tyJx3cf43 k) := by decide +kernel
def RJ7 : String := "java/util/Arrays"
def TJ7 : u_T := fun k => match k with
  | _ => ("", "", "", false)
def tyJ7 : Nat → FieldType := fun k => match k with
  | _ => .int
abbrev wsJ70 : List Cond := u_ws RJ7 TJ7 0
theorem nmJ7 : ∀ a, a < 0 → ∀ b, b < 0 → a ≠ b → (TJ7 a).2.1 ≠ (TJ7 b).2.1 := by decide +kernel
theorem tyJ7_ok : ∀ k, k < 0 → parseFieldDescriptor (TJ7 k).2.2.1 = some (tyJ7 k) := by decide +kernel
abbrev cJ7_fill_53178 : ByteArray := prog_20_method_103_code
def yJ7_fill_53178 : MethodName := ⟨RJ7, "fill", "([II)V"⟩
def RJ3 : String := "jdk/internal/util/Preconditions"
def TJ3 : u_T := fun k => match k with
  | _ => ("", "", "", false)
def tyJ3 : Nat → FieldType := fun k => match k with
  | _ => .int
abbrev wsJ30 : List Cond := u_ws RJ3 TJ3 0
theorem nmJ3 : ∀ a, a < 0 → ∀ b, b < 0 → a ≠ b → (TJ3 a).2.1 ≠ (TJ3 b).2.1 := by decide +kernel
theorem tyJ3_ok : ∀ k, k < 0 → parseFieldDescriptor (TJ3 k).2.2.1 = some (tyJ3 k) := by decide +kernel
abbrev cJ3_checkIndex_8e157 : ByteArray := prog_21_method_11_code
def yJ3_checkIndex_8e157 : MethodName := ⟨RJ3, "checkIndex", "(IILjava/util/function/BiFunction;)I"⟩
def RL : String := "PassingFramesLaw"
abbrev cL_law : ByteArray := code
def yL_law : MethodName := ⟨RL, "law", "([I)Z"⟩
abbrev vwCl : List vw_C := [(RX0, TX0, 3), (RX1, TX1, 3), (RX2, TX2, 10), (RX3, TX3, 10), (RX4, TX4, 3), (RX5, TX5, 8), (RX6, TX6, 5), (RX7, TX7, 3), (RX8, TX8, 2), (RX9, TX9, 7), (RX10, TX10, 10), (RX11, TX11, 4), (RX12, TX12, 50)]
end
section
theorem dX0_init_0 : decode cX0_init 0 = .ok (.aload_n 0, 1) := by decide +kernel
theorem dX0_init_1 : decode cX0_init 1 = .ok (.invokespecial 3, 3) := by decide +kernel
theorem dX0_init_4 : decode cX0_init 4 = .ok (.aload_n 0, 1) := by decide +kernel
theorem dX0_init_5 : decode cX0_init 5 = .ok (.bipush 8, 2) := by decide +kernel
theorem dX0_init_7 : decode cX0_init 7 = .ok (.newarray .int, 2) := by decide +kernel
theorem dX0_init_9 : decode cX0_init 9 = .ok (.putfield 9, 3) := by decide +kernel
theorem dX0_init_12 : decode cX0_init 12 = .ok (.aload_n 0, 1) := by decide +kernel
theorem dX0_init_13 : decode cX0_init 13 = .ok (.bipush 8, 2) := by decide +kernel
theorem dX0_init_15 : decode cX0_init 15 = .ok (.newarray .int, 2) := by decide +kernel
theorem dX0_init_17 : decode cX0_init 17 = .ok (.putfield 15, 3) := by decide +kernel
theorem dX0_init_20 : decode cX0_init 20 = .ok (.return_, 1) := by decide +kernel
theorem dX0_load_0 : decode cX0_load 0 = .ok (.aload_n 1, 1) := by decide +kernel
theorem dX0_load_1 : decode cX0_load 1 = .ok (.iconst 0, 1) := by decide +kernel
theorem dX0_load_2 : decode cX0_load 2 = .ok (.aload_n 0, 1) := by decide +kernel
theorem dX0_load_3 : decode cX0_load 3 = .ok (.getfield 9, 3) := by decide +kernel
theorem dX0_load_6 : decode cX0_load 6 = .ok (.iconst 0, 1) := by decide +kernel
theorem dX0_load_7 : decode cX0_load 7 = .ok (.bipush 8, 2) := by decide +kernel
theorem dX0_load_9 : decode cX0_load 9 = .ok (.invokestatic 18, 3) := by decide +kernel
theorem dX0_load_12 : decode cX0_load 12 = .ok (.aload_n 0, 1) := by decide +kernel
theorem dX0_load_13 : decode cX0_load 13 = .ok (.iconst 0, 1) := by decide +kernel
theorem dX0_load_14 : decode cX0_load 14 = .ok (.putfield 24, 3) := by decide +kernel
theorem dX0_load_17 : decode cX0_load 17 = .ok (.return_, 1) := by decide +kernel
theorem dX0_arrive_0 : decode cX0_arrive 0 = .ok (.aload_n 0, 1) := by decide +kernel
theorem dX0_arrive_1 : decode cX0_arrive 1 = .ok (.getfield 9, 3) := by decide +kernel
theorem dX0_arrive_4 : decode cX0_arrive 4 = .ok (.iconst 0, 1) := by decide +kernel
theorem dX0_arrive_5 : decode cX0_arrive 5 = .ok (.aload_n 0, 1) := by decide +kernel
theorem dX0_arrive_6 : decode cX0_arrive 6 = .ok (.getfield 15, 3) := by decide +kernel
theorem dX0_arrive_9 : decode cX0_arrive 9 = .ok (.iconst 0, 1) := by decide +kernel
theorem dX0_arrive_10 : decode cX0_arrive 10 = .ok (.bipush 8, 2) := by decide +kernel
theorem dX0_arrive_12 : decode cX0_arrive 12 = .ok (.invokestatic 18, 3) := by decide +kernel
theorem dX0_arrive_15 : decode cX0_arrive 15 = .ok (.return_, 1) := by decide +kernel
theorem dX1_init_0 : decode cX1_init 0 = .ok (.aload_n 0, 1) := by decide +kernel
theorem dX1_init_1 : decode cX1_init 1 = .ok (.invokespecial 3, 3) := by decide +kernel
theorem dX1_init_4 : decode cX1_init 4 = .ok (.aload_n 0, 1) := by decide +kernel
theorem dX1_init_5 : decode cX1_init 5 = .ok (.bipush 8, 2) := by decide +kernel
theorem dX1_init_7 : decode cX1_init 7 = .ok (.newarray .int, 2) := by decide +kernel
theorem dX1_init_9 : decode cX1_init 9 = .ok (.putfield 9, 3) := by decide +kernel
theorem dX1_init_12 : decode cX1_init 12 = .ok (.aload_n 0, 1) := by decide +kernel
theorem dX1_init_13 : decode cX1_init 13 = .ok (.bipush 8, 2) := by decide +kernel
theorem dX1_init_15 : decode cX1_init 15 = .ok (.newarray .int, 2) := by decide +kernel
theorem dX1_init_17 : decode cX1_init 17 = .ok (.putfield 15, 3) := by decide +kernel
theorem dX1_init_20 : decode cX1_init 20 = .ok (.aload_n 0, 1) := by decide +kernel
theorem dX1_init_21 : decode cX1_init 21 = .ok (.aload_n 1, 1) := by decide +kernel
theorem dX1_init_22 : decode cX1_init 22 = .ok (.putfield 18, 3) := by decide +kernel
theorem dX1_init_25 : decode cX1_init 25 = .ok (.return_, 1) := by decide +kernel
theorem dX1_synchronize_0 : decode cX1_synchronize 0 = .ok (.aload_n 0, 1) := by decide +kernel
theorem dX1_synchronize_1 : decode cX1_synchronize 1 = .ok (.getfield 18, 3) := by decide +kernel
theorem dX1_synchronize_4 : decode cX1_synchronize 4 = .ok (.invokevirtual 22, 3) := by decide +kernel
theorem dX1_synchronize_7 : decode cX1_synchronize 7 = .ok (.iconst 1, 1) := by decide +kernel
theorem dX1_synchronize_8 : decode cX1_synchronize 8 = .ok (.isub, 1) := by decide +kernel
theorem dX1_synchronize_9 : decode cX1_synchronize 9 = .ok (.istore_n 1, 1) := by decide +kernel
theorem dX1_synchronize_10 : decode cX1_synchronize 10 = .ok (.iload_n 1, 1) := by decide +kernel
theorem dX1_synchronize_11 : decode cX1_synchronize 11 = .ok (.ifCond .ge 6, 3) := by decide +kernel
theorem dX1_synchronize_14 : decode cX1_synchronize 14 = .ok (.bipush (-2), 2) := by decide +kernel
theorem dX1_synchronize_16 : decode cX1_synchronize 16 = .ok (.ireturn, 1) := by decide +kernel
theorem dX1_synchronize_17 : decode cX1_synchronize 17 = .ok (.aload_n 0, 1) := by decide +kernel
theorem dX1_synchronize_18 : decode cX1_synchronize 18 = .ok (.iload_n 1, 1) := by decide +kernel
theorem dX1_synchronize_19 : decode cX1_synchronize 19 = .ok (.invokevirtual 28, 3) := by decide +kernel
theorem dX1_synchronize_22 : decode cX1_synchronize 22 = .ok (.aload_n 0, 1) := by decide +kernel
theorem dX1_synchronize_23 : decode cX1_synchronize 23 = .ok (.iload_n 1, 1) := by decide +kernel
theorem dX1_synchronize_24 : decode cX1_synchronize 24 = .ok (.invokevirtual 32, 3) := by decide +kernel
theorem dX1_synchronize_27 : decode cX1_synchronize 27 = .ok (.aload_n 0, 1) := by decide +kernel
theorem dX1_synchronize_28 : decode cX1_synchronize 28 = .ok (.iload_n 1, 1) := by decide +kernel
theorem dX1_synchronize_29 : decode cX1_synchronize 29 = .ok (.invokevirtual 35, 3) := by decide +kernel
theorem dX1_synchronize_32 : decode cX1_synchronize 32 = .ok (.aload_n 0, 1) := by decide +kernel
theorem dX1_synchronize_33 : decode cX1_synchronize 33 = .ok (.getfield 15, 3) := by decide +kernel
theorem dX1_synchronize_36 : decode cX1_synchronize 36 = .ok (.iconst 0, 1) := by decide +kernel
theorem dX1_synchronize_37 : decode cX1_synchronize 37 = .ok (.iaload, 1) := by decide +kernel
theorem dX1_synchronize_38 : decode cX1_synchronize 38 = .ok (.aload_n 0, 1) := by decide +kernel
theorem dX1_synchronize_39 : decode cX1_synchronize 39 = .ok (.getfield 18, 3) := by decide +kernel
theorem dX1_synchronize_42 : decode cX1_synchronize 42 = .ok (.iconst 0, 1) := by decide +kernel
theorem dX1_synchronize_43 : decode cX1_synchronize 43 = .ok (.invokevirtual 38, 3) := by decide +kernel
theorem dX1_synchronize_46 : decode cX1_synchronize 46 = .ok (.iadd, 1) := by decide +kernel
theorem dX1_synchronize_47 : decode cX1_synchronize 47 = .ok (.aload_n 0, 1) := by decide +kernel
theorem dX1_synchronize_48 : decode cX1_synchronize 48 = .ok (.iconst 0, 1) := by decide +kernel
theorem dX1_synchronize_49 : decode cX1_synchronize 49 = .ok (.iload_n 1, 1) := by decide +kernel
theorem dX1_synchronize_50 : decode cX1_synchronize 50 = .ok (.invokevirtual 42, 3) := by decide +kernel
theorem dX1_synchronize_53 : decode cX1_synchronize 53 = .ok (.iadd, 1) := by decide +kernel
theorem dX1_synchronize_54 : decode cX1_synchronize 54 = .ok (.istore_n 2, 1) := by decide +kernel
theorem dX1_synchronize_55 : decode cX1_synchronize 55 = .ok (.aload_n 0, 1) := by decide +kernel
theorem dX1_synchronize_56 : decode cX1_synchronize 56 = .ok (.getfield 18, 3) := by decide +kernel
theorem dX1_synchronize_59 : decode cX1_synchronize 59 = .ok (.iload_n 2, 1) := by decide +kernel
theorem dX1_synchronize_60 : decode cX1_synchronize 60 = .ok (.aload_n 0, 1) := by decide +kernel
theorem dX1_synchronize_61 : decode cX1_synchronize 61 = .ok (.getfield 18, 3) := by decide +kernel
theorem dX1_synchronize_64 : decode cX1_synchronize 64 = .ok (.invokevirtual 46, 3) := by decide +kernel
theorem dX1_synchronize_67 : decode cX1_synchronize 67 = .ok (.isub, 1) := by decide +kernel
theorem dX1_synchronize_68 : decode cX1_synchronize 68 = .ok (.invokevirtual 49, 3) := by decide +kernel
theorem dX1_synchronize_71 : decode cX1_synchronize 71 = .ok (.aload_n 0, 1) := by decide +kernel
theorem dX1_synchronize_72 : decode cX1_synchronize 72 = .ok (.getfield 18, 3) := by decide +kernel
theorem dX1_synchronize_75 : decode cX1_synchronize 75 = .ok (.getfield 52, 3) := by decide +kernel
theorem dX1_synchronize_78 : decode cX1_synchronize 78 = .ok (.iload_n 1, 1) := by decide +kernel
theorem dX1_synchronize_79 : decode cX1_synchronize 79 = .ok (.aaload, 1) := by decide +kernel
theorem dX1_synchronize_80 : decode cX1_synchronize 80 = .ok (.getfield 56, 3) := by decide +kernel
theorem dX1_synchronize_83 : decode cX1_synchronize 83 = .ok (.ireturn, 1) := by decide +kernel
theorem dX1_turnBefore_0 : decode cX1_turnBefore 0 = .ok (.iload_n 1, 1) := by decide +kernel
theorem dX1_turnBefore_1 : decode cX1_turnBefore 1 = .ok (.iload_n 2, 1) := by decide +kernel
theorem dX1_turnBefore_2 : decode cX1_turnBefore 2 = .ok (.if_icmp .ne 7, 3) := by decide +kernel
theorem dX1_turnBefore_5 : decode cX1_turnBefore 5 = .ok (.iconst 0, 1) := by decide +kernel
theorem dX1_turnBefore_6 : decode cX1_turnBefore 6 = .ok (.goto 10, 3) := by decide +kernel
theorem dX1_turnBefore_9 : decode cX1_turnBefore 9 = .ok (.aload_n 0, 1) := by decide +kernel
theorem dX1_turnBefore_10 : decode cX1_turnBefore 10 = .ok (.getfield 18, 3) := by decide +kernel
theorem dX1_turnBefore_13 : decode cX1_turnBefore 13 = .ok (.invokevirtual 62, 3) := by decide +kernel
theorem dX1_turnBefore_16 : decode cX1_turnBefore 16 = .ok (.ireturn, 1) := by decide +kernel
theorem dX1_setTimes_0 : decode cX1_setTimes 0 = .ok (.iconst 0, 1) := by decide +kernel
theorem dX1_setTimes_1 : decode cX1_setTimes 1 = .ok (.istore_n 2, 1) := by decide +kernel
theorem dX1_setTimes_2 : decode cX1_setTimes 2 = .ok (.iload_n 2, 1) := by decide +kernel
theorem dX1_setTimes_3 : decode cX1_setTimes 3 = .ok (.iload_n 1, 1) := by decide +kernel
theorem dX1_setTimes_4 : decode cX1_setTimes 4 = .ok (.if_icmp .gt 23, 3) := by decide +kernel
theorem dX1_setTimes_7 : decode cX1_setTimes 7 = .ok (.aload_n 0, 1) := by decide +kernel
theorem dX1_setTimes_8 : decode cX1_setTimes 8 = .ok (.getfield 9, 3) := by decide +kernel
theorem dX1_setTimes_11 : decode cX1_setTimes 11 = .ok (.iload_n 2, 1) := by decide +kernel
theorem dX1_setTimes_12 : decode cX1_setTimes 12 = .ok (.aload_n 0, 1) := by decide +kernel
theorem dX1_setTimes_13 : decode cX1_setTimes 13 = .ok (.getfield 18, 3) := by decide +kernel
theorem dX1_setTimes_16 : decode cX1_setTimes 16 = .ok (.iload_n 2, 1) := by decide +kernel
theorem dX1_setTimes_17 : decode cX1_setTimes 17 = .ok (.invokevirtual 65, 3) := by decide +kernel
theorem dX1_setTimes_20 : decode cX1_setTimes 20 = .ok (.iastore, 1) := by decide +kernel
theorem dX1_setTimes_21 : decode cX1_setTimes 21 = .ok (.iinc 2 1, 3) := by decide +kernel
theorem dX1_setTimes_24 : decode cX1_setTimes 24 = .ok (.goto (-22), 3) := by decide +kernel
theorem dX1_setTimes_27 : decode cX1_setTimes 27 = .ok (.iload_n 1, 1) := by decide +kernel
theorem dX1_setTimes_28 : decode cX1_setTimes 28 = .ok (.istore_n 2, 1) := by decide +kernel
theorem dX1_setTimes_29 : decode cX1_setTimes 29 = .ok (.iload_n 2, 1) := by decide +kernel
theorem dX1_setTimes_30 : decode cX1_setTimes 30 = .ok (.ifCond .lt 65, 3) := by decide +kernel
theorem dX1_setTimes_33 : decode cX1_setTimes 33 = .ok (.aload_n 0, 1) := by decide +kernel
theorem dX1_setTimes_34 : decode cX1_setTimes 34 = .ok (.getfield 15, 3) := by decide +kernel
theorem dX1_setTimes_37 : decode cX1_setTimes 37 = .ok (.iload_n 2, 1) := by decide +kernel
theorem dX1_setTimes_38 : decode cX1_setTimes 38 = .ok (.iload_n 2, 1) := by decide +kernel
theorem dX1_setTimes_39 : decode cX1_setTimes 39 = .ok (.iload_n 1, 1) := by decide +kernel
theorem dX1_setTimes_40 : decode cX1_setTimes 40 = .ok (.if_icmp .ne 20, 3) := by decide +kernel
theorem dX1_setTimes_43 : decode cX1_setTimes 43 = .ok (.aload_n 0, 1) := by decide +kernel
theorem dX1_setTimes_44 : decode cX1_setTimes 44 = .ok (.getfield 9, 3) := by decide +kernel
theorem dX1_setTimes_47 : decode cX1_setTimes 47 = .ok (.iload_n 2, 1) := by decide +kernel
theorem dX1_setTimes_48 : decode cX1_setTimes 48 = .ok (.iaload, 1) := by decide +kernel
theorem dX1_setTimes_49 : decode cX1_setTimes 49 = .ok (.aload_n 0, 1) := by decide +kernel
theorem dX1_setTimes_50 : decode cX1_setTimes 50 = .ok (.getfield 18, 3) := by decide +kernel
theorem dX1_setTimes_53 : decode cX1_setTimes 53 = .ok (.invokevirtual 68, 3) := by decide +kernel
theorem dX1_setTimes_56 : decode cX1_setTimes 56 = .ok (.iadd, 1) := by decide +kernel
theorem dX1_setTimes_57 : decode cX1_setTimes 57 = .ok (.goto 31, 3) := by decide +kernel
theorem dX1_setTimes_60 : decode cX1_setTimes 60 = .ok (.aload_n 0, 1) := by decide +kernel
theorem dX1_setTimes_61 : decode cX1_setTimes 61 = .ok (.getfield 15, 3) := by decide +kernel
theorem dX1_setTimes_64 : decode cX1_setTimes 64 = .ok (.iload_n 2, 1) := by decide +kernel
theorem dX1_setTimes_65 : decode cX1_setTimes 65 = .ok (.iconst 1, 1) := by decide +kernel
theorem dX1_setTimes_66 : decode cX1_setTimes 66 = .ok (.iadd, 1) := by decide +kernel
theorem dX1_setTimes_67 : decode cX1_setTimes 67 = .ok (.iaload, 1) := by decide +kernel
theorem dX1_setTimes_68 : decode cX1_setTimes 68 = .ok (.aload_n 0, 1) := by decide +kernel
theorem dX1_setTimes_69 : decode cX1_setTimes 69 = .ok (.getfield 18, 3) := by decide +kernel
theorem dX1_setTimes_72 : decode cX1_setTimes 72 = .ok (.iload_n 2, 1) := by decide +kernel
theorem dX1_setTimes_73 : decode cX1_setTimes 73 = .ok (.iconst 1, 1) := by decide +kernel
theorem dX1_setTimes_74 : decode cX1_setTimes 74 = .ok (.iadd, 1) := by decide +kernel
theorem dX1_setTimes_75 : decode cX1_setTimes 75 = .ok (.invokevirtual 38, 3) := by decide +kernel
theorem dX1_setTimes_78 : decode cX1_setTimes 78 = .ok (.iadd, 1) := by decide +kernel
theorem dX1_setTimes_79 : decode cX1_setTimes 79 = .ok (.aload_n 0, 1) := by decide +kernel
theorem dX1_setTimes_80 : decode cX1_setTimes 80 = .ok (.iload_n 2, 1) := by decide +kernel
theorem dX1_setTimes_81 : decode cX1_setTimes 81 = .ok (.iconst 1, 1) := by decide +kernel
theorem dX1_setTimes_82 : decode cX1_setTimes 82 = .ok (.iadd, 1) := by decide +kernel
theorem dX1_setTimes_83 : decode cX1_setTimes 83 = .ok (.iload_n 1, 1) := by decide +kernel
theorem dX1_setTimes_84 : decode cX1_setTimes 84 = .ok (.invokevirtual 42, 3) := by decide +kernel
theorem dX1_setTimes_87 : decode cX1_setTimes 87 = .ok (.iadd, 1) := by decide +kernel
theorem dX1_setTimes_88 : decode cX1_setTimes 88 = .ok (.iastore, 1) := by decide +kernel
theorem dX1_setTimes_89 : decode cX1_setTimes 89 = .ok (.iinc 2 (-1), 3) := by decide +kernel
theorem dX1_setTimes_92 : decode cX1_setTimes 92 = .ok (.goto (-63), 3) := by decide +kernel
theorem dX1_setTimes_95 : decode cX1_setTimes 95 = .ok (.return_, 1) := by decide +kernel
theorem dX1_setDelays_0 : decode cX1_setDelays 0 = .ok (.aload_n 0, 1) := by decide +kernel
theorem dX1_setDelays_1 : decode cX1_setDelays 1 = .ok (.getfield 18, 3) := by decide +kernel
theorem dX1_setDelays_4 : decode cX1_setDelays 4 = .ok (.getfield 52, 3) := by decide +kernel
theorem dX1_setDelays_7 : decode cX1_setDelays 7 = .ok (.iconst 0, 1) := by decide +kernel
theorem dX1_setDelays_8 : decode cX1_setDelays 8 = .ok (.aaload, 1) := by decide +kernel
theorem dX1_setDelays_9 : decode cX1_setDelays 9 = .ok (.iconst 0, 1) := by decide +kernel
theorem dX1_setDelays_10 : decode cX1_setDelays 10 = .ok (.putfield 56, 3) := by decide +kernel
theorem dX1_setDelays_13 : decode cX1_setDelays 13 = .ok (.iconst 1, 1) := by decide +kernel
theorem dX1_setDelays_14 : decode cX1_setDelays 14 = .ok (.istore_n 2, 1) := by decide +kernel
theorem dX1_setDelays_15 : decode cX1_setDelays 15 = .ok (.iload_n 2, 1) := by decide +kernel
theorem dX1_setDelays_16 : decode cX1_setDelays 16 = .ok (.iload_n 1, 1) := by decide +kernel
theorem dX1_setDelays_17 : decode cX1_setDelays 17 = .ok (.if_icmp .gt 84, 3) := by decide +kernel
theorem dX1_setDelays_20 : decode cX1_setDelays 20 = .ok (.aload_n 0, 1) := by decide +kernel
theorem dX1_setDelays_21 : decode cX1_setDelays 21 = .ok (.iload_n 2, 1) := by decide +kernel
theorem dX1_setDelays_22 : decode cX1_setDelays 22 = .ok (.iconst 1, 1) := by decide +kernel
theorem dX1_setDelays_23 : decode cX1_setDelays 23 = .ok (.isub, 1) := by decide +kernel
theorem dX1_setDelays_24 : decode cX1_setDelays 24 = .ok (.invokevirtual 71, 3) := by decide +kernel
theorem dX1_setDelays_27 : decode cX1_setDelays 27 = .ok (.aload_n 0, 1) := by decide +kernel
theorem dX1_setDelays_28 : decode cX1_setDelays 28 = .ok (.iload_n 2, 1) := by decide +kernel
theorem dX1_setDelays_29 : decode cX1_setDelays 29 = .ok (.invokevirtual 71, 3) := by decide +kernel
theorem dX1_setDelays_32 : decode cX1_setDelays 32 = .ok (.isub, 1) := by decide +kernel
theorem dX1_setDelays_33 : decode cX1_setDelays 33 = .ok (.aload_n 0, 1) := by decide +kernel
theorem dX1_setDelays_34 : decode cX1_setDelays 34 = .ok (.getfield 18, 3) := by decide +kernel
theorem dX1_setDelays_37 : decode cX1_setDelays 37 = .ok (.invokevirtual 68, 3) := by decide +kernel
theorem dX1_setDelays_40 : decode cX1_setDelays 40 = .ok (.isub, 1) := by decide +kernel
theorem dX1_setDelays_41 : decode cX1_setDelays 41 = .ok (.aload_n 0, 1) := by decide +kernel
theorem dX1_setDelays_42 : decode cX1_setDelays 42 = .ok (.iload_n 2, 1) := by decide +kernel
theorem dX1_setDelays_43 : decode cX1_setDelays 43 = .ok (.iload_n 1, 1) := by decide +kernel
theorem dX1_setDelays_44 : decode cX1_setDelays 44 = .ok (.invokevirtual 42, 3) := by decide +kernel
theorem dX1_setDelays_47 : decode cX1_setDelays 47 = .ok (.isub, 1) := by decide +kernel
theorem dX1_setDelays_48 : decode cX1_setDelays 48 = .ok (.istore_n 3, 1) := by decide +kernel
theorem dX1_setDelays_49 : decode cX1_setDelays 49 = .ok (.aload_n 0, 1) := by decide +kernel
theorem dX1_setDelays_50 : decode cX1_setDelays 50 = .ok (.getfield 18, 3) := by decide +kernel
theorem dX1_setDelays_53 : decode cX1_setDelays 53 = .ok (.invokevirtual 68, 3) := by decide +kernel
theorem dX1_setDelays_56 : decode cX1_setDelays 56 = .ok (.iconst 0, 1) := by decide +kernel
theorem dX1_setDelays_57 : decode cX1_setDelays 57 = .ok (.iload_n 3, 1) := by decide +kernel
theorem dX1_setDelays_58 : decode cX1_setDelays 58 = .ok (.invokestatic 74, 3) := by decide +kernel
theorem dX1_setDelays_61 : decode cX1_setDelays 61 = .ok (.iconst 2, 1) := by decide +kernel
theorem dX1_setDelays_62 : decode cX1_setDelays 62 = .ok (.idiv, 1) := by decide +kernel
theorem dX1_setDelays_63 : decode cX1_setDelays 63 = .ok (.iadd, 1) := by decide +kernel
theorem dX1_setDelays_64 : decode cX1_setDelays 64 = .ok (.istore 4, 2) := by decide +kernel
theorem dX1_setDelays_66 : decode cX1_setDelays 66 = .ok (.aload_n 0, 1) := by decide +kernel
theorem dX1_setDelays_67 : decode cX1_setDelays 67 = .ok (.getfield 18, 3) := by decide +kernel
theorem dX1_setDelays_70 : decode cX1_setDelays 70 = .ok (.getfield 52, 3) := by decide +kernel
theorem dX1_setDelays_73 : decode cX1_setDelays 73 = .ok (.iload_n 2, 1) := by decide +kernel
theorem dX1_setDelays_74 : decode cX1_setDelays 74 = .ok (.aaload, 1) := by decide +kernel
theorem dX1_setDelays_75 : decode cX1_setDelays 75 = .ok (.aload_n 0, 1) := by decide +kernel
theorem dX1_setDelays_76 : decode cX1_setDelays 76 = .ok (.getfield 18, 3) := by decide +kernel
theorem dX1_setDelays_79 : decode cX1_setDelays 79 = .ok (.getfield 52, 3) := by decide +kernel
theorem dX1_setDelays_82 : decode cX1_setDelays 82 = .ok (.iload_n 2, 1) := by decide +kernel
theorem dX1_setDelays_83 : decode cX1_setDelays 83 = .ok (.iconst 1, 1) := by decide +kernel
theorem dX1_setDelays_84 : decode cX1_setDelays 84 = .ok (.isub, 1) := by decide +kernel
theorem dX1_setDelays_85 : decode cX1_setDelays 85 = .ok (.aaload, 1) := by decide +kernel
theorem dX1_setDelays_86 : decode cX1_setDelays 86 = .ok (.getfield 56, 3) := by decide +kernel
theorem dX1_setDelays_89 : decode cX1_setDelays 89 = .ok (.iload 4, 2) := by decide +kernel
theorem dX1_setDelays_91 : decode cX1_setDelays 91 = .ok (.iadd, 1) := by decide +kernel
theorem dX1_setDelays_92 : decode cX1_setDelays 92 = .ok (.putfield 56, 3) := by decide +kernel
theorem dX1_setDelays_95 : decode cX1_setDelays 95 = .ok (.iinc 2 1, 3) := by decide +kernel
theorem dX1_setDelays_98 : decode cX1_setDelays 98 = .ok (.goto (-83), 3) := by decide +kernel
theorem dX1_setDelays_101 : decode cX1_setDelays 101 = .ok (.return_, 1) := by decide +kernel
theorem dX1_gap_0 : decode cX1_gap 0 = .ok (.aload_n 0, 1) := by decide +kernel
theorem dX1_gap_1 : decode cX1_gap 1 = .ok (.getfield 18, 3) := by decide +kernel
theorem dX1_gap_4 : decode cX1_gap 4 = .ok (.getfield 52, 3) := by decide +kernel
theorem dX1_gap_7 : decode cX1_gap 7 = .ok (.iload_n 1, 1) := by decide +kernel
theorem dX1_gap_8 : decode cX1_gap 8 = .ok (.aaload, 1) := by decide +kernel
theorem dX1_gap_9 : decode cX1_gap 9 = .ok (.astore_n 2, 1) := by decide +kernel
theorem dX1_gap_10 : decode cX1_gap 10 = .ok (.aload_n 2, 1) := by decide +kernel
theorem dX1_gap_11 : decode cX1_gap 11 = .ok (.aload_n 0, 1) := by decide +kernel
theorem dX1_gap_12 : decode cX1_gap 12 = .ok (.getfield 15, 3) := by decide +kernel
theorem dX1_gap_15 : decode cX1_gap 15 = .ok (.iload_n 1, 1) := by decide +kernel
theorem dX1_gap_16 : decode cX1_gap 16 = .ok (.iaload, 1) := by decide +kernel
theorem dX1_gap_17 : decode cX1_gap 17 = .ok (.invokevirtual 79, 3) := by decide +kernel
theorem dX1_gap_20 : decode cX1_gap 20 = .ok (.aload_n 2, 1) := by decide +kernel
theorem dX1_gap_21 : decode cX1_gap 21 = .ok (.aload_n 0, 1) := by decide +kernel
theorem dX1_gap_22 : decode cX1_gap 22 = .ok (.getfield 9, 3) := by decide +kernel
theorem dX1_gap_25 : decode cX1_gap 25 = .ok (.iload_n 1, 1) := by decide +kernel
theorem dX1_gap_26 : decode cX1_gap 26 = .ok (.iaload, 1) := by decide +kernel
theorem dX1_gap_27 : decode cX1_gap 27 = .ok (.invokevirtual 79, 3) := by decide +kernel
theorem dX1_gap_30 : decode cX1_gap 30 = .ok (.isub, 1) := by decide +kernel
theorem dX1_gap_31 : decode cX1_gap 31 = .ok (.ireturn, 1) := by decide +kernel
theorem dX1_setOffsets_0 : decode cX1_setOffsets 0 = .ok (.aload_n 0, 1) := by decide +kernel
theorem dX1_setOffsets_1 : decode cX1_setOffsets 1 = .ok (.getfield 18, 3) := by decide +kernel
theorem dX1_setOffsets_4 : decode cX1_setOffsets 4 = .ok (.getfield 52, 3) := by decide +kernel
theorem dX1_setOffsets_7 : decode cX1_setOffsets 7 = .ok (.iconst 0, 1) := by decide +kernel
theorem dX1_setOffsets_8 : decode cX1_setOffsets 8 = .ok (.aaload, 1) := by decide +kernel
theorem dX1_setOffsets_9 : decode cX1_setOffsets 9 = .ok (.aload_n 0, 1) := by decide +kernel
theorem dX1_setOffsets_10 : decode cX1_setOffsets 10 = .ok (.getfield 9, 3) := by decide +kernel
theorem dX1_setOffsets_13 : decode cX1_setOffsets 13 = .ok (.iconst 0, 1) := by decide +kernel
theorem dX1_setOffsets_14 : decode cX1_setOffsets 14 = .ok (.iaload, 1) := by decide +kernel
theorem dX1_setOffsets_15 : decode cX1_setOffsets 15 = .ok (.invokevirtual 79, 3) := by decide +kernel
theorem dX1_setOffsets_18 : decode cX1_setOffsets 18 = .ok (.istore_n 2, 1) := by decide +kernel
theorem dX1_setOffsets_19 : decode cX1_setOffsets 19 = .ok (.iconst 0, 1) := by decide +kernel
theorem dX1_setOffsets_20 : decode cX1_setOffsets 20 = .ok (.istore_n 3, 1) := by decide +kernel
theorem dX1_setOffsets_21 : decode cX1_setOffsets 21 = .ok (.iload_n 3, 1) := by decide +kernel
theorem dX1_setOffsets_22 : decode cX1_setOffsets 22 = .ok (.iload_n 1, 1) := by decide +kernel
theorem dX1_setOffsets_23 : decode cX1_setOffsets 23 = .ok (.if_icmp .gt 44, 3) := by decide +kernel
theorem dX1_setOffsets_26 : decode cX1_setOffsets 26 = .ok (.aload_n 0, 1) := by decide +kernel
theorem dX1_setOffsets_27 : decode cX1_setOffsets 27 = .ok (.getfield 18, 3) := by decide +kernel
theorem dX1_setOffsets_30 : decode cX1_setOffsets 30 = .ok (.getfield 52, 3) := by decide +kernel
theorem dX1_setOffsets_33 : decode cX1_setOffsets 33 = .ok (.iload_n 3, 1) := by decide +kernel
theorem dX1_setOffsets_34 : decode cX1_setOffsets 34 = .ok (.aaload, 1) := by decide +kernel
theorem dX1_setOffsets_35 : decode cX1_setOffsets 35 = .ok (.astore 4, 2) := by decide +kernel
theorem dX1_setOffsets_37 : decode cX1_setOffsets 37 = .ok (.aload 4, 2) := by decide +kernel
theorem dX1_setOffsets_39 : decode cX1_setOffsets 39 = .ok (.iload_n 2, 1) := by decide +kernel
theorem dX1_setOffsets_40 : decode cX1_setOffsets 40 = .ok (.aload 4, 2) := by decide +kernel
theorem dX1_setOffsets_42 : decode cX1_setOffsets 42 = .ok (.getfield 56, 3) := by decide +kernel
theorem dX1_setOffsets_45 : decode cX1_setOffsets 45 = .ok (.iadd, 1) := by decide +kernel
theorem dX1_setOffsets_46 : decode cX1_setOffsets 46 = .ok (.aload 4, 2) := by decide +kernel
theorem dX1_setOffsets_48 : decode cX1_setOffsets 48 = .ok (.aload_n 0, 1) := by decide +kernel
theorem dX1_setOffsets_49 : decode cX1_setOffsets 49 = .ok (.getfield 9, 3) := by decide +kernel
theorem dX1_setOffsets_52 : decode cX1_setOffsets 52 = .ok (.iload_n 3, 1) := by decide +kernel
theorem dX1_setOffsets_53 : decode cX1_setOffsets 53 = .ok (.iaload, 1) := by decide +kernel
theorem dX1_setOffsets_54 : decode cX1_setOffsets 54 = .ok (.invokevirtual 79, 3) := by decide +kernel
theorem dX1_setOffsets_57 : decode cX1_setOffsets 57 = .ok (.isub, 1) := by decide +kernel
theorem dX1_setOffsets_58 : decode cX1_setOffsets 58 = .ok (.putfield 82, 3) := by decide +kernel
theorem dX1_setOffsets_61 : decode cX1_setOffsets 61 = .ok (.iinc 3 1, 3) := by decide +kernel
theorem dX1_setOffsets_64 : decode cX1_setOffsets 64 = .ok (.goto (-43), 3) := by decide +kernel
theorem dX1_setOffsets_67 : decode cX1_setOffsets 67 = .ok (.return_, 1) := by decide +kernel
theorem dX1_correct_0 : decode cX1_correct 0 = .ok (.aload_n 0, 1) := by decide +kernel
theorem dX1_correct_1 : decode cX1_correct 1 = .ok (.getfield 18, 3) := by decide +kernel
theorem dX1_correct_4 : decode cX1_correct 4 = .ok (.invokevirtual 22, 3) := by decide +kernel
theorem dX1_correct_7 : decode cX1_correct 7 = .ok (.istore_n 2, 1) := by decide +kernel
theorem dX1_correct_8 : decode cX1_correct 8 = .ok (.iload_n 2, 1) := by decide +kernel
theorem dX1_correct_9 : decode cX1_correct 9 = .ok (.iconst 2, 1) := by decide +kernel
theorem dX1_correct_10 : decode cX1_correct 10 = .ok (.if_icmp .ge 6, 3) := by decide +kernel
theorem dX1_correct_13 : decode cX1_correct 13 = .ok (.bipush (-2), 2) := by decide +kernel
theorem dX1_correct_15 : decode cX1_correct 15 = .ok (.ireturn, 1) := by decide +kernel
theorem dX1_correct_16 : decode cX1_correct 16 = .ok (.aload_n 0, 1) := by decide +kernel
theorem dX1_correct_17 : decode cX1_correct 17 = .ok (.getfield 18, 3) := by decide +kernel
theorem dX1_correct_20 : decode cX1_correct 20 = .ok (.getfield 52, 3) := by decide +kernel
theorem dX1_correct_23 : decode cX1_correct 23 = .ok (.iconst 0, 1) := by decide +kernel
theorem dX1_correct_24 : decode cX1_correct 24 = .ok (.aaload, 1) := by decide +kernel
theorem dX1_correct_25 : decode cX1_correct 25 = .ok (.aload_n 0, 1) := by decide +kernel
theorem dX1_correct_26 : decode cX1_correct 26 = .ok (.getfield 18, 3) := by decide +kernel
theorem dX1_correct_29 : decode cX1_correct 29 = .ok (.iconst 0, 1) := by decide +kernel
theorem dX1_correct_30 : decode cX1_correct 30 = .ok (.invokevirtual 65, 3) := by decide +kernel
theorem dX1_correct_33 : decode cX1_correct 33 = .ok (.invokevirtual 85, 3) := by decide +kernel
theorem dX1_correct_36 : decode cX1_correct 36 = .ok (.istore_n 3, 1) := by decide +kernel
theorem dX1_correct_37 : decode cX1_correct 37 = .ok (.iconst 0, 1) := by decide +kernel
theorem dX1_correct_38 : decode cX1_correct 38 = .ok (.istore 4, 2) := by decide +kernel
theorem dX1_correct_40 : decode cX1_correct 40 = .ok (.iconst 1, 1) := by decide +kernel
theorem dX1_correct_41 : decode cX1_correct 41 = .ok (.istore 5, 2) := by decide +kernel
theorem dX1_correct_43 : decode cX1_correct 43 = .ok (.iload 5, 2) := by decide +kernel
theorem dX1_correct_45 : decode cX1_correct 45 = .ok (.iload_n 2, 1) := by decide +kernel
theorem dX1_correct_46 : decode cX1_correct 46 = .ok (.if_icmp .ge 78, 3) := by decide +kernel
theorem dX1_correct_49 : decode cX1_correct 49 = .ok (.aload_n 0, 1) := by decide +kernel
theorem dX1_correct_50 : decode cX1_correct 50 = .ok (.getfield 18, 3) := by decide +kernel
theorem dX1_correct_53 : decode cX1_correct 53 = .ok (.getfield 52, 3) := by decide +kernel
theorem dX1_correct_56 : decode cX1_correct 56 = .ok (.iload 5, 2) := by decide +kernel
theorem dX1_correct_58 : decode cX1_correct 58 = .ok (.aaload, 1) := by decide +kernel
theorem dX1_correct_59 : decode cX1_correct 59 = .ok (.astore 6, 2) := by decide +kernel
theorem dX1_correct_61 : decode cX1_correct 61 = .ok (.iload_n 3, 1) := by decide +kernel
theorem dX1_correct_62 : decode cX1_correct 62 = .ok (.aload 6, 2) := by decide +kernel
theorem dX1_correct_64 : decode cX1_correct 64 = .ok (.getfield 56, 3) := by decide +kernel
theorem dX1_correct_67 : decode cX1_correct 67 = .ok (.iadd, 1) := by decide +kernel
theorem dX1_correct_68 : decode cX1_correct 68 = .ok (.aload 6, 2) := by decide +kernel
theorem dX1_correct_70 : decode cX1_correct 70 = .ok (.aload_n 0, 1) := by decide +kernel
theorem dX1_correct_71 : decode cX1_correct 71 = .ok (.getfield 18, 3) := by decide +kernel
theorem dX1_correct_74 : decode cX1_correct 74 = .ok (.iload 5, 2) := by decide +kernel
theorem dX1_correct_76 : decode cX1_correct 76 = .ok (.invokevirtual 65, 3) := by decide +kernel
theorem dX1_correct_79 : decode cX1_correct 79 = .ok (.invokevirtual 85, 3) := by decide +kernel
theorem dX1_correct_82 : decode cX1_correct 82 = .ok (.isub, 1) := by decide +kernel
theorem dX1_correct_83 : decode cX1_correct 83 = .ok (.istore 7, 2) := by decide +kernel
theorem dX1_correct_85 : decode cX1_correct 85 = .ok (.aload 6, 2) := by decide +kernel
theorem dX1_correct_87 : decode cX1_correct 87 = .ok (.dup, 1) := by decide +kernel
theorem dX1_correct_88 : decode cX1_correct 88 = .ok (.getfield 82, 3) := by decide +kernel
theorem dX1_correct_91 : decode cX1_correct 91 = .ok (.iload_n 1, 1) := by decide +kernel
theorem dX1_correct_92 : decode cX1_correct 92 = .ok (.ineg, 1) := by decide +kernel
theorem dX1_correct_93 : decode cX1_correct 93 = .ok (.iload_n 1, 1) := by decide +kernel
theorem dX1_correct_94 : decode cX1_correct 94 = .ok (.iload 7, 2) := by decide +kernel
theorem dX1_correct_96 : decode cX1_correct 96 = .ok (.invokestatic 88, 3) := by decide +kernel
theorem dX1_correct_99 : decode cX1_correct 99 = .ok (.invokestatic 74, 3) := by decide +kernel
theorem dX1_correct_102 : decode cX1_correct 102 = .ok (.iadd, 1) := by decide +kernel
theorem dX1_correct_103 : decode cX1_correct 103 = .ok (.putfield 82, 3) := by decide +kernel
theorem dX1_correct_106 : decode cX1_correct 106 = .ok (.iload 4, 2) := by decide +kernel
theorem dX1_correct_108 : decode cX1_correct 108 = .ok (.iload 7, 2) := by decide +kernel
theorem dX1_correct_110 : decode cX1_correct 110 = .ok (.invokestatic 91, 3) := by decide +kernel
theorem dX1_correct_113 : decode cX1_correct 113 = .ok (.invokestatic 74, 3) := by decide +kernel
theorem dX1_correct_116 : decode cX1_correct 116 = .ok (.istore 4, 2) := by decide +kernel
theorem dX1_correct_118 : decode cX1_correct 118 = .ok (.iinc 5 1, 3) := by decide +kernel
theorem dX1_correct_121 : decode cX1_correct 121 = .ok (.goto (-78), 3) := by decide +kernel
theorem dX1_correct_124 : decode cX1_correct 124 = .ok (.aload_n 0, 1) := by decide +kernel
theorem dX1_correct_125 : decode cX1_correct 125 = .ok (.getfield 18, 3) := by decide +kernel
theorem dX1_correct_128 : decode cX1_correct 128 = .ok (.aload_n 0, 1) := by decide +kernel
theorem dX1_correct_129 : decode cX1_correct 129 = .ok (.getfield 18, 3) := by decide +kernel
theorem dX1_correct_132 : decode cX1_correct 132 = .ok (.invokevirtual 94, 3) := by decide +kernel
theorem dX1_correct_135 : decode cX1_correct 135 = .ok (.invokevirtual 49, 3) := by decide +kernel
theorem dX1_correct_138 : decode cX1_correct 138 = .ok (.iload 4, 2) := by decide +kernel
theorem dX1_correct_140 : decode cX1_correct 140 = .ok (.ireturn, 1) := by decide +kernel
theorem dX1_spread_0 : decode cX1_spread 0 = .ok (.aload_n 0, 1) := by decide +kernel
theorem dX1_spread_1 : decode cX1_spread 1 = .ok (.getfield 18, 3) := by decide +kernel
theorem dX1_spread_4 : decode cX1_spread 4 = .ok (.getfield 52, 3) := by decide +kernel
theorem dX1_spread_7 : decode cX1_spread 7 = .ok (.iconst 0, 1) := by decide +kernel
theorem dX1_spread_8 : decode cX1_spread 8 = .ok (.aaload, 1) := by decide +kernel
theorem dX1_spread_9 : decode cX1_spread 9 = .ok (.aload_n 0, 1) := by decide +kernel
theorem dX1_spread_10 : decode cX1_spread 10 = .ok (.getfield 18, 3) := by decide +kernel
theorem dX1_spread_13 : decode cX1_spread 13 = .ok (.invokevirtual 46, 3) := by decide +kernel
theorem dX1_spread_16 : decode cX1_spread 16 = .ok (.invokevirtual 85, 3) := by decide +kernel
theorem dX1_spread_19 : decode cX1_spread 19 = .ok (.istore_n 1, 1) := by decide +kernel
theorem dX1_spread_20 : decode cX1_spread 20 = .ok (.iload_n 1, 1) := by decide +kernel
theorem dX1_spread_21 : decode cX1_spread 21 = .ok (.istore_n 2, 1) := by decide +kernel
theorem dX1_spread_22 : decode cX1_spread 22 = .ok (.iconst 1, 1) := by decide +kernel
theorem dX1_spread_23 : decode cX1_spread 23 = .ok (.istore_n 3, 1) := by decide +kernel
theorem dX1_spread_24 : decode cX1_spread 24 = .ok (.iload_n 3, 1) := by decide +kernel
theorem dX1_spread_25 : decode cX1_spread 25 = .ok (.aload_n 0, 1) := by decide +kernel
theorem dX1_spread_26 : decode cX1_spread 26 = .ok (.getfield 18, 3) := by decide +kernel
theorem dX1_spread_29 : decode cX1_spread 29 = .ok (.invokevirtual 97, 3) := by decide +kernel
theorem dX1_spread_32 : decode cX1_spread 32 = .ok (.if_icmp .ge 44, 3) := by decide +kernel
theorem dX1_spread_35 : decode cX1_spread 35 = .ok (.aload_n 0, 1) := by decide +kernel
theorem dX1_spread_36 : decode cX1_spread 36 = .ok (.getfield 18, 3) := by decide +kernel
theorem dX1_spread_39 : decode cX1_spread 39 = .ok (.getfield 52, 3) := by decide +kernel
theorem dX1_spread_42 : decode cX1_spread 42 = .ok (.iload_n 3, 1) := by decide +kernel
theorem dX1_spread_43 : decode cX1_spread 43 = .ok (.aaload, 1) := by decide +kernel
theorem dX1_spread_44 : decode cX1_spread 44 = .ok (.aload_n 0, 1) := by decide +kernel
theorem dX1_spread_45 : decode cX1_spread 45 = .ok (.getfield 18, 3) := by decide +kernel
theorem dX1_spread_48 : decode cX1_spread 48 = .ok (.invokevirtual 46, 3) := by decide +kernel
theorem dX1_spread_51 : decode cX1_spread 51 = .ok (.invokevirtual 85, 3) := by decide +kernel
theorem dX1_spread_54 : decode cX1_spread 54 = .ok (.istore 4, 2) := by decide +kernel
theorem dX1_spread_56 : decode cX1_spread 56 = .ok (.iload_n 1, 1) := by decide +kernel
theorem dX1_spread_57 : decode cX1_spread 57 = .ok (.iload 4, 2) := by decide +kernel
theorem dX1_spread_59 : decode cX1_spread 59 = .ok (.invokestatic 88, 3) := by decide +kernel
theorem dX1_spread_62 : decode cX1_spread 62 = .ok (.istore_n 1, 1) := by decide +kernel
theorem dX1_spread_63 : decode cX1_spread 63 = .ok (.iload_n 2, 1) := by decide +kernel
theorem dX1_spread_64 : decode cX1_spread 64 = .ok (.iload 4, 2) := by decide +kernel
theorem dX1_spread_66 : decode cX1_spread 66 = .ok (.invokestatic 74, 3) := by decide +kernel
theorem dX1_spread_69 : decode cX1_spread 69 = .ok (.istore_n 2, 1) := by decide +kernel
theorem dX1_spread_70 : decode cX1_spread 70 = .ok (.iinc 3 1, 3) := by decide +kernel
theorem dX1_spread_73 : decode cX1_spread 73 = .ok (.goto (-49), 3) := by decide +kernel
theorem dX1_spread_76 : decode cX1_spread 76 = .ok (.iload_n 2, 1) := by decide +kernel
theorem dX1_spread_77 : decode cX1_spread 77 = .ok (.iload_n 1, 1) := by decide +kernel
theorem dX1_spread_78 : decode cX1_spread 78 = .ok (.isub, 1) := by decide +kernel
theorem dX1_spread_79 : decode cX1_spread 79 = .ok (.ireturn, 1) := by decide +kernel
theorem dX2_init_0 : decode cX2_init 0 = .ok (.aload_n 0, 1) := by decide +kernel
theorem dX2_init_1 : decode cX2_init 1 = .ok (.invokespecial 3, 3) := by decide +kernel
theorem dX2_init_4 : decode cX2_init 4 = .ok (.aload_n 0, 1) := by decide +kernel
theorem dX2_init_5 : decode cX2_init 5 = .ok (.bipush 8, 2) := by decide +kernel
theorem dX2_init_7 : decode cX2_init 7 = .ok (.newarray .int, 2) := by decide +kernel
theorem dX2_init_9 : decode cX2_init 9 = .ok (.putfield 9, 3) := by decide +kernel
theorem dX2_init_12 : decode cX2_init 12 = .ok (.aload_n 0, 1) := by decide +kernel
theorem dX2_init_13 : decode cX2_init 13 = .ok (.new 15, 3) := by decide +kernel
theorem dX2_init_16 : decode cX2_init 16 = .ok (.dup, 1) := by decide +kernel
theorem dX2_init_17 : decode cX2_init 17 = .ok (.invokespecial 17, 3) := by decide +kernel
theorem dX2_init_20 : decode cX2_init 20 = .ok (.putfield 18, 3) := by decide +kernel
theorem dX2_init_23 : decode cX2_init 23 = .ok (.aload_n 0, 1) := by decide +kernel
theorem dX2_init_24 : decode cX2_init 24 = .ok (.new 15, 3) := by decide +kernel
theorem dX2_init_27 : decode cX2_init 27 = .ok (.dup, 1) := by decide +kernel
theorem dX2_init_28 : decode cX2_init 28 = .ok (.invokespecial 17, 3) := by decide +kernel
theorem dX2_init_31 : decode cX2_init 31 = .ok (.putfield 22, 3) := by decide +kernel
theorem dX2_init_34 : decode cX2_init 34 = .ok (.aload_n 0, 1) := by decide +kernel
theorem dX2_init_35 : decode cX2_init 35 = .ok (.bipush 8, 2) := by decide +kernel
theorem dX2_init_37 : decode cX2_init 37 = .ok (.newarray .int, 2) := by decide +kernel
theorem dX2_init_39 : decode cX2_init 39 = .ok (.putfield 25, 3) := by decide +kernel
theorem dX2_init_42 : decode cX2_init 42 = .ok (.return_, 1) := by decide +kernel
theorem dX2_begin_0 : decode cX2_begin 0 = .ok (.aload_n 0, 1) := by decide +kernel
theorem dX2_begin_1 : decode cX2_begin 1 = .ok (.iconst 0, 1) := by decide +kernel
theorem dX2_begin_2 : decode cX2_begin 2 = .ok (.putfield 28, 3) := by decide +kernel
theorem dX2_begin_5 : decode cX2_begin 5 = .ok (.aload_n 0, 1) := by decide +kernel
theorem dX2_begin_6 : decode cX2_begin 6 = .ok (.iconst 0, 1) := by decide +kernel
theorem dX2_begin_7 : decode cX2_begin 7 = .ok (.putfield 32, 3) := by decide +kernel
theorem dX2_begin_10 : decode cX2_begin 10 = .ok (.aload_n 0, 1) := by decide +kernel
theorem dX2_begin_11 : decode cX2_begin 11 = .ok (.getfield 9, 3) := by decide +kernel
theorem dX2_begin_14 : decode cX2_begin 14 = .ok (.iconst 0, 1) := by decide +kernel
theorem dX2_begin_15 : decode cX2_begin 15 = .ok (.invokestatic 35, 3) := by decide +kernel
theorem dX2_begin_18 : decode cX2_begin 18 = .ok (.return_, 1) := by decide +kernel
theorem dX2_order_0 : decode cX2_order 0 = .ok (.aload_n 0, 1) := by decide +kernel
theorem dX2_order_1 : decode cX2_order 1 = .ok (.iload_n 1, 1) := by decide +kernel
theorem dX2_order_2 : decode cX2_order 2 = .ok (.putfield 28, 3) := by decide +kernel
theorem dX2_order_5 : decode cX2_order 5 = .ok (.aload_n 0, 1) := by decide +kernel
theorem dX2_order_6 : decode cX2_order 6 = .ok (.iload_n 2, 1) := by decide +kernel
theorem dX2_order_7 : decode cX2_order 7 = .ok (.putfield 41, 3) := by decide +kernel
theorem dX2_order_10 : decode cX2_order 10 = .ok (.aload_n 0, 1) := by decide +kernel
theorem dX2_order_11 : decode cX2_order 11 = .ok (.iload_n 3, 1) := by decide +kernel
theorem dX2_order_12 : decode cX2_order 12 = .ok (.putfield 44, 3) := by decide +kernel
theorem dX2_order_15 : decode cX2_order 15 = .ok (.aload_n 0, 1) := by decide +kernel
theorem dX2_order_16 : decode cX2_order 16 = .ok (.iload 4, 2) := by decide +kernel
theorem dX2_order_18 : decode cX2_order 18 = .ok (.putfield 47, 3) := by decide +kernel
theorem dX2_order_21 : decode cX2_order 21 = .ok (.return_, 1) := by decide +kernel
theorem dX2_leave_0 : decode cX2_leave 0 = .ok (.aload_n 0, 1) := by decide +kernel
theorem dX2_leave_1 : decode cX2_leave 1 = .ok (.getfield 18, 3) := by decide +kernel
theorem dX2_leave_4 : decode cX2_leave 4 = .ok (.aload_n 0, 1) := by decide +kernel
theorem dX2_leave_5 : decode cX2_leave 5 = .ok (.getfield 9, 3) := by decide +kernel
theorem dX2_leave_8 : decode cX2_leave 8 = .ok (.invokevirtual 50, 3) := by decide +kernel
theorem dX2_leave_11 : decode cX2_leave 11 = .ok (.aload_n 0, 1) := by decide +kernel
theorem dX2_leave_12 : decode cX2_leave 12 = .ok (.getfield 22, 3) := by decide +kernel
theorem dX2_leave_15 : decode cX2_leave 15 = .ok (.aload_n 0, 1) := by decide +kernel
theorem dX2_leave_16 : decode cX2_leave 16 = .ok (.getfield 9, 3) := by decide +kernel
theorem dX2_leave_19 : decode cX2_leave 19 = .ok (.invokevirtual 50, 3) := by decide +kernel
theorem dX2_leave_22 : decode cX2_leave 22 = .ok (.return_, 1) := by decide +kernel
theorem dX2_edit_0 : decode cX2_edit 0 = .ok (.aload_n 0, 1) := by decide +kernel
theorem dX2_edit_1 : decode cX2_edit 1 = .ok (.getfield 28, 3) := by decide +kernel
theorem dX2_edit_4 : decode cX2_edit 4 = .ok (.ifCond .eq 12, 3) := by decide +kernel
theorem dX2_edit_7 : decode cX2_edit 7 = .ok (.aload_n 0, 1) := by decide +kernel
theorem dX2_edit_8 : decode cX2_edit 8 = .ok (.aload_n 2, 1) := by decide +kernel
theorem dX2_edit_9 : decode cX2_edit 9 = .ok (.iload_n 3, 1) := by decide +kernel
theorem dX2_edit_10 : decode cX2_edit 10 = .ok (.invokevirtual 54, 3) := by decide +kernel
theorem dX2_edit_13 : decode cX2_edit 13 = .ok (.ifCond .ne 4, 3) := by decide +kernel
theorem dX2_edit_16 : decode cX2_edit 16 = .ok (.return_, 1) := by decide +kernel
theorem dX2_edit_17 : decode cX2_edit 17 = .ok (.aload_n 0, 1) := by decide +kernel
theorem dX2_edit_18 : decode cX2_edit 18 = .ok (.getfield 28, 3) := by decide +kernel
theorem dX2_edit_21 : decode cX2_edit 21 = .ok (.iconst 1, 1) := by decide +kernel
theorem dX2_edit_22 : decode cX2_edit 22 = .ok (.isub, 1) := by decide +kernel
theorem dX2_edit_23 : decode cX2_edit 23 = .ok (.iconst 3, 1) := by decide +kernel
theorem dX2_edit_24 : decode cX2_edit 24 = .ok (.irem, 1) := by decide +kernel
theorem dX2_edit_25 : decode cX2_edit 25 = .ok (.istore 4, 2) := by decide +kernel
theorem dX2_edit_27 : decode cX2_edit 27 = .ok (.iload 4, 2) := by decide +kernel
theorem dX2_edit_29 : decode cX2_edit 29 = .ok (.iconst 1, 1) := by decide +kernel
theorem dX2_edit_30 : decode cX2_edit 30 = .ok (.if_icmp .eq 7, 3) := by decide +kernel
theorem dX2_edit_33 : decode cX2_edit 33 = .ok (.iconst 1, 1) := by decide +kernel
theorem dX2_edit_34 : decode cX2_edit 34 = .ok (.goto 4, 3) := by decide +kernel
theorem dX2_edit_37 : decode cX2_edit 37 = .ok (.iconst 0, 1) := by decide +kernel
theorem dX2_edit_38 : decode cX2_edit 38 = .ok (.istore 5, 2) := by decide +kernel
theorem dX2_edit_40 : decode cX2_edit 40 = .ok (.iload 4, 2) := by decide +kernel
theorem dX2_edit_42 : decode cX2_edit 42 = .ok (.ifCond .eq 7, 3) := by decide +kernel
theorem dX2_edit_45 : decode cX2_edit 45 = .ok (.iconst 1, 1) := by decide +kernel
theorem dX2_edit_46 : decode cX2_edit 46 = .ok (.goto 4, 3) := by decide +kernel
theorem dX2_edit_49 : decode cX2_edit 49 = .ok (.iconst 0, 1) := by decide +kernel
theorem dX2_edit_50 : decode cX2_edit 50 = .ok (.istore 6, 2) := by decide +kernel
theorem dX2_edit_52 : decode cX2_edit 52 = .ok (.aload_n 1, 1) := by decide +kernel
theorem dX2_edit_53 : decode cX2_edit 53 = .ok (.invokevirtual 58, 3) := by decide +kernel
theorem dX2_edit_56 : decode cX2_edit 56 = .ok (.iload 5, 2) := by decide +kernel
theorem dX2_edit_58 : decode cX2_edit 58 = .ok (.ifCond .eq 22, 3) := by decide +kernel
theorem dX2_edit_61 : decode cX2_edit 61 = .ok (.aload_n 0, 1) := by decide +kernel
theorem dX2_edit_62 : decode cX2_edit 62 = .ok (.aload_n 1, 1) := by decide +kernel
theorem dX2_edit_63 : decode cX2_edit 63 = .ok (.aload_n 2, 1) := by decide +kernel
theorem dX2_edit_64 : decode cX2_edit 64 = .ok (.invokevirtual 61, 3) := by decide +kernel
theorem dX2_edit_67 : decode cX2_edit 67 = .ok (.ifCond .eq 13, 3) := by decide +kernel
theorem dX2_edit_70 : decode cX2_edit 70 = .ok (.aload_n 1, 1) := by decide +kernel
theorem dX2_edit_71 : decode cX2_edit 71 = .ok (.dup, 1) := by decide +kernel
theorem dX2_edit_72 : decode cX2_edit 72 = .ok (.getfield 65, 3) := by decide +kernel
theorem dX2_edit_75 : decode cX2_edit 75 = .ok (.iconst 1, 1) := by decide +kernel
theorem dX2_edit_76 : decode cX2_edit 76 = .ok (.iadd, 1) := by decide +kernel
theorem dX2_edit_77 : decode cX2_edit 77 = .ok (.putfield 65, 3) := by decide +kernel
theorem dX2_edit_80 : decode cX2_edit 80 = .ok (.iload 6, 2) := by decide +kernel
theorem dX2_edit_82 : decode cX2_edit 82 = .ok (.ifCond .eq 31, 3) := by decide +kernel
theorem dX2_edit_85 : decode cX2_edit 85 = .ok (.aload_n 0, 1) := by decide +kernel
theorem dX2_edit_86 : decode cX2_edit 86 = .ok (.aload_n 1, 1) := by decide +kernel
theorem dX2_edit_87 : decode cX2_edit 87 = .ok (.aload_n 2, 1) := by decide +kernel
theorem dX2_edit_88 : decode cX2_edit 88 = .ok (.invokevirtual 68, 3) := by decide +kernel
theorem dX2_edit_91 : decode cX2_edit 91 = .ok (.ifCond .eq 22, 3) := by decide +kernel
theorem dX2_edit_94 : decode cX2_edit 94 = .ok (.aload_n 1, 1) := by decide +kernel
theorem dX2_edit_95 : decode cX2_edit 95 = .ok (.dup, 1) := by decide +kernel
theorem dX2_edit_96 : decode cX2_edit 96 = .ok (.getfield 65, 3) := by decide +kernel
theorem dX2_edit_99 : decode cX2_edit 99 = .ok (.iload 5, 2) := by decide +kernel
theorem dX2_edit_101 : decode cX2_edit 101 = .ok (.ifCond .eq 7, 3) := by decide +kernel
theorem dX2_edit_104 : decode cX2_edit 104 = .ok (.iconst 2, 1) := by decide +kernel
theorem dX2_edit_105 : decode cX2_edit 105 = .ok (.goto 4, 3) := by decide +kernel
theorem dX2_edit_108 : decode cX2_edit 108 = .ok (.iconst 1, 1) := by decide +kernel
theorem dX2_edit_109 : decode cX2_edit 109 = .ok (.iadd, 1) := by decide +kernel
theorem dX2_edit_110 : decode cX2_edit 110 = .ok (.putfield 65, 3) := by decide +kernel
theorem dX2_edit_113 : decode cX2_edit 113 = .ok (.return_, 1) := by decide +kernel
theorem dX2_addressing_0 : decode cX2_addressing 0 = .ok (.aload_n 0, 1) := by decide +kernel
theorem dX2_addressing_1 : decode cX2_addressing 1 = .ok (.getfield 28, 3) := by decide +kernel
theorem dX2_addressing_4 : decode cX2_addressing 4 = .ok (.iconst 1, 1) := by decide +kernel
theorem dX2_addressing_5 : decode cX2_addressing 5 = .ok (.isub, 1) := by decide +kernel
theorem dX2_addressing_6 : decode cX2_addressing 6 = .ok (.iconst 3, 1) := by decide +kernel
theorem dX2_addressing_7 : decode cX2_addressing 7 = .ok (.idiv, 1) := by decide +kernel
theorem dX2_addressing_8 : decode cX2_addressing 8 = .ok (.ireturn, 1) := by decide +kernel
theorem dX2_means_0 : decode cX2_means 0 = .ok (.aload_n 0, 1) := by decide +kernel
theorem dX2_means_1 : decode cX2_means 1 = .ok (.invokevirtual 71, 3) := by decide +kernel
theorem dX2_means_4 : decode cX2_means 4 = .ok (.istore_n 3, 1) := by decide +kernel
theorem dX2_means_5 : decode cX2_means 5 = .ok (.iload_n 3, 1) := by decide +kernel
theorem dX2_means_6 : decode cX2_means 6 = .ok (.ifCond .ne 17, 3) := by decide +kernel
theorem dX2_means_9 : decode cX2_means 9 = .ok (.iload_n 2, 1) := by decide +kernel
theorem dX2_means_10 : decode cX2_means 10 = .ok (.aload_n 0, 1) := by decide +kernel
theorem dX2_means_11 : decode cX2_means 11 = .ok (.getfield 41, 3) := by decide +kernel
theorem dX2_means_14 : decode cX2_means 14 = .ok (.if_icmp .ne 7, 3) := by decide +kernel
theorem dX2_means_17 : decode cX2_means 17 = .ok (.iconst 1, 1) := by decide +kernel
theorem dX2_means_18 : decode cX2_means 18 = .ok (.goto 4, 3) := by decide +kernel
theorem dX2_means_21 : decode cX2_means 21 = .ok (.iconst 0, 1) := by decide +kernel
theorem dX2_means_22 : decode cX2_means 22 = .ok (.ireturn, 1) := by decide +kernel
theorem dX2_means_23 : decode cX2_means 23 = .ok (.iload_n 3, 1) := by decide +kernel
theorem dX2_means_24 : decode cX2_means 24 = .ok (.iconst 1, 1) := by decide +kernel
theorem dX2_means_25 : decode cX2_means 25 = .ok (.if_icmp .ne 14, 3) := by decide +kernel
theorem dX2_means_28 : decode cX2_means 28 = .ok (.aload_n 1, 1) := by decide +kernel
theorem dX2_means_29 : decode cX2_means 29 = .ok (.getfield 75, 3) := by decide +kernel
theorem dX2_means_32 : decode cX2_means 32 = .ok (.aload_n 0, 1) := by decide +kernel
theorem dX2_means_33 : decode cX2_means 33 = .ok (.getfield 41, 3) := by decide +kernel
theorem dX2_means_36 : decode cX2_means 36 = .ok (.if_icmp .ne 7, 3) := by decide +kernel
theorem dX2_means_39 : decode cX2_means 39 = .ok (.iconst 1, 1) := by decide +kernel
theorem dX2_means_40 : decode cX2_means 40 = .ok (.goto 4, 3) := by decide +kernel
theorem dX2_means_43 : decode cX2_means 43 = .ok (.iconst 0, 1) := by decide +kernel
theorem dX2_means_44 : decode cX2_means 44 = .ok (.ireturn, 1) := by decide +kernel
theorem dX2_combines_0 : decode cX2_combines 0 = .ok (.aload_n 0, 1) := by decide +kernel
theorem dX2_combines_1 : decode cX2_combines 1 = .ok (.getfield 28, 3) := by decide +kernel
theorem dX2_combines_4 : decode cX2_combines 4 = .ok (.bipush 7, 2) := by decide +kernel
theorem dX2_combines_6 : decode cX2_combines 6 = .ok (.if_icmp .eq 12, 3) := by decide +kernel
theorem dX2_combines_9 : decode cX2_combines 9 = .ok (.aload_n 0, 1) := by decide +kernel
theorem dX2_combines_10 : decode cX2_combines 10 = .ok (.getfield 28, 3) := by decide +kernel
theorem dX2_combines_13 : decode cX2_combines 13 = .ok (.bipush 9, 2) := by decide +kernel
theorem dX2_combines_15 : decode cX2_combines 15 = .ok (.if_icmp .ne 7, 3) := by decide +kernel
theorem dX2_combines_18 : decode cX2_combines 18 = .ok (.iconst 1, 1) := by decide +kernel
theorem dX2_combines_19 : decode cX2_combines 19 = .ok (.goto 4, 3) := by decide +kernel
theorem dX2_combines_22 : decode cX2_combines 22 = .ok (.iconst 0, 1) := by decide +kernel
theorem dX2_combines_23 : decode cX2_combines 23 = .ok (.ireturn, 1) := by decide +kernel
theorem dX2_mayRead_0 : decode cX2_mayRead 0 = .ok (.aload_n 0, 1) := by decide +kernel
theorem dX2_mayRead_1 : decode cX2_mayRead 1 = .ok (.invokevirtual 71, 3) := by decide +kernel
theorem dX2_mayRead_4 : decode cX2_mayRead 4 = .ok (.iconst 3, 1) := by decide +kernel
theorem dX2_mayRead_5 : decode cX2_mayRead 5 = .ok (.if_icmp .ne 19, 3) := by decide +kernel
theorem dX2_mayRead_8 : decode cX2_mayRead 8 = .ok (.aload_n 1, 1) := by decide +kernel
theorem dX2_mayRead_9 : decode cX2_mayRead 9 = .ok (.getfield 80, 3) := by decide +kernel
theorem dX2_mayRead_12 : decode cX2_mayRead 12 = .ok (.iconst 2, 1) := by decide +kernel
theorem dX2_mayRead_13 : decode cX2_mayRead 13 = .ok (.if_icmp .lt 7, 3) := by decide +kernel
theorem dX2_mayRead_16 : decode cX2_mayRead 16 = .ok (.iconst 1, 1) := by decide +kernel
theorem dX2_mayRead_17 : decode cX2_mayRead 17 = .ok (.goto 26, 3) := by decide +kernel
theorem dX2_mayRead_20 : decode cX2_mayRead 20 = .ok (.iconst 0, 1) := by decide +kernel
theorem dX2_mayRead_21 : decode cX2_mayRead 21 = .ok (.goto 22, 3) := by decide +kernel
theorem dX2_mayRead_24 : decode cX2_mayRead 24 = .ok (.aload_n 0, 1) := by decide +kernel
theorem dX2_mayRead_25 : decode cX2_mayRead 25 = .ok (.getfield 44, 3) := by decide +kernel
theorem dX2_mayRead_28 : decode cX2_mayRead 28 = .ok (.aload_n 0, 1) := by decide +kernel
theorem dX2_mayRead_29 : decode cX2_mayRead 29 = .ok (.getfield 47, 3) := by decide +kernel
theorem dX2_mayRead_32 : decode cX2_mayRead 32 = .ok (.iadd, 1) := by decide +kernel
theorem dX2_mayRead_33 : decode cX2_mayRead 33 = .ok (.bipush 16, 2) := by decide +kernel
theorem dX2_mayRead_35 : decode cX2_mayRead 35 = .ok (.if_icmp .gt 7, 3) := by decide +kernel
theorem dX2_mayRead_38 : decode cX2_mayRead 38 = .ok (.iconst 1, 1) := by decide +kernel
theorem dX2_mayRead_39 : decode cX2_mayRead 39 = .ok (.goto 4, 3) := by decide +kernel
theorem dX2_mayRead_42 : decode cX2_mayRead 42 = .ok (.iconst 0, 1) := by decide +kernel
theorem dX2_mayRead_43 : decode cX2_mayRead 43 = .ok (.ireturn, 1) := by decide +kernel
theorem dX2_mayWrite_0 : decode cX2_mayWrite 0 = .ok (.aload_n 0, 1) := by decide +kernel
theorem dX2_mayWrite_1 : decode cX2_mayWrite 1 = .ok (.invokevirtual 71, 3) := by decide +kernel
theorem dX2_mayWrite_4 : decode cX2_mayWrite 4 = .ok (.iconst 3, 1) := by decide +kernel
theorem dX2_mayWrite_5 : decode cX2_mayWrite 5 = .ok (.if_icmp .ne 17, 3) := by decide +kernel
theorem dX2_mayWrite_8 : decode cX2_mayWrite 8 = .ok (.aload_n 1, 1) := by decide +kernel
theorem dX2_mayWrite_9 : decode cX2_mayWrite 9 = .ok (.getfield 80, 3) := by decide +kernel
theorem dX2_mayWrite_12 : decode cX2_mayWrite 12 = .ok (.iconst 3, 1) := by decide +kernel
theorem dX2_mayWrite_13 : decode cX2_mayWrite 13 = .ok (.if_icmp .ne 7, 3) := by decide +kernel
theorem dX2_mayWrite_16 : decode cX2_mayWrite 16 = .ok (.iconst 1, 1) := by decide +kernel
theorem dX2_mayWrite_17 : decode cX2_mayWrite 17 = .ok (.goto 4, 3) := by decide +kernel
theorem dX2_mayWrite_20 : decode cX2_mayWrite 20 = .ok (.iconst 0, 1) := by decide +kernel
theorem dX2_mayWrite_21 : decode cX2_mayWrite 21 = .ok (.ireturn, 1) := by decide +kernel
theorem dX2_mayWrite_22 : decode cX2_mayWrite 22 = .ok (.aload_n 0, 1) := by decide +kernel
theorem dX2_mayWrite_23 : decode cX2_mayWrite 23 = .ok (.getfield 44, 3) := by decide +kernel
theorem dX2_mayWrite_26 : decode cX2_mayWrite 26 = .ok (.iconst 4, 1) := by decide +kernel
theorem dX2_mayWrite_27 : decode cX2_mayWrite 27 = .ok (.if_icmp .lt 21, 3) := by decide +kernel
theorem dX2_mayWrite_30 : decode cX2_mayWrite 30 = .ok (.aload_n 0, 1) := by decide +kernel
theorem dX2_mayWrite_31 : decode cX2_mayWrite 31 = .ok (.getfield 44, 3) := by decide +kernel
theorem dX2_mayWrite_34 : decode cX2_mayWrite 34 = .ok (.aload_n 0, 1) := by decide +kernel
theorem dX2_mayWrite_35 : decode cX2_mayWrite 35 = .ok (.getfield 47, 3) := by decide +kernel
theorem dX2_mayWrite_38 : decode cX2_mayWrite 38 = .ok (.iadd, 1) := by decide +kernel
theorem dX2_mayWrite_39 : decode cX2_mayWrite 39 = .ok (.bipush 16, 2) := by decide +kernel
theorem dX2_mayWrite_41 : decode cX2_mayWrite 41 = .ok (.if_icmp .gt 7, 3) := by decide +kernel
theorem dX2_mayWrite_44 : decode cX2_mayWrite 44 = .ok (.iconst 1, 1) := by decide +kernel
theorem dX2_mayWrite_45 : decode cX2_mayWrite 45 = .ok (.goto 4, 3) := by decide +kernel
theorem dX2_mayWrite_48 : decode cX2_mayWrite 48 = .ok (.iconst 0, 1) := by decide +kernel
theorem dX2_mayWrite_49 : decode cX2_mayWrite 49 = .ok (.ireturn, 1) := by decide +kernel
theorem dX2_readInto_0 : decode cX2_readInto 0 = .ok (.aload_n 0, 1) := by decide +kernel
theorem dX2_readInto_1 : decode cX2_readInto 1 = .ok (.aload_n 2, 1) := by decide +kernel
theorem dX2_readInto_2 : decode cX2_readInto 2 = .ok (.invokevirtual 83, 3) := by decide +kernel
theorem dX2_readInto_5 : decode cX2_readInto 5 = .ok (.ifCond .ne 5, 3) := by decide +kernel
theorem dX2_readInto_8 : decode cX2_readInto 8 = .ok (.iconst 0, 1) := by decide +kernel
theorem dX2_readInto_9 : decode cX2_readInto 9 = .ok (.ireturn, 1) := by decide +kernel
theorem dX2_readInto_10 : decode cX2_readInto 10 = .ok (.iconst 0, 1) := by decide +kernel
theorem dX2_readInto_11 : decode cX2_readInto 11 = .ok (.istore_n 3, 1) := by decide +kernel
theorem dX2_readInto_12 : decode cX2_readInto 12 = .ok (.iconst 0, 1) := by decide +kernel
theorem dX2_readInto_13 : decode cX2_readInto 13 = .ok (.istore 4, 2) := by decide +kernel
theorem dX2_readInto_15 : decode cX2_readInto 15 = .ok (.iload 4, 2) := by decide +kernel
theorem dX2_readInto_17 : decode cX2_readInto 17 = .ok (.aload_n 0, 1) := by decide +kernel
theorem dX2_readInto_18 : decode cX2_readInto 18 = .ok (.getfield 47, 3) := by decide +kernel
theorem dX2_readInto_21 : decode cX2_readInto 21 = .ok (.if_icmp .ge 73, 3) := by decide +kernel
theorem dX2_readInto_24 : decode cX2_readInto 24 = .ok (.aload_n 0, 1) := by decide +kernel
theorem dX2_readInto_25 : decode cX2_readInto 25 = .ok (.iload 4, 2) := by decide +kernel
theorem dX2_readInto_27 : decode cX2_readInto 27 = .ok (.aload_n 2, 1) := by decide +kernel
theorem dX2_readInto_28 : decode cX2_readInto 28 = .ok (.getfield 87, 3) := by decide +kernel
theorem dX2_readInto_31 : decode cX2_readInto 31 = .ok (.invokevirtual 91, 3) := by decide +kernel
theorem dX2_readInto_34 : decode cX2_readInto 34 = .ok (.istore 5, 2) := by decide +kernel
theorem dX2_readInto_36 : decode cX2_readInto 36 = .ok (.iload 5, 2) := by decide +kernel
theorem dX2_readInto_38 : decode cX2_readInto 38 = .ok (.iconst 0, 1) := by decide +kernel
theorem dX2_readInto_39 : decode cX2_readInto 39 = .ok (.bipush 15, 2) := by decide +kernel
theorem dX2_readInto_41 : decode cX2_readInto 41 = .ok (.invokestatic 95, 3) := by decide +kernel
theorem dX2_readInto_44 : decode cX2_readInto 44 = .ok (.ifCond .eq 44, 3) := by decide +kernel
theorem dX2_readInto_47 : decode cX2_readInto 47 = .ok (.aload_n 1, 1) := by decide +kernel
theorem dX2_readInto_48 : decode cX2_readInto 48 = .ok (.getfield 99, 3) := by decide +kernel
theorem dX2_readInto_51 : decode cX2_readInto 51 = .ok (.iload 4, 2) := by decide +kernel
theorem dX2_readInto_53 : decode cX2_readInto 53 = .ok (.aload_n 0, 1) := by decide +kernel
theorem dX2_readInto_54 : decode cX2_readInto 54 = .ok (.invokevirtual 100, 3) := by decide +kernel
theorem dX2_readInto_57 : decode cX2_readInto 57 = .ok (.ifCond .eq 21, 3) := by decide +kernel
theorem dX2_readInto_60 : decode cX2_readInto 60 = .ok (.aload_n 1, 1) := by decide +kernel
theorem dX2_readInto_61 : decode cX2_readInto 61 = .ok (.getfield 99, 3) := by decide +kernel
theorem dX2_readInto_64 : decode cX2_readInto 64 = .ok (.iload 4, 2) := by decide +kernel
theorem dX2_readInto_66 : decode cX2_readInto 66 = .ok (.iaload, 1) := by decide +kernel
theorem dX2_readInto_67 : decode cX2_readInto 67 = .ok (.aload_n 2, 1) := by decide +kernel
theorem dX2_readInto_68 : decode cX2_readInto 68 = .ok (.getfield 104, 3) := by decide +kernel
theorem dX2_readInto_71 : decode cX2_readInto 71 = .ok (.iload 5, 2) := by decide +kernel
theorem dX2_readInto_73 : decode cX2_readInto 73 = .ok (.iaload, 1) := by decide +kernel
theorem dX2_readInto_74 : decode cX2_readInto 74 = .ok (.ior, 1) := by decide +kernel
theorem dX2_readInto_75 : decode cX2_readInto 75 = .ok (.goto 10, 3) := by decide +kernel
theorem dX2_readInto_78 : decode cX2_readInto 78 = .ok (.aload_n 2, 1) := by decide +kernel
theorem dX2_readInto_79 : decode cX2_readInto 79 = .ok (.getfield 104, 3) := by decide +kernel
theorem dX2_readInto_82 : decode cX2_readInto 82 = .ok (.iload 5, 2) := by decide +kernel
theorem dX2_readInto_84 : decode cX2_readInto 84 = .ok (.iaload, 1) := by decide +kernel
theorem dX2_readInto_85 : decode cX2_readInto 85 = .ok (.iastore, 1) := by decide +kernel
theorem dX2_readInto_86 : decode cX2_readInto 86 = .ok (.iconst 1, 1) := by decide +kernel
theorem dX2_readInto_87 : decode cX2_readInto 87 = .ok (.istore_n 3, 1) := by decide +kernel
theorem dX2_readInto_88 : decode cX2_readInto 88 = .ok (.iinc 4 1, 3) := by decide +kernel
theorem dX2_readInto_91 : decode cX2_readInto 91 = .ok (.goto (-76), 3) := by decide +kernel
theorem dX2_readInto_94 : decode cX2_readInto 94 = .ok (.iload_n 3, 1) := by decide +kernel
theorem dX2_readInto_95 : decode cX2_readInto 95 = .ok (.ireturn, 1) := by decide +kernel
theorem dX2_writeFrom_0 : decode cX2_writeFrom 0 = .ok (.aload_n 0, 1) := by decide +kernel
theorem dX2_writeFrom_1 : decode cX2_writeFrom 1 = .ok (.aload_n 2, 1) := by decide +kernel
theorem dX2_writeFrom_2 : decode cX2_writeFrom 2 = .ok (.invokevirtual 105, 3) := by decide +kernel
theorem dX2_writeFrom_5 : decode cX2_writeFrom 5 = .ok (.ifCond .ne 5, 3) := by decide +kernel
theorem dX2_writeFrom_8 : decode cX2_writeFrom 8 = .ok (.iconst 0, 1) := by decide +kernel
theorem dX2_writeFrom_9 : decode cX2_writeFrom 9 = .ok (.ireturn, 1) := by decide +kernel
theorem dX2_writeFrom_10 : decode cX2_writeFrom 10 = .ok (.iconst 0, 1) := by decide +kernel
theorem dX2_writeFrom_11 : decode cX2_writeFrom 11 = .ok (.istore_n 3, 1) := by decide +kernel
theorem dX2_writeFrom_12 : decode cX2_writeFrom 12 = .ok (.iconst 0, 1) := by decide +kernel
theorem dX2_writeFrom_13 : decode cX2_writeFrom 13 = .ok (.istore 4, 2) := by decide +kernel
theorem dX2_writeFrom_15 : decode cX2_writeFrom 15 = .ok (.iload 4, 2) := by decide +kernel
theorem dX2_writeFrom_17 : decode cX2_writeFrom 17 = .ok (.aload_n 0, 1) := by decide +kernel
theorem dX2_writeFrom_18 : decode cX2_writeFrom 18 = .ok (.getfield 47, 3) := by decide +kernel
theorem dX2_writeFrom_21 : decode cX2_writeFrom 21 = .ok (.if_icmp .ge 48, 3) := by decide +kernel
theorem dX2_writeFrom_24 : decode cX2_writeFrom 24 = .ok (.aload_n 0, 1) := by decide +kernel
theorem dX2_writeFrom_25 : decode cX2_writeFrom 25 = .ok (.iload 4, 2) := by decide +kernel
theorem dX2_writeFrom_27 : decode cX2_writeFrom 27 = .ok (.aload_n 2, 1) := by decide +kernel
theorem dX2_writeFrom_28 : decode cX2_writeFrom 28 = .ok (.getfield 108, 3) := by decide +kernel
theorem dX2_writeFrom_31 : decode cX2_writeFrom 31 = .ok (.invokevirtual 91, 3) := by decide +kernel
theorem dX2_writeFrom_34 : decode cX2_writeFrom 34 = .ok (.istore 5, 2) := by decide +kernel
theorem dX2_writeFrom_36 : decode cX2_writeFrom 36 = .ok (.iload 5, 2) := by decide +kernel
theorem dX2_writeFrom_38 : decode cX2_writeFrom 38 = .ok (.iconst 4, 1) := by decide +kernel
theorem dX2_writeFrom_39 : decode cX2_writeFrom 39 = .ok (.bipush 15, 2) := by decide +kernel
theorem dX2_writeFrom_41 : decode cX2_writeFrom 41 = .ok (.invokestatic 95, 3) := by decide +kernel
theorem dX2_writeFrom_44 : decode cX2_writeFrom 44 = .ok (.ifCond .eq 19, 3) := by decide +kernel
theorem dX2_writeFrom_47 : decode cX2_writeFrom 47 = .ok (.aload_n 2, 1) := by decide +kernel
theorem dX2_writeFrom_48 : decode cX2_writeFrom 48 = .ok (.getfield 104, 3) := by decide +kernel
theorem dX2_writeFrom_51 : decode cX2_writeFrom 51 = .ok (.iload 5, 2) := by decide +kernel
theorem dX2_writeFrom_53 : decode cX2_writeFrom 53 = .ok (.aload_n 1, 1) := by decide +kernel
theorem dX2_writeFrom_54 : decode cX2_writeFrom 54 = .ok (.getfield 111, 3) := by decide +kernel
theorem dX2_writeFrom_57 : decode cX2_writeFrom 57 = .ok (.iload 4, 2) := by decide +kernel
theorem dX2_writeFrom_59 : decode cX2_writeFrom 59 = .ok (.iaload, 1) := by decide +kernel
theorem dX2_writeFrom_60 : decode cX2_writeFrom 60 = .ok (.iastore, 1) := by decide +kernel
theorem dX2_writeFrom_61 : decode cX2_writeFrom 61 = .ok (.iconst 1, 1) := by decide +kernel
theorem dX2_writeFrom_62 : decode cX2_writeFrom 62 = .ok (.istore_n 3, 1) := by decide +kernel
theorem dX2_writeFrom_63 : decode cX2_writeFrom 63 = .ok (.iinc 4 1, 3) := by decide +kernel
theorem dX2_writeFrom_66 : decode cX2_writeFrom 66 = .ok (.goto (-51), 3) := by decide +kernel
theorem dX2_writeFrom_69 : decode cX2_writeFrom 69 = .ok (.iload_n 3, 1) := by decide +kernel
theorem dX2_writeFrom_70 : decode cX2_writeFrom 70 = .ok (.ireturn, 1) := by decide +kernel
theorem dX2_byteOver_0 : decode cX2_byteOver 0 = .ok (.aload_n 0, 1) := by decide +kernel
theorem dX2_byteOver_1 : decode cX2_byteOver 1 = .ok (.invokevirtual 71, 3) := by decide +kernel
theorem dX2_byteOver_4 : decode cX2_byteOver 4 = .ok (.iconst 3, 1) := by decide +kernel
theorem dX2_byteOver_5 : decode cX2_byteOver 5 = .ok (.if_icmp .ne 16, 3) := by decide +kernel
theorem dX2_byteOver_8 : decode cX2_byteOver 8 = .ok (.aload_n 2, 1) := by decide +kernel
theorem dX2_byteOver_9 : decode cX2_byteOver 9 = .ok (.aload_n 0, 1) := by decide +kernel
theorem dX2_byteOver_10 : decode cX2_byteOver 10 = .ok (.getfield 41, 3) := by decide +kernel
theorem dX2_byteOver_13 : decode cX2_byteOver 13 = .ok (.iload_n 1, 1) := by decide +kernel
theorem dX2_byteOver_14 : decode cX2_byteOver 14 = .ok (.iadd, 1) := by decide +kernel
theorem dX2_byteOver_15 : decode cX2_byteOver 15 = .ok (.invokevirtual 114, 3) := by decide +kernel
theorem dX2_byteOver_18 : decode cX2_byteOver 18 = .ok (.goto 9, 3) := by decide +kernel
theorem dX2_byteOver_21 : decode cX2_byteOver 21 = .ok (.aload_n 0, 1) := by decide +kernel
theorem dX2_byteOver_22 : decode cX2_byteOver 22 = .ok (.getfield 44, 3) := by decide +kernel
theorem dX2_byteOver_25 : decode cX2_byteOver 25 = .ok (.iload_n 1, 1) := by decide +kernel
theorem dX2_byteOver_26 : decode cX2_byteOver 26 = .ok (.iadd, 1) := by decide +kernel
theorem dX2_byteOver_27 : decode cX2_byteOver 27 = .ok (.ireturn, 1) := by decide +kernel
theorem dX2_comeHome_0 : decode cX2_comeHome 0 = .ok (.aload_n 0, 1) := by decide +kernel
theorem dX2_comeHome_1 : decode cX2_comeHome 1 = .ok (.aload_n 0, 1) := by decide +kernel
theorem dX2_comeHome_2 : decode cX2_comeHome 2 = .ok (.getfield 28, 3) := by decide +kernel
theorem dX2_comeHome_5 : decode cX2_comeHome 5 = .ok (.ifCond .ne 7, 3) := by decide +kernel
theorem dX2_comeHome_8 : decode cX2_comeHome 8 = .ok (.iconst 0, 1) := by decide +kernel
theorem dX2_comeHome_9 : decode cX2_comeHome 9 = .ok (.goto 7, 3) := by decide +kernel
theorem dX2_comeHome_12 : decode cX2_comeHome 12 = .ok (.aload_n 0, 1) := by decide +kernel
theorem dX2_comeHome_13 : decode cX2_comeHome 13 = .ok (.getfield 47, 3) := by decide +kernel
theorem dX2_comeHome_16 : decode cX2_comeHome 16 = .ok (.putfield 32, 3) := by decide +kernel
theorem dX2_comeHome_19 : decode cX2_comeHome 19 = .ok (.aload_n 0, 1) := by decide +kernel
theorem dX2_comeHome_20 : decode cX2_comeHome 20 = .ok (.iload_n 1, 1) := by decide +kernel
theorem dX2_comeHome_21 : decode cX2_comeHome 21 = .ok (.ifCond .eq 21, 3) := by decide +kernel
theorem dX2_comeHome_24 : decode cX2_comeHome 24 = .ok (.aload_n 0, 1) := by decide +kernel
theorem dX2_comeHome_25 : decode cX2_comeHome 25 = .ok (.getfield 18, 3) := by decide +kernel
theorem dX2_comeHome_28 : decode cX2_comeHome 28 = .ok (.getfield 65, 3) := by decide +kernel
theorem dX2_comeHome_31 : decode cX2_comeHome 31 = .ok (.aload_n 0, 1) := by decide +kernel
theorem dX2_comeHome_32 : decode cX2_comeHome 32 = .ok (.getfield 22, 3) := by decide +kernel
theorem dX2_comeHome_35 : decode cX2_comeHome 35 = .ok (.getfield 65, 3) := by decide +kernel
theorem dX2_comeHome_38 : decode cX2_comeHome 38 = .ok (.iadd, 1) := by decide +kernel
theorem dX2_comeHome_39 : decode cX2_comeHome 39 = .ok (.goto 10, 3) := by decide +kernel
theorem dX2_comeHome_42 : decode cX2_comeHome 42 = .ok (.aload_n 0, 1) := by decide +kernel
theorem dX2_comeHome_43 : decode cX2_comeHome 43 = .ok (.getfield 18, 3) := by decide +kernel
theorem dX2_comeHome_46 : decode cX2_comeHome 46 = .ok (.getfield 65, 3) := by decide +kernel
theorem dX2_comeHome_49 : decode cX2_comeHome 49 = .ok (.putfield 119, 3) := by decide +kernel
theorem dX2_comeHome_52 : decode cX2_comeHome 52 = .ok (.iconst 0, 1) := by decide +kernel
theorem dX2_comeHome_53 : decode cX2_comeHome 53 = .ok (.istore_n 2, 1) := by decide +kernel
theorem dX2_comeHome_54 : decode cX2_comeHome 54 = .ok (.iload_n 2, 1) := by decide +kernel
theorem dX2_comeHome_55 : decode cX2_comeHome 55 = .ok (.aload_n 0, 1) := by decide +kernel
theorem dX2_comeHome_56 : decode cX2_comeHome 56 = .ok (.getfield 32, 3) := by decide +kernel
theorem dX2_comeHome_59 : decode cX2_comeHome 59 = .ok (.if_icmp .ge 36, 3) := by decide +kernel
theorem dX2_comeHome_62 : decode cX2_comeHome 62 = .ok (.aload_n 0, 1) := by decide +kernel
theorem dX2_comeHome_63 : decode cX2_comeHome 63 = .ok (.getfield 25, 3) := by decide +kernel
theorem dX2_comeHome_66 : decode cX2_comeHome 66 = .ok (.iload_n 2, 1) := by decide +kernel
theorem dX2_comeHome_67 : decode cX2_comeHome 67 = .ok (.iload_n 1, 1) := by decide +kernel
theorem dX2_comeHome_68 : decode cX2_comeHome 68 = .ok (.ifCond .eq 11, 3) := by decide +kernel
theorem dX2_comeHome_71 : decode cX2_comeHome 71 = .ok (.aload_n 0, 1) := by decide +kernel
theorem dX2_comeHome_72 : decode cX2_comeHome 72 = .ok (.iload_n 2, 1) := by decide +kernel
theorem dX2_comeHome_73 : decode cX2_comeHome 73 = .ok (.invokevirtual 122, 3) := by decide +kernel
theorem dX2_comeHome_76 : decode cX2_comeHome 76 = .ok (.goto 12, 3) := by decide +kernel
theorem dX2_comeHome_79 : decode cX2_comeHome 79 = .ok (.aload_n 0, 1) := by decide +kernel
theorem dX2_comeHome_80 : decode cX2_comeHome 80 = .ok (.getfield 18, 3) := by decide +kernel
theorem dX2_comeHome_83 : decode cX2_comeHome 83 = .ok (.getfield 99, 3) := by decide +kernel
theorem dX2_comeHome_86 : decode cX2_comeHome 86 = .ok (.iload_n 2, 1) := by decide +kernel
theorem dX2_comeHome_87 : decode cX2_comeHome 87 = .ok (.iaload, 1) := by decide +kernel
theorem dX2_comeHome_88 : decode cX2_comeHome 88 = .ok (.iastore, 1) := by decide +kernel
theorem dX2_comeHome_89 : decode cX2_comeHome 89 = .ok (.iinc 2 1, 3) := by decide +kernel
theorem dX2_comeHome_92 : decode cX2_comeHome 92 = .ok (.goto (-38), 3) := by decide +kernel
theorem dX2_comeHome_95 : decode cX2_comeHome 95 = .ok (.return_, 1) := by decide +kernel
theorem dX2_joinedByte_0 : decode cX2_joinedByte 0 = .ok (.aload_n 0, 1) := by decide +kernel
theorem dX2_joinedByte_1 : decode cX2_joinedByte 1 = .ok (.invokevirtual 100, 3) := by decide +kernel
theorem dX2_joinedByte_4 : decode cX2_joinedByte 4 = .ok (.ifCond .eq 23, 3) := by decide +kernel
theorem dX2_joinedByte_7 : decode cX2_joinedByte 7 = .ok (.aload_n 0, 1) := by decide +kernel
theorem dX2_joinedByte_8 : decode cX2_joinedByte 8 = .ok (.getfield 18, 3) := by decide +kernel
theorem dX2_joinedByte_11 : decode cX2_joinedByte 11 = .ok (.getfield 99, 3) := by decide +kernel
theorem dX2_joinedByte_14 : decode cX2_joinedByte 14 = .ok (.iload_n 1, 1) := by decide +kernel
theorem dX2_joinedByte_15 : decode cX2_joinedByte 15 = .ok (.iaload, 1) := by decide +kernel
theorem dX2_joinedByte_16 : decode cX2_joinedByte 16 = .ok (.aload_n 0, 1) := by decide +kernel
theorem dX2_joinedByte_17 : decode cX2_joinedByte 17 = .ok (.getfield 22, 3) := by decide +kernel
theorem dX2_joinedByte_20 : decode cX2_joinedByte 20 = .ok (.getfield 99, 3) := by decide +kernel
theorem dX2_joinedByte_23 : decode cX2_joinedByte 23 = .ok (.iload_n 1, 1) := by decide +kernel
theorem dX2_joinedByte_24 : decode cX2_joinedByte 24 = .ok (.iaload, 1) := by decide +kernel
theorem dX2_joinedByte_25 : decode cX2_joinedByte 25 = .ok (.ior, 1) := by decide +kernel
theorem dX2_joinedByte_26 : decode cX2_joinedByte 26 = .ok (.ireturn, 1) := by decide +kernel
theorem dX2_joinedByte_27 : decode cX2_joinedByte 27 = .ok (.aload_n 0, 1) := by decide +kernel
theorem dX2_joinedByte_28 : decode cX2_joinedByte 28 = .ok (.getfield 18, 3) := by decide +kernel
theorem dX2_joinedByte_31 : decode cX2_joinedByte 31 = .ok (.getfield 99, 3) := by decide +kernel
theorem dX2_joinedByte_34 : decode cX2_joinedByte 34 = .ok (.iload_n 1, 1) := by decide +kernel
theorem dX2_joinedByte_35 : decode cX2_joinedByte 35 = .ok (.iaload, 1) := by decide +kernel
theorem dX2_joinedByte_36 : decode cX2_joinedByte 36 = .ok (.aload_n 0, 1) := by decide +kernel
theorem dX2_joinedByte_37 : decode cX2_joinedByte 37 = .ok (.getfield 9, 3) := by decide +kernel
theorem dX2_joinedByte_40 : decode cX2_joinedByte 40 = .ok (.iload_n 1, 1) := by decide +kernel
theorem dX2_joinedByte_41 : decode cX2_joinedByte 41 = .ok (.iaload, 1) := by decide +kernel
theorem dX2_joinedByte_42 : decode cX2_joinedByte 42 = .ok (.if_icmp .eq 15, 3) := by decide +kernel
theorem dX2_joinedByte_45 : decode cX2_joinedByte 45 = .ok (.aload_n 0, 1) := by decide +kernel
theorem dX2_joinedByte_46 : decode cX2_joinedByte 46 = .ok (.getfield 18, 3) := by decide +kernel
theorem dX2_joinedByte_49 : decode cX2_joinedByte 49 = .ok (.getfield 99, 3) := by decide +kernel
theorem dX2_joinedByte_52 : decode cX2_joinedByte 52 = .ok (.iload_n 1, 1) := by decide +kernel
theorem dX2_joinedByte_53 : decode cX2_joinedByte 53 = .ok (.iaload, 1) := by decide +kernel
theorem dX2_joinedByte_54 : decode cX2_joinedByte 54 = .ok (.goto 12, 3) := by decide +kernel
theorem dX2_joinedByte_57 : decode cX2_joinedByte 57 = .ok (.aload_n 0, 1) := by decide +kernel
theorem dX2_joinedByte_58 : decode cX2_joinedByte 58 = .ok (.getfield 22, 3) := by decide +kernel
theorem dX2_joinedByte_61 : decode cX2_joinedByte 61 = .ok (.getfield 99, 3) := by decide +kernel
theorem dX2_joinedByte_64 : decode cX2_joinedByte 64 = .ok (.iload_n 1, 1) := by decide +kernel
theorem dX2_joinedByte_65 : decode cX2_joinedByte 65 = .ok (.iaload, 1) := by decide +kernel
theorem dX2_joinedByte_66 : decode cX2_joinedByte 66 = .ok (.ireturn, 1) := by decide +kernel
theorem dX2_likeness_0 : decode cX2_likeness 0 = .ok (.aload_n 0, 1) := by decide +kernel
theorem dX2_likeness_1 : decode cX2_likeness 1 = .ok (.getfield 28, 3) := by decide +kernel
theorem dX2_likeness_4 : decode cX2_likeness 4 = .ok (.bipush 100, 2) := by decide +kernel
theorem dX2_likeness_6 : decode cX2_likeness 6 = .ok (.imul, 1) := by decide +kernel
theorem dX2_likeness_7 : decode cX2_likeness 7 = .ok (.aload_n 0, 1) := by decide +kernel
theorem dX2_likeness_8 : decode cX2_likeness 8 = .ok (.getfield 41, 3) := by decide +kernel
theorem dX2_likeness_11 : decode cX2_likeness 11 = .ok (.iadd, 1) := by decide +kernel
theorem dX2_likeness_12 : decode cX2_likeness 12 = .ok (.bipush 16, 2) := by decide +kernel
theorem dX2_likeness_14 : decode cX2_likeness 14 = .ok (.imul, 1) := by decide +kernel
theorem dX2_likeness_15 : decode cX2_likeness 15 = .ok (.aload_n 0, 1) := by decide +kernel
theorem dX2_likeness_16 : decode cX2_likeness 16 = .ok (.getfield 44, 3) := by decide +kernel
theorem dX2_likeness_19 : decode cX2_likeness 19 = .ok (.iadd, 1) := by decide +kernel
theorem dX2_likeness_20 : decode cX2_likeness 20 = .ok (.bipush 10, 2) := by decide +kernel
theorem dX2_likeness_22 : decode cX2_likeness 22 = .ok (.imul, 1) := by decide +kernel
theorem dX2_likeness_23 : decode cX2_likeness 23 = .ok (.aload_n 0, 1) := by decide +kernel
theorem dX2_likeness_24 : decode cX2_likeness 24 = .ok (.getfield 47, 3) := by decide +kernel
theorem dX2_likeness_27 : decode cX2_likeness 27 = .ok (.iadd, 1) := by decide +kernel
theorem dX2_likeness_28 : decode cX2_likeness 28 = .ok (.ireturn, 1) := by decide +kernel
theorem dX3_init_0 : decode cX3_init 0 = .ok (.aload_n 0, 1) := by decide +kernel
theorem dX3_init_1 : decode cX3_init 1 = .ok (.invokespecial 3, 3) := by decide +kernel
theorem dX3_init_4 : decode cX3_init 4 = .ok (.aload_n 0, 1) := by decide +kernel
theorem dX3_init_5 : decode cX3_init 5 = .ok (.bipush 16, 2) := by decide +kernel
theorem dX3_init_7 : decode cX3_init 7 = .ok (.newarray .int, 2) := by decide +kernel
theorem dX3_init_9 : decode cX3_init 9 = .ok (.putfield 9, 3) := by decide +kernel
theorem dX3_init_12 : decode cX3_init 12 = .ok (.aload_n 0, 1) := by decide +kernel
theorem dX3_init_13 : decode cX3_init 13 = .ok (.new 15, 3) := by decide +kernel
theorem dX3_init_16 : decode cX3_init 16 = .ok (.dup, 1) := by decide +kernel
theorem dX3_init_17 : decode cX3_init 17 = .ok (.invokespecial 17, 3) := by decide +kernel
theorem dX3_init_20 : decode cX3_init 20 = .ok (.putfield 18, 3) := by decide +kernel
theorem dX3_init_23 : decode cX3_init 23 = .ok (.aload_n 0, 1) := by decide +kernel
theorem dX3_init_24 : decode cX3_init 24 = .ok (.new 15, 3) := by decide +kernel
theorem dX3_init_27 : decode cX3_init 27 = .ok (.dup, 1) := by decide +kernel
theorem dX3_init_28 : decode cX3_init 28 = .ok (.invokespecial 17, 3) := by decide +kernel
theorem dX3_init_31 : decode cX3_init 31 = .ok (.putfield 22, 3) := by decide +kernel
theorem dX3_init_34 : decode cX3_init 34 = .ok (.aload_n 0, 1) := by decide +kernel
theorem dX3_init_35 : decode cX3_init 35 = .ok (.new 25, 3) := by decide +kernel
theorem dX3_init_38 : decode cX3_init 38 = .ok (.dup, 1) := by decide +kernel
theorem dX3_init_39 : decode cX3_init 39 = .ok (.invokespecial 27, 3) := by decide +kernel
theorem dX3_init_42 : decode cX3_init 42 = .ok (.putfield 28, 3) := by decide +kernel
theorem dX3_init_45 : decode cX3_init 45 = .ok (.return_, 1) := by decide +kernel
theorem dX3_begin_0 : decode cX3_begin 0 = .ok (.aload_n 0, 1) := by decide +kernel
theorem dX3_begin_1 : decode cX3_begin 1 = .ok (.iload_n 1, 1) := by decide +kernel
theorem dX3_begin_2 : decode cX3_begin 2 = .ok (.putfield 32, 3) := by decide +kernel
theorem dX3_begin_5 : decode cX3_begin 5 = .ok (.aload_n 0, 1) := by decide +kernel
theorem dX3_begin_6 : decode cX3_begin 6 = .ok (.iload_n 2, 1) := by decide +kernel
theorem dX3_begin_7 : decode cX3_begin 7 = .ok (.putfield 36, 3) := by decide +kernel
theorem dX3_begin_10 : decode cX3_begin 10 = .ok (.aload_n 0, 1) := by decide +kernel
theorem dX3_begin_11 : decode cX3_begin 11 = .ok (.iload_n 3, 1) := by decide +kernel
theorem dX3_begin_12 : decode cX3_begin 12 = .ok (.putfield 39, 3) := by decide +kernel
theorem dX3_begin_15 : decode cX3_begin 15 = .ok (.aload_n 0, 1) := by decide +kernel
theorem dX3_begin_16 : decode cX3_begin 16 = .ok (.iconst 0, 1) := by decide +kernel
theorem dX3_begin_17 : decode cX3_begin 17 = .ok (.putfield 42, 3) := by decide +kernel
theorem dX3_begin_20 : decode cX3_begin 20 = .ok (.aload_n 0, 1) := by decide +kernel
theorem dX3_begin_21 : decode cX3_begin 21 = .ok (.iconst 0, 1) := by decide +kernel
theorem dX3_begin_22 : decode cX3_begin 22 = .ok (.putfield 45, 3) := by decide +kernel
theorem dX3_begin_25 : decode cX3_begin 25 = .ok (.aload_n 0, 1) := by decide +kernel
theorem dX3_begin_26 : decode cX3_begin 26 = .ok (.getfield 9, 3) := by decide +kernel
theorem dX3_begin_29 : decode cX3_begin 29 = .ok (.iconst 0, 1) := by decide +kernel
theorem dX3_begin_30 : decode cX3_begin 30 = .ok (.invokestatic 48, 3) := by decide +kernel
theorem dX3_begin_33 : decode cX3_begin 33 = .ok (.aload_n 0, 1) := by decide +kernel
theorem dX3_begin_34 : decode cX3_begin 34 = .ok (.getfield 18, 3) := by decide +kernel
theorem dX3_begin_37 : decode cX3_begin 37 = .ok (.invokevirtual 54, 3) := by decide +kernel
theorem dX3_begin_40 : decode cX3_begin 40 = .ok (.aload_n 0, 1) := by decide +kernel
theorem dX3_begin_41 : decode cX3_begin 41 = .ok (.getfield 22, 3) := by decide +kernel
theorem dX3_begin_44 : decode cX3_begin 44 = .ok (.invokevirtual 54, 3) := by decide +kernel
theorem dX3_begin_47 : decode cX3_begin 47 = .ok (.aload_n 0, 1) := by decide +kernel
theorem dX3_begin_48 : decode cX3_begin 48 = .ok (.iconst 0, 1) := by decide +kernel
theorem dX3_begin_49 : decode cX3_begin 49 = .ok (.invokevirtual 57, 3) := by decide +kernel
theorem dX3_begin_52 : decode cX3_begin 52 = .ok (.return_, 1) := by decide +kernel
theorem dX3_enter_0 : decode cX3_enter 0 = .ok (.aload_n 0, 1) := by decide +kernel
theorem dX3_enter_1 : decode cX3_enter 1 = .ok (.iload_n 1, 1) := by decide +kernel
theorem dX3_enter_2 : decode cX3_enter 2 = .ok (.putfield 61, 3) := by decide +kernel
theorem dX3_enter_5 : decode cX3_enter 5 = .ok (.iload_n 1, 1) := by decide +kernel
theorem dX3_enter_6 : decode cX3_enter 6 = .ok (.ifCond .ne 10, 3) := by decide +kernel
theorem dX3_enter_9 : decode cX3_enter 9 = .ok (.aload_n 0, 1) := by decide +kernel
theorem dX3_enter_10 : decode cX3_enter 10 = .ok (.getfield 28, 3) := by decide +kernel
theorem dX3_enter_13 : decode cX3_enter 13 = .ok (.invokevirtual 64, 3) := by decide +kernel
theorem dX3_enter_16 : decode cX3_enter 16 = .ok (.return_, 1) := by decide +kernel
theorem dX3_overlay_0 : decode cX3_overlay 0 = .ok (.iload_n 1, 1) := by decide +kernel
theorem dX3_overlay_1 : decode cX3_overlay 1 = .ok (.iconst 1, 1) := by decide +kernel
theorem dX3_overlay_2 : decode cX3_overlay 2 = .ok (.if_icmp .ne 10, 3) := by decide +kernel
theorem dX3_overlay_5 : decode cX3_overlay 5 = .ok (.aload_n 0, 1) := by decide +kernel
theorem dX3_overlay_6 : decode cX3_overlay 6 = .ok (.getfield 22, 3) := by decide +kernel
theorem dX3_overlay_9 : decode cX3_overlay 9 = .ok (.goto 7, 3) := by decide +kernel
theorem dX3_overlay_12 : decode cX3_overlay 12 = .ok (.aload_n 0, 1) := by decide +kernel
theorem dX3_overlay_13 : decode cX3_overlay 13 = .ok (.getfield 18, 3) := by decide +kernel
theorem dX3_overlay_16 : decode cX3_overlay 16 = .ok (.areturn, 1) := by decide +kernel
theorem dX3_ownClock_0 : decode cX3_ownClock 0 = .ok (.aload_n 0, 1) := by decide +kernel
theorem dX3_ownClock_1 : decode cX3_ownClock 1 = .ok (.getfield 36, 3) := by decide +kernel
theorem dX3_ownClock_4 : decode cX3_ownClock 4 = .ok (.iload_n 1, 1) := by decide +kernel
theorem dX3_ownClock_5 : decode cX3_ownClock 5 = .ok (.iadd, 1) := by decide +kernel
theorem dX3_ownClock_6 : decode cX3_ownClock 6 = .ok (.iload_n 1, 1) := by decide +kernel
theorem dX3_ownClock_7 : decode cX3_ownClock 7 = .ok (.aload_n 0, 1) := by decide +kernel
theorem dX3_ownClock_8 : decode cX3_ownClock 8 = .ok (.getfield 39, 3) := by decide +kernel
theorem dX3_ownClock_11 : decode cX3_ownClock 11 = .ok (.iconst 4, 1) := by decide +kernel
theorem dX3_ownClock_12 : decode cX3_ownClock 12 = .ok (.isub, 1) := by decide +kernel
theorem dX3_ownClock_13 : decode cX3_ownClock 13 = .ok (.imul, 1) := by decide +kernel
theorem dX3_ownClock_14 : decode cX3_ownClock 14 = .ok (.bipush 100, 2) := by decide +kernel
theorem dX3_ownClock_16 : decode cX3_ownClock 16 = .ok (.invokestatic 67, 3) := by decide +kernel
theorem dX3_ownClock_19 : decode cX3_ownClock 19 = .ok (.iadd, 1) := by decide +kernel
theorem dX3_ownClock_20 : decode cX3_ownClock 20 = .ok (.ireturn, 1) := by decide +kernel
theorem dX3_systemClock_0 : decode cX3_systemClock 0 = .ok (.aload_n 0, 1) := by decide +kernel
theorem dX3_systemClock_1 : decode cX3_systemClock 1 = .ok (.iload_n 1, 1) := by decide +kernel
theorem dX3_systemClock_2 : decode cX3_systemClock 2 = .ok (.invokevirtual 73, 3) := by decide +kernel
theorem dX3_systemClock_5 : decode cX3_systemClock 5 = .ok (.aload_n 0, 1) := by decide +kernel
theorem dX3_systemClock_6 : decode cX3_systemClock 6 = .ok (.getfield 42, 3) := by decide +kernel
theorem dX3_systemClock_9 : decode cX3_systemClock 9 = .ok (.iadd, 1) := by decide +kernel
theorem dX3_systemClock_10 : decode cX3_systemClock 10 = .ok (.ireturn, 1) := by decide +kernel
theorem dX3_showAt_0 : decode cX3_showAt 0 = .ok (.aload_n 0, 1) := by decide +kernel
theorem dX3_showAt_1 : decode cX3_showAt 1 = .ok (.iload_n 1, 1) := by decide +kernel
theorem dX3_showAt_2 : decode cX3_showAt 2 = .ok (.invokevirtual 77, 3) := by decide +kernel
theorem dX3_showAt_5 : decode cX3_showAt 5 = .ok (.ldc 80, 2) := by decide +kernel
theorem dX3_showAt_7 : decode cX3_showAt 7 = .ok (.invokestatic 81, 3) := by decide +kernel
theorem dX3_showAt_10 : decode cX3_showAt 10 = .ok (.istore_n 2, 1) := by decide +kernel
theorem dX3_showAt_11 : decode cX3_showAt 11 = .ok (.aload_n 0, 1) := by decide +kernel
theorem dX3_showAt_12 : decode cX3_showAt 12 = .ok (.getfield 9, 3) := by decide +kernel
theorem dX3_showAt_15 : decode cX3_showAt 15 = .ok (.iconst 0, 1) := by decide +kernel
theorem dX3_showAt_16 : decode cX3_showAt 16 = .ok (.aload_n 0, 1) := by decide +kernel
theorem dX3_showAt_17 : decode cX3_showAt 17 = .ok (.getfield 32, 3) := by decide +kernel
theorem dX3_showAt_20 : decode cX3_showAt 20 = .ok (.iastore, 1) := by decide +kernel
theorem dX3_showAt_21 : decode cX3_showAt 21 = .ok (.aload_n 0, 1) := by decide +kernel
theorem dX3_showAt_22 : decode cX3_showAt 22 = .ok (.getfield 9, 3) := by decide +kernel
theorem dX3_showAt_25 : decode cX3_showAt 25 = .ok (.iconst 1, 1) := by decide +kernel
theorem dX3_showAt_26 : decode cX3_showAt 26 = .ok (.aload_n 0, 1) := by decide +kernel
theorem dX3_showAt_27 : decode cX3_showAt 27 = .ok (.getfield 61, 3) := by decide +kernel
theorem dX3_showAt_30 : decode cX3_showAt 30 = .ok (.iastore, 1) := by decide +kernel
theorem dX3_showAt_31 : decode cX3_showAt 31 = .ok (.aload_n 0, 1) := by decide +kernel
theorem dX3_showAt_32 : decode cX3_showAt 32 = .ok (.getfield 9, 3) := by decide +kernel
theorem dX3_showAt_35 : decode cX3_showAt 35 = .ok (.iconst 2, 1) := by decide +kernel
theorem dX3_showAt_36 : decode cX3_showAt 36 = .ok (.iload_n 2, 1) := by decide +kernel
theorem dX3_showAt_37 : decode cX3_showAt 37 = .ok (.sipush 256, 3) := by decide +kernel
theorem dX3_showAt_40 : decode cX3_showAt 40 = .ok (.irem, 1) := by decide +kernel
theorem dX3_showAt_41 : decode cX3_showAt 41 = .ok (.iastore, 1) := by decide +kernel
theorem dX3_showAt_42 : decode cX3_showAt 42 = .ok (.aload_n 0, 1) := by decide +kernel
theorem dX3_showAt_43 : decode cX3_showAt 43 = .ok (.getfield 9, 3) := by decide +kernel
theorem dX3_showAt_46 : decode cX3_showAt 46 = .ok (.iconst 3, 1) := by decide +kernel
theorem dX3_showAt_47 : decode cX3_showAt 47 = .ok (.iload_n 2, 1) := by decide +kernel
theorem dX3_showAt_48 : decode cX3_showAt 48 = .ok (.sipush 256, 3) := by decide +kernel
theorem dX3_showAt_51 : decode cX3_showAt 51 = .ok (.idiv, 1) := by decide +kernel
theorem dX3_showAt_52 : decode cX3_showAt 52 = .ok (.iastore, 1) := by decide +kernel
theorem dX3_showAt_53 : decode cX3_showAt 53 = .ok (.return_, 1) := by decide +kernel
theorem dX4_init_0 : decode cX4_init 0 = .ok (.aload_n 0, 1) := by decide +kernel
theorem dX4_init_1 : decode cX4_init 1 = .ok (.invokespecial 3, 3) := by decide +kernel
theorem dX4_init_4 : decode cX4_init 4 = .ok (.aload_n 0, 1) := by decide +kernel
theorem dX4_init_5 : decode cX4_init 5 = .ok (.bipush 6, 2) := by decide +kernel
theorem dX4_init_7 : decode cX4_init 7 = .ok (.newarray .int, 2) := by decide +kernel
theorem dX4_init_9 : decode cX4_init 9 = .ok (.putfield 9, 3) := by decide +kernel
theorem dX4_init_12 : decode cX4_init 12 = .ok (.aload_n 0, 1) := by decide +kernel
theorem dX4_init_13 : decode cX4_init 13 = .ok (.bipush 6, 2) := by decide +kernel
theorem dX4_init_15 : decode cX4_init 15 = .ok (.newarray .int, 2) := by decide +kernel
theorem dX4_init_17 : decode cX4_init 17 = .ok (.putfield 15, 3) := by decide +kernel
theorem dX4_init_20 : decode cX4_init 20 = .ok (.return_, 1) := by decide +kernel
theorem dX4_empty_0 : decode cX4_empty 0 = .ok (.aload_n 0, 1) := by decide +kernel
theorem dX4_empty_1 : decode cX4_empty 1 = .ok (.iconst 0, 1) := by decide +kernel
theorem dX4_empty_2 : decode cX4_empty 2 = .ok (.putfield 18, 3) := by decide +kernel
theorem dX4_empty_5 : decode cX4_empty 5 = .ok (.return_, 1) := by decide +kernel
theorem dX4_size_0 : decode cX4_size 0 = .ok (.aload_n 0, 1) := by decide +kernel
theorem dX4_size_1 : decode cX4_size 1 = .ok (.getfield 18, 3) := by decide +kernel
theorem dX4_size_4 : decode cX4_size 4 = .ok (.ireturn, 1) := by decide +kernel
theorem dX4_indexOf_0 : decode cX4_indexOf 0 = .ok (.iconst 0, 1) := by decide +kernel
theorem dX4_indexOf_1 : decode cX4_indexOf 1 = .ok (.istore_n 2, 1) := by decide +kernel
theorem dX4_indexOf_2 : decode cX4_indexOf 2 = .ok (.iload_n 2, 1) := by decide +kernel
theorem dX4_indexOf_3 : decode cX4_indexOf 3 = .ok (.aload_n 0, 1) := by decide +kernel
theorem dX4_indexOf_4 : decode cX4_indexOf 4 = .ok (.getfield 18, 3) := by decide +kernel
theorem dX4_indexOf_7 : decode cX4_indexOf 7 = .ok (.if_icmp .ge 21, 3) := by decide +kernel
theorem dX4_indexOf_10 : decode cX4_indexOf 10 = .ok (.aload_n 0, 1) := by decide +kernel
theorem dX4_indexOf_11 : decode cX4_indexOf 11 = .ok (.getfield 9, 3) := by decide +kernel
theorem dX4_indexOf_14 : decode cX4_indexOf 14 = .ok (.iload_n 2, 1) := by decide +kernel
theorem dX4_indexOf_15 : decode cX4_indexOf 15 = .ok (.iaload, 1) := by decide +kernel
theorem dX4_indexOf_16 : decode cX4_indexOf 16 = .ok (.iload_n 1, 1) := by decide +kernel
theorem dX4_indexOf_17 : decode cX4_indexOf 17 = .ok (.if_icmp .ne 5, 3) := by decide +kernel
theorem dX4_indexOf_20 : decode cX4_indexOf 20 = .ok (.iload_n 2, 1) := by decide +kernel
theorem dX4_indexOf_21 : decode cX4_indexOf 21 = .ok (.ireturn, 1) := by decide +kernel
theorem dX4_indexOf_22 : decode cX4_indexOf 22 = .ok (.iinc 2 1, 3) := by decide +kernel
theorem dX4_indexOf_25 : decode cX4_indexOf 25 = .ok (.goto (-23), 3) := by decide +kernel
theorem dX4_indexOf_28 : decode cX4_indexOf 28 = .ok (.bipush (-4), 2) := by decide +kernel
theorem dX4_indexOf_30 : decode cX4_indexOf 30 = .ok (.ireturn, 1) := by decide +kernel
theorem dX4_counterOf_0 : decode cX4_counterOf 0 = .ok (.aload_n 0, 1) := by decide +kernel
theorem dX4_counterOf_1 : decode cX4_counterOf 1 = .ok (.iload_n 1, 1) := by decide +kernel
theorem dX4_counterOf_2 : decode cX4_counterOf 2 = .ok (.invokevirtual 22, 3) := by decide +kernel
theorem dX4_counterOf_5 : decode cX4_counterOf 5 = .ok (.istore_n 2, 1) := by decide +kernel
theorem dX4_counterOf_6 : decode cX4_counterOf 6 = .ok (.iload_n 2, 1) := by decide +kernel
theorem dX4_counterOf_7 : decode cX4_counterOf 7 = .ok (.ifCond .ge 8, 3) := by decide +kernel
theorem dX4_counterOf_10 : decode cX4_counterOf 10 = .ok (.bipush (-4), 2) := by decide +kernel
theorem dX4_counterOf_12 : decode cX4_counterOf 12 = .ok (.goto 9, 3) := by decide +kernel
theorem dX4_counterOf_15 : decode cX4_counterOf 15 = .ok (.aload_n 0, 1) := by decide +kernel
theorem dX4_counterOf_16 : decode cX4_counterOf 16 = .ok (.getfield 15, 3) := by decide +kernel
theorem dX4_counterOf_19 : decode cX4_counterOf 19 = .ok (.iload_n 2, 1) := by decide +kernel
theorem dX4_counterOf_20 : decode cX4_counterOf 20 = .ok (.iaload, 1) := by decide +kernel
theorem dX4_counterOf_21 : decode cX4_counterOf 21 = .ok (.ireturn, 1) := by decide +kernel
theorem dX4_remember_0 : decode cX4_remember 0 = .ok (.aload_n 0, 1) := by decide +kernel
theorem dX4_remember_1 : decode cX4_remember 1 = .ok (.iload_n 1, 1) := by decide +kernel
theorem dX4_remember_2 : decode cX4_remember 2 = .ok (.invokevirtual 22, 3) := by decide +kernel
theorem dX4_remember_5 : decode cX4_remember 5 = .ok (.istore_n 3, 1) := by decide +kernel
theorem dX4_remember_6 : decode cX4_remember 6 = .ok (.iload_n 3, 1) := by decide +kernel
theorem dX4_remember_7 : decode cX4_remember 7 = .ok (.ifCond .lt 20, 3) := by decide +kernel
theorem dX4_remember_10 : decode cX4_remember 10 = .ok (.aload_n 0, 1) := by decide +kernel
theorem dX4_remember_11 : decode cX4_remember 11 = .ok (.getfield 15, 3) := by decide +kernel
theorem dX4_remember_14 : decode cX4_remember 14 = .ok (.iload_n 3, 1) := by decide +kernel
theorem dX4_remember_15 : decode cX4_remember 15 = .ok (.aload_n 0, 1) := by decide +kernel
theorem dX4_remember_16 : decode cX4_remember 16 = .ok (.getfield 15, 3) := by decide +kernel
theorem dX4_remember_19 : decode cX4_remember 19 = .ok (.iload_n 3, 1) := by decide +kernel
theorem dX4_remember_20 : decode cX4_remember 20 = .ok (.iaload, 1) := by decide +kernel
theorem dX4_remember_21 : decode cX4_remember 21 = .ok (.iload_n 2, 1) := by decide +kernel
theorem dX4_remember_22 : decode cX4_remember 22 = .ok (.invokestatic 26, 3) := by decide +kernel
theorem dX4_remember_25 : decode cX4_remember 25 = .ok (.iastore, 1) := by decide +kernel
theorem dX4_remember_26 : decode cX4_remember 26 = .ok (.return_, 1) := by decide +kernel
theorem dX4_remember_27 : decode cX4_remember 27 = .ok (.aload_n 0, 1) := by decide +kernel
theorem dX4_remember_28 : decode cX4_remember 28 = .ok (.getfield 18, 3) := by decide +kernel
theorem dX4_remember_31 : decode cX4_remember 31 = .ok (.bipush 6, 2) := by decide +kernel
theorem dX4_remember_33 : decode cX4_remember 33 = .ok (.if_icmp .lt 7, 3) := by decide +kernel
theorem dX4_remember_36 : decode cX4_remember 36 = .ok (.aload_n 0, 1) := by decide +kernel
theorem dX4_remember_37 : decode cX4_remember 37 = .ok (.invokevirtual 32, 3) := by decide +kernel
theorem dX4_remember_40 : decode cX4_remember 40 = .ok (.aload_n 0, 1) := by decide +kernel
theorem dX4_remember_41 : decode cX4_remember 41 = .ok (.getfield 9, 3) := by decide +kernel
theorem dX4_remember_44 : decode cX4_remember 44 = .ok (.aload_n 0, 1) := by decide +kernel
theorem dX4_remember_45 : decode cX4_remember 45 = .ok (.getfield 18, 3) := by decide +kernel
theorem dX4_remember_48 : decode cX4_remember 48 = .ok (.iload_n 1, 1) := by decide +kernel
theorem dX4_remember_49 : decode cX4_remember 49 = .ok (.iastore, 1) := by decide +kernel
theorem dX4_remember_50 : decode cX4_remember 50 = .ok (.aload_n 0, 1) := by decide +kernel
theorem dX4_remember_51 : decode cX4_remember 51 = .ok (.getfield 15, 3) := by decide +kernel
theorem dX4_remember_54 : decode cX4_remember 54 = .ok (.aload_n 0, 1) := by decide +kernel
theorem dX4_remember_55 : decode cX4_remember 55 = .ok (.getfield 18, 3) := by decide +kernel
theorem dX4_remember_58 : decode cX4_remember 58 = .ok (.iload_n 2, 1) := by decide +kernel
theorem dX4_remember_59 : decode cX4_remember 59 = .ok (.iastore, 1) := by decide +kernel
theorem dX4_remember_60 : decode cX4_remember 60 = .ok (.aload_n 0, 1) := by decide +kernel
theorem dX4_remember_61 : decode cX4_remember 61 = .ok (.dup, 1) := by decide +kernel
theorem dX4_remember_62 : decode cX4_remember 62 = .ok (.getfield 18, 3) := by decide +kernel
theorem dX4_remember_65 : decode cX4_remember 65 = .ok (.iconst 1, 1) := by decide +kernel
theorem dX4_remember_66 : decode cX4_remember 66 = .ok (.iadd, 1) := by decide +kernel
theorem dX4_remember_67 : decode cX4_remember 67 = .ok (.putfield 18, 3) := by decide +kernel
theorem dX4_remember_70 : decode cX4_remember 70 = .ok (.return_, 1) := by decide +kernel
theorem dX4_forgetOldest_0 : decode cX4_forgetOldest 0 = .ok (.iconst 1, 1) := by decide +kernel
theorem dX4_forgetOldest_1 : decode cX4_forgetOldest 1 = .ok (.istore_n 1, 1) := by decide +kernel
theorem dX4_forgetOldest_2 : decode cX4_forgetOldest 2 = .ok (.iload_n 1, 1) := by decide +kernel
theorem dX4_forgetOldest_3 : decode cX4_forgetOldest 3 = .ok (.aload_n 0, 1) := by decide +kernel
theorem dX4_forgetOldest_4 : decode cX4_forgetOldest 4 = .ok (.getfield 18, 3) := by decide +kernel
theorem dX4_forgetOldest_7 : decode cX4_forgetOldest 7 = .ok (.if_icmp .ge 37, 3) := by decide +kernel
theorem dX4_forgetOldest_10 : decode cX4_forgetOldest 10 = .ok (.aload_n 0, 1) := by decide +kernel
theorem dX4_forgetOldest_11 : decode cX4_forgetOldest 11 = .ok (.getfield 9, 3) := by decide +kernel
theorem dX4_forgetOldest_14 : decode cX4_forgetOldest 14 = .ok (.iload_n 1, 1) := by decide +kernel
theorem dX4_forgetOldest_15 : decode cX4_forgetOldest 15 = .ok (.iconst 1, 1) := by decide +kernel
theorem dX4_forgetOldest_16 : decode cX4_forgetOldest 16 = .ok (.isub, 1) := by decide +kernel
theorem dX4_forgetOldest_17 : decode cX4_forgetOldest 17 = .ok (.aload_n 0, 1) := by decide +kernel
theorem dX4_forgetOldest_18 : decode cX4_forgetOldest 18 = .ok (.getfield 9, 3) := by decide +kernel
theorem dX4_forgetOldest_21 : decode cX4_forgetOldest 21 = .ok (.iload_n 1, 1) := by decide +kernel
theorem dX4_forgetOldest_22 : decode cX4_forgetOldest 22 = .ok (.iaload, 1) := by decide +kernel
theorem dX4_forgetOldest_23 : decode cX4_forgetOldest 23 = .ok (.iastore, 1) := by decide +kernel
theorem dX4_forgetOldest_24 : decode cX4_forgetOldest 24 = .ok (.aload_n 0, 1) := by decide +kernel
theorem dX4_forgetOldest_25 : decode cX4_forgetOldest 25 = .ok (.getfield 15, 3) := by decide +kernel
theorem dX4_forgetOldest_28 : decode cX4_forgetOldest 28 = .ok (.iload_n 1, 1) := by decide +kernel
theorem dX4_forgetOldest_29 : decode cX4_forgetOldest 29 = .ok (.iconst 1, 1) := by decide +kernel
theorem dX4_forgetOldest_30 : decode cX4_forgetOldest 30 = .ok (.isub, 1) := by decide +kernel
theorem dX4_forgetOldest_31 : decode cX4_forgetOldest 31 = .ok (.aload_n 0, 1) := by decide +kernel
theorem dX4_forgetOldest_32 : decode cX4_forgetOldest 32 = .ok (.getfield 15, 3) := by decide +kernel
theorem dX4_forgetOldest_35 : decode cX4_forgetOldest 35 = .ok (.iload_n 1, 1) := by decide +kernel
theorem dX4_forgetOldest_36 : decode cX4_forgetOldest 36 = .ok (.iaload, 1) := by decide +kernel
theorem dX4_forgetOldest_37 : decode cX4_forgetOldest 37 = .ok (.iastore, 1) := by decide +kernel
theorem dX4_forgetOldest_38 : decode cX4_forgetOldest 38 = .ok (.iinc 1 1, 3) := by decide +kernel
theorem dX4_forgetOldest_41 : decode cX4_forgetOldest 41 = .ok (.goto (-39), 3) := by decide +kernel
theorem dX4_forgetOldest_44 : decode cX4_forgetOldest 44 = .ok (.aload_n 0, 1) := by decide +kernel
theorem dX4_forgetOldest_45 : decode cX4_forgetOldest 45 = .ok (.dup, 1) := by decide +kernel
theorem dX4_forgetOldest_46 : decode cX4_forgetOldest 46 = .ok (.getfield 18, 3) := by decide +kernel
theorem dX4_forgetOldest_49 : decode cX4_forgetOldest 49 = .ok (.iconst 1, 1) := by decide +kernel
theorem dX4_forgetOldest_50 : decode cX4_forgetOldest 50 = .ok (.isub, 1) := by decide +kernel
theorem dX4_forgetOldest_51 : decode cX4_forgetOldest 51 = .ok (.putfield 18, 3) := by decide +kernel
theorem dX4_forgetOldest_54 : decode cX4_forgetOldest 54 = .ok (.return_, 1) := by decide +kernel
theorem dX5_init_0 : decode cX5_init 0 = .ok (.aload_n 0, 1) := by decide +kernel
theorem dX5_init_1 : decode cX5_init 1 = .ok (.invokespecial 3, 3) := by decide +kernel
theorem dX5_init_4 : decode cX5_init 4 = .ok (.aload_n 0, 1) := by decide +kernel
theorem dX5_init_5 : decode cX5_init 5 = .ok (.new 9, 3) := by decide +kernel
theorem dX5_init_8 : decode cX5_init 8 = .ok (.dup, 1) := by decide +kernel
theorem dX5_init_9 : decode cX5_init 9 = .ok (.invokespecial 11, 3) := by decide +kernel
theorem dX5_init_12 : decode cX5_init 12 = .ok (.putfield 12, 3) := by decide +kernel
theorem dX5_init_15 : decode cX5_init 15 = .ok (.aload_n 0, 1) := by decide +kernel
theorem dX5_init_16 : decode cX5_init 16 = .ok (.new 9, 3) := by decide +kernel
theorem dX5_init_19 : decode cX5_init 19 = .ok (.dup, 1) := by decide +kernel
theorem dX5_init_20 : decode cX5_init 20 = .ok (.invokespecial 11, 3) := by decide +kernel
theorem dX5_init_23 : decode cX5_init 23 = .ok (.putfield 18, 3) := by decide +kernel
theorem dX5_init_26 : decode cX5_init 26 = .ok (.return_, 1) := by decide +kernel
theorem dX5_begin_0 : decode cX5_begin 0 = .ok (.aload_n 0, 1) := by decide +kernel
theorem dX5_begin_1 : decode cX5_begin 1 = .ok (.getfield 12, 3) := by decide +kernel
theorem dX5_begin_4 : decode cX5_begin 4 = .ok (.invokevirtual 21, 3) := by decide +kernel
theorem dX5_begin_7 : decode cX5_begin 7 = .ok (.aload_n 0, 1) := by decide +kernel
theorem dX5_begin_8 : decode cX5_begin 8 = .ok (.getfield 18, 3) := by decide +kernel
theorem dX5_begin_11 : decode cX5_begin 11 = .ok (.invokevirtual 21, 3) := by decide +kernel
theorem dX5_begin_14 : decode cX5_begin 14 = .ok (.aload_n 0, 1) := by decide +kernel
theorem dX5_begin_15 : decode cX5_begin 15 = .ok (.iconst 0, 1) := by decide +kernel
theorem dX5_begin_16 : decode cX5_begin 16 = .ok (.putfield 24, 3) := by decide +kernel
theorem dX5_begin_19 : decode cX5_begin 19 = .ok (.aload_n 0, 1) := by decide +kernel
theorem dX5_begin_20 : decode cX5_begin 20 = .ok (.iconst 0, 1) := by decide +kernel
theorem dX5_begin_21 : decode cX5_begin 21 = .ok (.putfield 28, 3) := by decide +kernel
theorem dX5_begin_24 : decode cX5_begin 24 = .ok (.aload_n 0, 1) := by decide +kernel
theorem dX5_begin_25 : decode cX5_begin 25 = .ok (.iconst 1, 1) := by decide +kernel
theorem dX5_begin_26 : decode cX5_begin 26 = .ok (.putfield 31, 3) := by decide +kernel
theorem dX5_begin_29 : decode cX5_begin 29 = .ok (.aload_n 0, 1) := by decide +kernel
theorem dX5_begin_30 : decode cX5_begin 30 = .ok (.iconst 1, 1) := by decide +kernel
theorem dX5_begin_31 : decode cX5_begin 31 = .ok (.putfield 34, 3) := by decide +kernel
theorem dX5_begin_34 : decode cX5_begin 34 = .ok (.aload_n 0, 1) := by decide +kernel
theorem dX5_begin_35 : decode cX5_begin 35 = .ok (.iconst 0, 1) := by decide +kernel
theorem dX5_begin_36 : decode cX5_begin 36 = .ok (.putfield 37, 3) := by decide +kernel
theorem dX5_begin_39 : decode cX5_begin 39 = .ok (.aload_n 0, 1) := by decide +kernel
theorem dX5_begin_40 : decode cX5_begin 40 = .ok (.iconst 0, 1) := by decide +kernel
theorem dX5_begin_41 : decode cX5_begin 41 = .ok (.putfield 40, 3) := by decide +kernel
theorem dX5_begin_44 : decode cX5_begin 44 = .ok (.return_, 1) := by decide +kernel
theorem dX5_give_0 : decode cX5_give 0 = .ok (.aload_n 0, 1) := by decide +kernel
theorem dX5_give_1 : decode cX5_give 1 = .ok (.getfield 31, 3) := by decide +kernel
theorem dX5_give_4 : decode cX5_give 4 = .ok (.aload_n 0, 1) := by decide +kernel
theorem dX5_give_5 : decode cX5_give 5 = .ok (.getfield 24, 3) := by decide +kernel
theorem dX5_give_8 : decode cX5_give 8 = .ok (.if_icmp .ne 8, 3) := by decide +kernel
theorem dX5_give_11 : decode cX5_give 11 = .ok (.aload_n 0, 1) := by decide +kernel
theorem dX5_give_12 : decode cX5_give 12 = .ok (.getfield 37, 3) := by decide +kernel
theorem dX5_give_15 : decode cX5_give 15 = .ok (.ireturn, 1) := by decide +kernel
theorem dX5_give_16 : decode cX5_give 16 = .ok (.aload_n 0, 1) := by decide +kernel
theorem dX5_give_17 : decode cX5_give 17 = .ok (.getfield 12, 3) := by decide +kernel
theorem dX5_give_20 : decode cX5_give 20 = .ok (.invokevirtual 43, 3) := by decide +kernel
theorem dX5_give_23 : decode cX5_give 23 = .ok (.ifCond .ne 5, 3) := by decide +kernel
theorem dX5_give_26 : decode cX5_give 26 = .ok (.iconst 0, 1) := by decide +kernel
theorem dX5_give_27 : decode cX5_give 27 = .ok (.ireturn, 1) := by decide +kernel
theorem dX5_give_28 : decode cX5_give 28 = .ok (.aload_n 0, 1) := by decide +kernel
theorem dX5_give_29 : decode cX5_give 29 = .ok (.aload_n 0, 1) := by decide +kernel
theorem dX5_give_30 : decode cX5_give 30 = .ok (.getfield 12, 3) := by decide +kernel
theorem dX5_give_33 : decode cX5_give 33 = .ok (.invokevirtual 47, 3) := by decide +kernel
theorem dX5_give_36 : decode cX5_give 36 = .ok (.putfield 37, 3) := by decide +kernel
theorem dX5_give_39 : decode cX5_give 39 = .ok (.aload_n 0, 1) := by decide +kernel
theorem dX5_give_40 : decode cX5_give 40 = .ok (.aload_n 0, 1) := by decide +kernel
theorem dX5_give_41 : decode cX5_give 41 = .ok (.getfield 31, 3) := by decide +kernel
theorem dX5_give_44 : decode cX5_give 44 = .ok (.putfield 24, 3) := by decide +kernel
theorem dX5_give_47 : decode cX5_give 47 = .ok (.aload_n 0, 1) := by decide +kernel
theorem dX5_give_48 : decode cX5_give 48 = .ok (.getfield 37, 3) := by decide +kernel
theorem dX5_give_51 : decode cX5_give 51 = .ok (.ireturn, 1) := by decide +kernel
theorem dX5_confirmGiven_0 : decode cX5_confirmGiven 0 = .ok (.aload_n 0, 1) := by decide +kernel
theorem dX5_confirmGiven_1 : decode cX5_confirmGiven 1 = .ok (.iconst 1, 1) := by decide +kernel
theorem dX5_confirmGiven_2 : decode cX5_confirmGiven 2 = .ok (.aload_n 0, 1) := by decide +kernel
theorem dX5_confirmGiven_3 : decode cX5_confirmGiven 3 = .ok (.getfield 31, 3) := by decide +kernel
theorem dX5_confirmGiven_6 : decode cX5_confirmGiven 6 = .ok (.isub, 1) := by decide +kernel
theorem dX5_confirmGiven_7 : decode cX5_confirmGiven 7 = .ok (.putfield 31, 3) := by decide +kernel
theorem dX5_confirmGiven_10 : decode cX5_confirmGiven 10 = .ok (.return_, 1) := by decide +kernel
theorem dX5_accept_0 : decode cX5_accept 0 = .ok (.aload_n 0, 1) := by decide +kernel
theorem dX5_accept_1 : decode cX5_accept 1 = .ok (.getfield 34, 3) := by decide +kernel
theorem dX5_accept_4 : decode cX5_accept 4 = .ok (.aload_n 0, 1) := by decide +kernel
theorem dX5_accept_5 : decode cX5_accept 5 = .ok (.getfield 28, 3) := by decide +kernel
theorem dX5_accept_8 : decode cX5_accept 8 = .ok (.if_icmp .ne 5, 3) := by decide +kernel
theorem dX5_accept_11 : decode cX5_accept 11 = .ok (.iconst 1, 1) := by decide +kernel
theorem dX5_accept_12 : decode cX5_accept 12 = .ok (.ireturn, 1) := by decide +kernel
theorem dX5_accept_13 : decode cX5_accept 13 = .ok (.aload_n 0, 1) := by decide +kernel
theorem dX5_accept_14 : decode cX5_accept 14 = .ok (.getfield 18, 3) := by decide +kernel
theorem dX5_accept_17 : decode cX5_accept 17 = .ok (.iload_n 1, 1) := by decide +kernel
theorem dX5_accept_18 : decode cX5_accept 18 = .ok (.invokevirtual 50, 3) := by decide +kernel
theorem dX5_accept_21 : decode cX5_accept 21 = .ok (.ifCond .ne 5, 3) := by decide +kernel
theorem dX5_accept_24 : decode cX5_accept 24 = .ok (.iconst 0, 1) := by decide +kernel
theorem dX5_accept_25 : decode cX5_accept 25 = .ok (.ireturn, 1) := by decide +kernel
theorem dX5_accept_26 : decode cX5_accept 26 = .ok (.aload_n 0, 1) := by decide +kernel
theorem dX5_accept_27 : decode cX5_accept 27 = .ok (.aload_n 0, 1) := by decide +kernel
theorem dX5_accept_28 : decode cX5_accept 28 = .ok (.getfield 34, 3) := by decide +kernel
theorem dX5_accept_31 : decode cX5_accept 31 = .ok (.putfield 28, 3) := by decide +kernel
theorem dX5_accept_34 : decode cX5_accept 34 = .ok (.iconst 1, 1) := by decide +kernel
theorem dX5_accept_35 : decode cX5_accept 35 = .ok (.ireturn, 1) := by decide +kernel
theorem dX5_confirmAccepted_0 : decode cX5_confirmAccepted 0 = .ok (.aload_n 0, 1) := by decide +kernel
theorem dX5_confirmAccepted_1 : decode cX5_confirmAccepted 1 = .ok (.iconst 1, 1) := by decide +kernel
theorem dX5_confirmAccepted_2 : decode cX5_confirmAccepted 2 = .ok (.aload_n 0, 1) := by decide +kernel
theorem dX5_confirmAccepted_3 : decode cX5_confirmAccepted 3 = .ok (.getfield 34, 3) := by decide +kernel
theorem dX5_confirmAccepted_6 : decode cX5_confirmAccepted 6 = .ok (.isub, 1) := by decide +kernel
theorem dX5_confirmAccepted_7 : decode cX5_confirmAccepted 7 = .ok (.putfield 34, 3) := by decide +kernel
theorem dX5_confirmAccepted_10 : decode cX5_confirmAccepted 10 = .ok (.aload_n 0, 1) := by decide +kernel
theorem dX5_confirmAccepted_11 : decode cX5_confirmAccepted 11 = .ok (.iconst 0, 1) := by decide +kernel
theorem dX5_confirmAccepted_12 : decode cX5_confirmAccepted 12 = .ok (.putfield 40, 3) := by decide +kernel
theorem dX5_confirmAccepted_15 : decode cX5_confirmAccepted 15 = .ok (.return_, 1) := by decide +kernel
theorem dX5_property_0 : decode cX5_property 0 = .ok (.iload_n 1, 1) := by decide +kernel
theorem dX5_property_1 : decode cX5_property 1 = .ok (.tableswitch 96 0 6 #[43, 51, 59, 64, 69, 74, 79], 43) := by decide +kernel
theorem dX5_property_44 : decode cX5_property 44 = .ok (.aload_n 0, 1) := by decide +kernel
theorem dX5_property_45 : decode cX5_property 45 = .ok (.getfield 12, 3) := by decide +kernel
theorem dX5_property_48 : decode cX5_property 48 = .ok (.invokevirtual 43, 3) := by decide +kernel
theorem dX5_property_51 : decode cX5_property 51 = .ok (.ireturn, 1) := by decide +kernel
theorem dX5_property_52 : decode cX5_property 52 = .ok (.aload_n 0, 1) := by decide +kernel
theorem dX5_property_53 : decode cX5_property 53 = .ok (.getfield 18, 3) := by decide +kernel
theorem dX5_property_56 : decode cX5_property 56 = .ok (.invokevirtual 43, 3) := by decide +kernel
theorem dX5_property_59 : decode cX5_property 59 = .ok (.ireturn, 1) := by decide +kernel
theorem dX5_property_60 : decode cX5_property 60 = .ok (.aload_n 0, 1) := by decide +kernel
theorem dX5_property_61 : decode cX5_property 61 = .ok (.getfield 24, 3) := by decide +kernel
theorem dX5_property_64 : decode cX5_property 64 = .ok (.ireturn, 1) := by decide +kernel
theorem dX5_property_65 : decode cX5_property 65 = .ok (.aload_n 0, 1) := by decide +kernel
theorem dX5_property_66 : decode cX5_property 66 = .ok (.getfield 28, 3) := by decide +kernel
theorem dX5_property_69 : decode cX5_property 69 = .ok (.ireturn, 1) := by decide +kernel
theorem dX5_property_70 : decode cX5_property 70 = .ok (.aload_n 0, 1) := by decide +kernel
theorem dX5_property_71 : decode cX5_property 71 = .ok (.getfield 31, 3) := by decide +kernel
theorem dX5_property_74 : decode cX5_property 74 = .ok (.ireturn, 1) := by decide +kernel
theorem dX5_property_75 : decode cX5_property 75 = .ok (.aload_n 0, 1) := by decide +kernel
theorem dX5_property_76 : decode cX5_property 76 = .ok (.getfield 34, 3) := by decide +kernel
theorem dX5_property_79 : decode cX5_property 79 = .ok (.ireturn, 1) := by decide +kernel
theorem dX5_property_80 : decode cX5_property 80 = .ok (.aload_n 0, 1) := by decide +kernel
theorem dX5_property_81 : decode cX5_property 81 = .ok (.getfield 37, 3) := by decide +kernel
theorem dX5_property_84 : decode cX5_property 84 = .ok (.ifCond .ne 8, 3) := by decide +kernel
theorem dX5_property_87 : decode cX5_property 87 = .ok (.bipush (-4), 2) := by decide +kernel
theorem dX5_property_89 : decode cX5_property 89 = .ok (.goto 7, 3) := by decide +kernel
theorem dX5_property_92 : decode cX5_property 92 = .ok (.aload_n 0, 1) := by decide +kernel
theorem dX5_property_93 : decode cX5_property 93 = .ok (.getfield 37, 3) := by decide +kernel
theorem dX5_property_96 : decode cX5_property 96 = .ok (.ireturn, 1) := by decide +kernel
theorem dX5_property_97 : decode cX5_property 97 = .ok (.aload_n 0, 1) := by decide +kernel
theorem dX5_property_98 : decode cX5_property 98 = .ok (.getfield 40, 3) := by decide +kernel
theorem dX5_property_101 : decode cX5_property 101 = .ok (.ifCond .ne 8, 3) := by decide +kernel
theorem dX5_property_104 : decode cX5_property 104 = .ok (.bipush (-4), 2) := by decide +kernel
theorem dX5_property_106 : decode cX5_property 106 = .ok (.goto 7, 3) := by decide +kernel
theorem dX5_property_109 : decode cX5_property 109 = .ok (.aload_n 0, 1) := by decide +kernel
theorem dX5_property_110 : decode cX5_property 110 = .ok (.getfield 40, 3) := by decide +kernel
theorem dX5_property_113 : decode cX5_property 113 = .ok (.ireturn, 1) := by decide +kernel
theorem dX6_init_0 : decode cX6_init 0 = .ok (.aload_n 0, 1) := by decide +kernel
theorem dX6_init_1 : decode cX6_init 1 = .ok (.invokespecial 3, 3) := by decide +kernel
theorem dX6_init_4 : decode cX6_init 4 = .ok (.aload_n 0, 1) := by decide +kernel
theorem dX6_init_5 : decode cX6_init 5 = .ok (.iconst 4, 1) := by decide +kernel
theorem dX6_init_6 : decode cX6_init 6 = .ok (.anewarray 9, 3) := by decide +kernel
theorem dX6_init_9 : decode cX6_init 9 = .ok (.putfield 11, 3) := by decide +kernel
theorem dX6_init_12 : decode cX6_init 12 = .ok (.aload_n 0, 1) := by decide +kernel
theorem dX6_init_13 : decode cX6_init 13 = .ok (.new 17, 3) := by decide +kernel
theorem dX6_init_16 : decode cX6_init 16 = .ok (.dup, 1) := by decide +kernel
theorem dX6_init_17 : decode cX6_init 17 = .ok (.invokespecial 19, 3) := by decide +kernel
theorem dX6_init_20 : decode cX6_init 20 = .ok (.putfield 20, 3) := by decide +kernel
theorem dX6_init_23 : decode cX6_init 23 = .ok (.aload_n 0, 1) := by decide +kernel
theorem dX6_init_24 : decode cX6_init 24 = .ok (.aload_n 1, 1) := by decide +kernel
theorem dX6_init_25 : decode cX6_init 25 = .ok (.putfield 24, 3) := by decide +kernel
theorem dX6_init_28 : decode cX6_init 28 = .ok (.iconst 0, 1) := by decide +kernel
theorem dX6_init_29 : decode cX6_init 29 = .ok (.istore_n 2, 1) := by decide +kernel
theorem dX6_init_30 : decode cX6_init 30 = .ok (.iload_n 2, 1) := by decide +kernel
theorem dX6_init_31 : decode cX6_init 31 = .ok (.iconst 4, 1) := by decide +kernel
theorem dX6_init_32 : decode cX6_init 32 = .ok (.if_icmp .ge 22, 3) := by decide +kernel
theorem dX6_init_35 : decode cX6_init 35 = .ok (.aload_n 0, 1) := by decide +kernel
theorem dX6_init_36 : decode cX6_init 36 = .ok (.getfield 11, 3) := by decide +kernel
theorem dX6_init_39 : decode cX6_init 39 = .ok (.iload_n 2, 1) := by decide +kernel
theorem dX6_init_40 : decode cX6_init 40 = .ok (.new 9, 3) := by decide +kernel
theorem dX6_init_43 : decode cX6_init 43 = .ok (.dup, 1) := by decide +kernel
theorem dX6_init_44 : decode cX6_init 44 = .ok (.invokespecial 28, 3) := by decide +kernel
theorem dX6_init_47 : decode cX6_init 47 = .ok (.aastore, 1) := by decide +kernel
theorem dX6_init_48 : decode cX6_init 48 = .ok (.iinc 2 1, 3) := by decide +kernel
theorem dX6_init_51 : decode cX6_init 51 = .ok (.goto (-21), 3) := by decide +kernel
theorem dX6_init_54 : decode cX6_init 54 = .ok (.return_, 1) := by decide +kernel
theorem dX6_begin_0 : decode cX6_begin 0 = .ok (.iconst 0, 1) := by decide +kernel
theorem dX6_begin_1 : decode cX6_begin 1 = .ok (.istore_n 1, 1) := by decide +kernel
theorem dX6_begin_2 : decode cX6_begin 2 = .ok (.iload_n 1, 1) := by decide +kernel
theorem dX6_begin_3 : decode cX6_begin 3 = .ok (.iconst 4, 1) := by decide +kernel
theorem dX6_begin_4 : decode cX6_begin 4 = .ok (.if_icmp .ge 18, 3) := by decide +kernel
theorem dX6_begin_7 : decode cX6_begin 7 = .ok (.aload_n 0, 1) := by decide +kernel
theorem dX6_begin_8 : decode cX6_begin 8 = .ok (.getfield 11, 3) := by decide +kernel
theorem dX6_begin_11 : decode cX6_begin 11 = .ok (.iload_n 1, 1) := by decide +kernel
theorem dX6_begin_12 : decode cX6_begin 12 = .ok (.aaload, 1) := by decide +kernel
theorem dX6_begin_13 : decode cX6_begin 13 = .ok (.invokevirtual 29, 3) := by decide +kernel
theorem dX6_begin_16 : decode cX6_begin 16 = .ok (.iinc 1 1, 3) := by decide +kernel
theorem dX6_begin_19 : decode cX6_begin 19 = .ok (.goto (-17), 3) := by decide +kernel
theorem dX6_begin_22 : decode cX6_begin 22 = .ok (.aload_n 0, 1) := by decide +kernel
theorem dX6_begin_23 : decode cX6_begin 23 = .ok (.getfield 20, 3) := by decide +kernel
theorem dX6_begin_26 : decode cX6_begin 26 = .ok (.invokevirtual 32, 3) := by decide +kernel
theorem dX6_begin_29 : decode cX6_begin 29 = .ok (.aload_n 0, 1) := by decide +kernel
theorem dX6_begin_30 : decode cX6_begin 30 = .ok (.iconst 0, 1) := by decide +kernel
theorem dX6_begin_31 : decode cX6_begin 31 = .ok (.putfield 35, 3) := by decide +kernel
theorem dX6_begin_34 : decode cX6_begin 34 = .ok (.aload_n 0, 1) := by decide +kernel
theorem dX6_begin_35 : decode cX6_begin 35 = .ok (.iconst 0, 1) := by decide +kernel
theorem dX6_begin_36 : decode cX6_begin 36 = .ok (.putfield 39, 3) := by decide +kernel
theorem dX6_begin_39 : decode cX6_begin 39 = .ok (.return_, 1) := by decide +kernel
theorem dX6_find_0 : decode cX6_find 0 = .ok (.iload_n 1, 1) := by decide +kernel
theorem dX6_find_1 : decode cX6_find 1 = .ok (.ifCond .lt 17, 3) := by decide +kernel
theorem dX6_find_4 : decode cX6_find 4 = .ok (.iload_n 1, 1) := by decide +kernel
theorem dX6_find_5 : decode cX6_find 5 = .ok (.iconst 4, 1) := by decide +kernel
theorem dX6_find_6 : decode cX6_find 6 = .ok (.if_icmp .ge 12, 3) := by decide +kernel
theorem dX6_find_9 : decode cX6_find 9 = .ok (.aload_n 0, 1) := by decide +kernel
theorem dX6_find_10 : decode cX6_find 10 = .ok (.getfield 11, 3) := by decide +kernel
theorem dX6_find_13 : decode cX6_find 13 = .ok (.iload_n 1, 1) := by decide +kernel
theorem dX6_find_14 : decode cX6_find 14 = .ok (.aaload, 1) := by decide +kernel
theorem dX6_find_15 : decode cX6_find 15 = .ok (.goto 4, 3) := by decide +kernel
theorem dX6_find_18 : decode cX6_find 18 = .ok (.aconst_null, 1) := by decide +kernel
theorem dX6_find_19 : decode cX6_find 19 = .ok (.areturn, 1) := by decide +kernel
theorem dX6_hasCommands_0 : decode cX6_hasCommands 0 = .ok (.iconst 0, 1) := by decide +kernel
theorem dX6_hasCommands_1 : decode cX6_hasCommands 1 = .ok (.istore_n 1, 1) := by decide +kernel
theorem dX6_hasCommands_2 : decode cX6_hasCommands 2 = .ok (.iload_n 1, 1) := by decide +kernel
theorem dX6_hasCommands_3 : decode cX6_hasCommands 3 = .ok (.iconst 4, 1) := by decide +kernel
theorem dX6_hasCommands_4 : decode cX6_hasCommands 4 = .ok (.if_icmp .ge 23, 3) := by decide +kernel
theorem dX6_hasCommands_7 : decode cX6_hasCommands 7 = .ok (.aload_n 0, 1) := by decide +kernel
theorem dX6_hasCommands_8 : decode cX6_hasCommands 8 = .ok (.getfield 11, 3) := by decide +kernel
theorem dX6_hasCommands_11 : decode cX6_hasCommands 11 = .ok (.iload_n 1, 1) := by decide +kernel
theorem dX6_hasCommands_12 : decode cX6_hasCommands 12 = .ok (.aaload, 1) := by decide +kernel
theorem dX6_hasCommands_13 : decode cX6_hasCommands 13 = .ok (.getfield 42, 3) := by decide +kernel
theorem dX6_hasCommands_16 : decode cX6_hasCommands 16 = .ok (.ifCond .eq 5, 3) := by decide +kernel
theorem dX6_hasCommands_19 : decode cX6_hasCommands 19 = .ok (.iconst 1, 1) := by decide +kernel
theorem dX6_hasCommands_20 : decode cX6_hasCommands 20 = .ok (.ireturn, 1) := by decide +kernel
theorem dX6_hasCommands_21 : decode cX6_hasCommands 21 = .ok (.iinc 1 1, 3) := by decide +kernel
theorem dX6_hasCommands_24 : decode cX6_hasCommands 24 = .ok (.goto (-22), 3) := by decide +kernel
theorem dX6_hasCommands_27 : decode cX6_hasCommands 27 = .ok (.iconst 0, 1) := by decide +kernel
theorem dX6_hasCommands_28 : decode cX6_hasCommands 28 = .ok (.ireturn, 1) := by decide +kernel
theorem dX6_shortOnes_0 : decode cX6_shortOnes 0 = .ok (.aload_n 0, 1) := by decide +kernel
theorem dX6_shortOnes_1 : decode cX6_shortOnes 1 = .ok (.getfield 35, 3) := by decide +kernel
theorem dX6_shortOnes_4 : decode cX6_shortOnes 4 = .ok (.ireturn, 1) := by decide +kernel
theorem dX6_rememberedOnes_0 : decode cX6_rememberedOnes 0 = .ok (.aload_n 0, 1) := by decide +kernel
theorem dX6_rememberedOnes_1 : decode cX6_rememberedOnes 1 = .ok (.getfield 20, 3) := by decide +kernel
theorem dX6_rememberedOnes_4 : decode cX6_rememberedOnes 4 = .ok (.invokevirtual 45, 3) := by decide +kernel
theorem dX6_rememberedOnes_7 : decode cX6_rememberedOnes 7 = .ok (.ireturn, 1) := by decide +kernel
theorem dX6_framesToLose_0 : decode cX6_framesToLose 0 = .ok (.aload_n 0, 1) := by decide +kernel
theorem dX6_framesToLose_1 : decode cX6_framesToLose 1 = .ok (.getfield 39, 3) := by decide +kernel
theorem dX6_framesToLose_4 : decode cX6_framesToLose 4 = .ok (.ireturn, 1) := by decide +kernel
theorem dX6_replaceLosses_0 : decode cX6_replaceLosses 0 = .ok (.aload_n 0, 1) := by decide +kernel
theorem dX6_replaceLosses_1 : decode cX6_replaceLosses 1 = .ok (.getfield 39, 3) := by decide +kernel
theorem dX6_replaceLosses_4 : decode cX6_replaceLosses 4 = .ok (.istore_n 2, 1) := by decide +kernel
theorem dX6_replaceLosses_5 : decode cX6_replaceLosses 5 = .ok (.aload_n 0, 1) := by decide +kernel
theorem dX6_replaceLosses_6 : decode cX6_replaceLosses 6 = .ok (.iload_n 1, 1) := by decide +kernel
theorem dX6_replaceLosses_7 : decode cX6_replaceLosses 7 = .ok (.putfield 39, 3) := by decide +kernel
theorem dX6_replaceLosses_10 : decode cX6_replaceLosses 10 = .ok (.iload_n 2, 1) := by decide +kernel
theorem dX6_replaceLosses_11 : decode cX6_replaceLosses 11 = .ok (.ireturn, 1) := by decide +kernel
theorem dX6_expectedOf_0 : decode cX6_expectedOf 0 = .ok (.aload_n 0, 1) := by decide +kernel
theorem dX6_expectedOf_1 : decode cX6_expectedOf 1 = .ok (.getfield 20, 3) := by decide +kernel
theorem dX6_expectedOf_4 : decode cX6_expectedOf 4 = .ok (.aload_n 1, 1) := by decide +kernel
theorem dX6_expectedOf_5 : decode cX6_expectedOf 5 = .ok (.invokevirtual 49, 3) := by decide +kernel
theorem dX6_expectedOf_8 : decode cX6_expectedOf 8 = .ok (.invokevirtual 52, 3) := by decide +kernel
theorem dX6_expectedOf_11 : decode cX6_expectedOf 11 = .ok (.ireturn, 1) := by decide +kernel
theorem dX6_frameComesHome_0 : decode cX6_frameComesHome 0 = .ok (.aload_n 0, 1) := by decide +kernel
theorem dX6_frameComesHome_1 : decode cX6_frameComesHome 1 = .ok (.getfield 24, 3) := by decide +kernel
theorem dX6_frameComesHome_4 : decode cX6_frameComesHome 4 = .ok (.aload_n 0, 1) := by decide +kernel
theorem dX6_frameComesHome_5 : decode cX6_frameComesHome 5 = .ok (.getfield 24, 3) := by decide +kernel
theorem dX6_frameComesHome_8 : decode cX6_frameComesHome 8 = .ok (.invokevirtual 56, 3) := by decide +kernel
theorem dX6_frameComesHome_11 : decode cX6_frameComesHome 11 = .ok (.invokevirtual 61, 3) := by decide +kernel
theorem dX6_frameComesHome_14 : decode cX6_frameComesHome 14 = .ok (.aload_n 0, 1) := by decide +kernel
theorem dX6_frameComesHome_15 : decode cX6_frameComesHome 15 = .ok (.getfield 39, 3) := by decide +kernel
theorem dX6_frameComesHome_18 : decode cX6_frameComesHome 18 = .ok (.ifCond .le 15, 3) := by decide +kernel
theorem dX6_frameComesHome_21 : decode cX6_frameComesHome 21 = .ok (.aload_n 0, 1) := by decide +kernel
theorem dX6_frameComesHome_22 : decode cX6_frameComesHome 22 = .ok (.dup, 1) := by decide +kernel
theorem dX6_frameComesHome_23 : decode cX6_frameComesHome 23 = .ok (.getfield 39, 3) := by decide +kernel
theorem dX6_frameComesHome_26 : decode cX6_frameComesHome 26 = .ok (.iconst 1, 1) := by decide +kernel
theorem dX6_frameComesHome_27 : decode cX6_frameComesHome 27 = .ok (.isub, 1) := by decide +kernel
theorem dX6_frameComesHome_28 : decode cX6_frameComesHome 28 = .ok (.putfield 39, 3) := by decide +kernel
theorem dX6_frameComesHome_31 : decode cX6_frameComesHome 31 = .ok (.iconst 0, 1) := by decide +kernel
theorem dX6_frameComesHome_32 : decode cX6_frameComesHome 32 = .ok (.ireturn, 1) := by decide +kernel
theorem dX6_frameComesHome_33 : decode cX6_frameComesHome 33 = .ok (.iconst 1, 1) := by decide +kernel
theorem dX6_frameComesHome_34 : decode cX6_frameComesHome 34 = .ok (.ireturn, 1) := by decide +kernel
theorem dX6_sendFrame_0 : decode cX6_sendFrame 0 = .ok (.iconst 0, 1) := by decide +kernel
theorem dX6_sendFrame_1 : decode cX6_sendFrame 1 = .ok (.istore_n 1, 1) := by decide +kernel
theorem dX6_sendFrame_2 : decode cX6_sendFrame 2 = .ok (.iload_n 1, 1) := by decide +kernel
theorem dX6_sendFrame_3 : decode cX6_sendFrame 3 = .ok (.iconst 4, 1) := by decide +kernel
theorem dX6_sendFrame_4 : decode cX6_sendFrame 4 = .ok (.if_icmp .ge 18, 3) := by decide +kernel
theorem dX6_sendFrame_7 : decode cX6_sendFrame 7 = .ok (.aload_n 0, 1) := by decide +kernel
theorem dX6_sendFrame_8 : decode cX6_sendFrame 8 = .ok (.getfield 11, 3) := by decide +kernel
theorem dX6_sendFrame_11 : decode cX6_sendFrame 11 = .ok (.iload_n 1, 1) := by decide +kernel
theorem dX6_sendFrame_12 : decode cX6_sendFrame 12 = .ok (.aaload, 1) := by decide +kernel
theorem dX6_sendFrame_13 : decode cX6_sendFrame 13 = .ok (.invokevirtual 65, 3) := by decide +kernel
theorem dX6_sendFrame_16 : decode cX6_sendFrame 16 = .ok (.iinc 1 1, 3) := by decide +kernel
theorem dX6_sendFrame_19 : decode cX6_sendFrame 19 = .ok (.goto (-17), 3) := by decide +kernel
theorem dX6_sendFrame_22 : decode cX6_sendFrame 22 = .ok (.aload_n 0, 1) := by decide +kernel
theorem dX6_sendFrame_23 : decode cX6_sendFrame 23 = .ok (.invokevirtual 68, 3) := by decide +kernel
theorem dX6_sendFrame_26 : decode cX6_sendFrame 26 = .ok (.aload_n 0, 1) := by decide +kernel
theorem dX6_sendFrame_27 : decode cX6_sendFrame 27 = .ok (.invokevirtual 71, 3) := by decide +kernel
theorem dX6_sendFrame_30 : decode cX6_sendFrame 30 = .ok (.aload_n 0, 1) := by decide +kernel
theorem dX6_sendFrame_31 : decode cX6_sendFrame 31 = .ok (.invokevirtual 74, 3) := by decide +kernel
theorem dX6_sendFrame_34 : decode cX6_sendFrame 34 = .ok (.ifCond .eq 10, 3) := by decide +kernel
theorem dX6_sendFrame_37 : decode cX6_sendFrame 37 = .ok (.aload_n 0, 1) := by decide +kernel
theorem dX6_sendFrame_38 : decode cX6_sendFrame 38 = .ok (.invokevirtual 78, 3) := by decide +kernel
theorem dX6_sendFrame_41 : decode cX6_sendFrame 41 = .ok (.goto 5, 3) := by decide +kernel
theorem dX6_sendFrame_44 : decode cX6_sendFrame 44 = .ok (.bipush (-5), 2) := by decide +kernel
theorem dX6_sendFrame_46 : decode cX6_sendFrame 46 = .ok (.ireturn, 1) := by decide +kernel
theorem dX6_passA_0 : decode cX6_passA 0 = .ok (.aload_n 0, 1) := by decide +kernel
theorem dX6_passA_1 : decode cX6_passA 1 = .ok (.getfield 24, 3) := by decide +kernel
theorem dX6_passA_4 : decode cX6_passA 4 = .ok (.invokevirtual 81, 3) := by decide +kernel
theorem dX6_passA_7 : decode cX6_passA 7 = .ok (.istore_n 1, 1) := by decide +kernel
theorem dX6_passA_8 : decode cX6_passA 8 = .ok (.iconst 0, 1) := by decide +kernel
theorem dX6_passA_9 : decode cX6_passA 9 = .ok (.istore_n 2, 1) := by decide +kernel
theorem dX6_passA_10 : decode cX6_passA 10 = .ok (.iload_n 2, 1) := by decide +kernel
theorem dX6_passA_11 : decode cX6_passA 11 = .ok (.iload_n 1, 1) := by decide +kernel
theorem dX6_passA_12 : decode cX6_passA 12 = .ok (.if_icmp .ge 68, 3) := by decide +kernel
theorem dX6_passA_15 : decode cX6_passA 15 = .ok (.aload_n 0, 1) := by decide +kernel
theorem dX6_passA_16 : decode cX6_passA 16 = .ok (.getfield 24, 3) := by decide +kernel
theorem dX6_passA_19 : decode cX6_passA 19 = .ok (.getfield 84, 3) := by decide +kernel
theorem dX6_passA_22 : decode cX6_passA 22 = .ok (.iload_n 2, 1) := by decide +kernel
theorem dX6_passA_23 : decode cX6_passA 23 = .ok (.aaload, 1) := by decide +kernel
theorem dX6_passA_24 : decode cX6_passA 24 = .ok (.astore_n 3, 1) := by decide +kernel
theorem dX6_passA_25 : decode cX6_passA 25 = .ok (.aload_n 3, 1) := by decide +kernel
theorem dX6_passA_26 : decode cX6_passA 26 = .ok (.aload_n 0, 1) := by decide +kernel
theorem dX6_passA_27 : decode cX6_passA 27 = .ok (.getfield 24, 3) := by decide +kernel
theorem dX6_passA_30 : decode cX6_passA 30 = .ok (.iload_n 2, 1) := by decide +kernel
theorem dX6_passA_31 : decode cX6_passA 31 = .ok (.invokevirtual 88, 3) := by decide +kernel
theorem dX6_passA_34 : decode cX6_passA 34 = .ok (.invokevirtual 91, 3) := by decide +kernel
theorem dX6_passA_37 : decode cX6_passA 37 = .ok (.iconst 0, 1) := by decide +kernel
theorem dX6_passA_38 : decode cX6_passA 38 = .ok (.istore 4, 2) := by decide +kernel
theorem dX6_passA_40 : decode cX6_passA 40 = .ok (.iload 4, 2) := by decide +kernel
theorem dX6_passA_42 : decode cX6_passA 42 = .ok (.iconst 4, 1) := by decide +kernel
theorem dX6_passA_43 : decode cX6_passA 43 = .ok (.if_icmp .ge 31, 3) := by decide +kernel
theorem dX6_passA_46 : decode cX6_passA 46 = .ok (.aload_n 0, 1) := by decide +kernel
theorem dX6_passA_47 : decode cX6_passA 47 = .ok (.getfield 11, 3) := by decide +kernel
theorem dX6_passA_50 : decode cX6_passA 50 = .ok (.iload 4, 2) := by decide +kernel
theorem dX6_passA_52 : decode cX6_passA 52 = .ok (.aaload, 1) := by decide +kernel
theorem dX6_passA_53 : decode cX6_passA 53 = .ok (.aload_n 0, 1) := by decide +kernel
theorem dX6_passA_54 : decode cX6_passA 54 = .ok (.getfield 11, 3) := by decide +kernel
theorem dX6_passA_57 : decode cX6_passA 57 = .ok (.iload 4, 2) := by decide +kernel
theorem dX6_passA_59 : decode cX6_passA 59 = .ok (.aaload, 1) := by decide +kernel
theorem dX6_passA_60 : decode cX6_passA 60 = .ok (.getfield 96, 3) := by decide +kernel
theorem dX6_passA_63 : decode cX6_passA 63 = .ok (.aload_n 3, 1) := by decide +kernel
theorem dX6_passA_64 : decode cX6_passA 64 = .ok (.iload_n 2, 1) := by decide +kernel
theorem dX6_passA_65 : decode cX6_passA 65 = .ok (.invokevirtual 100, 3) := by decide +kernel
theorem dX6_passA_68 : decode cX6_passA 68 = .ok (.iinc 4 1, 3) := by decide +kernel
theorem dX6_passA_71 : decode cX6_passA 71 = .ok (.goto (-31), 3) := by decide +kernel
theorem dX6_passA_74 : decode cX6_passA 74 = .ok (.iinc 2 1, 3) := by decide +kernel
theorem dX6_passA_77 : decode cX6_passA 77 = .ok (.goto (-67), 3) := by decide +kernel
theorem dX6_passA_80 : decode cX6_passA 80 = .ok (.return_, 1) := by decide +kernel
theorem dX6_passB_0 : decode cX6_passB 0 = .ok (.aload_n 0, 1) := by decide +kernel
theorem dX6_passB_1 : decode cX6_passB 1 = .ok (.getfield 24, 3) := by decide +kernel
theorem dX6_passB_4 : decode cX6_passB 4 = .ok (.invokevirtual 104, 3) := by decide +kernel
theorem dX6_passB_7 : decode cX6_passB 7 = .ok (.istore_n 1, 1) := by decide +kernel
theorem dX6_passB_8 : decode cX6_passB 8 = .ok (.aload_n 0, 1) := by decide +kernel
theorem dX6_passB_9 : decode cX6_passB 9 = .ok (.getfield 24, 3) := by decide +kernel
theorem dX6_passB_12 : decode cX6_passB 12 = .ok (.invokevirtual 107, 3) := by decide +kernel
theorem dX6_passB_15 : decode cX6_passB 15 = .ok (.istore_n 2, 1) := by decide +kernel
theorem dX6_passB_16 : decode cX6_passB 16 = .ok (.iload_n 1, 1) := by decide +kernel
theorem dX6_passB_17 : decode cX6_passB 17 = .ok (.istore_n 3, 1) := by decide +kernel
theorem dX6_passB_18 : decode cX6_passB 18 = .ok (.iload_n 3, 1) := by decide +kernel
theorem dX6_passB_19 : decode cX6_passB 19 = .ok (.iload_n 2, 1) := by decide +kernel
theorem dX6_passB_20 : decode cX6_passB 20 = .ok (.if_icmp .ge 73, 3) := by decide +kernel
theorem dX6_passB_23 : decode cX6_passB 23 = .ok (.aload_n 0, 1) := by decide +kernel
theorem dX6_passB_24 : decode cX6_passB 24 = .ok (.getfield 24, 3) := by decide +kernel
theorem dX6_passB_27 : decode cX6_passB 27 = .ok (.getfield 84, 3) := by decide +kernel
theorem dX6_passB_30 : decode cX6_passB 30 = .ok (.iload_n 3, 1) := by decide +kernel
theorem dX6_passB_31 : decode cX6_passB 31 = .ok (.aaload, 1) := by decide +kernel
theorem dX6_passB_32 : decode cX6_passB 32 = .ok (.astore 4, 2) := by decide +kernel
theorem dX6_passB_34 : decode cX6_passB 34 = .ok (.aload 4, 2) := by decide +kernel
theorem dX6_passB_36 : decode cX6_passB 36 = .ok (.aload_n 0, 1) := by decide +kernel
theorem dX6_passB_37 : decode cX6_passB 37 = .ok (.getfield 24, 3) := by decide +kernel
theorem dX6_passB_40 : decode cX6_passB 40 = .ok (.iload_n 3, 1) := by decide +kernel
theorem dX6_passB_41 : decode cX6_passB 41 = .ok (.invokevirtual 108, 3) := by decide +kernel
theorem dX6_passB_44 : decode cX6_passB 44 = .ok (.invokevirtual 91, 3) := by decide +kernel
theorem dX6_passB_47 : decode cX6_passB 47 = .ok (.iconst 0, 1) := by decide +kernel
theorem dX6_passB_48 : decode cX6_passB 48 = .ok (.istore 5, 2) := by decide +kernel
theorem dX6_passB_50 : decode cX6_passB 50 = .ok (.iload 5, 2) := by decide +kernel
theorem dX6_passB_52 : decode cX6_passB 52 = .ok (.iconst 4, 1) := by decide +kernel
theorem dX6_passB_53 : decode cX6_passB 53 = .ok (.if_icmp .ge 34, 3) := by decide +kernel
theorem dX6_passB_56 : decode cX6_passB 56 = .ok (.aload_n 0, 1) := by decide +kernel
theorem dX6_passB_57 : decode cX6_passB 57 = .ok (.getfield 11, 3) := by decide +kernel
theorem dX6_passB_60 : decode cX6_passB 60 = .ok (.iload 5, 2) := by decide +kernel
theorem dX6_passB_62 : decode cX6_passB 62 = .ok (.aaload, 1) := by decide +kernel
theorem dX6_passB_63 : decode cX6_passB 63 = .ok (.aload_n 0, 1) := by decide +kernel
theorem dX6_passB_64 : decode cX6_passB 64 = .ok (.getfield 11, 3) := by decide +kernel
theorem dX6_passB_67 : decode cX6_passB 67 = .ok (.iload 5, 2) := by decide +kernel
theorem dX6_passB_69 : decode cX6_passB 69 = .ok (.aaload, 1) := by decide +kernel
theorem dX6_passB_70 : decode cX6_passB 70 = .ok (.getfield 111, 3) := by decide +kernel
theorem dX6_passB_73 : decode cX6_passB 73 = .ok (.aload 4, 2) := by decide +kernel
theorem dX6_passB_75 : decode cX6_passB 75 = .ok (.iload_n 3, 1) := by decide +kernel
theorem dX6_passB_76 : decode cX6_passB 76 = .ok (.iload_n 1, 1) := by decide +kernel
theorem dX6_passB_77 : decode cX6_passB 77 = .ok (.isub, 1) := by decide +kernel
theorem dX6_passB_78 : decode cX6_passB 78 = .ok (.invokevirtual 100, 3) := by decide +kernel
theorem dX6_passB_81 : decode cX6_passB 81 = .ok (.iinc 5 1, 3) := by decide +kernel
theorem dX6_passB_84 : decode cX6_passB 84 = .ok (.goto (-34), 3) := by decide +kernel
theorem dX6_passB_87 : decode cX6_passB 87 = .ok (.iinc 3 1, 3) := by decide +kernel
theorem dX6_passB_90 : decode cX6_passB 90 = .ok (.goto (-72), 3) := by decide +kernel
theorem dX6_passB_93 : decode cX6_passB 93 = .ok (.return_, 1) := by decide +kernel
theorem dX6_receive_0 : decode cX6_receive 0 = .ok (.aload_n 0, 1) := by decide +kernel
theorem dX6_receive_1 : decode cX6_receive 1 = .ok (.getfield 24, 3) := by decide +kernel
theorem dX6_receive_4 : decode cX6_receive 4 = .ok (.invokevirtual 114, 3) := by decide +kernel
theorem dX6_receive_7 : decode cX6_receive 7 = .ok (.ifCond .le 7, 3) := by decide +kernel
theorem dX6_receive_10 : decode cX6_receive 10 = .ok (.iconst 1, 1) := by decide +kernel
theorem dX6_receive_11 : decode cX6_receive 11 = .ok (.goto 4, 3) := by decide +kernel
theorem dX6_receive_14 : decode cX6_receive 14 = .ok (.iconst 0, 1) := by decide +kernel
theorem dX6_receive_15 : decode cX6_receive 15 = .ok (.istore_n 1, 1) := by decide +kernel
theorem dX6_receive_16 : decode cX6_receive 16 = .ok (.iconst 0, 1) := by decide +kernel
theorem dX6_receive_17 : decode cX6_receive 17 = .ok (.istore_n 2, 1) := by decide +kernel
theorem dX6_receive_18 : decode cX6_receive 18 = .ok (.iconst 0, 1) := by decide +kernel
theorem dX6_receive_19 : decode cX6_receive 19 = .ok (.istore_n 3, 1) := by decide +kernel
theorem dX6_receive_20 : decode cX6_receive 20 = .ok (.iload_n 3, 1) := by decide +kernel
theorem dX6_receive_21 : decode cX6_receive 21 = .ok (.iconst 4, 1) := by decide +kernel
theorem dX6_receive_22 : decode cX6_receive 22 = .ok (.if_icmp .ge 45, 3) := by decide +kernel
theorem dX6_receive_25 : decode cX6_receive 25 = .ok (.aload_n 0, 1) := by decide +kernel
theorem dX6_receive_26 : decode cX6_receive 26 = .ok (.getfield 11, 3) := by decide +kernel
theorem dX6_receive_29 : decode cX6_receive 29 = .ok (.iload_n 3, 1) := by decide +kernel
theorem dX6_receive_30 : decode cX6_receive 30 = .ok (.aaload, 1) := by decide +kernel
theorem dX6_receive_31 : decode cX6_receive 31 = .ok (.astore 4, 2) := by decide +kernel
theorem dX6_receive_33 : decode cX6_receive 33 = .ok (.aload 4, 2) := by decide +kernel
theorem dX6_receive_35 : decode cX6_receive 35 = .ok (.iload_n 1, 1) := by decide +kernel
theorem dX6_receive_36 : decode cX6_receive 36 = .ok (.invokevirtual 117, 3) := by decide +kernel
theorem dX6_receive_39 : decode cX6_receive 39 = .ok (.aload 4, 2) := by decide +kernel
theorem dX6_receive_41 : decode cX6_receive 41 = .ok (.getfield 42, 3) := by decide +kernel
theorem dX6_receive_44 : decode cX6_receive 44 = .ok (.ifCond .eq 17, 3) := by decide +kernel
theorem dX6_receive_47 : decode cX6_receive 47 = .ok (.iload_n 2, 1) := by decide +kernel
theorem dX6_receive_48 : decode cX6_receive 48 = .ok (.aload 4, 2) := by decide +kernel
theorem dX6_receive_50 : decode cX6_receive 50 = .ok (.getfield 121, 3) := by decide +kernel
theorem dX6_receive_53 : decode cX6_receive 53 = .ok (.iadd, 1) := by decide +kernel
theorem dX6_receive_54 : decode cX6_receive 54 = .ok (.istore_n 2, 1) := by decide +kernel
theorem dX6_receive_55 : decode cX6_receive 55 = .ok (.aload_n 0, 1) := by decide +kernel
theorem dX6_receive_56 : decode cX6_receive 56 = .ok (.aload 4, 2) := by decide +kernel
theorem dX6_receive_58 : decode cX6_receive 58 = .ok (.invokevirtual 124, 3) := by decide +kernel
theorem dX6_receive_61 : decode cX6_receive 61 = .ok (.iinc 3 1, 3) := by decide +kernel
theorem dX6_receive_64 : decode cX6_receive 64 = .ok (.goto (-44), 3) := by decide +kernel
theorem dX6_receive_67 : decode cX6_receive 67 = .ok (.iload_n 2, 1) := by decide +kernel
theorem dX6_receive_68 : decode cX6_receive 68 = .ok (.ireturn, 1) := by decide +kernel
theorem dX6_compare_0 : decode cX6_compare 0 = .ok (.aload_n 1, 1) := by decide +kernel
theorem dX6_compare_1 : decode cX6_compare 1 = .ok (.getfield 121, 3) := by decide +kernel
theorem dX6_compare_4 : decode cX6_compare 4 = .ok (.aload_n 0, 1) := by decide +kernel
theorem dX6_compare_5 : decode cX6_compare 5 = .ok (.aload_n 1, 1) := by decide +kernel
theorem dX6_compare_6 : decode cX6_compare 6 = .ok (.invokevirtual 128, 3) := by decide +kernel
theorem dX6_compare_9 : decode cX6_compare 9 = .ok (.if_icmp .ge 13, 3) := by decide +kernel
theorem dX6_compare_12 : decode cX6_compare 12 = .ok (.aload_n 0, 1) := by decide +kernel
theorem dX6_compare_13 : decode cX6_compare 13 = .ok (.dup, 1) := by decide +kernel
theorem dX6_compare_14 : decode cX6_compare 14 = .ok (.getfield 35, 3) := by decide +kernel
theorem dX6_compare_17 : decode cX6_compare 17 = .ok (.iconst 1, 1) := by decide +kernel
theorem dX6_compare_18 : decode cX6_compare 18 = .ok (.iadd, 1) := by decide +kernel
theorem dX6_compare_19 : decode cX6_compare 19 = .ok (.putfield 35, 3) := by decide +kernel
theorem dX6_compare_22 : decode cX6_compare 22 = .ok (.aload_n 0, 1) := by decide +kernel
theorem dX6_compare_23 : decode cX6_compare 23 = .ok (.getfield 20, 3) := by decide +kernel
theorem dX6_compare_26 : decode cX6_compare 26 = .ok (.aload_n 1, 1) := by decide +kernel
theorem dX6_compare_27 : decode cX6_compare 27 = .ok (.invokevirtual 49, 3) := by decide +kernel
theorem dX6_compare_30 : decode cX6_compare 30 = .ok (.aload_n 1, 1) := by decide +kernel
theorem dX6_compare_31 : decode cX6_compare 31 = .ok (.getfield 121, 3) := by decide +kernel
theorem dX6_compare_34 : decode cX6_compare 34 = .ok (.invokevirtual 132, 3) := by decide +kernel
theorem dX6_compare_37 : decode cX6_compare 37 = .ok (.return_, 1) := by decide +kernel
theorem dX7_init_0 : decode cX7_init 0 = .ok (.aload_n 0, 1) := by decide +kernel
theorem dX7_init_1 : decode cX7_init 1 = .ok (.invokespecial 3, 3) := by decide +kernel
theorem dX7_init_4 : decode cX7_init 4 = .ok (.return_, 1) := by decide +kernel
theorem dX7_lie_0 : decode cX7_lie 0 = .ok (.aload_n 0, 1) := by decide +kernel
theorem dX7_lie_1 : decode cX7_lie 1 = .ok (.iload_n 1, 1) := by decide +kernel
theorem dX7_lie_2 : decode cX7_lie 2 = .ok (.putfield 9, 3) := by decide +kernel
theorem dX7_lie_5 : decode cX7_lie 5 = .ok (.aload_n 0, 1) := by decide +kernel
theorem dX7_lie_6 : decode cX7_lie 6 = .ok (.iload_n 2, 1) := by decide +kernel
theorem dX7_lie_7 : decode cX7_lie 7 = .ok (.putfield 15, 3) := by decide +kernel
theorem dX7_lie_10 : decode cX7_lie 10 = .ok (.aload_n 0, 1) := by decide +kernel
theorem dX7_lie_11 : decode cX7_lie 11 = .ok (.iload_n 3, 1) := by decide +kernel
theorem dX7_lie_12 : decode cX7_lie 12 = .ok (.putfield 18, 3) := by decide +kernel
theorem dX7_lie_15 : decode cX7_lie 15 = .ok (.return_, 1) := by decide +kernel
theorem dX7_remove_0 : decode cX7_remove 0 = .ok (.aload_n 0, 1) := by decide +kernel
theorem dX7_remove_1 : decode cX7_remove 1 = .ok (.iconst 0, 1) := by decide +kernel
theorem dX7_remove_2 : decode cX7_remove 2 = .ok (.putfield 15, 3) := by decide +kernel
theorem dX7_remove_5 : decode cX7_remove 5 = .ok (.return_, 1) := by decide +kernel
theorem dX7_exists_0 : decode cX7_exists 0 = .ok (.aload_n 0, 1) := by decide +kernel
theorem dX7_exists_1 : decode cX7_exists 1 = .ok (.getfield 15, 3) := by decide +kernel
theorem dX7_exists_4 : decode cX7_exists 4 = .ok (.ifCond .le 7, 3) := by decide +kernel
theorem dX7_exists_7 : decode cX7_exists 7 = .ok (.iconst 1, 1) := by decide +kernel
theorem dX7_exists_8 : decode cX7_exists 8 = .ok (.goto 4, 3) := by decide +kernel
theorem dX7_exists_11 : decode cX7_exists 11 = .ok (.iconst 0, 1) := by decide +kernel
theorem dX7_exists_12 : decode cX7_exists 12 = .ok (.ireturn, 1) := by decide +kernel
theorem dX7_meets_0 : decode cX7_meets 0 = .ok (.aload_n 0, 1) := by decide +kernel
theorem dX7_meets_1 : decode cX7_meets 1 = .ok (.invokevirtual 21, 3) := by decide +kernel
theorem dX7_meets_4 : decode cX7_meets 4 = .ok (.ifCond .eq 30, 3) := by decide +kernel
theorem dX7_meets_7 : decode cX7_meets 7 = .ok (.aload_n 0, 1) := by decide +kernel
theorem dX7_meets_8 : decode cX7_meets 8 = .ok (.getfield 9, 3) := by decide +kernel
theorem dX7_meets_11 : decode cX7_meets 11 = .ok (.iload_n 1, 1) := by decide +kernel
theorem dX7_meets_12 : decode cX7_meets 12 = .ok (.iload_n 2, 1) := by decide +kernel
theorem dX7_meets_13 : decode cX7_meets 13 = .ok (.iadd, 1) := by decide +kernel
theorem dX7_meets_14 : decode cX7_meets 14 = .ok (.if_icmp .ge 20, 3) := by decide +kernel
theorem dX7_meets_17 : decode cX7_meets 17 = .ok (.iload_n 1, 1) := by decide +kernel
theorem dX7_meets_18 : decode cX7_meets 18 = .ok (.aload_n 0, 1) := by decide +kernel
theorem dX7_meets_19 : decode cX7_meets 19 = .ok (.getfield 9, 3) := by decide +kernel
theorem dX7_meets_22 : decode cX7_meets 22 = .ok (.aload_n 0, 1) := by decide +kernel
theorem dX7_meets_23 : decode cX7_meets 23 = .ok (.getfield 15, 3) := by decide +kernel
theorem dX7_meets_26 : decode cX7_meets 26 = .ok (.iadd, 1) := by decide +kernel
theorem dX7_meets_27 : decode cX7_meets 27 = .ok (.if_icmp .ge 7, 3) := by decide +kernel
theorem dX7_meets_30 : decode cX7_meets 30 = .ok (.iconst 1, 1) := by decide +kernel
theorem dX7_meets_31 : decode cX7_meets 31 = .ok (.goto 4, 3) := by decide +kernel
theorem dX7_meets_34 : decode cX7_meets 34 = .ok (.iconst 0, 1) := by decide +kernel
theorem dX7_meets_35 : decode cX7_meets 35 = .ok (.ireturn, 1) := by decide +kernel
theorem dX7_byteOver_0 : decode cX7_byteOver 0 = .ok (.iload_n 1, 1) := by decide +kernel
theorem dX7_byteOver_1 : decode cX7_byteOver 1 = .ok (.aload_n 0, 1) := by decide +kernel
theorem dX7_byteOver_2 : decode cX7_byteOver 2 = .ok (.getfield 9, 3) := by decide +kernel
theorem dX7_byteOver_5 : decode cX7_byteOver 5 = .ok (.if_icmp .lt 30, 3) := by decide +kernel
theorem dX7_byteOver_8 : decode cX7_byteOver 8 = .ok (.iload_n 1, 1) := by decide +kernel
theorem dX7_byteOver_9 : decode cX7_byteOver 9 = .ok (.aload_n 0, 1) := by decide +kernel
theorem dX7_byteOver_10 : decode cX7_byteOver 10 = .ok (.getfield 9, 3) := by decide +kernel
theorem dX7_byteOver_13 : decode cX7_byteOver 13 = .ok (.aload_n 0, 1) := by decide +kernel
theorem dX7_byteOver_14 : decode cX7_byteOver 14 = .ok (.getfield 15, 3) := by decide +kernel
theorem dX7_byteOver_17 : decode cX7_byteOver 17 = .ok (.iadd, 1) := by decide +kernel
theorem dX7_byteOver_18 : decode cX7_byteOver 18 = .ok (.if_icmp .ge 17, 3) := by decide +kernel
theorem dX7_byteOver_21 : decode cX7_byteOver 21 = .ok (.aload_n 0, 1) := by decide +kernel
theorem dX7_byteOver_22 : decode cX7_byteOver 22 = .ok (.getfield 18, 3) := by decide +kernel
theorem dX7_byteOver_25 : decode cX7_byteOver 25 = .ok (.iload_n 1, 1) := by decide +kernel
theorem dX7_byteOver_26 : decode cX7_byteOver 26 = .ok (.aload_n 0, 1) := by decide +kernel
theorem dX7_byteOver_27 : decode cX7_byteOver 27 = .ok (.getfield 9, 3) := by decide +kernel
theorem dX7_byteOver_30 : decode cX7_byteOver 30 = .ok (.isub, 1) := by decide +kernel
theorem dX7_byteOver_31 : decode cX7_byteOver 31 = .ok (.iadd, 1) := by decide +kernel
theorem dX7_byteOver_32 : decode cX7_byteOver 32 = .ok (.goto 5, 3) := by decide +kernel
theorem dX7_byteOver_35 : decode cX7_byteOver 35 = .ok (.bipush (-4), 2) := by decide +kernel
theorem dX7_byteOver_37 : decode cX7_byteOver 37 = .ok (.ireturn, 1) := by decide +kernel
theorem dX8_init_0 : decode cX8_init 0 = .ok (.aload_n 0, 1) := by decide +kernel
theorem dX8_init_1 : decode cX8_init 1 = .ok (.invokespecial 3, 3) := by decide +kernel
theorem dX8_init_4 : decode cX8_init 4 = .ok (.aload_n 0, 1) := by decide +kernel
theorem dX8_init_5 : decode cX8_init 5 = .ok (.iconst 4, 1) := by decide +kernel
theorem dX8_init_6 : decode cX8_init 6 = .ok (.newarray .int, 2) := by decide +kernel
theorem dX8_init_8 : decode cX8_init 8 = .ok (.putfield 9, 3) := by decide +kernel
theorem dX8_init_11 : decode cX8_init 11 = .ok (.return_, 1) := by decide +kernel
theorem dX8_size_0 : decode cX8_size 0 = .ok (.aload_n 0, 1) := by decide +kernel
theorem dX8_size_1 : decode cX8_size 1 = .ok (.getfield 15, 3) := by decide +kernel
theorem dX8_size_4 : decode cX8_size 4 = .ok (.ireturn, 1) := by decide +kernel
theorem dX8_empty_0 : decode cX8_empty 0 = .ok (.aload_n 0, 1) := by decide +kernel
theorem dX8_empty_1 : decode cX8_empty 1 = .ok (.iconst 0, 1) := by decide +kernel
theorem dX8_empty_2 : decode cX8_empty 2 = .ok (.putfield 15, 3) := by decide +kernel
theorem dX8_empty_5 : decode cX8_empty 5 = .ok (.return_, 1) := by decide +kernel
theorem dX8_append_0 : decode cX8_append 0 = .ok (.aload_n 0, 1) := by decide +kernel
theorem dX8_append_1 : decode cX8_append 1 = .ok (.getfield 15, 3) := by decide +kernel
theorem dX8_append_4 : decode cX8_append 4 = .ok (.iconst 4, 1) := by decide +kernel
theorem dX8_append_5 : decode cX8_append 5 = .ok (.if_icmp .lt 5, 3) := by decide +kernel
theorem dX8_append_8 : decode cX8_append 8 = .ok (.iconst 0, 1) := by decide +kernel
theorem dX8_append_9 : decode cX8_append 9 = .ok (.ireturn, 1) := by decide +kernel
theorem dX8_append_10 : decode cX8_append 10 = .ok (.aload_n 0, 1) := by decide +kernel
theorem dX8_append_11 : decode cX8_append 11 = .ok (.getfield 9, 3) := by decide +kernel
theorem dX8_append_14 : decode cX8_append 14 = .ok (.aload_n 0, 1) := by decide +kernel
theorem dX8_append_15 : decode cX8_append 15 = .ok (.getfield 15, 3) := by decide +kernel
theorem dX8_append_18 : decode cX8_append 18 = .ok (.iload_n 1, 1) := by decide +kernel
theorem dX8_append_19 : decode cX8_append 19 = .ok (.iastore, 1) := by decide +kernel
theorem dX8_append_20 : decode cX8_append 20 = .ok (.aload_n 0, 1) := by decide +kernel
theorem dX8_append_21 : decode cX8_append 21 = .ok (.dup, 1) := by decide +kernel
theorem dX8_append_22 : decode cX8_append 22 = .ok (.getfield 15, 3) := by decide +kernel
theorem dX8_append_25 : decode cX8_append 25 = .ok (.iconst 1, 1) := by decide +kernel
theorem dX8_append_26 : decode cX8_append 26 = .ok (.iadd, 1) := by decide +kernel
theorem dX8_append_27 : decode cX8_append 27 = .ok (.putfield 15, 3) := by decide +kernel
theorem dX8_append_30 : decode cX8_append 30 = .ok (.iconst 1, 1) := by decide +kernel
theorem dX8_append_31 : decode cX8_append 31 = .ok (.ireturn, 1) := by decide +kernel
theorem dX8_removeOldest_0 : decode cX8_removeOldest 0 = .ok (.aload_n 0, 1) := by decide +kernel
theorem dX8_removeOldest_1 : decode cX8_removeOldest 1 = .ok (.getfield 15, 3) := by decide +kernel
theorem dX8_removeOldest_4 : decode cX8_removeOldest 4 = .ok (.ifCond .ne 5, 3) := by decide +kernel
theorem dX8_removeOldest_7 : decode cX8_removeOldest 7 = .ok (.iconst 0, 1) := by decide +kernel
theorem dX8_removeOldest_8 : decode cX8_removeOldest 8 = .ok (.ireturn, 1) := by decide +kernel
theorem dX8_removeOldest_9 : decode cX8_removeOldest 9 = .ok (.aload_n 0, 1) := by decide +kernel
theorem dX8_removeOldest_10 : decode cX8_removeOldest 10 = .ok (.getfield 9, 3) := by decide +kernel
theorem dX8_removeOldest_13 : decode cX8_removeOldest 13 = .ok (.iconst 0, 1) := by decide +kernel
theorem dX8_removeOldest_14 : decode cX8_removeOldest 14 = .ok (.iaload, 1) := by decide +kernel
theorem dX8_removeOldest_15 : decode cX8_removeOldest 15 = .ok (.istore_n 1, 1) := by decide +kernel
theorem dX8_removeOldest_16 : decode cX8_removeOldest 16 = .ok (.iconst 1, 1) := by decide +kernel
theorem dX8_removeOldest_17 : decode cX8_removeOldest 17 = .ok (.istore_n 2, 1) := by decide +kernel
theorem dX8_removeOldest_18 : decode cX8_removeOldest 18 = .ok (.iload_n 2, 1) := by decide +kernel
theorem dX8_removeOldest_19 : decode cX8_removeOldest 19 = .ok (.aload_n 0, 1) := by decide +kernel
theorem dX8_removeOldest_20 : decode cX8_removeOldest 20 = .ok (.getfield 15, 3) := by decide +kernel
theorem dX8_removeOldest_23 : decode cX8_removeOldest 23 = .ok (.if_icmp .ge 23, 3) := by decide +kernel
theorem dX8_removeOldest_26 : decode cX8_removeOldest 26 = .ok (.aload_n 0, 1) := by decide +kernel
theorem dX8_removeOldest_27 : decode cX8_removeOldest 27 = .ok (.getfield 9, 3) := by decide +kernel
theorem dX8_removeOldest_30 : decode cX8_removeOldest 30 = .ok (.iload_n 2, 1) := by decide +kernel
theorem dX8_removeOldest_31 : decode cX8_removeOldest 31 = .ok (.iconst 1, 1) := by decide +kernel
theorem dX8_removeOldest_32 : decode cX8_removeOldest 32 = .ok (.isub, 1) := by decide +kernel
theorem dX8_removeOldest_33 : decode cX8_removeOldest 33 = .ok (.aload_n 0, 1) := by decide +kernel
theorem dX8_removeOldest_34 : decode cX8_removeOldest 34 = .ok (.getfield 9, 3) := by decide +kernel
theorem dX8_removeOldest_37 : decode cX8_removeOldest 37 = .ok (.iload_n 2, 1) := by decide +kernel
theorem dX8_removeOldest_38 : decode cX8_removeOldest 38 = .ok (.iaload, 1) := by decide +kernel
theorem dX8_removeOldest_39 : decode cX8_removeOldest 39 = .ok (.iastore, 1) := by decide +kernel
theorem dX8_removeOldest_40 : decode cX8_removeOldest 40 = .ok (.iinc 2 1, 3) := by decide +kernel
theorem dX8_removeOldest_43 : decode cX8_removeOldest 43 = .ok (.goto (-25), 3) := by decide +kernel
theorem dX8_removeOldest_46 : decode cX8_removeOldest 46 = .ok (.aload_n 0, 1) := by decide +kernel
theorem dX8_removeOldest_47 : decode cX8_removeOldest 47 = .ok (.dup, 1) := by decide +kernel
theorem dX8_removeOldest_48 : decode cX8_removeOldest 48 = .ok (.getfield 15, 3) := by decide +kernel
theorem dX8_removeOldest_51 : decode cX8_removeOldest 51 = .ok (.iconst 1, 1) := by decide +kernel
theorem dX8_removeOldest_52 : decode cX8_removeOldest 52 = .ok (.isub, 1) := by decide +kernel
theorem dX8_removeOldest_53 : decode cX8_removeOldest 53 = .ok (.putfield 15, 3) := by decide +kernel
theorem dX8_removeOldest_56 : decode cX8_removeOldest 56 = .ok (.iload_n 1, 1) := by decide +kernel
theorem dX8_removeOldest_57 : decode cX8_removeOldest 57 = .ok (.ireturn, 1) := by decide +kernel
theorem dX9_init_0 : decode cX9_init 0 = .ok (.aload_n 0, 1) := by decide +kernel
theorem dX9_init_1 : decode cX9_init 1 = .ok (.invokespecial 3, 3) := by decide +kernel
theorem dX9_init_4 : decode cX9_init 4 = .ok (.aload_n 0, 1) := by decide +kernel
theorem dX9_init_5 : decode cX9_init 5 = .ok (.bipush 8, 2) := by decide +kernel
theorem dX9_init_7 : decode cX9_init 7 = .ok (.anewarray 9, 3) := by decide +kernel
theorem dX9_init_10 : decode cX9_init 10 = .ok (.putfield 11, 3) := by decide +kernel
theorem dX9_init_13 : decode cX9_init 13 = .ok (.aload_n 0, 1) := by decide +kernel
theorem dX9_init_14 : decode cX9_init 14 = .ok (.bipush 9, 2) := by decide +kernel
theorem dX9_init_16 : decode cX9_init 16 = .ok (.newarray .int, 2) := by decide +kernel
theorem dX9_init_18 : decode cX9_init 18 = .ok (.putfield 17, 3) := by decide +kernel
theorem dX9_init_21 : decode cX9_init 21 = .ok (.aload_n 0, 1) := by decide +kernel
theorem dX9_init_22 : decode cX9_init 22 = .ok (.bipush 9, 2) := by decide +kernel
theorem dX9_init_24 : decode cX9_init 24 = .ok (.newarray .int, 2) := by decide +kernel
theorem dX9_init_26 : decode cX9_init 26 = .ok (.putfield 21, 3) := by decide +kernel
theorem dX9_init_29 : decode cX9_init 29 = .ok (.iconst 0, 1) := by decide +kernel
theorem dX9_init_30 : decode cX9_init 30 = .ok (.istore_n 1, 1) := by decide +kernel
theorem dX9_init_31 : decode cX9_init 31 = .ok (.iload_n 1, 1) := by decide +kernel
theorem dX9_init_32 : decode cX9_init 32 = .ok (.bipush 8, 2) := by decide +kernel
theorem dX9_init_34 : decode cX9_init 34 = .ok (.if_icmp .ge 22, 3) := by decide +kernel
theorem dX9_init_37 : decode cX9_init 37 = .ok (.aload_n 0, 1) := by decide +kernel
theorem dX9_init_38 : decode cX9_init 38 = .ok (.getfield 11, 3) := by decide +kernel
theorem dX9_init_41 : decode cX9_init 41 = .ok (.iload_n 1, 1) := by decide +kernel
theorem dX9_init_42 : decode cX9_init 42 = .ok (.new 9, 3) := by decide +kernel
theorem dX9_init_45 : decode cX9_init 45 = .ok (.dup, 1) := by decide +kernel
theorem dX9_init_46 : decode cX9_init 46 = .ok (.invokespecial 24, 3) := by decide +kernel
theorem dX9_init_49 : decode cX9_init 49 = .ok (.aastore, 1) := by decide +kernel
theorem dX9_init_50 : decode cX9_init 50 = .ok (.iinc 1 1, 3) := by decide +kernel
theorem dX9_init_53 : decode cX9_init 53 = .ok (.goto (-22), 3) := by decide +kernel
theorem dX9_init_56 : decode cX9_init 56 = .ok (.return_, 1) := by decide +kernel
theorem dX9_build_0 : decode cX9_build 0 = .ok (.aload_n 0, 1) := by decide +kernel
theorem dX9_build_1 : decode cX9_build 1 = .ok (.aload_n 1, 1) := by decide +kernel
theorem dX9_build_2 : decode cX9_build 2 = .ok (.getfield 25, 3) := by decide +kernel
theorem dX9_build_5 : decode cX9_build 5 = .ok (.putfield 30, 3) := by decide +kernel
theorem dX9_build_8 : decode cX9_build 8 = .ok (.aload_n 0, 1) := by decide +kernel
theorem dX9_build_9 : decode cX9_build 9 = .ok (.aload_n 1, 1) := by decide +kernel
theorem dX9_build_10 : decode cX9_build 10 = .ok (.getfield 33, 3) := by decide +kernel
theorem dX9_build_13 : decode cX9_build 13 = .ok (.putfield 36, 3) := by decide +kernel
theorem dX9_build_16 : decode cX9_build 16 = .ok (.aload_n 0, 1) := by decide +kernel
theorem dX9_build_17 : decode cX9_build 17 = .ok (.aload_n 1, 1) := by decide +kernel
theorem dX9_build_18 : decode cX9_build 18 = .ok (.getfield 37, 3) := by decide +kernel
theorem dX9_build_21 : decode cX9_build 21 = .ok (.putfield 40, 3) := by decide +kernel
theorem dX9_build_24 : decode cX9_build 24 = .ok (.aload_n 0, 1) := by decide +kernel
theorem dX9_build_25 : decode cX9_build 25 = .ok (.iconst 0, 1) := by decide +kernel
theorem dX9_build_26 : decode cX9_build 26 = .ok (.putfield 41, 3) := by decide +kernel
theorem dX9_build_29 : decode cX9_build 29 = .ok (.aload_n 0, 1) := by decide +kernel
theorem dX9_build_30 : decode cX9_build 30 = .ok (.getfield 21, 3) := by decide +kernel
theorem dX9_build_33 : decode cX9_build 33 = .ok (.iconst 0, 1) := by decide +kernel
theorem dX9_build_34 : decode cX9_build 34 = .ok (.invokestatic 44, 3) := by decide +kernel
theorem dX9_build_37 : decode cX9_build 37 = .ok (.iconst 0, 1) := by decide +kernel
theorem dX9_build_38 : decode cX9_build 38 = .ok (.istore_n 2, 1) := by decide +kernel
theorem dX9_build_39 : decode cX9_build 39 = .ok (.iload_n 2, 1) := by decide +kernel
theorem dX9_build_40 : decode cX9_build 40 = .ok (.aload_n 0, 1) := by decide +kernel
theorem dX9_build_41 : decode cX9_build 41 = .ok (.getfield 30, 3) := by decide +kernel
theorem dX9_build_44 : decode cX9_build 44 = .ok (.if_icmp .ge 48, 3) := by decide +kernel
theorem dX9_build_47 : decode cX9_build 47 = .ok (.aload_n 0, 1) := by decide +kernel
theorem dX9_build_48 : decode cX9_build 48 = .ok (.getfield 11, 3) := by decide +kernel
theorem dX9_build_51 : decode cX9_build 51 = .ok (.iload_n 2, 1) := by decide +kernel
theorem dX9_build_52 : decode cX9_build 52 = .ok (.aaload, 1) := by decide +kernel
theorem dX9_build_53 : decode cX9_build 53 = .ok (.aload_n 1, 1) := by decide +kernel
theorem dX9_build_54 : decode cX9_build 54 = .ok (.getfield 50, 3) := by decide +kernel
theorem dX9_build_57 : decode cX9_build 57 = .ok (.iload_n 2, 1) := by decide +kernel
theorem dX9_build_58 : decode cX9_build 58 = .ok (.iaload, 1) := by decide +kernel
theorem dX9_build_59 : decode cX9_build 59 = .ok (.aload_n 1, 1) := by decide +kernel
theorem dX9_build_60 : decode cX9_build 60 = .ok (.getfield 53, 3) := by decide +kernel
theorem dX9_build_63 : decode cX9_build 63 = .ok (.iload_n 2, 1) := by decide +kernel
theorem dX9_build_64 : decode cX9_build 64 = .ok (.iaload, 1) := by decide +kernel
theorem dX9_build_65 : decode cX9_build 65 = .ok (.aload_n 1, 1) := by decide +kernel
theorem dX9_build_66 : decode cX9_build 66 = .ok (.getfield 56, 3) := by decide +kernel
theorem dX9_build_69 : decode cX9_build 69 = .ok (.iload_n 2, 1) := by decide +kernel
theorem dX9_build_70 : decode cX9_build 70 = .ok (.iaload, 1) := by decide +kernel
theorem dX9_build_71 : decode cX9_build 71 = .ok (.invokevirtual 59, 3) := by decide +kernel
theorem dX9_build_74 : decode cX9_build 74 = .ok (.aload_n 0, 1) := by decide +kernel
theorem dX9_build_75 : decode cX9_build 75 = .ok (.getfield 17, 3) := by decide +kernel
theorem dX9_build_78 : decode cX9_build 78 = .ok (.iload_n 2, 1) := by decide +kernel
theorem dX9_build_79 : decode cX9_build 79 = .ok (.aload_n 1, 1) := by decide +kernel
theorem dX9_build_80 : decode cX9_build 80 = .ok (.getfield 63, 3) := by decide +kernel
theorem dX9_build_83 : decode cX9_build 83 = .ok (.iload_n 2, 1) := by decide +kernel
theorem dX9_build_84 : decode cX9_build 84 = .ok (.iaload, 1) := by decide +kernel
theorem dX9_build_85 : decode cX9_build 85 = .ok (.iastore, 1) := by decide +kernel
theorem dX9_build_86 : decode cX9_build 86 = .ok (.iinc 2 1, 3) := by decide +kernel
theorem dX9_build_89 : decode cX9_build 89 = .ok (.goto (-50), 3) := by decide +kernel
theorem dX9_build_92 : decode cX9_build 92 = .ok (.aload_n 0, 1) := by decide +kernel
theorem dX9_build_93 : decode cX9_build 93 = .ok (.getfield 17, 3) := by decide +kernel
theorem dX9_build_96 : decode cX9_build 96 = .ok (.aload_n 0, 1) := by decide +kernel
theorem dX9_build_97 : decode cX9_build 97 = .ok (.getfield 30, 3) := by decide +kernel
theorem dX9_build_100 : decode cX9_build 100 = .ok (.aload_n 1, 1) := by decide +kernel
theorem dX9_build_101 : decode cX9_build 101 = .ok (.getfield 64, 3) := by decide +kernel
theorem dX9_build_104 : decode cX9_build 104 = .ok (.iastore, 1) := by decide +kernel
theorem dX9_build_105 : decode cX9_build 105 = .ok (.return_, 1) := by decide +kernel
theorem dX9_find_0 : decode cX9_find 0 = .ok (.iload_n 1, 1) := by decide +kernel
theorem dX9_find_1 : decode cX9_find 1 = .ok (.ifCond .lt 20, 3) := by decide +kernel
theorem dX9_find_4 : decode cX9_find 4 = .ok (.iload_n 1, 1) := by decide +kernel
theorem dX9_find_5 : decode cX9_find 5 = .ok (.aload_n 0, 1) := by decide +kernel
theorem dX9_find_6 : decode cX9_find 6 = .ok (.getfield 30, 3) := by decide +kernel
theorem dX9_find_9 : decode cX9_find 9 = .ok (.if_icmp .ge 12, 3) := by decide +kernel
theorem dX9_find_12 : decode cX9_find 12 = .ok (.aload_n 0, 1) := by decide +kernel
theorem dX9_find_13 : decode cX9_find 13 = .ok (.getfield 11, 3) := by decide +kernel
theorem dX9_find_16 : decode cX9_find 16 = .ok (.iload_n 1, 1) := by decide +kernel
theorem dX9_find_17 : decode cX9_find 17 = .ok (.aaload, 1) := by decide +kernel
theorem dX9_find_18 : decode cX9_find 18 = .ok (.goto 4, 3) := by decide +kernel
theorem dX9_find_21 : decode cX9_find 21 = .ok (.aconst_null, 1) := by decide +kernel
theorem dX9_find_22 : decode cX9_find 22 = .ok (.areturn, 1) := by decide +kernel
theorem dX9_size_0 : decode cX9_size 0 = .ok (.aload_n 0, 1) := by decide +kernel
theorem dX9_size_1 : decode cX9_size 1 = .ok (.getfield 30, 3) := by decide +kernel
theorem dX9_size_4 : decode cX9_size 4 = .ok (.ireturn, 1) := by decide +kernel
theorem dX9_time_0 : decode cX9_time 0 = .ok (.aload_n 0, 1) := by decide +kernel
theorem dX9_time_1 : decode cX9_time 1 = .ok (.getfield 41, 3) := by decide +kernel
theorem dX9_time_4 : decode cX9_time 4 = .ok (.ireturn, 1) := by decide +kernel
theorem dX9_pass_0 : decode cX9_pass 0 = .ok (.aload_n 0, 1) := by decide +kernel
theorem dX9_pass_1 : decode cX9_pass 1 = .ok (.getfield 36, 3) := by decide +kernel
theorem dX9_pass_4 : decode cX9_pass 4 = .ok (.ireturn, 1) := by decide +kernel
theorem dX9_turn_0 : decode cX9_turn 0 = .ok (.aload_n 0, 1) := by decide +kernel
theorem dX9_turn_1 : decode cX9_turn 1 = .ok (.getfield 40, 3) := by decide +kernel
theorem dX9_turn_4 : decode cX9_turn 4 = .ok (.ireturn, 1) := by decide +kernel
theorem dX9_passTime_0 : decode cX9_passTime 0 = .ok (.aload_n 0, 1) := by decide +kernel
theorem dX9_passTime_1 : decode cX9_passTime 1 = .ok (.dup, 1) := by decide +kernel
theorem dX9_passTime_2 : decode cX9_passTime 2 = .ok (.getfield 41, 3) := by decide +kernel
theorem dX9_passTime_5 : decode cX9_passTime 5 = .ok (.iload_n 1, 1) := by decide +kernel
theorem dX9_passTime_6 : decode cX9_passTime 6 = .ok (.iadd, 1) := by decide +kernel
theorem dX9_passTime_7 : decode cX9_passTime 7 = .ok (.putfield 41, 3) := by decide +kernel
theorem dX9_passTime_10 : decode cX9_passTime 10 = .ok (.return_, 1) := by decide +kernel
theorem dX9_wireTime_0 : decode cX9_wireTime 0 = .ok (.iload_n 1, 1) := by decide +kernel
theorem dX9_wireTime_1 : decode cX9_wireTime 1 = .ok (.ifCond .lt 20, 3) := by decide +kernel
theorem dX9_wireTime_4 : decode cX9_wireTime 4 = .ok (.iload_n 1, 1) := by decide +kernel
theorem dX9_wireTime_5 : decode cX9_wireTime 5 = .ok (.aload_n 0, 1) := by decide +kernel
theorem dX9_wireTime_6 : decode cX9_wireTime 6 = .ok (.getfield 30, 3) := by decide +kernel
theorem dX9_wireTime_9 : decode cX9_wireTime 9 = .ok (.if_icmp .gt 12, 3) := by decide +kernel
theorem dX9_wireTime_12 : decode cX9_wireTime 12 = .ok (.aload_n 0, 1) := by decide +kernel
theorem dX9_wireTime_13 : decode cX9_wireTime 13 = .ok (.getfield 17, 3) := by decide +kernel
theorem dX9_wireTime_16 : decode cX9_wireTime 16 = .ok (.iload_n 1, 1) := by decide +kernel
theorem dX9_wireTime_17 : decode cX9_wireTime 17 = .ok (.iaload, 1) := by decide +kernel
theorem dX9_wireTime_18 : decode cX9_wireTime 18 = .ok (.goto 4, 3) := by decide +kernel
theorem dX9_wireTime_21 : decode cX9_wireTime 21 = .ok (.iconst 0, 1) := by decide +kernel
theorem dX9_wireTime_22 : decode cX9_wireTime 22 = .ok (.ireturn, 1) := by decide +kernel
theorem dX9_wireTimes_0 : decode cX9_wireTimes 0 = .ok (.iconst 0, 1) := by decide +kernel
theorem dX9_wireTimes_1 : decode cX9_wireTimes 1 = .ok (.istore_n 3, 1) := by decide +kernel
theorem dX9_wireTimes_2 : decode cX9_wireTimes 2 = .ok (.iload_n 1, 1) := by decide +kernel
theorem dX9_wireTimes_3 : decode cX9_wireTimes 3 = .ok (.istore 4, 2) := by decide +kernel
theorem dX9_wireTimes_5 : decode cX9_wireTimes 5 = .ok (.iload 4, 2) := by decide +kernel
theorem dX9_wireTimes_7 : decode cX9_wireTimes 7 = .ok (.iload_n 2, 1) := by decide +kernel
theorem dX9_wireTimes_8 : decode cX9_wireTimes 8 = .ok (.if_icmp .gt 18, 3) := by decide +kernel
theorem dX9_wireTimes_11 : decode cX9_wireTimes 11 = .ok (.iload_n 3, 1) := by decide +kernel
theorem dX9_wireTimes_12 : decode cX9_wireTimes 12 = .ok (.aload_n 0, 1) := by decide +kernel
theorem dX9_wireTimes_13 : decode cX9_wireTimes 13 = .ok (.iload 4, 2) := by decide +kernel
theorem dX9_wireTimes_15 : decode cX9_wireTimes 15 = .ok (.invokevirtual 67, 3) := by decide +kernel
theorem dX9_wireTimes_18 : decode cX9_wireTimes 18 = .ok (.iadd, 1) := by decide +kernel
theorem dX9_wireTimes_19 : decode cX9_wireTimes 19 = .ok (.istore_n 3, 1) := by decide +kernel
theorem dX9_wireTimes_20 : decode cX9_wireTimes 20 = .ok (.iinc 4 1, 3) := by decide +kernel
theorem dX9_wireTimes_23 : decode cX9_wireTimes 23 = .ok (.goto (-18), 3) := by decide +kernel
theorem dX9_wireTimes_26 : decode cX9_wireTimes 26 = .ok (.iload_n 3, 1) := by decide +kernel
theorem dX9_wireTimes_27 : decode cX9_wireTimes 27 = .ok (.ireturn, 1) := by decide +kernel
theorem dX9_changeWire_0 : decode cX9_changeWire 0 = .ok (.iload_n 1, 1) := by decide +kernel
theorem dX9_changeWire_1 : decode cX9_changeWire 1 = .ok (.ifCond .lt 21, 3) := by decide +kernel
theorem dX9_changeWire_4 : decode cX9_changeWire 4 = .ok (.iload_n 1, 1) := by decide +kernel
theorem dX9_changeWire_5 : decode cX9_changeWire 5 = .ok (.aload_n 0, 1) := by decide +kernel
theorem dX9_changeWire_6 : decode cX9_changeWire 6 = .ok (.getfield 30, 3) := by decide +kernel
theorem dX9_changeWire_9 : decode cX9_changeWire 9 = .ok (.if_icmp .gt 13, 3) := by decide +kernel
theorem dX9_changeWire_12 : decode cX9_changeWire 12 = .ok (.aload_n 0, 1) := by decide +kernel
theorem dX9_changeWire_13 : decode cX9_changeWire 13 = .ok (.getfield 21, 3) := by decide +kernel
theorem dX9_changeWire_16 : decode cX9_changeWire 16 = .ok (.iload_n 1, 1) := by decide +kernel
theorem dX9_changeWire_17 : decode cX9_changeWire 17 = .ok (.iaload, 1) := by decide +kernel
theorem dX9_changeWire_18 : decode cX9_changeWire 18 = .ok (.iload_n 2, 1) := by decide +kernel
theorem dX9_changeWire_19 : decode cX9_changeWire 19 = .ok (.if_icmp .ne 5, 3) := by decide +kernel
theorem dX9_changeWire_22 : decode cX9_changeWire 22 = .ok (.iconst 0, 1) := by decide +kernel
theorem dX9_changeWire_23 : decode cX9_changeWire 23 = .ok (.ireturn, 1) := by decide +kernel
theorem dX9_changeWire_24 : decode cX9_changeWire 24 = .ok (.aload_n 0, 1) := by decide +kernel
theorem dX9_changeWire_25 : decode cX9_changeWire 25 = .ok (.getfield 21, 3) := by decide +kernel
theorem dX9_changeWire_28 : decode cX9_changeWire 28 = .ok (.iload_n 1, 1) := by decide +kernel
theorem dX9_changeWire_29 : decode cX9_changeWire 29 = .ok (.iload_n 2, 1) := by decide +kernel
theorem dX9_changeWire_30 : decode cX9_changeWire 30 = .ok (.iastore, 1) := by decide +kernel
theorem dX9_changeWire_31 : decode cX9_changeWire 31 = .ok (.iconst 1, 1) := by decide +kernel
theorem dX9_changeWire_32 : decode cX9_changeWire 32 = .ok (.ireturn, 1) := by decide +kernel
theorem dX9_cutWires_0 : decode cX9_cutWires 0 = .ok (.iconst 0, 1) := by decide +kernel
theorem dX9_cutWires_1 : decode cX9_cutWires 1 = .ok (.istore_n 1, 1) := by decide +kernel
theorem dX9_cutWires_2 : decode cX9_cutWires 2 = .ok (.iconst 0, 1) := by decide +kernel
theorem dX9_cutWires_3 : decode cX9_cutWires 3 = .ok (.istore_n 2, 1) := by decide +kernel
theorem dX9_cutWires_4 : decode cX9_cutWires 4 = .ok (.iload_n 2, 1) := by decide +kernel
theorem dX9_cutWires_5 : decode cX9_cutWires 5 = .ok (.aload_n 0, 1) := by decide +kernel
theorem dX9_cutWires_6 : decode cX9_cutWires 6 = .ok (.getfield 30, 3) := by decide +kernel
theorem dX9_cutWires_9 : decode cX9_cutWires 9 = .ok (.if_icmp .gt 18, 3) := by decide +kernel
theorem dX9_cutWires_12 : decode cX9_cutWires 12 = .ok (.iload_n 1, 1) := by decide +kernel
theorem dX9_cutWires_13 : decode cX9_cutWires 13 = .ok (.aload_n 0, 1) := by decide +kernel
theorem dX9_cutWires_14 : decode cX9_cutWires 14 = .ok (.getfield 21, 3) := by decide +kernel
theorem dX9_cutWires_17 : decode cX9_cutWires 17 = .ok (.iload_n 2, 1) := by decide +kernel
theorem dX9_cutWires_18 : decode cX9_cutWires 18 = .ok (.iaload, 1) := by decide +kernel
theorem dX9_cutWires_19 : decode cX9_cutWires 19 = .ok (.iadd, 1) := by decide +kernel
theorem dX9_cutWires_20 : decode cX9_cutWires 20 = .ok (.istore_n 1, 1) := by decide +kernel
theorem dX9_cutWires_21 : decode cX9_cutWires 21 = .ok (.iinc 2 1, 3) := by decide +kernel
theorem dX9_cutWires_24 : decode cX9_cutWires 24 = .ok (.goto (-20), 3) := by decide +kernel
theorem dX9_cutWires_27 : decode cX9_cutWires 27 = .ok (.iload_n 1, 1) := by decide +kernel
theorem dX9_cutWires_28 : decode cX9_cutWires 28 = .ok (.ireturn, 1) := by decide +kernel
theorem dX9_sizeOfA_0 : decode cX9_sizeOfA 0 = .ok (.iconst 0, 1) := by decide +kernel
theorem dX9_sizeOfA_1 : decode cX9_sizeOfA 1 = .ok (.istore_n 1, 1) := by decide +kernel
theorem dX9_sizeOfA_2 : decode cX9_sizeOfA 2 = .ok (.iload_n 1, 1) := by decide +kernel
theorem dX9_sizeOfA_3 : decode cX9_sizeOfA 3 = .ok (.aload_n 0, 1) := by decide +kernel
theorem dX9_sizeOfA_4 : decode cX9_sizeOfA 4 = .ok (.getfield 30, 3) := by decide +kernel
theorem dX9_sizeOfA_7 : decode cX9_sizeOfA 7 = .ok (.if_icmp .ge 21, 3) := by decide +kernel
theorem dX9_sizeOfA_10 : decode cX9_sizeOfA 10 = .ok (.aload_n 0, 1) := by decide +kernel
theorem dX9_sizeOfA_11 : decode cX9_sizeOfA 11 = .ok (.getfield 21, 3) := by decide +kernel
theorem dX9_sizeOfA_14 : decode cX9_sizeOfA 14 = .ok (.iload_n 1, 1) := by decide +kernel
theorem dX9_sizeOfA_15 : decode cX9_sizeOfA 15 = .ok (.iaload, 1) := by decide +kernel
theorem dX9_sizeOfA_16 : decode cX9_sizeOfA 16 = .ok (.iconst 1, 1) := by decide +kernel
theorem dX9_sizeOfA_17 : decode cX9_sizeOfA 17 = .ok (.if_icmp .ne 5, 3) := by decide +kernel
theorem dX9_sizeOfA_20 : decode cX9_sizeOfA 20 = .ok (.iload_n 1, 1) := by decide +kernel
theorem dX9_sizeOfA_21 : decode cX9_sizeOfA 21 = .ok (.ireturn, 1) := by decide +kernel
theorem dX9_sizeOfA_22 : decode cX9_sizeOfA 22 = .ok (.iinc 1 1, 3) := by decide +kernel
theorem dX9_sizeOfA_25 : decode cX9_sizeOfA 25 = .ok (.goto (-23), 3) := by decide +kernel
theorem dX9_sizeOfA_28 : decode cX9_sizeOfA 28 = .ok (.aload_n 0, 1) := by decide +kernel
theorem dX9_sizeOfA_29 : decode cX9_sizeOfA 29 = .ok (.getfield 30, 3) := by decide +kernel
theorem dX9_sizeOfA_32 : decode cX9_sizeOfA 32 = .ok (.ireturn, 1) := by decide +kernel
theorem dX9_firstOfB_0 : decode cX9_firstOfB 0 = .ok (.aload_n 0, 1) := by decide +kernel
theorem dX9_firstOfB_1 : decode cX9_firstOfB 1 = .ok (.getfield 30, 3) := by decide +kernel
theorem dX9_firstOfB_4 : decode cX9_firstOfB 4 = .ok (.istore_n 1, 1) := by decide +kernel
theorem dX9_firstOfB_5 : decode cX9_firstOfB 5 = .ok (.iload_n 1, 1) := by decide +kernel
theorem dX9_firstOfB_6 : decode cX9_firstOfB 6 = .ok (.ifCond .lt 21, 3) := by decide +kernel
theorem dX9_firstOfB_9 : decode cX9_firstOfB 9 = .ok (.aload_n 0, 1) := by decide +kernel
theorem dX9_firstOfB_10 : decode cX9_firstOfB 10 = .ok (.getfield 21, 3) := by decide +kernel
theorem dX9_firstOfB_13 : decode cX9_firstOfB 13 = .ok (.iload_n 1, 1) := by decide +kernel
theorem dX9_firstOfB_14 : decode cX9_firstOfB 14 = .ok (.iaload, 1) := by decide +kernel
theorem dX9_firstOfB_15 : decode cX9_firstOfB 15 = .ok (.iconst 1, 1) := by decide +kernel
theorem dX9_firstOfB_16 : decode cX9_firstOfB 16 = .ok (.if_icmp .ne 5, 3) := by decide +kernel
theorem dX9_firstOfB_19 : decode cX9_firstOfB 19 = .ok (.iload_n 1, 1) := by decide +kernel
theorem dX9_firstOfB_20 : decode cX9_firstOfB 20 = .ok (.ireturn, 1) := by decide +kernel
theorem dX9_firstOfB_21 : decode cX9_firstOfB 21 = .ok (.iinc 1 (-1), 3) := by decide +kernel
theorem dX9_firstOfB_24 : decode cX9_firstOfB 24 = .ok (.goto (-19), 3) := by decide +kernel
theorem dX9_firstOfB_27 : decode cX9_firstOfB 27 = .ok (.aload_n 0, 1) := by decide +kernel
theorem dX9_firstOfB_28 : decode cX9_firstOfB 28 = .ok (.getfield 30, 3) := by decide +kernel
theorem dX9_firstOfB_31 : decode cX9_firstOfB 31 = .ok (.ireturn, 1) := by decide +kernel
theorem dX9_sizeOfB_0 : decode cX9_sizeOfB 0 = .ok (.aload_n 0, 1) := by decide +kernel
theorem dX9_sizeOfB_1 : decode cX9_sizeOfB 1 = .ok (.getfield 30, 3) := by decide +kernel
theorem dX9_sizeOfB_4 : decode cX9_sizeOfB 4 = .ok (.aload_n 0, 1) := by decide +kernel
theorem dX9_sizeOfB_5 : decode cX9_sizeOfB 5 = .ok (.invokevirtual 71, 3) := by decide +kernel
theorem dX9_sizeOfB_8 : decode cX9_sizeOfB 8 = .ok (.isub, 1) := by decide +kernel
theorem dX9_sizeOfB_9 : decode cX9_sizeOfB 9 = .ok (.ireturn, 1) := by decide +kernel
theorem dX9_sideOf_0 : decode cX9_sideOf 0 = .ok (.iload_n 1, 1) := by decide +kernel
theorem dX9_sideOf_1 : decode cX9_sideOf 1 = .ok (.aload_n 0, 1) := by decide +kernel
theorem dX9_sideOf_2 : decode cX9_sideOf 2 = .ok (.invokevirtual 75, 3) := by decide +kernel
theorem dX9_sideOf_5 : decode cX9_sideOf 5 = .ok (.if_icmp .ge 5, 3) := by decide +kernel
theorem dX9_sideOf_8 : decode cX9_sideOf 8 = .ok (.iconst 1, 1) := by decide +kernel
theorem dX9_sideOf_9 : decode cX9_sideOf 9 = .ok (.ireturn, 1) := by decide +kernel
theorem dX9_sideOf_10 : decode cX9_sideOf 10 = .ok (.iload_n 1, 1) := by decide +kernel
theorem dX9_sideOf_11 : decode cX9_sideOf 11 = .ok (.aload_n 0, 1) := by decide +kernel
theorem dX9_sideOf_12 : decode cX9_sideOf 12 = .ok (.invokevirtual 71, 3) := by decide +kernel
theorem dX9_sideOf_15 : decode cX9_sideOf 15 = .ok (.if_icmp .lt 7, 3) := by decide +kernel
theorem dX9_sideOf_18 : decode cX9_sideOf 18 = .ok (.iconst 2, 1) := by decide +kernel
theorem dX9_sideOf_19 : decode cX9_sideOf 19 = .ok (.goto 4, 3) := by decide +kernel
theorem dX9_sideOf_22 : decode cX9_sideOf 22 = .ok (.iconst 0, 1) := by decide +kernel
theorem dX9_sideOf_23 : decode cX9_sideOf 23 = .ok (.ireturn, 1) := by decide +kernel
theorem dX9_isReached_0 : decode cX9_isReached 0 = .ok (.aload_n 0, 1) := by decide +kernel
theorem dX9_isReached_1 : decode cX9_isReached 1 = .ok (.iload_n 1, 1) := by decide +kernel
theorem dX9_isReached_2 : decode cX9_isReached 2 = .ok (.invokevirtual 78, 3) := by decide +kernel
theorem dX9_isReached_5 : decode cX9_isReached 5 = .ok (.astore_n 2, 1) := by decide +kernel
theorem dX9_isReached_6 : decode cX9_isReached 6 = .ok (.aload_n 2, 1) := by decide +kernel
theorem dX9_isReached_7 : decode cX9_isReached 7 = .ok (.ifnull 22, 3) := by decide +kernel
theorem dX9_isReached_10 : decode cX9_isReached 10 = .ok (.aload_n 2, 1) := by decide +kernel
theorem dX9_isReached_11 : decode cX9_isReached 11 = .ok (.getfield 82, 3) := by decide +kernel
theorem dX9_isReached_14 : decode cX9_isReached 14 = .ok (.ifCond .eq 15, 3) := by decide +kernel
theorem dX9_isReached_17 : decode cX9_isReached 17 = .ok (.aload_n 0, 1) := by decide +kernel
theorem dX9_isReached_18 : decode cX9_isReached 18 = .ok (.iload_n 1, 1) := by decide +kernel
theorem dX9_isReached_19 : decode cX9_isReached 19 = .ok (.invokevirtual 85, 3) := by decide +kernel
theorem dX9_isReached_22 : decode cX9_isReached 22 = .ok (.ifCond .eq 7, 3) := by decide +kernel
theorem dX9_isReached_25 : decode cX9_isReached 25 = .ok (.iconst 1, 1) := by decide +kernel
theorem dX9_isReached_26 : decode cX9_isReached 26 = .ok (.goto 4, 3) := by decide +kernel
theorem dX9_isReached_29 : decode cX9_isReached 29 = .ok (.iconst 0, 1) := by decide +kernel
theorem dX9_isReached_30 : decode cX9_isReached 30 = .ok (.ireturn, 1) := by decide +kernel
theorem dX9_timeOnA_0 : decode cX9_timeOnA 0 = .ok (.aload_n 0, 1) := by decide +kernel
theorem dX9_timeOnA_1 : decode cX9_timeOnA 1 = .ok (.getfield 41, 3) := by decide +kernel
theorem dX9_timeOnA_4 : decode cX9_timeOnA 4 = .ok (.aload_n 0, 1) := by decide +kernel
theorem dX9_timeOnA_5 : decode cX9_timeOnA 5 = .ok (.iconst 0, 1) := by decide +kernel
theorem dX9_timeOnA_6 : decode cX9_timeOnA 6 = .ok (.iload_n 1, 1) := by decide +kernel
theorem dX9_timeOnA_7 : decode cX9_timeOnA 7 = .ok (.invokevirtual 88, 3) := by decide +kernel
theorem dX9_timeOnA_10 : decode cX9_timeOnA 10 = .ok (.iadd, 1) := by decide +kernel
theorem dX9_timeOnA_11 : decode cX9_timeOnA 11 = .ok (.iload_n 1, 1) := by decide +kernel
theorem dX9_timeOnA_12 : decode cX9_timeOnA 12 = .ok (.aload_n 0, 1) := by decide +kernel
theorem dX9_timeOnA_13 : decode cX9_timeOnA 13 = .ok (.getfield 36, 3) := by decide +kernel
theorem dX9_timeOnA_16 : decode cX9_timeOnA 16 = .ok (.imul, 1) := by decide +kernel
theorem dX9_timeOnA_17 : decode cX9_timeOnA 17 = .ok (.iadd, 1) := by decide +kernel
theorem dX9_timeOnA_18 : decode cX9_timeOnA 18 = .ok (.ireturn, 1) := by decide +kernel
theorem dX9_timeOnB_0 : decode cX9_timeOnB 0 = .ok (.aload_n 0, 1) := by decide +kernel
theorem dX9_timeOnB_1 : decode cX9_timeOnB 1 = .ok (.invokevirtual 71, 3) := by decide +kernel
theorem dX9_timeOnB_4 : decode cX9_timeOnB 4 = .ok (.istore_n 2, 1) := by decide +kernel
theorem dX9_timeOnB_5 : decode cX9_timeOnB 5 = .ok (.aload_n 0, 1) := by decide +kernel
theorem dX9_timeOnB_6 : decode cX9_timeOnB 6 = .ok (.getfield 41, 3) := by decide +kernel
theorem dX9_timeOnB_9 : decode cX9_timeOnB 9 = .ok (.aload_n 0, 1) := by decide +kernel
theorem dX9_timeOnB_10 : decode cX9_timeOnB 10 = .ok (.iload_n 2, 1) := by decide +kernel
theorem dX9_timeOnB_11 : decode cX9_timeOnB 11 = .ok (.iconst 1, 1) := by decide +kernel
theorem dX9_timeOnB_12 : decode cX9_timeOnB 12 = .ok (.iadd, 1) := by decide +kernel
theorem dX9_timeOnB_13 : decode cX9_timeOnB 13 = .ok (.aload_n 0, 1) := by decide +kernel
theorem dX9_timeOnB_14 : decode cX9_timeOnB 14 = .ok (.getfield 30, 3) := by decide +kernel
theorem dX9_timeOnB_17 : decode cX9_timeOnB 17 = .ok (.invokevirtual 88, 3) := by decide +kernel
theorem dX9_timeOnB_20 : decode cX9_timeOnB 20 = .ok (.iadd, 1) := by decide +kernel
theorem dX9_timeOnB_21 : decode cX9_timeOnB 21 = .ok (.aload_n 0, 1) := by decide +kernel
theorem dX9_timeOnB_22 : decode cX9_timeOnB 22 = .ok (.getfield 40, 3) := by decide +kernel
theorem dX9_timeOnB_25 : decode cX9_timeOnB 25 = .ok (.aload_n 0, 1) := by decide +kernel
theorem dX9_timeOnB_26 : decode cX9_timeOnB 26 = .ok (.getfield 30, 3) := by decide +kernel
theorem dX9_timeOnB_29 : decode cX9_timeOnB 29 = .ok (.iload_n 2, 1) := by decide +kernel
theorem dX9_timeOnB_30 : decode cX9_timeOnB 30 = .ok (.isub, 1) := by decide +kernel
theorem dX9_timeOnB_31 : decode cX9_timeOnB 31 = .ok (.iconst 1, 1) := by decide +kernel
theorem dX9_timeOnB_32 : decode cX9_timeOnB 32 = .ok (.isub, 1) := by decide +kernel
theorem dX9_timeOnB_33 : decode cX9_timeOnB 33 = .ok (.imul, 1) := by decide +kernel
theorem dX9_timeOnB_34 : decode cX9_timeOnB 34 = .ok (.iadd, 1) := by decide +kernel
theorem dX9_timeOnB_35 : decode cX9_timeOnB 35 = .ok (.istore_n 3, 1) := by decide +kernel
theorem dX9_timeOnB_36 : decode cX9_timeOnB 36 = .ok (.iload_n 3, 1) := by decide +kernel
theorem dX9_timeOnB_37 : decode cX9_timeOnB 37 = .ok (.aload_n 0, 1) := by decide +kernel
theorem dX9_timeOnB_38 : decode cX9_timeOnB 38 = .ok (.iload_n 2, 1) := by decide +kernel
theorem dX9_timeOnB_39 : decode cX9_timeOnB 39 = .ok (.iconst 1, 1) := by decide +kernel
theorem dX9_timeOnB_40 : decode cX9_timeOnB 40 = .ok (.iadd, 1) := by decide +kernel
theorem dX9_timeOnB_41 : decode cX9_timeOnB 41 = .ok (.iload_n 1, 1) := by decide +kernel
theorem dX9_timeOnB_42 : decode cX9_timeOnB 42 = .ok (.invokevirtual 88, 3) := by decide +kernel
theorem dX9_timeOnB_45 : decode cX9_timeOnB 45 = .ok (.iadd, 1) := by decide +kernel
theorem dX9_timeOnB_46 : decode cX9_timeOnB 46 = .ok (.aload_n 0, 1) := by decide +kernel
theorem dX9_timeOnB_47 : decode cX9_timeOnB 47 = .ok (.getfield 36, 3) := by decide +kernel
theorem dX9_timeOnB_50 : decode cX9_timeOnB 50 = .ok (.iload_n 1, 1) := by decide +kernel
theorem dX9_timeOnB_51 : decode cX9_timeOnB 51 = .ok (.iload_n 2, 1) := by decide +kernel
theorem dX9_timeOnB_52 : decode cX9_timeOnB 52 = .ok (.isub, 1) := by decide +kernel
theorem dX9_timeOnB_53 : decode cX9_timeOnB 53 = .ok (.imul, 1) := by decide +kernel
theorem dX9_timeOnB_54 : decode cX9_timeOnB 54 = .ok (.iadd, 1) := by decide +kernel
theorem dX9_timeOnB_55 : decode cX9_timeOnB 55 = .ok (.ireturn, 1) := by decide +kernel
theorem dX9_trip_0 : decode cX9_trip 0 = .ok (.aload_n 0, 1) := by decide +kernel
theorem dX9_trip_1 : decode cX9_trip 1 = .ok (.invokevirtual 92, 3) := by decide +kernel
theorem dX9_trip_4 : decode cX9_trip 4 = .ok (.ifCond .ne 23, 3) := by decide +kernel
theorem dX9_trip_7 : decode cX9_trip 7 = .ok (.aload_n 0, 1) := by decide +kernel
theorem dX9_trip_8 : decode cX9_trip 8 = .ok (.iconst 0, 1) := by decide +kernel
theorem dX9_trip_9 : decode cX9_trip 9 = .ok (.aload_n 0, 1) := by decide +kernel
theorem dX9_trip_10 : decode cX9_trip 10 = .ok (.getfield 30, 3) := by decide +kernel
theorem dX9_trip_13 : decode cX9_trip 13 = .ok (.invokevirtual 88, 3) := by decide +kernel
theorem dX9_trip_16 : decode cX9_trip 16 = .ok (.aload_n 0, 1) := by decide +kernel
theorem dX9_trip_17 : decode cX9_trip 17 = .ok (.getfield 36, 3) := by decide +kernel
theorem dX9_trip_20 : decode cX9_trip 20 = .ok (.aload_n 0, 1) := by decide +kernel
theorem dX9_trip_21 : decode cX9_trip 21 = .ok (.getfield 30, 3) := by decide +kernel
theorem dX9_trip_24 : decode cX9_trip 24 = .ok (.imul, 1) := by decide +kernel
theorem dX9_trip_25 : decode cX9_trip 25 = .ok (.iadd, 1) := by decide +kernel
theorem dX9_trip_26 : decode cX9_trip 26 = .ok (.ireturn, 1) := by decide +kernel
theorem dX9_trip_27 : decode cX9_trip 27 = .ok (.aload_n 0, 1) := by decide +kernel
theorem dX9_trip_28 : decode cX9_trip 28 = .ok (.aload_n 0, 1) := by decide +kernel
theorem dX9_trip_29 : decode cX9_trip 29 = .ok (.invokevirtual 75, 3) := by decide +kernel
theorem dX9_trip_32 : decode cX9_trip 32 = .ok (.aload_n 0, 1) := by decide +kernel
theorem dX9_trip_33 : decode cX9_trip 33 = .ok (.iconst 0, 1) := by decide +kernel
theorem dX9_trip_34 : decode cX9_trip 34 = .ok (.aload_n 0, 1) := by decide +kernel
theorem dX9_trip_35 : decode cX9_trip 35 = .ok (.invokevirtual 75, 3) := by decide +kernel
theorem dX9_trip_38 : decode cX9_trip 38 = .ok (.iconst 1, 1) := by decide +kernel
theorem dX9_trip_39 : decode cX9_trip 39 = .ok (.isub, 1) := by decide +kernel
theorem dX9_trip_40 : decode cX9_trip 40 = .ok (.invokevirtual 88, 3) := by decide +kernel
theorem dX9_trip_43 : decode cX9_trip 43 = .ok (.invokevirtual 95, 3) := by decide +kernel
theorem dX9_trip_46 : decode cX9_trip 46 = .ok (.istore_n 1, 1) := by decide +kernel
theorem dX9_trip_47 : decode cX9_trip 47 = .ok (.aload_n 0, 1) := by decide +kernel
theorem dX9_trip_48 : decode cX9_trip 48 = .ok (.aload_n 0, 1) := by decide +kernel
theorem dX9_trip_49 : decode cX9_trip 49 = .ok (.invokevirtual 98, 3) := by decide +kernel
theorem dX9_trip_52 : decode cX9_trip 52 = .ok (.aload_n 0, 1) := by decide +kernel
theorem dX9_trip_53 : decode cX9_trip 53 = .ok (.aload_n 0, 1) := by decide +kernel
theorem dX9_trip_54 : decode cX9_trip 54 = .ok (.invokevirtual 71, 3) := by decide +kernel
theorem dX9_trip_57 : decode cX9_trip 57 = .ok (.iconst 1, 1) := by decide +kernel
theorem dX9_trip_58 : decode cX9_trip 58 = .ok (.iadd, 1) := by decide +kernel
theorem dX9_trip_59 : decode cX9_trip 59 = .ok (.aload_n 0, 1) := by decide +kernel
theorem dX9_trip_60 : decode cX9_trip 60 = .ok (.getfield 30, 3) := by decide +kernel
theorem dX9_trip_63 : decode cX9_trip 63 = .ok (.invokevirtual 88, 3) := by decide +kernel
theorem dX9_trip_66 : decode cX9_trip 66 = .ok (.invokevirtual 95, 3) := by decide +kernel
theorem dX9_trip_69 : decode cX9_trip 69 = .ok (.istore_n 2, 1) := by decide +kernel
theorem dX9_trip_70 : decode cX9_trip 70 = .ok (.iload_n 1, 1) := by decide +kernel
theorem dX9_trip_71 : decode cX9_trip 71 = .ok (.iload_n 2, 1) := by decide +kernel
theorem dX9_trip_72 : decode cX9_trip 72 = .ok (.invokestatic 101, 3) := by decide +kernel
theorem dX9_trip_75 : decode cX9_trip 75 = .ok (.ireturn, 1) := by decide +kernel
theorem dX9_sideTrip_0 : decode cX9_sideTrip 0 = .ok (.iload_n 1, 1) := by decide +kernel
theorem dX9_sideTrip_1 : decode cX9_sideTrip 1 = .ok (.ifCond .ne 7, 3) := by decide +kernel
theorem dX9_sideTrip_4 : decode cX9_sideTrip 4 = .ok (.iconst 0, 1) := by decide +kernel
theorem dX9_sideTrip_5 : decode cX9_sideTrip 5 = .ok (.goto 22, 3) := by decide +kernel
theorem dX9_sideTrip_8 : decode cX9_sideTrip 8 = .ok (.iconst 2, 1) := by decide +kernel
theorem dX9_sideTrip_9 : decode cX9_sideTrip 9 = .ok (.iload_n 2, 1) := by decide +kernel
theorem dX9_sideTrip_10 : decode cX9_sideTrip 10 = .ok (.imul, 1) := by decide +kernel
theorem dX9_sideTrip_11 : decode cX9_sideTrip 11 = .ok (.iload_n 1, 1) := by decide +kernel
theorem dX9_sideTrip_12 : decode cX9_sideTrip 12 = .ok (.aload_n 0, 1) := by decide +kernel
theorem dX9_sideTrip_13 : decode cX9_sideTrip 13 = .ok (.getfield 36, 3) := by decide +kernel
theorem dX9_sideTrip_16 : decode cX9_sideTrip 16 = .ok (.imul, 1) := by decide +kernel
theorem dX9_sideTrip_17 : decode cX9_sideTrip 17 = .ok (.iadd, 1) := by decide +kernel
theorem dX9_sideTrip_18 : decode cX9_sideTrip 18 = .ok (.iload_n 1, 1) := by decide +kernel
theorem dX9_sideTrip_19 : decode cX9_sideTrip 19 = .ok (.iconst 1, 1) := by decide +kernel
theorem dX9_sideTrip_20 : decode cX9_sideTrip 20 = .ok (.isub, 1) := by decide +kernel
theorem dX9_sideTrip_21 : decode cX9_sideTrip 21 = .ok (.aload_n 0, 1) := by decide +kernel
theorem dX9_sideTrip_22 : decode cX9_sideTrip 22 = .ok (.getfield 40, 3) := by decide +kernel
theorem dX9_sideTrip_25 : decode cX9_sideTrip 25 = .ok (.imul, 1) := by decide +kernel
theorem dX9_sideTrip_26 : decode cX9_sideTrip 26 = .ok (.iadd, 1) := by decide +kernel
theorem dX9_sideTrip_27 : decode cX9_sideTrip 27 = .ok (.ireturn, 1) := by decide +kernel
theorem dX9_isTaken_0 : decode cX9_isTaken 0 = .ok (.iconst 0, 1) := by decide +kernel
theorem dX9_isTaken_1 : decode cX9_isTaken 1 = .ok (.istore 5, 2) := by decide +kernel
theorem dX9_isTaken_3 : decode cX9_isTaken 3 = .ok (.iload 5, 2) := by decide +kernel
theorem dX9_isTaken_5 : decode cX9_isTaken 5 = .ok (.aload_n 0, 1) := by decide +kernel
theorem dX9_isTaken_6 : decode cX9_isTaken 6 = .ok (.getfield 30, 3) := by decide +kernel
theorem dX9_isTaken_9 : decode cX9_isTaken 9 = .ok (.if_icmp .ge 37, 3) := by decide +kernel
theorem dX9_isTaken_12 : decode cX9_isTaken 12 = .ok (.iload 5, 2) := by decide +kernel
theorem dX9_isTaken_14 : decode cX9_isTaken 14 = .ok (.iload_n 1, 1) := by decide +kernel
theorem dX9_isTaken_15 : decode cX9_isTaken 15 = .ok (.if_icmp .eq 25, 3) := by decide +kernel
theorem dX9_isTaken_18 : decode cX9_isTaken 18 = .ok (.aload_n 0, 1) := by decide +kernel
theorem dX9_isTaken_19 : decode cX9_isTaken 19 = .ok (.getfield 11, 3) := by decide +kernel
theorem dX9_isTaken_22 : decode cX9_isTaken 22 = .ok (.iload 5, 2) := by decide +kernel
theorem dX9_isTaken_24 : decode cX9_isTaken 24 = .ok (.aaload, 1) := by decide +kernel
theorem dX9_isTaken_25 : decode cX9_isTaken 25 = .ok (.iload_n 2, 1) := by decide +kernel
theorem dX9_isTaken_26 : decode cX9_isTaken 26 = .ok (.invokevirtual 106, 3) := by decide +kernel
theorem dX9_isTaken_29 : decode cX9_isTaken 29 = .ok (.iload_n 3, 1) := by decide +kernel
theorem dX9_isTaken_30 : decode cX9_isTaken 30 = .ok (.iload 4, 2) := by decide +kernel
theorem dX9_isTaken_32 : decode cX9_isTaken 32 = .ok (.invokevirtual 110, 3) := by decide +kernel
theorem dX9_isTaken_35 : decode cX9_isTaken 35 = .ok (.ifCond .eq 5, 3) := by decide +kernel
theorem dX9_isTaken_38 : decode cX9_isTaken 38 = .ok (.iconst 1, 1) := by decide +kernel
theorem dX9_isTaken_39 : decode cX9_isTaken 39 = .ok (.ireturn, 1) := by decide +kernel
theorem dX9_isTaken_40 : decode cX9_isTaken 40 = .ok (.iinc 5 1, 3) := by decide +kernel
theorem dX9_isTaken_43 : decode cX9_isTaken 43 = .ok (.goto (-40), 3) := by decide +kernel
theorem dX9_isTaken_46 : decode cX9_isTaken 46 = .ok (.iconst 0, 1) := by decide +kernel
theorem dX9_isTaken_47 : decode cX9_isTaken 47 = .ok (.ireturn, 1) := by decide +kernel
theorem dX10_init_0 : decode cX10_init 0 = .ok (.aload_n 0, 1) := by decide +kernel
theorem dX10_init_1 : decode cX10_init 1 = .ok (.invokespecial 3, 3) := by decide +kernel
theorem dX10_init_4 : decode cX10_init 4 = .ok (.aload_n 0, 1) := by decide +kernel
theorem dX10_init_5 : decode cX10_init 5 = .ok (.sipush 200, 3) := by decide +kernel
theorem dX10_init_8 : decode cX10_init 8 = .ok (.newarray .char, 2) := by decide +kernel
theorem dX10_init_10 : decode cX10_init 10 = .ok (.putfield 9, 3) := by decide +kernel
theorem dX10_init_13 : decode cX10_init 13 = .ok (.aload_n 0, 1) := by decide +kernel
theorem dX10_init_14 : decode cX10_init 14 = .ok (.bipush 8, 2) := by decide +kernel
theorem dX10_init_16 : decode cX10_init 16 = .ok (.newarray .int, 2) := by decide +kernel
theorem dX10_init_18 : decode cX10_init 18 = .ok (.putfield 15, 3) := by decide +kernel
theorem dX10_init_21 : decode cX10_init 21 = .ok (.aload_n 0, 1) := by decide +kernel
theorem dX10_init_22 : decode cX10_init 22 = .ok (.bipush 8, 2) := by decide +kernel
theorem dX10_init_24 : decode cX10_init 24 = .ok (.newarray .int, 2) := by decide +kernel
theorem dX10_init_26 : decode cX10_init 26 = .ok (.putfield 19, 3) := by decide +kernel
theorem dX10_init_29 : decode cX10_init 29 = .ok (.aload_n 0, 1) := by decide +kernel
theorem dX10_init_30 : decode cX10_init 30 = .ok (.bipush 8, 2) := by decide +kernel
theorem dX10_init_32 : decode cX10_init 32 = .ok (.newarray .int, 2) := by decide +kernel
theorem dX10_init_34 : decode cX10_init 34 = .ok (.putfield 22, 3) := by decide +kernel
theorem dX10_init_37 : decode cX10_init 37 = .ok (.aload_n 0, 1) := by decide +kernel
theorem dX10_init_38 : decode cX10_init 38 = .ok (.bipush 8, 2) := by decide +kernel
theorem dX10_init_40 : decode cX10_init 40 = .ok (.newarray .int, 2) := by decide +kernel
theorem dX10_init_42 : decode cX10_init 42 = .ok (.putfield 25, 3) := by decide +kernel
theorem dX10_init_45 : decode cX10_init 45 = .ok (.return_, 1) := by decide +kernel
theorem dX10_append_0 : decode cX10_append 0 = .ok (.aload_n 0, 1) := by decide +kernel
theorem dX10_append_1 : decode cX10_append 1 = .ok (.getfield 28, 3) := by decide +kernel
theorem dX10_append_4 : decode cX10_append 4 = .ok (.sipush 200, 3) := by decide +kernel
theorem dX10_append_7 : decode cX10_append 7 = .ok (.if_icmp .lt 5, 3) := by decide +kernel
theorem dX10_append_10 : decode cX10_append 10 = .ok (.iconst 0, 1) := by decide +kernel
theorem dX10_append_11 : decode cX10_append 11 = .ok (.ireturn, 1) := by decide +kernel
theorem dX10_append_12 : decode cX10_append 12 = .ok (.aload_n 0, 1) := by decide +kernel
theorem dX10_append_13 : decode cX10_append 13 = .ok (.getfield 9, 3) := by decide +kernel
theorem dX10_append_16 : decode cX10_append 16 = .ok (.aload_n 0, 1) := by decide +kernel
theorem dX10_append_17 : decode cX10_append 17 = .ok (.getfield 28, 3) := by decide +kernel
theorem dX10_append_20 : decode cX10_append 20 = .ok (.iload_n 1, 1) := by decide +kernel
theorem dX10_append_21 : decode cX10_append 21 = .ok (.castore, 1) := by decide +kernel
theorem dX10_append_22 : decode cX10_append 22 = .ok (.aload_n 0, 1) := by decide +kernel
theorem dX10_append_23 : decode cX10_append 23 = .ok (.dup, 1) := by decide +kernel
theorem dX10_append_24 : decode cX10_append 24 = .ok (.getfield 28, 3) := by decide +kernel
theorem dX10_append_27 : decode cX10_append 27 = .ok (.iconst 1, 1) := by decide +kernel
theorem dX10_append_28 : decode cX10_append 28 = .ok (.iadd, 1) := by decide +kernel
theorem dX10_append_29 : decode cX10_append 29 = .ok (.putfield 28, 3) := by decide +kernel
theorem dX10_append_32 : decode cX10_append 32 = .ok (.iconst 1, 1) := by decide +kernel
theorem dX10_append_33 : decode cX10_append 33 = .ok (.ireturn, 1) := by decide +kernel
theorem dX10_empty_0 : decode cX10_empty 0 = .ok (.aload_n 0, 1) := by decide +kernel
theorem dX10_empty_1 : decode cX10_empty 1 = .ok (.iconst 0, 1) := by decide +kernel
theorem dX10_empty_2 : decode cX10_empty 2 = .ok (.putfield 28, 3) := by decide +kernel
theorem dX10_empty_5 : decode cX10_empty 5 = .ok (.return_, 1) := by decide +kernel
theorem dX10_length_0 : decode cX10_length 0 = .ok (.aload_n 0, 1) := by decide +kernel
theorem dX10_length_1 : decode cX10_length 1 = .ok (.getfield 28, 3) := by decide +kernel
theorem dX10_length_4 : decode cX10_length 4 = .ok (.ireturn, 1) := by decide +kernel
theorem dX10_devices_0 : decode cX10_devices 0 = .ok (.aload_n 0, 1) := by decide +kernel
theorem dX10_devices_1 : decode cX10_devices 1 = .ok (.getfield 32, 3) := by decide +kernel
theorem dX10_devices_4 : decode cX10_devices 4 = .ok (.ireturn, 1) := by decide +kernel
theorem dX10_readRing_0 : decode cX10_readRing 0 = .ok (.aload_n 0, 1) := by decide +kernel
theorem dX10_readRing_1 : decode cX10_readRing 1 = .ok (.iconst 0, 1) := by decide +kernel
theorem dX10_readRing_2 : decode cX10_readRing 2 = .ok (.putfield 32, 3) := by decide +kernel
theorem dX10_readRing_5 : decode cX10_readRing 5 = .ok (.aload_n 0, 1) := by decide +kernel
theorem dX10_readRing_6 : decode cX10_readRing 6 = .ok (.iconst 1, 1) := by decide +kernel
theorem dX10_readRing_7 : decode cX10_readRing 7 = .ok (.putfield 35, 3) := by decide +kernel
theorem dX10_readRing_10 : decode cX10_readRing 10 = .ok (.aload_n 0, 1) := by decide +kernel
theorem dX10_readRing_11 : decode cX10_readRing 11 = .ok (.iconst 2, 1) := by decide +kernel
theorem dX10_readRing_12 : decode cX10_readRing 12 = .ok (.putfield 38, 3) := by decide +kernel
theorem dX10_readRing_15 : decode cX10_readRing 15 = .ok (.aload_n 0, 1) := by decide +kernel
theorem dX10_readRing_16 : decode cX10_readRing 16 = .ok (.iconst 1, 1) := by decide +kernel
theorem dX10_readRing_17 : decode cX10_readRing 17 = .ok (.putfield 41, 3) := by decide +kernel
theorem dX10_readRing_20 : decode cX10_readRing 20 = .ok (.iconst 0, 1) := by decide +kernel
theorem dX10_readRing_21 : decode cX10_readRing 21 = .ok (.istore_n 1, 1) := by decide +kernel
theorem dX10_readRing_22 : decode cX10_readRing 22 = .ok (.iconst 0, 1) := by decide +kernel
theorem dX10_readRing_23 : decode cX10_readRing 23 = .ok (.istore_n 2, 1) := by decide +kernel
theorem dX10_readRing_24 : decode cX10_readRing 24 = .ok (.iload_n 2, 1) := by decide +kernel
theorem dX10_readRing_25 : decode cX10_readRing 25 = .ok (.sipush 200, 3) := by decide +kernel
theorem dX10_readRing_28 : decode cX10_readRing 28 = .ok (.if_icmp .ge 47, 3) := by decide +kernel
theorem dX10_readRing_31 : decode cX10_readRing 31 = .ok (.iload_n 1, 1) := by decide +kernel
theorem dX10_readRing_32 : decode cX10_readRing 32 = .ok (.aload_n 0, 1) := by decide +kernel
theorem dX10_readRing_33 : decode cX10_readRing 33 = .ok (.getfield 28, 3) := by decide +kernel
theorem dX10_readRing_36 : decode cX10_readRing 36 = .ok (.if_icmp .ge 39, 3) := by decide +kernel
theorem dX10_readRing_39 : decode cX10_readRing 39 = .ok (.aload_n 0, 1) := by decide +kernel
theorem dX10_readRing_40 : decode cX10_readRing 40 = .ok (.iload_n 1, 1) := by decide +kernel
theorem dX10_readRing_41 : decode cX10_readRing 41 = .ok (.invokevirtual 44, 3) := by decide +kernel
theorem dX10_readRing_44 : decode cX10_readRing 44 = .ok (.ifCond .eq 9, 3) := by decide +kernel
theorem dX10_readRing_47 : decode cX10_readRing 47 = .ok (.iinc 1 9, 3) := by decide +kernel
theorem dX10_readRing_50 : decode cX10_readRing 50 = .ok (.goto 19, 3) := by decide +kernel
theorem dX10_readRing_53 : decode cX10_readRing 53 = .ok (.aload_n 0, 1) := by decide +kernel
theorem dX10_readRing_54 : decode cX10_readRing 54 = .ok (.iload_n 1, 1) := by decide +kernel
theorem dX10_readRing_55 : decode cX10_readRing 55 = .ok (.invokevirtual 48, 3) := by decide +kernel
theorem dX10_readRing_58 : decode cX10_readRing 58 = .ok (.ifCond .eq 9, 3) := by decide +kernel
theorem dX10_readRing_61 : decode cX10_readRing 61 = .ok (.iinc 1 5, 3) := by decide +kernel
theorem dX10_readRing_64 : decode cX10_readRing 64 = .ok (.goto 5, 3) := by decide +kernel
theorem dX10_readRing_67 : decode cX10_readRing 67 = .ok (.iload_n 1, 1) := by decide +kernel
theorem dX10_readRing_68 : decode cX10_readRing 68 = .ok (.ireturn, 1) := by decide +kernel
theorem dX10_readRing_69 : decode cX10_readRing 69 = .ok (.iinc 2 1, 3) := by decide +kernel
theorem dX10_readRing_72 : decode cX10_readRing 72 = .ok (.goto (-48), 3) := by decide +kernel
theorem dX10_readRing_75 : decode cX10_readRing 75 = .ok (.bipush (-4), 2) := by decide +kernel
theorem dX10_readRing_77 : decode cX10_readRing 77 = .ok (.ireturn, 1) := by decide +kernel
theorem dX10_readDevice_0 : decode cX10_readDevice 0 = .ok (.aload_n 0, 1) := by decide +kernel
theorem dX10_readDevice_1 : decode cX10_readDevice 1 = .ok (.iload_n 1, 1) := by decide +kernel
theorem dX10_readDevice_2 : decode cX10_readDevice 2 = .ok (.iconst 1, 1) := by decide +kernel
theorem dX10_readDevice_3 : decode cX10_readDevice 3 = .ok (.iadd, 1) := by decide +kernel
theorem dX10_readDevice_4 : decode cX10_readDevice 4 = .ok (.iconst 2, 1) := by decide +kernel
theorem dX10_readDevice_5 : decode cX10_readDevice 5 = .ok (.invokevirtual 51, 3) := by decide +kernel
theorem dX10_readDevice_8 : decode cX10_readDevice 8 = .ok (.istore_n 2, 1) := by decide +kernel
theorem dX10_readDevice_9 : decode cX10_readDevice 9 = .ok (.aload_n 0, 1) := by decide +kernel
theorem dX10_readDevice_10 : decode cX10_readDevice 10 = .ok (.iload_n 1, 1) := by decide +kernel
theorem dX10_readDevice_11 : decode cX10_readDevice 11 = .ok (.iconst 3, 1) := by decide +kernel
theorem dX10_readDevice_12 : decode cX10_readDevice 12 = .ok (.iadd, 1) := by decide +kernel
theorem dX10_readDevice_13 : decode cX10_readDevice 13 = .ok (.iconst 1, 1) := by decide +kernel
theorem dX10_readDevice_14 : decode cX10_readDevice 14 = .ok (.invokevirtual 51, 3) := by decide +kernel
theorem dX10_readDevice_17 : decode cX10_readDevice 17 = .ok (.istore_n 3, 1) := by decide +kernel
theorem dX10_readDevice_18 : decode cX10_readDevice 18 = .ok (.aload_n 0, 1) := by decide +kernel
theorem dX10_readDevice_19 : decode cX10_readDevice 19 = .ok (.iload_n 1, 1) := by decide +kernel
theorem dX10_readDevice_20 : decode cX10_readDevice 20 = .ok (.iconst 4, 1) := by decide +kernel
theorem dX10_readDevice_21 : decode cX10_readDevice 21 = .ok (.iadd, 1) := by decide +kernel
theorem dX10_readDevice_22 : decode cX10_readDevice 22 = .ok (.iconst 3, 1) := by decide +kernel
theorem dX10_readDevice_23 : decode cX10_readDevice 23 = .ok (.invokevirtual 51, 3) := by decide +kernel
theorem dX10_readDevice_26 : decode cX10_readDevice 26 = .ok (.istore 4, 2) := by decide +kernel
theorem dX10_readDevice_28 : decode cX10_readDevice 28 = .ok (.aload_n 0, 1) := by decide +kernel
theorem dX10_readDevice_29 : decode cX10_readDevice 29 = .ok (.iload_n 1, 1) := by decide +kernel
theorem dX10_readDevice_30 : decode cX10_readDevice 30 = .ok (.bipush 7, 2) := by decide +kernel
theorem dX10_readDevice_32 : decode cX10_readDevice 32 = .ok (.iadd, 1) := by decide +kernel
theorem dX10_readDevice_33 : decode cX10_readDevice 33 = .ok (.iconst 1, 1) := by decide +kernel
theorem dX10_readDevice_34 : decode cX10_readDevice 34 = .ok (.invokevirtual 51, 3) := by decide +kernel
theorem dX10_readDevice_37 : decode cX10_readDevice 37 = .ok (.istore 5, 2) := by decide +kernel
theorem dX10_readDevice_39 : decode cX10_readDevice 39 = .ok (.aload_n 0, 1) := by decide +kernel
theorem dX10_readDevice_40 : decode cX10_readDevice 40 = .ok (.iload_n 1, 1) := by decide +kernel
theorem dX10_readDevice_41 : decode cX10_readDevice 41 = .ok (.bipush 100, 2) := by decide +kernel
theorem dX10_readDevice_43 : decode cX10_readDevice 43 = .ok (.invokevirtual 55, 3) := by decide +kernel
theorem dX10_readDevice_46 : decode cX10_readDevice 46 = .ok (.ifCond .eq 31, 3) := by decide +kernel
theorem dX10_readDevice_49 : decode cX10_readDevice 49 = .ok (.aload_n 0, 1) := by decide +kernel
theorem dX10_readDevice_50 : decode cX10_readDevice 50 = .ok (.iload_n 1, 1) := by decide +kernel
theorem dX10_readDevice_51 : decode cX10_readDevice 51 = .ok (.bipush 8, 2) := by decide +kernel
theorem dX10_readDevice_53 : decode cX10_readDevice 53 = .ok (.iadd, 1) := by decide +kernel
theorem dX10_readDevice_54 : decode cX10_readDevice 54 = .ok (.bipush 59, 2) := by decide +kernel
theorem dX10_readDevice_56 : decode cX10_readDevice 56 = .ok (.invokevirtual 55, 3) := by decide +kernel
theorem dX10_readDevice_59 : decode cX10_readDevice 59 = .ok (.ifCond .eq 18, 3) := by decide +kernel
theorem dX10_readDevice_62 : decode cX10_readDevice 62 = .ok (.iload_n 2, 1) := by decide +kernel
theorem dX10_readDevice_63 : decode cX10_readDevice 63 = .ok (.iconst 1, 1) := by decide +kernel
theorem dX10_readDevice_64 : decode cX10_readDevice 64 = .ok (.if_icmp .lt 13, 3) := by decide +kernel
theorem dX10_readDevice_67 : decode cX10_readDevice 67 = .ok (.iload_n 3, 1) := by decide +kernel
theorem dX10_readDevice_68 : decode cX10_readDevice 68 = .ok (.iconst 1, 1) := by decide +kernel
theorem dX10_readDevice_69 : decode cX10_readDevice 69 = .ok (.if_icmp .lt 8, 3) := by decide +kernel
theorem dX10_readDevice_72 : decode cX10_readDevice 72 = .ok (.iload 4, 2) := by decide +kernel
theorem dX10_readDevice_74 : decode cX10_readDevice 74 = .ok (.ifCond .ge 5, 3) := by decide +kernel
theorem dX10_readDevice_77 : decode cX10_readDevice 77 = .ok (.iconst 0, 1) := by decide +kernel
theorem dX10_readDevice_78 : decode cX10_readDevice 78 = .ok (.ireturn, 1) := by decide +kernel
theorem dX10_readDevice_79 : decode cX10_readDevice 79 = .ok (.iload 5, 2) := by decide +kernel
theorem dX10_readDevice_81 : decode cX10_readDevice 81 = .ok (.iconst 0, 1) := by decide +kernel
theorem dX10_readDevice_82 : decode cX10_readDevice 82 = .ok (.bipush 8, 2) := by decide +kernel
theorem dX10_readDevice_84 : decode cX10_readDevice 84 = .ok (.invokestatic 59, 3) := by decide +kernel
theorem dX10_readDevice_87 : decode cX10_readDevice 87 = .ok (.ifCond .eq 20, 3) := by decide +kernel
theorem dX10_readDevice_90 : decode cX10_readDevice 90 = .ok (.aload_n 0, 1) := by decide +kernel
theorem dX10_readDevice_91 : decode cX10_readDevice 91 = .ok (.getfield 32, 3) := by decide +kernel
theorem dX10_readDevice_94 : decode cX10_readDevice 94 = .ok (.bipush 8, 2) := by decide +kernel
theorem dX10_readDevice_96 : decode cX10_readDevice 96 = .ok (.if_icmp .ge 11, 3) := by decide +kernel
theorem dX10_readDevice_99 : decode cX10_readDevice 99 = .ok (.aload_n 0, 1) := by decide +kernel
theorem dX10_readDevice_100 : decode cX10_readDevice 100 = .ok (.iload_n 2, 1) := by decide +kernel
theorem dX10_readDevice_101 : decode cX10_readDevice 101 = .ok (.invokevirtual 63, 3) := by decide +kernel
theorem dX10_readDevice_104 : decode cX10_readDevice 104 = .ok (.ifCond .eq 5, 3) := by decide +kernel
theorem dX10_readDevice_107 : decode cX10_readDevice 107 = .ok (.iconst 0, 1) := by decide +kernel
theorem dX10_readDevice_108 : decode cX10_readDevice 108 = .ok (.ireturn, 1) := by decide +kernel
theorem dX10_readDevice_109 : decode cX10_readDevice 109 = .ok (.aload_n 0, 1) := by decide +kernel
theorem dX10_readDevice_110 : decode cX10_readDevice 110 = .ok (.getfield 15, 3) := by decide +kernel
theorem dX10_readDevice_113 : decode cX10_readDevice 113 = .ok (.aload_n 0, 1) := by decide +kernel
theorem dX10_readDevice_114 : decode cX10_readDevice 114 = .ok (.getfield 32, 3) := by decide +kernel
theorem dX10_readDevice_117 : decode cX10_readDevice 117 = .ok (.iload_n 2, 1) := by decide +kernel
theorem dX10_readDevice_118 : decode cX10_readDevice 118 = .ok (.iastore, 1) := by decide +kernel
theorem dX10_readDevice_119 : decode cX10_readDevice 119 = .ok (.aload_n 0, 1) := by decide +kernel
theorem dX10_readDevice_120 : decode cX10_readDevice 120 = .ok (.getfield 19, 3) := by decide +kernel
theorem dX10_readDevice_123 : decode cX10_readDevice 123 = .ok (.aload_n 0, 1) := by decide +kernel
theorem dX10_readDevice_124 : decode cX10_readDevice 124 = .ok (.getfield 32, 3) := by decide +kernel
theorem dX10_readDevice_127 : decode cX10_readDevice 127 = .ok (.iload_n 3, 1) := by decide +kernel
theorem dX10_readDevice_128 : decode cX10_readDevice 128 = .ok (.iastore, 1) := by decide +kernel
theorem dX10_readDevice_129 : decode cX10_readDevice 129 = .ok (.aload_n 0, 1) := by decide +kernel
theorem dX10_readDevice_130 : decode cX10_readDevice 130 = .ok (.getfield 22, 3) := by decide +kernel
theorem dX10_readDevice_133 : decode cX10_readDevice 133 = .ok (.aload_n 0, 1) := by decide +kernel
theorem dX10_readDevice_134 : decode cX10_readDevice 134 = .ok (.getfield 32, 3) := by decide +kernel
theorem dX10_readDevice_137 : decode cX10_readDevice 137 = .ok (.iload 4, 2) := by decide +kernel
theorem dX10_readDevice_139 : decode cX10_readDevice 139 = .ok (.iastore, 1) := by decide +kernel
theorem dX10_readDevice_140 : decode cX10_readDevice 140 = .ok (.aload_n 0, 1) := by decide +kernel
theorem dX10_readDevice_141 : decode cX10_readDevice 141 = .ok (.getfield 25, 3) := by decide +kernel
theorem dX10_readDevice_144 : decode cX10_readDevice 144 = .ok (.aload_n 0, 1) := by decide +kernel
theorem dX10_readDevice_145 : decode cX10_readDevice 145 = .ok (.getfield 32, 3) := by decide +kernel
theorem dX10_readDevice_148 : decode cX10_readDevice 148 = .ok (.iload 5, 2) := by decide +kernel
theorem dX10_readDevice_150 : decode cX10_readDevice 150 = .ok (.iastore, 1) := by decide +kernel
theorem dX10_readDevice_151 : decode cX10_readDevice 151 = .ok (.aload_n 0, 1) := by decide +kernel
theorem dX10_readDevice_152 : decode cX10_readDevice 152 = .ok (.dup, 1) := by decide +kernel
theorem dX10_readDevice_153 : decode cX10_readDevice 153 = .ok (.getfield 32, 3) := by decide +kernel
theorem dX10_readDevice_156 : decode cX10_readDevice 156 = .ok (.iconst 1, 1) := by decide +kernel
theorem dX10_readDevice_157 : decode cX10_readDevice 157 = .ok (.iadd, 1) := by decide +kernel
theorem dX10_readDevice_158 : decode cX10_readDevice 158 = .ok (.putfield 32, 3) := by decide +kernel
theorem dX10_readDevice_161 : decode cX10_readDevice 161 = .ok (.iconst 1, 1) := by decide +kernel
theorem dX10_readDevice_162 : decode cX10_readDevice 162 = .ok (.ireturn, 1) := by decide +kernel
theorem dX10_hasNumber_0 : decode cX10_hasNumber 0 = .ok (.iconst 0, 1) := by decide +kernel
theorem dX10_hasNumber_1 : decode cX10_hasNumber 1 = .ok (.istore_n 2, 1) := by decide +kernel
theorem dX10_hasNumber_2 : decode cX10_hasNumber 2 = .ok (.iload_n 2, 1) := by decide +kernel
theorem dX10_hasNumber_3 : decode cX10_hasNumber 3 = .ok (.aload_n 0, 1) := by decide +kernel
theorem dX10_hasNumber_4 : decode cX10_hasNumber 4 = .ok (.getfield 32, 3) := by decide +kernel
theorem dX10_hasNumber_7 : decode cX10_hasNumber 7 = .ok (.if_icmp .ge 21, 3) := by decide +kernel
theorem dX10_hasNumber_10 : decode cX10_hasNumber 10 = .ok (.aload_n 0, 1) := by decide +kernel
theorem dX10_hasNumber_11 : decode cX10_hasNumber 11 = .ok (.getfield 15, 3) := by decide +kernel
theorem dX10_hasNumber_14 : decode cX10_hasNumber 14 = .ok (.iload_n 2, 1) := by decide +kernel
theorem dX10_hasNumber_15 : decode cX10_hasNumber 15 = .ok (.iaload, 1) := by decide +kernel
theorem dX10_hasNumber_16 : decode cX10_hasNumber 16 = .ok (.iload_n 1, 1) := by decide +kernel
theorem dX10_hasNumber_17 : decode cX10_hasNumber 17 = .ok (.if_icmp .ne 5, 3) := by decide +kernel
theorem dX10_hasNumber_20 : decode cX10_hasNumber 20 = .ok (.iconst 1, 1) := by decide +kernel
theorem dX10_hasNumber_21 : decode cX10_hasNumber 21 = .ok (.ireturn, 1) := by decide +kernel
theorem dX10_hasNumber_22 : decode cX10_hasNumber 22 = .ok (.iinc 2 1, 3) := by decide +kernel
theorem dX10_hasNumber_25 : decode cX10_hasNumber 25 = .ok (.goto (-23), 3) := by decide +kernel
theorem dX10_hasNumber_28 : decode cX10_hasNumber 28 = .ok (.iconst 0, 1) := by decide +kernel
theorem dX10_hasNumber_29 : decode cX10_hasNumber 29 = .ok (.ireturn, 1) := by decide +kernel
theorem dX10_readEnd_0 : decode cX10_readEnd 0 = .ok (.aload_n 0, 1) := by decide +kernel
theorem dX10_readEnd_1 : decode cX10_readEnd 1 = .ok (.iload_n 1, 1) := by decide +kernel
theorem dX10_readEnd_2 : decode cX10_readEnd 2 = .ok (.iconst 1, 1) := by decide +kernel
theorem dX10_readEnd_3 : decode cX10_readEnd 3 = .ok (.iadd, 1) := by decide +kernel
theorem dX10_readEnd_4 : decode cX10_readEnd 4 = .ok (.iconst 1, 1) := by decide +kernel
theorem dX10_readEnd_5 : decode cX10_readEnd 5 = .ok (.invokevirtual 51, 3) := by decide +kernel
theorem dX10_readEnd_8 : decode cX10_readEnd 8 = .ok (.istore_n 2, 1) := by decide +kernel
theorem dX10_readEnd_9 : decode cX10_readEnd 9 = .ok (.aload_n 0, 1) := by decide +kernel
theorem dX10_readEnd_10 : decode cX10_readEnd 10 = .ok (.iload_n 1, 1) := by decide +kernel
theorem dX10_readEnd_11 : decode cX10_readEnd 11 = .ok (.iconst 2, 1) := by decide +kernel
theorem dX10_readEnd_12 : decode cX10_readEnd 12 = .ok (.iadd, 1) := by decide +kernel
theorem dX10_readEnd_13 : decode cX10_readEnd 13 = .ok (.iconst 1, 1) := by decide +kernel
theorem dX10_readEnd_14 : decode cX10_readEnd 14 = .ok (.invokevirtual 51, 3) := by decide +kernel
theorem dX10_readEnd_17 : decode cX10_readEnd 17 = .ok (.istore_n 3, 1) := by decide +kernel
theorem dX10_readEnd_18 : decode cX10_readEnd 18 = .ok (.aload_n 0, 1) := by decide +kernel
theorem dX10_readEnd_19 : decode cX10_readEnd 19 = .ok (.iload_n 1, 1) := by decide +kernel
theorem dX10_readEnd_20 : decode cX10_readEnd 20 = .ok (.iconst 3, 1) := by decide +kernel
theorem dX10_readEnd_21 : decode cX10_readEnd 21 = .ok (.iadd, 1) := by decide +kernel
theorem dX10_readEnd_22 : decode cX10_readEnd 22 = .ok (.iconst 1, 1) := by decide +kernel
theorem dX10_readEnd_23 : decode cX10_readEnd 23 = .ok (.invokevirtual 51, 3) := by decide +kernel
theorem dX10_readEnd_26 : decode cX10_readEnd 26 = .ok (.istore 4, 2) := by decide +kernel
theorem dX10_readEnd_28 : decode cX10_readEnd 28 = .ok (.aload_n 0, 1) := by decide +kernel
theorem dX10_readEnd_29 : decode cX10_readEnd 29 = .ok (.iload_n 1, 1) := by decide +kernel
theorem dX10_readEnd_30 : decode cX10_readEnd 30 = .ok (.bipush 101, 2) := by decide +kernel
theorem dX10_readEnd_32 : decode cX10_readEnd 32 = .ok (.invokevirtual 55, 3) := by decide +kernel
theorem dX10_readEnd_35 : decode cX10_readEnd 35 = .ok (.ifCond .eq 29, 3) := by decide +kernel
theorem dX10_readEnd_38 : decode cX10_readEnd 38 = .ok (.aload_n 0, 1) := by decide +kernel
theorem dX10_readEnd_39 : decode cX10_readEnd 39 = .ok (.iload_n 1, 1) := by decide +kernel
theorem dX10_readEnd_40 : decode cX10_readEnd 40 = .ok (.iconst 4, 1) := by decide +kernel
theorem dX10_readEnd_41 : decode cX10_readEnd 41 = .ok (.iadd, 1) := by decide +kernel
theorem dX10_readEnd_42 : decode cX10_readEnd 42 = .ok (.bipush 59, 2) := by decide +kernel
theorem dX10_readEnd_44 : decode cX10_readEnd 44 = .ok (.invokevirtual 55, 3) := by decide +kernel
theorem dX10_readEnd_47 : decode cX10_readEnd 47 = .ok (.ifCond .eq 17, 3) := by decide +kernel
theorem dX10_readEnd_50 : decode cX10_readEnd 50 = .ok (.iload_n 2, 1) := by decide +kernel
theorem dX10_readEnd_51 : decode cX10_readEnd 51 = .ok (.iconst 1, 1) := by decide +kernel
theorem dX10_readEnd_52 : decode cX10_readEnd 52 = .ok (.if_icmp .lt 12, 3) := by decide +kernel
theorem dX10_readEnd_55 : decode cX10_readEnd 55 = .ok (.iload_n 3, 1) := by decide +kernel
theorem dX10_readEnd_56 : decode cX10_readEnd 56 = .ok (.ifCond .lt 8, 3) := by decide +kernel
theorem dX10_readEnd_59 : decode cX10_readEnd 59 = .ok (.iload 4, 2) := by decide +kernel
theorem dX10_readEnd_61 : decode cX10_readEnd 61 = .ok (.ifCond .ge 5, 3) := by decide +kernel
theorem dX10_readEnd_64 : decode cX10_readEnd 64 = .ok (.iconst 0, 1) := by decide +kernel
theorem dX10_readEnd_65 : decode cX10_readEnd 65 = .ok (.ireturn, 1) := by decide +kernel
theorem dX10_readEnd_66 : decode cX10_readEnd 66 = .ok (.aload_n 0, 1) := by decide +kernel
theorem dX10_readEnd_67 : decode cX10_readEnd 67 = .ok (.iload_n 2, 1) := by decide +kernel
theorem dX10_readEnd_68 : decode cX10_readEnd 68 = .ok (.putfield 35, 3) := by decide +kernel
theorem dX10_readEnd_71 : decode cX10_readEnd 71 = .ok (.aload_n 0, 1) := by decide +kernel
theorem dX10_readEnd_72 : decode cX10_readEnd 72 = .ok (.iload_n 3, 1) := by decide +kernel
theorem dX10_readEnd_73 : decode cX10_readEnd 73 = .ok (.putfield 38, 3) := by decide +kernel
theorem dX10_readEnd_76 : decode cX10_readEnd 76 = .ok (.aload_n 0, 1) := by decide +kernel
theorem dX10_readEnd_77 : decode cX10_readEnd 77 = .ok (.iload 4, 2) := by decide +kernel
theorem dX10_readEnd_79 : decode cX10_readEnd 79 = .ok (.putfield 41, 3) := by decide +kernel
theorem dX10_readEnd_82 : decode cX10_readEnd 82 = .ok (.iconst 1, 1) := by decide +kernel
theorem dX10_readEnd_83 : decode cX10_readEnd 83 = .ok (.ireturn, 1) := by decide +kernel
theorem dX10_has_0 : decode cX10_has 0 = .ok (.iload_n 1, 1) := by decide +kernel
theorem dX10_has_1 : decode cX10_has 1 = .ok (.ifCond .lt 25, 3) := by decide +kernel
theorem dX10_has_4 : decode cX10_has 4 = .ok (.iload_n 1, 1) := by decide +kernel
theorem dX10_has_5 : decode cX10_has 5 = .ok (.aload_n 0, 1) := by decide +kernel
theorem dX10_has_6 : decode cX10_has 6 = .ok (.getfield 28, 3) := by decide +kernel
theorem dX10_has_9 : decode cX10_has 9 = .ok (.if_icmp .ge 17, 3) := by decide +kernel
theorem dX10_has_12 : decode cX10_has 12 = .ok (.aload_n 0, 1) := by decide +kernel
theorem dX10_has_13 : decode cX10_has 13 = .ok (.getfield 9, 3) := by decide +kernel
theorem dX10_has_16 : decode cX10_has 16 = .ok (.iload_n 1, 1) := by decide +kernel
theorem dX10_has_17 : decode cX10_has 17 = .ok (.caload, 1) := by decide +kernel
theorem dX10_has_18 : decode cX10_has 18 = .ok (.iload_n 2, 1) := by decide +kernel
theorem dX10_has_19 : decode cX10_has 19 = .ok (.if_icmp .ne 7, 3) := by decide +kernel
theorem dX10_has_22 : decode cX10_has 22 = .ok (.iconst 1, 1) := by decide +kernel
theorem dX10_has_23 : decode cX10_has 23 = .ok (.goto 4, 3) := by decide +kernel
theorem dX10_has_26 : decode cX10_has 26 = .ok (.iconst 0, 1) := by decide +kernel
theorem dX10_has_27 : decode cX10_has 27 = .ok (.ireturn, 1) := by decide +kernel
theorem dX10_numberAt_0 : decode cX10_numberAt 0 = .ok (.iload_n 1, 1) := by decide +kernel
theorem dX10_numberAt_1 : decode cX10_numberAt 1 = .ok (.ifCond .lt 13, 3) := by decide +kernel
theorem dX10_numberAt_4 : decode cX10_numberAt 4 = .ok (.iload_n 1, 1) := by decide +kernel
theorem dX10_numberAt_5 : decode cX10_numberAt 5 = .ok (.iload_n 2, 1) := by decide +kernel
theorem dX10_numberAt_6 : decode cX10_numberAt 6 = .ok (.iadd, 1) := by decide +kernel
theorem dX10_numberAt_7 : decode cX10_numberAt 7 = .ok (.aload_n 0, 1) := by decide +kernel
theorem dX10_numberAt_8 : decode cX10_numberAt 8 = .ok (.getfield 28, 3) := by decide +kernel
theorem dX10_numberAt_11 : decode cX10_numberAt 11 = .ok (.if_icmp .le 6, 3) := by decide +kernel
theorem dX10_numberAt_14 : decode cX10_numberAt 14 = .ok (.bipush (-4), 2) := by decide +kernel
theorem dX10_numberAt_16 : decode cX10_numberAt 16 = .ok (.ireturn, 1) := by decide +kernel
theorem dX10_numberAt_17 : decode cX10_numberAt 17 = .ok (.iconst 0, 1) := by decide +kernel
theorem dX10_numberAt_18 : decode cX10_numberAt 18 = .ok (.istore_n 3, 1) := by decide +kernel
theorem dX10_numberAt_19 : decode cX10_numberAt 19 = .ok (.iload_n 1, 1) := by decide +kernel
theorem dX10_numberAt_20 : decode cX10_numberAt 20 = .ok (.istore 4, 2) := by decide +kernel
theorem dX10_numberAt_22 : decode cX10_numberAt 22 = .ok (.iload 4, 2) := by decide +kernel
theorem dX10_numberAt_24 : decode cX10_numberAt 24 = .ok (.iload_n 1, 1) := by decide +kernel
theorem dX10_numberAt_25 : decode cX10_numberAt 25 = .ok (.iload_n 2, 1) := by decide +kernel
theorem dX10_numberAt_26 : decode cX10_numberAt 26 = .ok (.iadd, 1) := by decide +kernel
theorem dX10_numberAt_27 : decode cX10_numberAt 27 = .ok (.if_icmp .ge 52, 3) := by decide +kernel
theorem dX10_numberAt_30 : decode cX10_numberAt 30 = .ok (.aload_n 0, 1) := by decide +kernel
theorem dX10_numberAt_31 : decode cX10_numberAt 31 = .ok (.getfield 9, 3) := by decide +kernel
theorem dX10_numberAt_34 : decode cX10_numberAt 34 = .ok (.iload 4, 2) := by decide +kernel
theorem dX10_numberAt_36 : decode cX10_numberAt 36 = .ok (.caload, 1) := by decide +kernel
theorem dX10_numberAt_37 : decode cX10_numberAt 37 = .ok (.bipush 48, 2) := by decide +kernel
theorem dX10_numberAt_39 : decode cX10_numberAt 39 = .ok (.if_icmp .lt 15, 3) := by decide +kernel
theorem dX10_numberAt_42 : decode cX10_numberAt 42 = .ok (.aload_n 0, 1) := by decide +kernel
theorem dX10_numberAt_43 : decode cX10_numberAt 43 = .ok (.getfield 9, 3) := by decide +kernel
theorem dX10_numberAt_46 : decode cX10_numberAt 46 = .ok (.iload 4, 2) := by decide +kernel
theorem dX10_numberAt_48 : decode cX10_numberAt 48 = .ok (.caload, 1) := by decide +kernel
theorem dX10_numberAt_49 : decode cX10_numberAt 49 = .ok (.bipush 57, 2) := by decide +kernel
theorem dX10_numberAt_51 : decode cX10_numberAt 51 = .ok (.if_icmp .le 6, 3) := by decide +kernel
theorem dX10_numberAt_54 : decode cX10_numberAt 54 = .ok (.bipush (-4), 2) := by decide +kernel
theorem dX10_numberAt_56 : decode cX10_numberAt 56 = .ok (.ireturn, 1) := by decide +kernel
theorem dX10_numberAt_57 : decode cX10_numberAt 57 = .ok (.iload_n 3, 1) := by decide +kernel
theorem dX10_numberAt_58 : decode cX10_numberAt 58 = .ok (.bipush 10, 2) := by decide +kernel
theorem dX10_numberAt_60 : decode cX10_numberAt 60 = .ok (.imul, 1) := by decide +kernel
theorem dX10_numberAt_61 : decode cX10_numberAt 61 = .ok (.aload_n 0, 1) := by decide +kernel
theorem dX10_numberAt_62 : decode cX10_numberAt 62 = .ok (.getfield 9, 3) := by decide +kernel
theorem dX10_numberAt_65 : decode cX10_numberAt 65 = .ok (.iload 4, 2) := by decide +kernel
theorem dX10_numberAt_67 : decode cX10_numberAt 67 = .ok (.caload, 1) := by decide +kernel
theorem dX10_numberAt_68 : decode cX10_numberAt 68 = .ok (.bipush 48, 2) := by decide +kernel
theorem dX10_numberAt_70 : decode cX10_numberAt 70 = .ok (.isub, 1) := by decide +kernel
theorem dX10_numberAt_71 : decode cX10_numberAt 71 = .ok (.iadd, 1) := by decide +kernel
theorem dX10_numberAt_72 : decode cX10_numberAt 72 = .ok (.istore_n 3, 1) := by decide +kernel
theorem dX10_numberAt_73 : decode cX10_numberAt 73 = .ok (.iinc 4 1, 3) := by decide +kernel
theorem dX10_numberAt_76 : decode cX10_numberAt 76 = .ok (.goto (-54), 3) := by decide +kernel
theorem dX10_numberAt_79 : decode cX10_numberAt 79 = .ok (.iload_n 3, 1) := by decide +kernel
theorem dX10_numberAt_80 : decode cX10_numberAt 80 = .ok (.ireturn, 1) := by decide +kernel
theorem dX11_init_0 : decode cX11_init 0 = .ok (.aload_n 0, 1) := by decide +kernel
theorem dX11_init_1 : decode cX11_init 1 = .ok (.invokespecial 1, 3) := by decide +kernel
theorem dX11_init_4 : decode cX11_init 4 = .ok (.aload_n 0, 1) := by decide +kernel
theorem dX11_init_5 : decode cX11_init 5 = .ok (.new 7, 3) := by decide +kernel
theorem dX11_init_8 : decode cX11_init 8 = .ok (.dup, 1) := by decide +kernel
theorem dX11_init_9 : decode cX11_init 9 = .ok (.invokespecial 9, 3) := by decide +kernel
theorem dX11_init_12 : decode cX11_init 12 = .ok (.putfield 10, 3) := by decide +kernel
theorem dX11_init_15 : decode cX11_init 15 = .ok (.aload_n 0, 1) := by decide +kernel
theorem dX11_init_16 : decode cX11_init 16 = .ok (.new 16, 3) := by decide +kernel
theorem dX11_init_19 : decode cX11_init 19 = .ok (.dup, 1) := by decide +kernel
theorem dX11_init_20 : decode cX11_init 20 = .ok (.invokespecial 18, 3) := by decide +kernel
theorem dX11_init_23 : decode cX11_init 23 = .ok (.putfield 19, 3) := by decide +kernel
theorem dX11_init_26 : decode cX11_init 26 = .ok (.aload_n 0, 1) := by decide +kernel
theorem dX11_init_27 : decode cX11_init 27 = .ok (.new 23, 3) := by decide +kernel
theorem dX11_init_30 : decode cX11_init 30 = .ok (.dup, 1) := by decide +kernel
theorem dX11_init_31 : decode cX11_init 31 = .ok (.aload_n 0, 1) := by decide +kernel
theorem dX11_init_32 : decode cX11_init 32 = .ok (.getfield 19, 3) := by decide +kernel
theorem dX11_init_35 : decode cX11_init 35 = .ok (.invokespecial 25, 3) := by decide +kernel
theorem dX11_init_38 : decode cX11_init 38 = .ok (.putfield 28, 3) := by decide +kernel
theorem dX11_init_41 : decode cX11_init 41 = .ok (.aload_n 0, 1) := by decide +kernel
theorem dX11_init_42 : decode cX11_init 42 = .ok (.new 32, 3) := by decide +kernel
theorem dX11_init_45 : decode cX11_init 45 = .ok (.dup, 1) := by decide +kernel
theorem dX11_init_46 : decode cX11_init 46 = .ok (.aload_n 0, 1) := by decide +kernel
theorem dX11_init_47 : decode cX11_init 47 = .ok (.getfield 19, 3) := by decide +kernel
theorem dX11_init_50 : decode cX11_init 50 = .ok (.invokespecial 34, 3) := by decide +kernel
theorem dX11_init_53 : decode cX11_init 53 = .ok (.putfield 35, 3) := by decide +kernel
theorem dX11_init_56 : decode cX11_init 56 = .ok (.iconst 0, 1) := by decide +kernel
theorem dX11_init_57 : decode cX11_init 57 = .ok (.istore_n 1, 1) := by decide +kernel
theorem dX11_init_58 : decode cX11_init 58 = .ok (.iload_n 1, 1) := by decide +kernel
theorem dX11_init_59 : decode cX11_init 59 = .ok (.ldc 39, 2) := by decide +kernel
theorem dX11_init_61 : decode cX11_init 61 = .ok (.invokevirtual 41, 3) := by decide +kernel
theorem dX11_init_64 : decode cX11_init 64 = .ok (.if_icmp .ge 23, 3) := by decide +kernel
theorem dX11_init_67 : decode cX11_init 67 = .ok (.aload_n 0, 1) := by decide +kernel
theorem dX11_init_68 : decode cX11_init 68 = .ok (.getfield 10, 3) := by decide +kernel
theorem dX11_init_71 : decode cX11_init 71 = .ok (.ldc 39, 2) := by decide +kernel
theorem dX11_init_73 : decode cX11_init 73 = .ok (.iload_n 1, 1) := by decide +kernel
theorem dX11_init_74 : decode cX11_init 74 = .ok (.invokevirtual 47, 3) := by decide +kernel
theorem dX11_init_77 : decode cX11_init 77 = .ok (.invokevirtual 51, 3) := by decide +kernel
theorem dX11_init_80 : decode cX11_init 80 = .ok (.pop, 1) := by decide +kernel
theorem dX11_init_81 : decode cX11_init 81 = .ok (.iinc 1 1, 3) := by decide +kernel
theorem dX11_init_84 : decode cX11_init 84 = .ok (.goto (-26), 3) := by decide +kernel
theorem dX11_init_87 : decode cX11_init 87 = .ok (.aload_n 0, 1) := by decide +kernel
theorem dX11_init_88 : decode cX11_init 88 = .ok (.getfield 10, 3) := by decide +kernel
theorem dX11_init_91 : decode cX11_init 91 = .ok (.invokevirtual 55, 3) := by decide +kernel
theorem dX11_init_94 : decode cX11_init 94 = .ok (.pop, 1) := by decide +kernel
theorem dX11_init_95 : decode cX11_init 95 = .ok (.aload_n 0, 1) := by decide +kernel
theorem dX11_init_96 : decode cX11_init 96 = .ok (.getfield 19, 3) := by decide +kernel
theorem dX11_init_99 : decode cX11_init 99 = .ok (.aload_n 0, 1) := by decide +kernel
theorem dX11_init_100 : decode cX11_init 100 = .ok (.getfield 10, 3) := by decide +kernel
theorem dX11_init_103 : decode cX11_init 103 = .ok (.invokevirtual 58, 3) := by decide +kernel
theorem dX11_init_106 : decode cX11_init 106 = .ok (.aload_n 0, 1) := by decide +kernel
theorem dX11_init_107 : decode cX11_init 107 = .ok (.getfield 10, 3) := by decide +kernel
theorem dX11_init_110 : decode cX11_init 110 = .ok (.invokevirtual 62, 3) := by decide +kernel
theorem dX11_init_113 : decode cX11_init 113 = .ok (.return_, 1) := by decide +kernel
theorem dX11_write_0 : decode cX11_write 0 = .ok (.iload_n 1, 1) := by decide +kernel
theorem dX11_write_1 : decode cX11_write 1 = .ok (.bipush 32, 2) := by decide +kernel
theorem dX11_write_3 : decode cX11_write 3 = .ok (.bipush 126, 2) := by decide +kernel
theorem dX11_write_5 : decode cX11_write 5 = .ok (.invokestatic 65, 3) := by decide +kernel
theorem dX11_write_8 : decode cX11_write 8 = .ok (.ifCond .ne 5, 3) := by decide +kernel
theorem dX11_write_11 : decode cX11_write 11 = .ok (.iconst (-1), 1) := by decide +kernel
theorem dX11_write_12 : decode cX11_write 12 = .ok (.ireturn, 1) := by decide +kernel
theorem dX11_write_13 : decode cX11_write 13 = .ok (.aload_n 0, 1) := by decide +kernel
theorem dX11_write_14 : decode cX11_write 14 = .ok (.getfield 10, 3) := by decide +kernel
theorem dX11_write_17 : decode cX11_write 17 = .ok (.iload_n 1, 1) := by decide +kernel
theorem dX11_write_18 : decode cX11_write 18 = .ok (.i2c, 1) := by decide +kernel
theorem dX11_write_19 : decode cX11_write 19 = .ok (.invokevirtual 51, 3) := by decide +kernel
theorem dX11_write_22 : decode cX11_write 22 = .ok (.ifCond .eq 13, 3) := by decide +kernel
theorem dX11_write_25 : decode cX11_write 25 = .ok (.aload_n 0, 1) := by decide +kernel
theorem dX11_write_26 : decode cX11_write 26 = .ok (.getfield 10, 3) := by decide +kernel
theorem dX11_write_29 : decode cX11_write 29 = .ok (.invokevirtual 69, 3) := by decide +kernel
theorem dX11_write_32 : decode cX11_write 32 = .ok (.goto 5, 3) := by decide +kernel
theorem dX11_write_35 : decode cX11_write 35 = .ok (.bipush (-3), 2) := by decide +kernel
theorem dX11_write_37 : decode cX11_write 37 = .ok (.ireturn, 1) := by decide +kernel
theorem dX11_wipe_0 : decode cX11_wipe 0 = .ok (.aload_n 0, 1) := by decide +kernel
theorem dX11_wipe_1 : decode cX11_wipe 1 = .ok (.getfield 10, 3) := by decide +kernel
theorem dX11_wipe_4 : decode cX11_wipe 4 = .ok (.invokevirtual 69, 3) := by decide +kernel
theorem dX11_wipe_7 : decode cX11_wipe 7 = .ok (.istore_n 1, 1) := by decide +kernel
theorem dX11_wipe_8 : decode cX11_wipe 8 = .ok (.aload_n 0, 1) := by decide +kernel
theorem dX11_wipe_9 : decode cX11_wipe 9 = .ok (.getfield 10, 3) := by decide +kernel
theorem dX11_wipe_12 : decode cX11_wipe 12 = .ok (.invokevirtual 62, 3) := by decide +kernel
theorem dX11_wipe_15 : decode cX11_wipe 15 = .ok (.iload_n 1, 1) := by decide +kernel
theorem dX11_wipe_16 : decode cX11_wipe 16 = .ok (.ireturn, 1) := by decide +kernel
theorem dX11_fault_0 : decode cX11_fault 0 = .ok (.aload_n 0, 1) := by decide +kernel
theorem dX11_fault_1 : decode cX11_fault 1 = .ok (.getfield 10, 3) := by decide +kernel
theorem dX11_fault_4 : decode cX11_fault 4 = .ok (.invokevirtual 55, 3) := by decide +kernel
theorem dX11_fault_7 : decode cX11_fault 7 = .ok (.ireturn, 1) := by decide +kernel
theorem dX11_lay_0 : decode cX11_lay 0 = .ok (.aload_n 0, 1) := by decide +kernel
theorem dX11_lay_1 : decode cX11_lay 1 = .ok (.getfield 10, 3) := by decide +kernel
theorem dX11_lay_4 : decode cX11_lay 4 = .ok (.invokevirtual 55, 3) := by decide +kernel
theorem dX11_lay_7 : decode cX11_lay 7 = .ok (.bipush (-4), 2) := by decide +kernel
theorem dX11_lay_9 : decode cX11_lay 9 = .ok (.if_icmp .ne 13, 3) := by decide +kernel
theorem dX11_lay_12 : decode cX11_lay 12 = .ok (.aload_n 0, 1) := by decide +kernel
theorem dX11_lay_13 : decode cX11_lay 13 = .ok (.getfield 10, 3) := by decide +kernel
theorem dX11_lay_16 : decode cX11_lay 16 = .ok (.invokevirtual 70, 3) := by decide +kernel
theorem dX11_lay_19 : decode cX11_lay 19 = .ok (.ifCond .ne 6, 3) := by decide +kernel
theorem dX11_lay_22 : decode cX11_lay 22 = .ok (.bipush (-2), 2) := by decide +kernel
theorem dX11_lay_24 : decode cX11_lay 24 = .ok (.ireturn, 1) := by decide +kernel
theorem dX11_lay_25 : decode cX11_lay 25 = .ok (.aload_n 0, 1) := by decide +kernel
theorem dX11_lay_26 : decode cX11_lay 26 = .ok (.getfield 19, 3) := by decide +kernel
theorem dX11_lay_29 : decode cX11_lay 29 = .ok (.aload_n 0, 1) := by decide +kernel
theorem dX11_lay_30 : decode cX11_lay 30 = .ok (.getfield 10, 3) := by decide +kernel
theorem dX11_lay_33 : decode cX11_lay 33 = .ok (.invokevirtual 58, 3) := by decide +kernel
theorem dX11_lay_36 : decode cX11_lay 36 = .ok (.aload_n 0, 1) := by decide +kernel
theorem dX11_lay_37 : decode cX11_lay 37 = .ok (.getfield 35, 3) := by decide +kernel
theorem dX11_lay_40 : decode cX11_lay 40 = .ok (.invokevirtual 73, 3) := by decide +kernel
theorem dX11_lay_43 : decode cX11_lay 43 = .ok (.aload_n 0, 1) := by decide +kernel
theorem dX11_lay_44 : decode cX11_lay 44 = .ok (.getfield 19, 3) := by decide +kernel
theorem dX11_lay_47 : decode cX11_lay 47 = .ok (.invokevirtual 76, 3) := by decide +kernel
theorem dX11_lay_50 : decode cX11_lay 50 = .ok (.ireturn, 1) := by decide +kernel
theorem dX11_device_0 : decode cX11_device 0 = .ok (.aload_n 0, 1) := by decide +kernel
theorem dX11_device_1 : decode cX11_device 1 = .ok (.getfield 19, 3) := by decide +kernel
theorem dX11_device_4 : decode cX11_device 4 = .ok (.iload_n 1, 1) := by decide +kernel
theorem dX11_device_5 : decode cX11_device 5 = .ok (.invokevirtual 79, 3) := by decide +kernel
theorem dX11_device_8 : decode cX11_device 8 = .ok (.astore_n 3, 1) := by decide +kernel
theorem dX11_device_9 : decode cX11_device 9 = .ok (.aload_n 3, 1) := by decide +kernel
theorem dX11_device_10 : decode cX11_device 10 = .ok (.ifnonnull 5, 3) := by decide +kernel
theorem dX11_device_13 : decode cX11_device 13 = .ok (.iconst (-1), 1) := by decide +kernel
theorem dX11_device_14 : decode cX11_device 14 = .ok (.ireturn, 1) := by decide +kernel
theorem dX11_device_15 : decode cX11_device 15 = .ok (.iload_n 2, 1) := by decide +kernel
theorem dX11_device_16 : decode cX11_device 16 = .ok (.tableswitch 78 0 5 #[40, 45, 54, 59, 64, 69], 40) := by decide +kernel
theorem dX11_device_56 : decode cX11_device 56 = .ok (.aload_n 3, 1) := by decide +kernel
theorem dX11_device_57 : decode cX11_device 57 = .ok (.getfield 83, 3) := by decide +kernel
theorem dX11_device_60 : decode cX11_device 60 = .ok (.ireturn, 1) := by decide +kernel
theorem dX11_device_61 : decode cX11_device 61 = .ok (.aload_n 0, 1) := by decide +kernel
theorem dX11_device_62 : decode cX11_device 62 = .ok (.getfield 19, 3) := by decide +kernel
theorem dX11_device_65 : decode cX11_device 65 = .ok (.iload_n 1, 1) := by decide +kernel
theorem dX11_device_66 : decode cX11_device 66 = .ok (.invokevirtual 89, 3) := by decide +kernel
theorem dX11_device_69 : decode cX11_device 69 = .ok (.ireturn, 1) := by decide +kernel
theorem dX11_device_70 : decode cX11_device 70 = .ok (.aload_n 3, 1) := by decide +kernel
theorem dX11_device_71 : decode cX11_device 71 = .ok (.getfield 93, 3) := by decide +kernel
theorem dX11_device_74 : decode cX11_device 74 = .ok (.ireturn, 1) := by decide +kernel
theorem dX11_device_75 : decode cX11_device 75 = .ok (.aload_n 3, 1) := by decide +kernel
theorem dX11_device_76 : decode cX11_device 76 = .ok (.getfield 96, 3) := by decide +kernel
theorem dX11_device_79 : decode cX11_device 79 = .ok (.ireturn, 1) := by decide +kernel
theorem dX11_device_80 : decode cX11_device 80 = .ok (.aload_n 3, 1) := by decide +kernel
theorem dX11_device_81 : decode cX11_device 81 = .ok (.getfield 99, 3) := by decide +kernel
theorem dX11_device_84 : decode cX11_device 84 = .ok (.ireturn, 1) := by decide +kernel
theorem dX11_device_85 : decode cX11_device 85 = .ok (.aload_n 0, 1) := by decide +kernel
theorem dX11_device_86 : decode cX11_device 86 = .ok (.getfield 19, 3) := by decide +kernel
theorem dX11_device_89 : decode cX11_device 89 = .ok (.iload_n 1, 1) := by decide +kernel
theorem dX11_device_90 : decode cX11_device 90 = .ok (.invokevirtual 102, 3) := by decide +kernel
theorem dX11_device_93 : decode cX11_device 93 = .ok (.ireturn, 1) := by decide +kernel
theorem dX11_device_94 : decode cX11_device 94 = .ok (.iconst (-1), 1) := by decide +kernel
theorem dX11_device_95 : decode cX11_device 95 = .ok (.ireturn, 1) := by decide +kernel
theorem dX11_memory_0 : decode cX11_memory 0 = .ok (.aload_n 0, 1) := by decide +kernel
theorem dX11_memory_1 : decode cX11_memory 1 = .ok (.getfield 19, 3) := by decide +kernel
theorem dX11_memory_4 : decode cX11_memory 4 = .ok (.iload_n 1, 1) := by decide +kernel
theorem dX11_memory_5 : decode cX11_memory 5 = .ok (.invokevirtual 79, 3) := by decide +kernel
theorem dX11_memory_8 : decode cX11_memory 8 = .ok (.astore_n 3, 1) := by decide +kernel
theorem dX11_memory_9 : decode cX11_memory 9 = .ok (.aload_n 3, 1) := by decide +kernel
theorem dX11_memory_10 : decode cX11_memory 10 = .ok (.ifnull 13, 3) := by decide +kernel
theorem dX11_memory_13 : decode cX11_memory 13 = .ok (.iload_n 2, 1) := by decide +kernel
theorem dX11_memory_14 : decode cX11_memory 14 = .ok (.iconst 0, 1) := by decide +kernel
theorem dX11_memory_15 : decode cX11_memory 15 = .ok (.bipush 15, 2) := by decide +kernel
theorem dX11_memory_17 : decode cX11_memory 17 = .ok (.invokestatic 65, 3) := by decide +kernel
theorem dX11_memory_20 : decode cX11_memory 20 = .ok (.ifCond .ne 5, 3) := by decide +kernel
theorem dX11_memory_23 : decode cX11_memory 23 = .ok (.iconst (-1), 1) := by decide +kernel
theorem dX11_memory_24 : decode cX11_memory 24 = .ok (.ireturn, 1) := by decide +kernel
theorem dX11_memory_25 : decode cX11_memory 25 = .ok (.aload_n 3, 1) := by decide +kernel
theorem dX11_memory_26 : decode cX11_memory 26 = .ok (.aload_n 0, 1) := by decide +kernel
theorem dX11_memory_27 : decode cX11_memory 27 = .ok (.getfield 19, 3) := by decide +kernel
theorem dX11_memory_30 : decode cX11_memory 30 = .ok (.invokevirtual 105, 3) := by decide +kernel
theorem dX11_memory_33 : decode cX11_memory 33 = .ok (.invokevirtual 108, 3) := by decide +kernel
theorem dX11_memory_36 : decode cX11_memory 36 = .ok (.aload_n 3, 1) := by decide +kernel
theorem dX11_memory_37 : decode cX11_memory 37 = .ok (.getfield 112, 3) := by decide +kernel
theorem dX11_memory_40 : decode cX11_memory 40 = .ok (.iload_n 2, 1) := by decide +kernel
theorem dX11_memory_41 : decode cX11_memory 41 = .ok (.iaload, 1) := by decide +kernel
theorem dX11_memory_42 : decode cX11_memory 42 = .ok (.ireturn, 1) := by decide +kernel
theorem dX11_own_0 : decode cX11_own 0 = .ok (.aload_n 0, 1) := by decide +kernel
theorem dX11_own_1 : decode cX11_own 1 = .ok (.getfield 19, 3) := by decide +kernel
theorem dX11_own_4 : decode cX11_own 4 = .ok (.iload_n 1, 1) := by decide +kernel
theorem dX11_own_5 : decode cX11_own 5 = .ok (.invokevirtual 79, 3) := by decide +kernel
theorem dX11_own_8 : decode cX11_own 8 = .ok (.astore 4, 2) := by decide +kernel
theorem dX11_own_10 : decode cX11_own 10 = .ok (.aload 4, 2) := by decide +kernel
theorem dX11_own_12 : decode cX11_own 12 = .ok (.ifnull 20, 3) := by decide +kernel
theorem dX11_own_15 : decode cX11_own 15 = .ok (.iload_n 2, 1) := by decide +kernel
theorem dX11_own_16 : decode cX11_own 16 = .ok (.iconst 4, 1) := by decide +kernel
theorem dX11_own_17 : decode cX11_own 17 = .ok (.bipush 15, 2) := by decide +kernel
theorem dX11_own_19 : decode cX11_own 19 = .ok (.invokestatic 65, 3) := by decide +kernel
theorem dX11_own_22 : decode cX11_own 22 = .ok (.ifCond .eq 10, 3) := by decide +kernel
theorem dX11_own_25 : decode cX11_own 25 = .ok (.iload_n 3, 1) := by decide +kernel
theorem dX11_own_26 : decode cX11_own 26 = .ok (.invokestatic 116, 3) := by decide +kernel
theorem dX11_own_29 : decode cX11_own 29 = .ok (.ifCond .ne 5, 3) := by decide +kernel
theorem dX11_own_32 : decode cX11_own 32 = .ok (.iconst (-1), 1) := by decide +kernel
theorem dX11_own_33 : decode cX11_own 33 = .ok (.ireturn, 1) := by decide +kernel
theorem dX11_own_34 : decode cX11_own 34 = .ok (.aload 4, 2) := by decide +kernel
theorem dX11_own_36 : decode cX11_own 36 = .ok (.getfield 112, 3) := by decide +kernel
theorem dX11_own_39 : decode cX11_own 39 = .ok (.iload_n 2, 1) := by decide +kernel
theorem dX11_own_40 : decode cX11_own 40 = .ok (.iaload, 1) := by decide +kernel
theorem dX11_own_41 : decode cX11_own 41 = .ok (.istore 5, 2) := by decide +kernel
theorem dX11_own_43 : decode cX11_own 43 = .ok (.aload 4, 2) := by decide +kernel
theorem dX11_own_45 : decode cX11_own 45 = .ok (.getfield 112, 3) := by decide +kernel
theorem dX11_own_48 : decode cX11_own 48 = .ok (.iload_n 2, 1) := by decide +kernel
theorem dX11_own_49 : decode cX11_own 49 = .ok (.iload_n 3, 1) := by decide +kernel
theorem dX11_own_50 : decode cX11_own 50 = .ok (.iastore, 1) := by decide +kernel
theorem dX11_own_51 : decode cX11_own 51 = .ok (.iload 5, 2) := by decide +kernel
theorem dX11_own_53 : decode cX11_own 53 = .ok (.ireturn, 1) := by decide +kernel
theorem dX11_cut_0 : decode cX11_cut 0 = .ok (.iload_n 1, 1) := by decide +kernel
theorem dX11_cut_1 : decode cX11_cut 1 = .ok (.iconst 0, 1) := by decide +kernel
theorem dX11_cut_2 : decode cX11_cut 2 = .ok (.aload_n 0, 1) := by decide +kernel
theorem dX11_cut_3 : decode cX11_cut 3 = .ok (.getfield 19, 3) := by decide +kernel
theorem dX11_cut_6 : decode cX11_cut 6 = .ok (.invokevirtual 76, 3) := by decide +kernel
theorem dX11_cut_9 : decode cX11_cut 9 = .ok (.invokestatic 65, 3) := by decide +kernel
theorem dX11_cut_12 : decode cX11_cut 12 = .ok (.ifCond .eq 12, 3) := by decide +kernel
theorem dX11_cut_15 : decode cX11_cut 15 = .ok (.iload_n 2, 1) := by decide +kernel
theorem dX11_cut_16 : decode cX11_cut 16 = .ok (.iconst 0, 1) := by decide +kernel
theorem dX11_cut_17 : decode cX11_cut 17 = .ok (.iconst 1, 1) := by decide +kernel
theorem dX11_cut_18 : decode cX11_cut 18 = .ok (.invokestatic 65, 3) := by decide +kernel
theorem dX11_cut_21 : decode cX11_cut 21 = .ok (.ifCond .ne 5, 3) := by decide +kernel
theorem dX11_cut_24 : decode cX11_cut 24 = .ok (.iconst (-1), 1) := by decide +kernel
theorem dX11_cut_25 : decode cX11_cut 25 = .ok (.ireturn, 1) := by decide +kernel
theorem dX11_cut_26 : decode cX11_cut 26 = .ok (.aload_n 0, 1) := by decide +kernel
theorem dX11_cut_27 : decode cX11_cut 27 = .ok (.getfield 19, 3) := by decide +kernel
theorem dX11_cut_30 : decode cX11_cut 30 = .ok (.iload_n 1, 1) := by decide +kernel
theorem dX11_cut_31 : decode cX11_cut 31 = .ok (.iload_n 2, 1) := by decide +kernel
theorem dX11_cut_32 : decode cX11_cut 32 = .ok (.invokevirtual 120, 3) := by decide +kernel
theorem dX11_cut_35 : decode cX11_cut 35 = .ok (.ifCond .eq 13, 3) := by decide +kernel
theorem dX11_cut_38 : decode cX11_cut 38 = .ok (.aload_n 0, 1) := by decide +kernel
theorem dX11_cut_39 : decode cX11_cut 39 = .ok (.getfield 19, 3) := by decide +kernel
theorem dX11_cut_42 : decode cX11_cut 42 = .ok (.invokevirtual 124, 3) := by decide +kernel
theorem dX11_cut_45 : decode cX11_cut 45 = .ok (.goto 5, 3) := by decide +kernel
theorem dX11_cut_48 : decode cX11_cut 48 = .ok (.bipush (-2), 2) := by decide +kernel
theorem dX11_cut_50 : decode cX11_cut 50 = .ok (.ireturn, 1) := by decide +kernel
theorem dX11_lose_0 : decode cX11_lose 0 = .ok (.iload_n 1, 1) := by decide +kernel
theorem dX11_lose_1 : decode cX11_lose 1 = .ok (.iconst 0, 1) := by decide +kernel
theorem dX11_lose_2 : decode cX11_lose 2 = .ok (.bipush 9, 2) := by decide +kernel
theorem dX11_lose_4 : decode cX11_lose 4 = .ok (.invokestatic 65, 3) := by decide +kernel
theorem dX11_lose_7 : decode cX11_lose 7 = .ok (.ifCond .eq 14, 3) := by decide +kernel
theorem dX11_lose_10 : decode cX11_lose 10 = .ok (.aload_n 0, 1) := by decide +kernel
theorem dX11_lose_11 : decode cX11_lose 11 = .ok (.getfield 35, 3) := by decide +kernel
theorem dX11_lose_14 : decode cX11_lose 14 = .ok (.iload_n 1, 1) := by decide +kernel
theorem dX11_lose_15 : decode cX11_lose 15 = .ok (.invokevirtual 127, 3) := by decide +kernel
end
section
theorem dX11_lose_18 : decode cX11_lose 18 = .ok (.goto 4, 3) := by decide +kernel
theorem dX11_lose_21 : decode cX11_lose 21 = .ok (.iconst (-1), 1) := by decide +kernel
theorem dX11_lose_22 : decode cX11_lose 22 = .ok (.ireturn, 1) := by decide +kernel
theorem dX11_state_0 : decode cX11_state 0 = .ok (.aload_n 0, 1) := by decide +kernel
theorem dX11_state_1 : decode cX11_state 1 = .ok (.getfield 19, 3) := by decide +kernel
theorem dX11_state_4 : decode cX11_state 4 = .ok (.iload_n 1, 1) := by decide +kernel
theorem dX11_state_5 : decode cX11_state 5 = .ok (.invokevirtual 79, 3) := by decide +kernel
theorem dX11_state_8 : decode cX11_state 8 = .ok (.astore_n 3, 1) := by decide +kernel
theorem dX11_state_9 : decode cX11_state 9 = .ok (.aload_n 3, 1) := by decide +kernel
theorem dX11_state_10 : decode cX11_state 10 = .ok (.ifnull 12, 3) := by decide +kernel
theorem dX11_state_13 : decode cX11_state 13 = .ok (.iload_n 2, 1) := by decide +kernel
theorem dX11_state_14 : decode cX11_state 14 = .ok (.iconst 0, 1) := by decide +kernel
theorem dX11_state_15 : decode cX11_state 15 = .ok (.iconst 3, 1) := by decide +kernel
theorem dX11_state_16 : decode cX11_state 16 = .ok (.invokestatic 65, 3) := by decide +kernel
theorem dX11_state_19 : decode cX11_state 19 = .ok (.ifCond .ne 5, 3) := by decide +kernel
theorem dX11_state_22 : decode cX11_state 22 = .ok (.iconst (-1), 1) := by decide +kernel
theorem dX11_state_23 : decode cX11_state 23 = .ok (.ireturn, 1) := by decide +kernel
theorem dX11_state_24 : decode cX11_state 24 = .ok (.aload_n 3, 1) := by decide +kernel
theorem dX11_state_25 : decode cX11_state 25 = .ok (.getfield 99, 3) := by decide +kernel
theorem dX11_state_28 : decode cX11_state 28 = .ok (.istore 4, 2) := by decide +kernel
theorem dX11_state_30 : decode cX11_state 30 = .ok (.aload_n 0, 1) := by decide +kernel
theorem dX11_state_31 : decode cX11_state 31 = .ok (.getfield 19, 3) := by decide +kernel
theorem dX11_state_34 : decode cX11_state 34 = .ok (.iload_n 1, 1) := by decide +kernel
theorem dX11_state_35 : decode cX11_state 35 = .ok (.invokevirtual 102, 3) := by decide +kernel
theorem dX11_state_38 : decode cX11_state 38 = .ok (.ifCond .eq 17, 3) := by decide +kernel
theorem dX11_state_41 : decode cX11_state 41 = .ok (.iload_n 2, 1) := by decide +kernel
theorem dX11_state_42 : decode cX11_state 42 = .ok (.iload 4, 2) := by decide +kernel
theorem dX11_state_44 : decode cX11_state 44 = .ok (.if_icmp .eq 11, 3) := by decide +kernel
theorem dX11_state_47 : decode cX11_state 47 = .ok (.iload_n 2, 1) := by decide +kernel
theorem dX11_state_48 : decode cX11_state 48 = .ok (.iload 4, 2) := by decide +kernel
theorem dX11_state_50 : decode cX11_state 50 = .ok (.iconst 1, 1) := by decide +kernel
theorem dX11_state_51 : decode cX11_state 51 = .ok (.iadd, 1) := by decide +kernel
theorem dX11_state_52 : decode cX11_state 52 = .ok (.if_icmp .le 6, 3) := by decide +kernel
theorem dX11_state_55 : decode cX11_state 55 = .ok (.bipush (-2), 2) := by decide +kernel
theorem dX11_state_57 : decode cX11_state 57 = .ok (.ireturn, 1) := by decide +kernel
theorem dX11_state_58 : decode cX11_state 58 = .ok (.aload_n 3, 1) := by decide +kernel
theorem dX11_state_59 : decode cX11_state 59 = .ok (.iload_n 2, 1) := by decide +kernel
theorem dX11_state_60 : decode cX11_state 60 = .ok (.invokevirtual 130, 3) := by decide +kernel
theorem dX11_state_63 : decode cX11_state 63 = .ok (.iload 4, 2) := by decide +kernel
theorem dX11_state_65 : decode cX11_state 65 = .ok (.ireturn, 1) := by decide +kernel
theorem dX11_map_0 : decode cX11_map 0 = .ok (.aload_n 0, 1) := by decide +kernel
theorem dX11_map_1 : decode cX11_map 1 = .ok (.iload_n 1, 1) := by decide +kernel
theorem dX11_map_2 : decode cX11_map 2 = .ok (.iload_n 2, 1) := by decide +kernel
theorem dX11_map_3 : decode cX11_map 3 = .ok (.invokevirtual 133, 3) := by decide +kernel
theorem dX11_map_6 : decode cX11_map 6 = .ok (.astore 6, 2) := by decide +kernel
theorem dX11_map_8 : decode cX11_map 8 = .ok (.iload_n 2, 1) := by decide +kernel
theorem dX11_map_9 : decode cX11_map 9 = .ok (.iconst 1, 1) := by decide +kernel
theorem dX11_map_10 : decode cX11_map 10 = .ok (.if_icmp .ne 7, 3) := by decide +kernel
theorem dX11_map_13 : decode cX11_map 13 = .ok (.iconst 4, 1) := by decide +kernel
theorem dX11_map_14 : decode cX11_map 14 = .ok (.goto 4, 3) := by decide +kernel
theorem dX11_map_17 : decode cX11_map 17 = .ok (.iconst 0, 1) := by decide +kernel
theorem dX11_map_18 : decode cX11_map 18 = .ok (.istore 7, 2) := by decide +kernel
theorem dX11_map_20 : decode cX11_map 20 = .ok (.aload 6, 2) := by decide +kernel
theorem dX11_map_22 : decode cX11_map 22 = .ok (.ifnull 42, 3) := by decide +kernel
theorem dX11_map_25 : decode cX11_map 25 = .ok (.iload 4, 2) := by decide +kernel
theorem dX11_map_27 : decode cX11_map 27 = .ok (.iconst 1, 1) := by decide +kernel
theorem dX11_map_28 : decode cX11_map 28 = .ok (.bipush 8, 2) := by decide +kernel
theorem dX11_map_30 : decode cX11_map 30 = .ok (.invokestatic 65, 3) := by decide +kernel
theorem dX11_map_33 : decode cX11_map 33 = .ok (.ifCond .eq 31, 3) := by decide +kernel
theorem dX11_map_36 : decode cX11_map 36 = .ok (.iload_n 3, 1) := by decide +kernel
theorem dX11_map_37 : decode cX11_map 37 = .ok (.iconst 0, 1) := by decide +kernel
theorem dX11_map_38 : decode cX11_map 38 = .ok (.bipush 32, 2) := by decide +kernel
theorem dX11_map_40 : decode cX11_map 40 = .ok (.iload 4, 2) := by decide +kernel
theorem dX11_map_42 : decode cX11_map 42 = .ok (.isub, 1) := by decide +kernel
theorem dX11_map_43 : decode cX11_map 43 = .ok (.invokestatic 65, 3) := by decide +kernel
theorem dX11_map_46 : decode cX11_map 46 = .ok (.ifCond .eq 18, 3) := by decide +kernel
theorem dX11_map_49 : decode cX11_map 49 = .ok (.iload 5, 2) := by decide +kernel
theorem dX11_map_51 : decode cX11_map 51 = .ok (.iload 7, 2) := by decide +kernel
theorem dX11_map_53 : decode cX11_map 53 = .ok (.bipush 16, 2) := by decide +kernel
theorem dX11_map_55 : decode cX11_map 55 = .ok (.iload 4, 2) := by decide +kernel
theorem dX11_map_57 : decode cX11_map 57 = .ok (.isub, 1) := by decide +kernel
theorem dX11_map_58 : decode cX11_map 58 = .ok (.invokestatic 65, 3) := by decide +kernel
theorem dX11_map_61 : decode cX11_map 61 = .ok (.ifCond .ne 5, 3) := by decide +kernel
theorem dX11_map_64 : decode cX11_map 64 = .ok (.iconst (-1), 1) := by decide +kernel
theorem dX11_map_65 : decode cX11_map 65 = .ok (.ireturn, 1) := by decide +kernel
theorem dX11_map_66 : decode cX11_map 66 = .ok (.aload_n 0, 1) := by decide +kernel
theorem dX11_map_67 : decode cX11_map 67 = .ok (.getfield 19, 3) := by decide +kernel
theorem dX11_map_70 : decode cX11_map 70 = .ok (.iload_n 1, 1) := by decide +kernel
theorem dX11_map_71 : decode cX11_map 71 = .ok (.iload_n 2, 1) := by decide +kernel
theorem dX11_map_72 : decode cX11_map 72 = .ok (.iload_n 3, 1) := by decide +kernel
theorem dX11_map_73 : decode cX11_map 73 = .ok (.iload 4, 2) := by decide +kernel
theorem dX11_map_75 : decode cX11_map 75 = .ok (.invokevirtual 137, 3) := by decide +kernel
theorem dX11_map_78 : decode cX11_map 78 = .ok (.ifCond .eq 6, 3) := by decide +kernel
theorem dX11_map_81 : decode cX11_map 81 = .ok (.bipush (-2), 2) := by decide +kernel
theorem dX11_map_83 : decode cX11_map 83 = .ok (.ireturn, 1) := by decide +kernel
theorem dX11_map_84 : decode cX11_map 84 = .ok (.aload 6, 2) := by decide +kernel
theorem dX11_map_86 : decode cX11_map 86 = .ok (.invokevirtual 141, 3) := by decide +kernel
theorem dX11_map_89 : decode cX11_map 89 = .ok (.ifCond .eq 7, 3) := by decide +kernel
theorem dX11_map_92 : decode cX11_map 92 = .ok (.iconst 1, 1) := by decide +kernel
theorem dX11_map_93 : decode cX11_map 93 = .ok (.goto 4, 3) := by decide +kernel
theorem dX11_map_96 : decode cX11_map 96 = .ok (.iconst 0, 1) := by decide +kernel
theorem dX11_map_97 : decode cX11_map 97 = .ok (.istore 8, 2) := by decide +kernel
theorem dX11_map_99 : decode cX11_map 99 = .ok (.aload 6, 2) := by decide +kernel
theorem dX11_map_101 : decode cX11_map 101 = .ok (.iload_n 3, 1) := by decide +kernel
theorem dX11_map_102 : decode cX11_map 102 = .ok (.iload 4, 2) := by decide +kernel
theorem dX11_map_104 : decode cX11_map 104 = .ok (.iload 5, 2) := by decide +kernel
theorem dX11_map_106 : decode cX11_map 106 = .ok (.invokevirtual 147, 3) := by decide +kernel
theorem dX11_map_109 : decode cX11_map 109 = .ok (.iload 8, 2) := by decide +kernel
theorem dX11_map_111 : decode cX11_map 111 = .ok (.ireturn, 1) := by decide +kernel
theorem dX11_unmap_0 : decode cX11_unmap 0 = .ok (.aload_n 0, 1) := by decide +kernel
theorem dX11_unmap_1 : decode cX11_unmap 1 = .ok (.iload_n 1, 1) := by decide +kernel
theorem dX11_unmap_2 : decode cX11_unmap 2 = .ok (.iload_n 2, 1) := by decide +kernel
theorem dX11_unmap_3 : decode cX11_unmap 3 = .ok (.invokevirtual 133, 3) := by decide +kernel
theorem dX11_unmap_6 : decode cX11_unmap 6 = .ok (.astore_n 3, 1) := by decide +kernel
theorem dX11_unmap_7 : decode cX11_unmap 7 = .ok (.aload_n 3, 1) := by decide +kernel
theorem dX11_unmap_8 : decode cX11_unmap 8 = .ok (.ifnonnull 5, 3) := by decide +kernel
theorem dX11_unmap_11 : decode cX11_unmap 11 = .ok (.iconst (-1), 1) := by decide +kernel
theorem dX11_unmap_12 : decode cX11_unmap 12 = .ok (.ireturn, 1) := by decide +kernel
theorem dX11_unmap_13 : decode cX11_unmap 13 = .ok (.aload_n 3, 1) := by decide +kernel
theorem dX11_unmap_14 : decode cX11_unmap 14 = .ok (.invokevirtual 141, 3) := by decide +kernel
theorem dX11_unmap_17 : decode cX11_unmap 17 = .ok (.ifCond .ne 6, 3) := by decide +kernel
theorem dX11_unmap_20 : decode cX11_unmap 20 = .ok (.bipush (-2), 2) := by decide +kernel
theorem dX11_unmap_22 : decode cX11_unmap 22 = .ok (.ireturn, 1) := by decide +kernel
theorem dX11_unmap_23 : decode cX11_unmap 23 = .ok (.aload_n 3, 1) := by decide +kernel
theorem dX11_unmap_24 : decode cX11_unmap 24 = .ok (.invokevirtual 151, 3) := by decide +kernel
theorem dX11_unmap_27 : decode cX11_unmap 27 = .ok (.iconst 1, 1) := by decide +kernel
theorem dX11_unmap_28 : decode cX11_unmap 28 = .ok (.ireturn, 1) := by decide +kernel
theorem dX11_mapped_0 : decode cX11_mapped 0 = .ok (.aload_n 0, 1) := by decide +kernel
theorem dX11_mapped_1 : decode cX11_mapped 1 = .ok (.iload_n 1, 1) := by decide +kernel
theorem dX11_mapped_2 : decode cX11_mapped 2 = .ok (.iload_n 2, 1) := by decide +kernel
theorem dX11_mapped_3 : decode cX11_mapped 3 = .ok (.invokevirtual 133, 3) := by decide +kernel
theorem dX11_mapped_6 : decode cX11_mapped 6 = .ok (.astore 4, 2) := by decide +kernel
theorem dX11_mapped_8 : decode cX11_mapped 8 = .ok (.aload 4, 2) := by decide +kernel
theorem dX11_mapped_10 : decode cX11_mapped 10 = .ok (.ifnull 12, 3) := by decide +kernel
theorem dX11_mapped_13 : decode cX11_mapped 13 = .ok (.iload_n 3, 1) := by decide +kernel
theorem dX11_mapped_14 : decode cX11_mapped 14 = .ok (.iconst 0, 1) := by decide +kernel
theorem dX11_mapped_15 : decode cX11_mapped 15 = .ok (.iconst 2, 1) := by decide +kernel
theorem dX11_mapped_16 : decode cX11_mapped 16 = .ok (.invokestatic 65, 3) := by decide +kernel
theorem dX11_mapped_19 : decode cX11_mapped 19 = .ok (.ifCond .ne 5, 3) := by decide +kernel
theorem dX11_mapped_22 : decode cX11_mapped 22 = .ok (.iconst (-1), 1) := by decide +kernel
theorem dX11_mapped_23 : decode cX11_mapped 23 = .ok (.ireturn, 1) := by decide +kernel
theorem dX11_mapped_24 : decode cX11_mapped 24 = .ok (.aload 4, 2) := by decide +kernel
theorem dX11_mapped_26 : decode cX11_mapped 26 = .ok (.invokevirtual 141, 3) := by decide +kernel
theorem dX11_mapped_29 : decode cX11_mapped 29 = .ok (.ifCond .ne 6, 3) := by decide +kernel
theorem dX11_mapped_32 : decode cX11_mapped 32 = .ok (.bipush (-4), 2) := by decide +kernel
theorem dX11_mapped_34 : decode cX11_mapped 34 = .ok (.ireturn, 1) := by decide +kernel
theorem dX11_mapped_35 : decode cX11_mapped 35 = .ok (.iload_n 3, 1) := by decide +kernel
theorem dX11_mapped_36 : decode cX11_mapped 36 = .ok (.ifCond .ne 11, 3) := by decide +kernel
theorem dX11_mapped_39 : decode cX11_mapped 39 = .ok (.aload 4, 2) := by decide +kernel
theorem dX11_mapped_41 : decode cX11_mapped 41 = .ok (.getfield 154, 3) := by decide +kernel
theorem dX11_mapped_44 : decode cX11_mapped 44 = .ok (.goto 21, 3) := by decide +kernel
theorem dX11_mapped_47 : decode cX11_mapped 47 = .ok (.iload_n 3, 1) := by decide +kernel
theorem dX11_mapped_48 : decode cX11_mapped 48 = .ok (.iconst 1, 1) := by decide +kernel
theorem dX11_mapped_49 : decode cX11_mapped 49 = .ok (.if_icmp .ne 11, 3) := by decide +kernel
theorem dX11_mapped_52 : decode cX11_mapped 52 = .ok (.aload 4, 2) := by decide +kernel
theorem dX11_mapped_54 : decode cX11_mapped 54 = .ok (.getfield 157, 3) := by decide +kernel
theorem dX11_mapped_57 : decode cX11_mapped 57 = .ok (.goto 8, 3) := by decide +kernel
theorem dX11_mapped_60 : decode cX11_mapped 60 = .ok (.aload 4, 2) := by decide +kernel
theorem dX11_mapped_62 : decode cX11_mapped 62 = .ok (.getfield 159, 3) := by decide +kernel
theorem dX11_mapped_65 : decode cX11_mapped 65 = .ok (.ireturn, 1) := by decide +kernel
theorem dX11_findOverlay_0 : decode cX11_findOverlay 0 = .ok (.aload_n 0, 1) := by decide +kernel
theorem dX11_findOverlay_1 : decode cX11_findOverlay 1 = .ok (.getfield 19, 3) := by decide +kernel
theorem dX11_findOverlay_4 : decode cX11_findOverlay 4 = .ok (.iload_n 1, 1) := by decide +kernel
theorem dX11_findOverlay_5 : decode cX11_findOverlay 5 = .ok (.invokevirtual 79, 3) := by decide +kernel
theorem dX11_findOverlay_8 : decode cX11_findOverlay 8 = .ok (.astore_n 3, 1) := by decide +kernel
theorem dX11_findOverlay_9 : decode cX11_findOverlay 9 = .ok (.aload_n 3, 1) := by decide +kernel
theorem dX11_findOverlay_10 : decode cX11_findOverlay 10 = .ok (.ifnull 12, 3) := by decide +kernel
theorem dX11_findOverlay_13 : decode cX11_findOverlay 13 = .ok (.iload_n 2, 1) := by decide +kernel
theorem dX11_findOverlay_14 : decode cX11_findOverlay 14 = .ok (.iconst 0, 1) := by decide +kernel
theorem dX11_findOverlay_15 : decode cX11_findOverlay 15 = .ok (.iconst 1, 1) := by decide +kernel
theorem dX11_findOverlay_16 : decode cX11_findOverlay 16 = .ok (.invokestatic 65, 3) := by decide +kernel
theorem dX11_findOverlay_19 : decode cX11_findOverlay 19 = .ok (.ifCond .ne 5, 3) := by decide +kernel
theorem dX11_findOverlay_22 : decode cX11_findOverlay 22 = .ok (.aconst_null, 1) := by decide +kernel
theorem dX11_findOverlay_23 : decode cX11_findOverlay 23 = .ok (.areturn, 1) := by decide +kernel
theorem dX11_findOverlay_24 : decode cX11_findOverlay 24 = .ok (.aload_n 3, 1) := by decide +kernel
theorem dX11_findOverlay_25 : decode cX11_findOverlay 25 = .ok (.iload_n 2, 1) := by decide +kernel
theorem dX11_findOverlay_26 : decode cX11_findOverlay 26 = .ok (.invokevirtual 162, 3) := by decide +kernel
theorem dX11_findOverlay_29 : decode cX11_findOverlay 29 = .ok (.areturn, 1) := by decide +kernel
theorem dX11_gram_0 : decode cX11_gram 0 = .ok (.aload_n 0, 1) := by decide +kernel
theorem dX11_gram_1 : decode cX11_gram 1 = .ok (.getfield 35, 3) := by decide +kernel
theorem dX11_gram_4 : decode cX11_gram 4 = .ok (.iload_n 1, 1) := by decide +kernel
theorem dX11_gram_5 : decode cX11_gram 5 = .ok (.invokevirtual 166, 3) := by decide +kernel
theorem dX11_gram_8 : decode cX11_gram 8 = .ok (.astore 6, 2) := by decide +kernel
theorem dX11_gram_10 : decode cX11_gram 10 = .ok (.aload 6, 2) := by decide +kernel
theorem dX11_gram_12 : decode cX11_gram 12 = .ok (.ifnull 24, 3) := by decide +kernel
theorem dX11_gram_15 : decode cX11_gram 15 = .ok (.iload_n 2, 1) := by decide +kernel
theorem dX11_gram_16 : decode cX11_gram 16 = .ok (.iconst 1, 1) := by decide +kernel
theorem dX11_gram_17 : decode cX11_gram 17 = .ok (.bipush 12, 2) := by decide +kernel
theorem dX11_gram_19 : decode cX11_gram 19 = .ok (.invokestatic 65, 3) := by decide +kernel
theorem dX11_gram_22 : decode cX11_gram 22 = .ok (.ifCond .eq 14, 3) := by decide +kernel
theorem dX11_gram_25 : decode cX11_gram 25 = .ok (.iload 5, 2) := by decide +kernel
theorem dX11_gram_27 : decode cX11_gram 27 = .ok (.iconst 1, 1) := by decide +kernel
theorem dX11_gram_28 : decode cX11_gram 28 = .ok (.bipush 8, 2) := by decide +kernel
theorem dX11_gram_30 : decode cX11_gram 30 = .ok (.invokestatic 65, 3) := by decide +kernel
theorem dX11_gram_33 : decode cX11_gram 33 = .ok (.ifCond .ne 5, 3) := by decide +kernel
theorem dX11_gram_36 : decode cX11_gram 36 = .ok (.iconst (-1), 1) := by decide +kernel
theorem dX11_gram_37 : decode cX11_gram 37 = .ok (.ireturn, 1) := by decide +kernel
theorem dX11_gram_38 : decode cX11_gram 38 = .ok (.iload_n 2, 1) := by decide +kernel
theorem dX11_gram_39 : decode cX11_gram 39 = .ok (.iload_n 3, 1) := by decide +kernel
theorem dX11_gram_40 : decode cX11_gram 40 = .ok (.iload 5, 2) := by decide +kernel
theorem dX11_gram_42 : decode cX11_gram 42 = .ok (.invokestatic 169, 3) := by decide +kernel
theorem dX11_gram_45 : decode cX11_gram 45 = .ok (.ifCond .eq 24, 3) := by decide +kernel
theorem dX11_gram_48 : decode cX11_gram 48 = .ok (.iload 4, 2) := by decide +kernel
theorem dX11_gram_50 : decode cX11_gram 50 = .ok (.iconst 0, 1) := by decide +kernel
theorem dX11_gram_51 : decode cX11_gram 51 = .ok (.iload_n 2, 1) := by decide +kernel
theorem dX11_gram_52 : decode cX11_gram 52 = .ok (.bipush 10, 2) := by decide +kernel
theorem dX11_gram_54 : decode cX11_gram 54 = .ok (.if_icmp .ge 8, 3) := by decide +kernel
theorem dX11_gram_57 : decode cX11_gram 57 = .ok (.bipush 15, 2) := by decide +kernel
theorem dX11_gram_59 : decode cX11_gram 59 = .ok (.goto 4, 3) := by decide +kernel
theorem dX11_gram_62 : decode cX11_gram 62 = .ok (.iconst 0, 1) := by decide +kernel
theorem dX11_gram_63 : decode cX11_gram 63 = .ok (.invokestatic 65, 3) := by decide +kernel
theorem dX11_gram_66 : decode cX11_gram 66 = .ok (.ifCond .ne 5, 3) := by decide +kernel
theorem dX11_gram_69 : decode cX11_gram 69 = .ok (.iconst (-1), 1) := by decide +kernel
theorem dX11_gram_70 : decode cX11_gram 70 = .ok (.ireturn, 1) := by decide +kernel
theorem dX11_gram_71 : decode cX11_gram 71 = .ok (.aload 6, 2) := by decide +kernel
theorem dX11_gram_73 : decode cX11_gram 73 = .ok (.getfield 172, 3) := by decide +kernel
theorem dX11_gram_76 : decode cX11_gram 76 = .ok (.istore 7, 2) := by decide +kernel
theorem dX11_gram_78 : decode cX11_gram 78 = .ok (.aload 6, 2) := by decide +kernel
theorem dX11_gram_80 : decode cX11_gram 80 = .ok (.iload_n 2, 1) := by decide +kernel
theorem dX11_gram_81 : decode cX11_gram 81 = .ok (.iload_n 3, 1) := by decide +kernel
theorem dX11_gram_82 : decode cX11_gram 82 = .ok (.iload 4, 2) := by decide +kernel
theorem dX11_gram_84 : decode cX11_gram 84 = .ok (.iload 5, 2) := by decide +kernel
theorem dX11_gram_86 : decode cX11_gram 86 = .ok (.invokevirtual 177, 3) := by decide +kernel
theorem dX11_gram_89 : decode cX11_gram 89 = .ok (.iload 7, 2) := by decide +kernel
theorem dX11_gram_91 : decode cX11_gram 91 = .ok (.ireturn, 1) := by decide +kernel
theorem dX11_isAddress_0 : decode cX11_isAddress 0 = .ok (.iload_n 0, 1) := by decide +kernel
theorem dX11_isAddress_1 : decode cX11_isAddress 1 = .ok (.iconst 3, 1) := by decide +kernel
theorem dX11_isAddress_2 : decode cX11_isAddress 2 = .ok (.if_icmp .gt 11, 3) := by decide +kernel
theorem dX11_isAddress_5 : decode cX11_isAddress 5 = .ok (.iload_n 1, 1) := by decide +kernel
theorem dX11_isAddress_6 : decode cX11_isAddress 6 = .ok (.iconst 0, 1) := by decide +kernel
theorem dX11_isAddress_7 : decode cX11_isAddress 7 = .ok (.bipush 7, 2) := by decide +kernel
theorem dX11_isAddress_9 : decode cX11_isAddress 9 = .ok (.invokestatic 65, 3) := by decide +kernel
theorem dX11_isAddress_12 : decode cX11_isAddress 12 = .ok (.ireturn, 1) := by decide +kernel
theorem dX11_isAddress_13 : decode cX11_isAddress 13 = .ok (.iload_n 0, 1) := by decide +kernel
theorem dX11_isAddress_14 : decode cX11_isAddress 14 = .ok (.bipush 6, 2) := by decide +kernel
theorem dX11_isAddress_16 : decode cX11_isAddress 16 = .ok (.if_icmp .gt 11, 3) := by decide +kernel
theorem dX11_isAddress_19 : decode cX11_isAddress 19 = .ok (.iload_n 1, 1) := by decide +kernel
theorem dX11_isAddress_20 : decode cX11_isAddress 20 = .ok (.iconst 1, 1) := by decide +kernel
theorem dX11_isAddress_21 : decode cX11_isAddress 21 = .ok (.bipush 99, 2) := by decide +kernel
theorem dX11_isAddress_23 : decode cX11_isAddress 23 = .ok (.invokestatic 65, 3) := by decide +kernel
theorem dX11_isAddress_26 : decode cX11_isAddress 26 = .ok (.ireturn, 1) := by decide +kernel
theorem dX11_isAddress_27 : decode cX11_isAddress 27 = .ok (.iload_n 1, 1) := by decide +kernel
theorem dX11_isAddress_28 : decode cX11_isAddress 28 = .ok (.iconst 0, 1) := by decide +kernel
theorem dX11_isAddress_29 : decode cX11_isAddress 29 = .ok (.iload_n 0, 1) := by decide +kernel
theorem dX11_isAddress_30 : decode cX11_isAddress 30 = .ok (.bipush 9, 2) := by decide +kernel
theorem dX11_isAddress_32 : decode cX11_isAddress 32 = .ok (.if_icmp .gt 7, 3) := by decide +kernel
theorem dX11_isAddress_35 : decode cX11_isAddress 35 = .ok (.iconst 0, 1) := by decide +kernel
theorem dX11_isAddress_36 : decode cX11_isAddress 36 = .ok (.goto 7, 3) := by decide +kernel
theorem dX11_isAddress_39 : decode cX11_isAddress 39 = .ok (.bipush 32, 2) := by decide +kernel
theorem dX11_isAddress_41 : decode cX11_isAddress 41 = .ok (.iload_n 2, 1) := by decide +kernel
theorem dX11_isAddress_42 : decode cX11_isAddress 42 = .ok (.isub, 1) := by decide +kernel
theorem dX11_isAddress_43 : decode cX11_isAddress 43 = .ok (.invokestatic 65, 3) := by decide +kernel
theorem dX11_isAddress_46 : decode cX11_isAddress 46 = .ok (.ireturn, 1) := by decide +kernel
theorem dX11_clear_0 : decode cX11_clear 0 = .ok (.aload_n 0, 1) := by decide +kernel
theorem dX11_clear_1 : decode cX11_clear 1 = .ok (.getfield 35, 3) := by decide +kernel
theorem dX11_clear_4 : decode cX11_clear 4 = .ok (.iload_n 1, 1) := by decide +kernel
theorem dX11_clear_5 : decode cX11_clear 5 = .ok (.invokevirtual 166, 3) := by decide +kernel
theorem dX11_clear_8 : decode cX11_clear 8 = .ok (.astore_n 2, 1) := by decide +kernel
theorem dX11_clear_9 : decode cX11_clear 9 = .ok (.aload_n 2, 1) := by decide +kernel
theorem dX11_clear_10 : decode cX11_clear 10 = .ok (.ifnonnull 5, 3) := by decide +kernel
theorem dX11_clear_13 : decode cX11_clear 13 = .ok (.iconst (-1), 1) := by decide +kernel
theorem dX11_clear_14 : decode cX11_clear 14 = .ok (.ireturn, 1) := by decide +kernel
theorem dX11_clear_15 : decode cX11_clear 15 = .ok (.aload_n 2, 1) := by decide +kernel
theorem dX11_clear_16 : decode cX11_clear 16 = .ok (.getfield 172, 3) := by decide +kernel
theorem dX11_clear_19 : decode cX11_clear 19 = .ok (.ifCond .ne 6, 3) := by decide +kernel
theorem dX11_clear_22 : decode cX11_clear 22 = .ok (.bipush (-2), 2) := by decide +kernel
theorem dX11_clear_24 : decode cX11_clear 24 = .ok (.ireturn, 1) := by decide +kernel
theorem dX11_clear_25 : decode cX11_clear 25 = .ok (.aload_n 2, 1) := by decide +kernel
theorem dX11_clear_26 : decode cX11_clear 26 = .ok (.getfield 172, 3) := by decide +kernel
theorem dX11_clear_29 : decode cX11_clear 29 = .ok (.istore_n 3, 1) := by decide +kernel
theorem dX11_clear_30 : decode cX11_clear 30 = .ok (.aload_n 2, 1) := by decide +kernel
theorem dX11_clear_31 : decode cX11_clear 31 = .ok (.iconst 0, 1) := by decide +kernel
theorem dX11_clear_32 : decode cX11_clear 32 = .ok (.putfield 172, 3) := by decide +kernel
theorem dX11_clear_35 : decode cX11_clear 35 = .ok (.iload_n 3, 1) := by decide +kernel
theorem dX11_clear_36 : decode cX11_clear 36 = .ok (.ireturn, 1) := by decide +kernel
theorem dX11_put_0 : decode cX11_put 0 = .ok (.aload_n 0, 1) := by decide +kernel
theorem dX11_put_1 : decode cX11_put 1 = .ok (.getfield 35, 3) := by decide +kernel
theorem dX11_put_4 : decode cX11_put 4 = .ok (.iload_n 1, 1) := by decide +kernel
theorem dX11_put_5 : decode cX11_put 5 = .ok (.invokevirtual 166, 3) := by decide +kernel
theorem dX11_put_8 : decode cX11_put 8 = .ok (.astore 4, 2) := by decide +kernel
theorem dX11_put_10 : decode cX11_put 10 = .ok (.aload 4, 2) := by decide +kernel
theorem dX11_put_12 : decode cX11_put 12 = .ok (.ifnull 20, 3) := by decide +kernel
theorem dX11_put_15 : decode cX11_put 15 = .ok (.iload_n 2, 1) := by decide +kernel
theorem dX11_put_16 : decode cX11_put 16 = .ok (.iconst 0, 1) := by decide +kernel
theorem dX11_put_17 : decode cX11_put 17 = .ok (.bipush 7, 2) := by decide +kernel
theorem dX11_put_19 : decode cX11_put 19 = .ok (.invokestatic 65, 3) := by decide +kernel
theorem dX11_put_22 : decode cX11_put 22 = .ok (.ifCond .eq 10, 3) := by decide +kernel
theorem dX11_put_25 : decode cX11_put 25 = .ok (.iload_n 3, 1) := by decide +kernel
theorem dX11_put_26 : decode cX11_put 26 = .ok (.invokestatic 116, 3) := by decide +kernel
theorem dX11_put_29 : decode cX11_put 29 = .ok (.ifCond .ne 5, 3) := by decide +kernel
theorem dX11_put_32 : decode cX11_put 32 = .ok (.iconst (-1), 1) := by decide +kernel
theorem dX11_put_33 : decode cX11_put 33 = .ok (.ireturn, 1) := by decide +kernel
theorem dX11_put_34 : decode cX11_put 34 = .ok (.aload 4, 2) := by decide +kernel
theorem dX11_put_36 : decode cX11_put 36 = .ok (.getfield 181, 3) := by decide +kernel
theorem dX11_put_39 : decode cX11_put 39 = .ok (.iload_n 2, 1) := by decide +kernel
theorem dX11_put_40 : decode cX11_put 40 = .ok (.iaload, 1) := by decide +kernel
theorem dX11_put_41 : decode cX11_put 41 = .ok (.istore 5, 2) := by decide +kernel
theorem dX11_put_43 : decode cX11_put 43 = .ok (.aload 4, 2) := by decide +kernel
theorem dX11_put_45 : decode cX11_put 45 = .ok (.getfield 181, 3) := by decide +kernel
theorem dX11_put_48 : decode cX11_put 48 = .ok (.iload_n 2, 1) := by decide +kernel
theorem dX11_put_49 : decode cX11_put 49 = .ok (.iload_n 3, 1) := by decide +kernel
theorem dX11_put_50 : decode cX11_put 50 = .ok (.iastore, 1) := by decide +kernel
theorem dX11_put_51 : decode cX11_put 51 = .ok (.iload 5, 2) := by decide +kernel
theorem dX11_put_53 : decode cX11_put 53 = .ok (.ireturn, 1) := by decide +kernel
theorem dX11_send_0 : decode cX11_send 0 = .ok (.aload_n 0, 1) := by decide +kernel
theorem dX11_send_1 : decode cX11_send 1 = .ok (.getfield 35, 3) := by decide +kernel
theorem dX11_send_4 : decode cX11_send 4 = .ok (.invokevirtual 182, 3) := by decide +kernel
theorem dX11_send_7 : decode cX11_send 7 = .ok (.ifCond .eq 13, 3) := by decide +kernel
theorem dX11_send_10 : decode cX11_send 10 = .ok (.aload_n 0, 1) := by decide +kernel
theorem dX11_send_11 : decode cX11_send 11 = .ok (.getfield 35, 3) := by decide +kernel
theorem dX11_send_14 : decode cX11_send 14 = .ok (.invokevirtual 185, 3) := by decide +kernel
theorem dX11_send_17 : decode cX11_send 17 = .ok (.goto 5, 3) := by decide +kernel
theorem dX11_send_20 : decode cX11_send 20 = .ok (.bipush (-2), 2) := by decide +kernel
theorem dX11_send_22 : decode cX11_send 22 = .ok (.ireturn, 1) := by decide +kernel
theorem dX11_home_0 : decode cX11_home 0 = .ok (.aload_n 0, 1) := by decide +kernel
theorem dX11_home_1 : decode cX11_home 1 = .ok (.getfield 35, 3) := by decide +kernel
theorem dX11_home_4 : decode cX11_home 4 = .ok (.iload_n 1, 1) := by decide +kernel
theorem dX11_home_5 : decode cX11_home 5 = .ok (.invokevirtual 166, 3) := by decide +kernel
theorem dX11_home_8 : decode cX11_home 8 = .ok (.astore_n 3, 1) := by decide +kernel
theorem dX11_home_9 : decode cX11_home 9 = .ok (.aload_n 3, 1) := by decide +kernel
theorem dX11_home_10 : decode cX11_home 10 = .ok (.ifnull 13, 3) := by decide +kernel
theorem dX11_home_13 : decode cX11_home 13 = .ok (.iload_n 2, 1) := by decide +kernel
theorem dX11_home_14 : decode cX11_home 14 = .ok (.iconst (-1), 1) := by decide +kernel
theorem dX11_home_15 : decode cX11_home 15 = .ok (.bipush 7, 2) := by decide +kernel
theorem dX11_home_17 : decode cX11_home 17 = .ok (.invokestatic 65, 3) := by decide +kernel
theorem dX11_home_20 : decode cX11_home 20 = .ok (.ifCond .ne 5, 3) := by decide +kernel
theorem dX11_home_23 : decode cX11_home 23 = .ok (.iconst (-1), 1) := by decide +kernel
theorem dX11_home_24 : decode cX11_home 24 = .ok (.ireturn, 1) := by decide +kernel
theorem dX11_home_25 : decode cX11_home 25 = .ok (.aload_n 3, 1) := by decide +kernel
theorem dX11_home_26 : decode cX11_home 26 = .ok (.getfield 188, 3) := by decide +kernel
theorem dX11_home_29 : decode cX11_home 29 = .ok (.ifCond .eq 11, 3) := by decide +kernel
theorem dX11_home_32 : decode cX11_home 32 = .ok (.iload_n 2, 1) := by decide +kernel
theorem dX11_home_33 : decode cX11_home 33 = .ok (.aload_n 3, 1) := by decide +kernel
theorem dX11_home_34 : decode cX11_home 34 = .ok (.getfield 188, 3) := by decide +kernel
theorem dX11_home_37 : decode cX11_home 37 = .ok (.if_icmp .lt 6, 3) := by decide +kernel
theorem dX11_home_40 : decode cX11_home 40 = .ok (.bipush (-4), 2) := by decide +kernel
theorem dX11_home_42 : decode cX11_home 42 = .ok (.ireturn, 1) := by decide +kernel
theorem dX11_home_43 : decode cX11_home 43 = .ok (.iload_n 2, 1) := by decide +kernel
theorem dX11_home_44 : decode cX11_home 44 = .ok (.ifCond .ge 10, 3) := by decide +kernel
theorem dX11_home_47 : decode cX11_home 47 = .ok (.aload_n 3, 1) := by decide +kernel
theorem dX11_home_48 : decode cX11_home 48 = .ok (.getfield 191, 3) := by decide +kernel
theorem dX11_home_51 : decode cX11_home 51 = .ok (.goto 9, 3) := by decide +kernel
theorem dX11_home_54 : decode cX11_home 54 = .ok (.aload_n 3, 1) := by decide +kernel
theorem dX11_home_55 : decode cX11_home 55 = .ok (.getfield 194, 3) := by decide +kernel
theorem dX11_home_58 : decode cX11_home 58 = .ok (.iload_n 2, 1) := by decide +kernel
theorem dX11_home_59 : decode cX11_home 59 = .ok (.iaload, 1) := by decide +kernel
theorem dX11_home_60 : decode cX11_home 60 = .ok (.ireturn, 1) := by decide +kernel
theorem dX11_expected_0 : decode cX11_expected 0 = .ok (.aload_n 0, 1) := by decide +kernel
theorem dX11_expected_1 : decode cX11_expected 1 = .ok (.getfield 35, 3) := by decide +kernel
theorem dX11_expected_4 : decode cX11_expected 4 = .ok (.iload_n 1, 1) := by decide +kernel
theorem dX11_expected_5 : decode cX11_expected 5 = .ok (.invokevirtual 166, 3) := by decide +kernel
theorem dX11_expected_8 : decode cX11_expected 8 = .ok (.astore_n 2, 1) := by decide +kernel
theorem dX11_expected_9 : decode cX11_expected 9 = .ok (.aload_n 2, 1) := by decide +kernel
theorem dX11_expected_10 : decode cX11_expected 10 = .ok (.ifnonnull 5, 3) := by decide +kernel
theorem dX11_expected_13 : decode cX11_expected 13 = .ok (.iconst (-1), 1) := by decide +kernel
theorem dX11_expected_14 : decode cX11_expected 14 = .ok (.ireturn, 1) := by decide +kernel
theorem dX11_expected_15 : decode cX11_expected 15 = .ok (.aload_n 2, 1) := by decide +kernel
theorem dX11_expected_16 : decode cX11_expected 16 = .ok (.getfield 172, 3) := by decide +kernel
theorem dX11_expected_19 : decode cX11_expected 19 = .ok (.ifCond .ne 8, 3) := by decide +kernel
theorem dX11_expected_22 : decode cX11_expected 22 = .ok (.bipush (-4), 2) := by decide +kernel
theorem dX11_expected_24 : decode cX11_expected 24 = .ok (.goto 11, 3) := by decide +kernel
theorem dX11_expected_27 : decode cX11_expected 27 = .ok (.aload_n 0, 1) := by decide +kernel
theorem dX11_expected_28 : decode cX11_expected 28 = .ok (.getfield 35, 3) := by decide +kernel
theorem dX11_expected_31 : decode cX11_expected 31 = .ok (.aload_n 2, 1) := by decide +kernel
theorem dX11_expected_32 : decode cX11_expected 32 = .ok (.invokevirtual 197, 3) := by decide +kernel
theorem dX11_expected_35 : decode cX11_expected 35 = .ok (.ireturn, 1) := by decide +kernel
theorem dX11_tell_0 : decode cX11_tell 0 = .ok (.aload_n 0, 1) := by decide +kernel
theorem dX11_tell_1 : decode cX11_tell 1 = .ok (.getfield 19, 3) := by decide +kernel
theorem dX11_tell_4 : decode cX11_tell 4 = .ok (.iload_n 1, 1) := by decide +kernel
theorem dX11_tell_5 : decode cX11_tell 5 = .ok (.invokevirtual 79, 3) := by decide +kernel
theorem dX11_tell_8 : decode cX11_tell 8 = .ok (.astore_n 3, 1) := by decide +kernel
theorem dX11_tell_9 : decode cX11_tell 9 = .ok (.aload_n 3, 1) := by decide +kernel
theorem dX11_tell_10 : decode cX11_tell 10 = .ok (.ifnull 10, 3) := by decide +kernel
theorem dX11_tell_13 : decode cX11_tell 13 = .ok (.iload_n 2, 1) := by decide +kernel
theorem dX11_tell_14 : decode cX11_tell 14 = .ok (.invokestatic 201, 3) := by decide +kernel
theorem dX11_tell_17 : decode cX11_tell 17 = .ok (.ifCond .ne 5, 3) := by decide +kernel
theorem dX11_tell_20 : decode cX11_tell 20 = .ok (.iconst (-1), 1) := by decide +kernel
theorem dX11_tell_21 : decode cX11_tell 21 = .ok (.ireturn, 1) := by decide +kernel
theorem dX11_tell_22 : decode cX11_tell 22 = .ok (.aload_n 3, 1) := by decide +kernel
theorem dX11_tell_23 : decode cX11_tell 23 = .ok (.getfield 204, 3) := by decide +kernel
theorem dX11_tell_26 : decode cX11_tell 26 = .ok (.getfield 208, 3) := by decide +kernel
theorem dX11_tell_29 : decode cX11_tell 29 = .ok (.iload_n 2, 1) := by decide +kernel
theorem dX11_tell_30 : decode cX11_tell 30 = .ok (.invokevirtual 214, 3) := by decide +kernel
theorem dX11_tell_33 : decode cX11_tell 33 = .ok (.ifCond .eq 16, 3) := by decide +kernel
theorem dX11_tell_36 : decode cX11_tell 36 = .ok (.aload_n 3, 1) := by decide +kernel
theorem dX11_tell_37 : decode cX11_tell 37 = .ok (.getfield 204, 3) := by decide +kernel
theorem dX11_tell_40 : decode cX11_tell 40 = .ok (.getfield 208, 3) := by decide +kernel
theorem dX11_tell_43 : decode cX11_tell 43 = .ok (.invokevirtual 218, 3) := by decide +kernel
theorem dX11_tell_46 : decode cX11_tell 46 = .ok (.goto 5, 3) := by decide +kernel
theorem dX11_tell_49 : decode cX11_tell 49 = .ok (.bipush (-3), 2) := by decide +kernel
theorem dX11_tell_51 : decode cX11_tell 51 = .ok (.ireturn, 1) := by decide +kernel
theorem dX11_take_0 : decode cX11_take 0 = .ok (.aload_n 0, 1) := by decide +kernel
theorem dX11_take_1 : decode cX11_take 1 = .ok (.getfield 19, 3) := by decide +kernel
theorem dX11_take_4 : decode cX11_take 4 = .ok (.iload_n 1, 1) := by decide +kernel
theorem dX11_take_5 : decode cX11_take 5 = .ok (.invokevirtual 79, 3) := by decide +kernel
theorem dX11_take_8 : decode cX11_take 8 = .ok (.astore_n 2, 1) := by decide +kernel
theorem dX11_take_9 : decode cX11_take 9 = .ok (.aload_n 2, 1) := by decide +kernel
theorem dX11_take_10 : decode cX11_take 10 = .ok (.ifnonnull 5, 3) := by decide +kernel
theorem dX11_take_13 : decode cX11_take 13 = .ok (.iconst (-1), 1) := by decide +kernel
theorem dX11_take_14 : decode cX11_take 14 = .ok (.ireturn, 1) := by decide +kernel
theorem dX11_take_15 : decode cX11_take 15 = .ok (.aload_n 2, 1) := by decide +kernel
theorem dX11_take_16 : decode cX11_take 16 = .ok (.getfield 204, 3) := by decide +kernel
theorem dX11_take_19 : decode cX11_take 19 = .ok (.getfield 219, 3) := by decide +kernel
theorem dX11_take_22 : decode cX11_take 22 = .ok (.invokevirtual 222, 3) := by decide +kernel
theorem dX11_take_25 : decode cX11_take 25 = .ok (.istore_n 3, 1) := by decide +kernel
theorem dX11_take_26 : decode cX11_take 26 = .ok (.iload_n 3, 1) := by decide +kernel
theorem dX11_take_27 : decode cX11_take 27 = .ok (.ifCond .ne 8, 3) := by decide +kernel
theorem dX11_take_30 : decode cX11_take 30 = .ok (.bipush (-4), 2) := by decide +kernel
theorem dX11_take_32 : decode cX11_take 32 = .ok (.goto 4, 3) := by decide +kernel
theorem dX11_take_35 : decode cX11_take 35 = .ok (.iload_n 3, 1) := by decide +kernel
theorem dX11_take_36 : decode cX11_take 36 = .ok (.ireturn, 1) := by decide +kernel
theorem dX11_fetch_0 : decode cX11_fetch 0 = .ok (.aload_n 0, 1) := by decide +kernel
theorem dX11_fetch_1 : decode cX11_fetch 1 = .ok (.getfield 19, 3) := by decide +kernel
theorem dX11_fetch_4 : decode cX11_fetch 4 = .ok (.iload_n 1, 1) := by decide +kernel
theorem dX11_fetch_5 : decode cX11_fetch 5 = .ok (.invokevirtual 79, 3) := by decide +kernel
theorem dX11_fetch_8 : decode cX11_fetch 8 = .ok (.astore_n 2, 1) := by decide +kernel
theorem dX11_fetch_9 : decode cX11_fetch 9 = .ok (.aload_n 2, 1) := by decide +kernel
theorem dX11_fetch_10 : decode cX11_fetch 10 = .ok (.ifnonnull 5, 3) := by decide +kernel
theorem dX11_fetch_13 : decode cX11_fetch 13 = .ok (.iconst (-1), 1) := by decide +kernel
theorem dX11_fetch_14 : decode cX11_fetch 14 = .ok (.ireturn, 1) := by decide +kernel
theorem dX11_fetch_15 : decode cX11_fetch 15 = .ok (.aload_n 0, 1) := by decide +kernel
theorem dX11_fetch_16 : decode cX11_fetch 16 = .ok (.getfield 19, 3) := by decide +kernel
theorem dX11_fetch_19 : decode cX11_fetch 19 = .ok (.iload_n 1, 1) := by decide +kernel
theorem dX11_fetch_20 : decode cX11_fetch 20 = .ok (.invokevirtual 225, 3) := by decide +kernel
theorem dX11_fetch_23 : decode cX11_fetch 23 = .ok (.ifCond .ne 6, 3) := by decide +kernel
theorem dX11_fetch_26 : decode cX11_fetch 26 = .ok (.bipush (-2), 2) := by decide +kernel
theorem dX11_fetch_28 : decode cX11_fetch 28 = .ok (.ireturn, 1) := by decide +kernel
theorem dX11_fetch_29 : decode cX11_fetch 29 = .ok (.aload_n 2, 1) := by decide +kernel
theorem dX11_fetch_30 : decode cX11_fetch 30 = .ok (.getfield 204, 3) := by decide +kernel
theorem dX11_fetch_33 : decode cX11_fetch 33 = .ok (.invokevirtual 228, 3) := by decide +kernel
theorem dX11_fetch_36 : decode cX11_fetch 36 = .ok (.istore_n 3, 1) := by decide +kernel
theorem dX11_fetch_37 : decode cX11_fetch 37 = .ok (.aload_n 0, 1) := by decide +kernel
theorem dX11_fetch_38 : decode cX11_fetch 38 = .ok (.getfield 35, 3) := by decide +kernel
theorem dX11_fetch_41 : decode cX11_fetch 41 = .ok (.invokevirtual 231, 3) := by decide +kernel
theorem dX11_fetch_44 : decode cX11_fetch 44 = .ok (.ifCond .ne 6, 3) := by decide +kernel
theorem dX11_fetch_47 : decode cX11_fetch 47 = .ok (.bipush (-5), 2) := by decide +kernel
theorem dX11_fetch_49 : decode cX11_fetch 49 = .ok (.ireturn, 1) := by decide +kernel
theorem dX11_fetch_50 : decode cX11_fetch 50 = .ok (.iload_n 3, 1) := by decide +kernel
theorem dX11_fetch_51 : decode cX11_fetch 51 = .ok (.ifCond .ne 6, 3) := by decide +kernel
theorem dX11_fetch_54 : decode cX11_fetch 54 = .ok (.bipush (-4), 2) := by decide +kernel
theorem dX11_fetch_56 : decode cX11_fetch 56 = .ok (.ireturn, 1) := by decide +kernel
theorem dX11_fetch_57 : decode cX11_fetch 57 = .ok (.aload_n 2, 1) := by decide +kernel
theorem dX11_fetch_58 : decode cX11_fetch 58 = .ok (.getfield 204, 3) := by decide +kernel
theorem dX11_fetch_61 : decode cX11_fetch 61 = .ok (.invokevirtual 234, 3) := by decide +kernel
theorem dX11_fetch_64 : decode cX11_fetch 64 = .ok (.iload_n 3, 1) := by decide +kernel
theorem dX11_fetch_65 : decode cX11_fetch 65 = .ok (.ireturn, 1) := by decide +kernel
theorem dX11_push_0 : decode cX11_push 0 = .ok (.aload_n 0, 1) := by decide +kernel
theorem dX11_push_1 : decode cX11_push 1 = .ok (.getfield 19, 3) := by decide +kernel
theorem dX11_push_4 : decode cX11_push 4 = .ok (.iload_n 1, 1) := by decide +kernel
theorem dX11_push_5 : decode cX11_push 5 = .ok (.invokevirtual 79, 3) := by decide +kernel
theorem dX11_push_8 : decode cX11_push 8 = .ok (.astore_n 3, 1) := by decide +kernel
theorem dX11_push_9 : decode cX11_push 9 = .ok (.aload_n 3, 1) := by decide +kernel
theorem dX11_push_10 : decode cX11_push 10 = .ok (.ifnull 10, 3) := by decide +kernel
theorem dX11_push_13 : decode cX11_push 13 = .ok (.iload_n 2, 1) := by decide +kernel
theorem dX11_push_14 : decode cX11_push 14 = .ok (.invokestatic 201, 3) := by decide +kernel
theorem dX11_push_17 : decode cX11_push 17 = .ok (.ifCond .ne 5, 3) := by decide +kernel
theorem dX11_push_20 : decode cX11_push 20 = .ok (.iconst (-1), 1) := by decide +kernel
theorem dX11_push_21 : decode cX11_push 21 = .ok (.ireturn, 1) := by decide +kernel
theorem dX11_push_22 : decode cX11_push 22 = .ok (.aload_n 0, 1) := by decide +kernel
theorem dX11_push_23 : decode cX11_push 23 = .ok (.getfield 19, 3) := by decide +kernel
theorem dX11_push_26 : decode cX11_push 26 = .ok (.iload_n 1, 1) := by decide +kernel
theorem dX11_push_27 : decode cX11_push 27 = .ok (.invokevirtual 225, 3) := by decide +kernel
theorem dX11_push_30 : decode cX11_push 30 = .ok (.ifCond .eq 13, 3) := by decide +kernel
theorem dX11_push_33 : decode cX11_push 33 = .ok (.aload_n 3, 1) := by decide +kernel
theorem dX11_push_34 : decode cX11_push 34 = .ok (.getfield 204, 3) := by decide +kernel
theorem dX11_push_37 : decode cX11_push 37 = .ok (.getfield 237, 3) := by decide +kernel
theorem dX11_push_40 : decode cX11_push 40 = .ok (.ifCond .eq 6, 3) := by decide +kernel
theorem dX11_push_43 : decode cX11_push 43 = .ok (.bipush (-2), 2) := by decide +kernel
theorem dX11_push_45 : decode cX11_push 45 = .ok (.ireturn, 1) := by decide +kernel
theorem dX11_push_46 : decode cX11_push 46 = .ok (.aload_n 0, 1) := by decide +kernel
theorem dX11_push_47 : decode cX11_push 47 = .ok (.aload_n 3, 1) := by decide +kernel
theorem dX11_push_48 : decode cX11_push 48 = .ok (.getfield 204, 3) := by decide +kernel
theorem dX11_push_51 : decode cX11_push 51 = .ok (.iload_n 2, 1) := by decide +kernel
theorem dX11_push_52 : decode cX11_push 52 = .ok (.invokevirtual 240, 3) := by decide +kernel
theorem dX11_push_55 : decode cX11_push 55 = .ok (.ireturn, 1) := by decide +kernel
theorem dX11_again_0 : decode cX11_again 0 = .ok (.aload_n 0, 1) := by decide +kernel
theorem dX11_again_1 : decode cX11_again 1 = .ok (.getfield 19, 3) := by decide +kernel
theorem dX11_again_4 : decode cX11_again 4 = .ok (.iload_n 1, 1) := by decide +kernel
theorem dX11_again_5 : decode cX11_again 5 = .ok (.invokevirtual 79, 3) := by decide +kernel
theorem dX11_again_8 : decode cX11_again 8 = .ok (.astore_n 2, 1) := by decide +kernel
theorem dX11_again_9 : decode cX11_again 9 = .ok (.aload_n 2, 1) := by decide +kernel
theorem dX11_again_10 : decode cX11_again 10 = .ok (.ifnonnull 5, 3) := by decide +kernel
theorem dX11_again_13 : decode cX11_again 13 = .ok (.iconst (-1), 1) := by decide +kernel
theorem dX11_again_14 : decode cX11_again 14 = .ok (.ireturn, 1) := by decide +kernel
theorem dX11_again_15 : decode cX11_again 15 = .ok (.aload_n 0, 1) := by decide +kernel
theorem dX11_again_16 : decode cX11_again 16 = .ok (.getfield 19, 3) := by decide +kernel
theorem dX11_again_19 : decode cX11_again 19 = .ok (.iload_n 1, 1) := by decide +kernel
theorem dX11_again_20 : decode cX11_again 20 = .ok (.invokevirtual 225, 3) := by decide +kernel
theorem dX11_again_23 : decode cX11_again 23 = .ok (.ifCond .eq 13, 3) := by decide +kernel
theorem dX11_again_26 : decode cX11_again 26 = .ok (.aload_n 2, 1) := by decide +kernel
theorem dX11_again_27 : decode cX11_again 27 = .ok (.getfield 204, 3) := by decide +kernel
theorem dX11_again_30 : decode cX11_again 30 = .ok (.getfield 237, 3) := by decide +kernel
theorem dX11_again_33 : decode cX11_again 33 = .ok (.ifCond .ne 6, 3) := by decide +kernel
theorem dX11_again_36 : decode cX11_again 36 = .ok (.bipush (-2), 2) := by decide +kernel
theorem dX11_again_38 : decode cX11_again 38 = .ok (.ireturn, 1) := by decide +kernel
theorem dX11_again_39 : decode cX11_again 39 = .ok (.aload_n 0, 1) := by decide +kernel
theorem dX11_again_40 : decode cX11_again 40 = .ok (.aload_n 2, 1) := by decide +kernel
theorem dX11_again_41 : decode cX11_again 41 = .ok (.getfield 204, 3) := by decide +kernel
theorem dX11_again_44 : decode cX11_again 44 = .ok (.aload_n 2, 1) := by decide +kernel
theorem dX11_again_45 : decode cX11_again 45 = .ok (.getfield 204, 3) := by decide +kernel
theorem dX11_again_48 : decode cX11_again 48 = .ok (.getfield 237, 3) := by decide +kernel
theorem dX11_again_51 : decode cX11_again 51 = .ok (.invokevirtual 240, 3) := by decide +kernel
theorem dX11_again_54 : decode cX11_again 54 = .ok (.ireturn, 1) := by decide +kernel
theorem dX11_deliver_0 : decode cX11_deliver 0 = .ok (.aload_n 1, 1) := by decide +kernel
theorem dX11_deliver_1 : decode cX11_deliver 1 = .ok (.iload_n 2, 1) := by decide +kernel
theorem dX11_deliver_2 : decode cX11_deliver 2 = .ok (.invokevirtual 244, 3) := by decide +kernel
theorem dX11_deliver_5 : decode cX11_deliver 5 = .ok (.istore_n 3, 1) := by decide +kernel
theorem dX11_deliver_6 : decode cX11_deliver 6 = .ok (.aload_n 0, 1) := by decide +kernel
theorem dX11_deliver_7 : decode cX11_deliver 7 = .ok (.getfield 35, 3) := by decide +kernel
theorem dX11_deliver_10 : decode cX11_deliver 10 = .ok (.invokevirtual 231, 3) := by decide +kernel
theorem dX11_deliver_13 : decode cX11_deliver 13 = .ok (.ifCond .ne 11, 3) := by decide +kernel
theorem dX11_deliver_16 : decode cX11_deliver 16 = .ok (.aload_n 1, 1) := by decide +kernel
theorem dX11_deliver_17 : decode cX11_deliver 17 = .ok (.iload_n 2, 1) := by decide +kernel
theorem dX11_deliver_18 : decode cX11_deliver 18 = .ok (.putfield 237, 3) := by decide +kernel
theorem dX11_deliver_21 : decode cX11_deliver 21 = .ok (.bipush (-5), 2) := by decide +kernel
theorem dX11_deliver_23 : decode cX11_deliver 23 = .ok (.ireturn, 1) := by decide +kernel
theorem dX11_deliver_24 : decode cX11_deliver 24 = .ok (.iload_n 3, 1) := by decide +kernel
theorem dX11_deliver_25 : decode cX11_deliver 25 = .ok (.ifCond .ne 6, 3) := by decide +kernel
theorem dX11_deliver_28 : decode cX11_deliver 28 = .ok (.bipush (-3), 2) := by decide +kernel
theorem dX11_deliver_30 : decode cX11_deliver 30 = .ok (.ireturn, 1) := by decide +kernel
theorem dX11_deliver_31 : decode cX11_deliver 31 = .ok (.aload_n 1, 1) := by decide +kernel
theorem dX11_deliver_32 : decode cX11_deliver 32 = .ok (.invokevirtual 247, 3) := by decide +kernel
theorem dX11_deliver_35 : decode cX11_deliver 35 = .ok (.aload_n 1, 1) := by decide +kernel
theorem dX11_deliver_36 : decode cX11_deliver 36 = .ok (.getfield 219, 3) := by decide +kernel
theorem dX11_deliver_39 : decode cX11_deliver 39 = .ok (.invokevirtual 218, 3) := by decide +kernel
theorem dX11_deliver_42 : decode cX11_deliver 42 = .ok (.ireturn, 1) := by decide +kernel
theorem dX11_box_0 : decode cX11_box 0 = .ok (.aload_n 0, 1) := by decide +kernel
theorem dX11_box_1 : decode cX11_box 1 = .ok (.getfield 19, 3) := by decide +kernel
theorem dX11_box_4 : decode cX11_box 4 = .ok (.iload_n 1, 1) := by decide +kernel
theorem dX11_box_5 : decode cX11_box 5 = .ok (.invokevirtual 79, 3) := by decide +kernel
theorem dX11_box_8 : decode cX11_box 8 = .ok (.astore_n 3, 1) := by decide +kernel
theorem dX11_box_9 : decode cX11_box 9 = .ok (.aload_n 3, 1) := by decide +kernel
theorem dX11_box_10 : decode cX11_box 10 = .ok (.ifnull 13, 3) := by decide +kernel
theorem dX11_box_13 : decode cX11_box 13 = .ok (.iload_n 2, 1) := by decide +kernel
theorem dX11_box_14 : decode cX11_box 14 = .ok (.iconst 0, 1) := by decide +kernel
theorem dX11_box_15 : decode cX11_box 15 = .ok (.bipush 7, 2) := by decide +kernel
theorem dX11_box_17 : decode cX11_box 17 = .ok (.invokestatic 65, 3) := by decide +kernel
theorem dX11_box_20 : decode cX11_box 20 = .ok (.ifCond .ne 5, 3) := by decide +kernel
theorem dX11_box_23 : decode cX11_box 23 = .ok (.iconst (-1), 1) := by decide +kernel
theorem dX11_box_24 : decode cX11_box 24 = .ok (.ireturn, 1) := by decide +kernel
theorem dX11_box_25 : decode cX11_box 25 = .ok (.aload_n 3, 1) := by decide +kernel
theorem dX11_box_26 : decode cX11_box 26 = .ok (.getfield 204, 3) := by decide +kernel
theorem dX11_box_29 : decode cX11_box 29 = .ok (.iload_n 2, 1) := by decide +kernel
theorem dX11_box_30 : decode cX11_box 30 = .ok (.invokevirtual 250, 3) := by decide +kernel
theorem dX11_box_33 : decode cX11_box 33 = .ok (.ireturn, 1) := by decide +kernel
theorem dX11_later_0 : decode cX11_later 0 = .ok (.iload_n 1, 1) := by decide +kernel
theorem dX11_later_1 : decode cX11_later 1 = .ok (.iconst 1, 1) := by decide +kernel
theorem dX11_later_2 : decode cX11_later 2 = .ok (.sipush 9999, 3) := by decide +kernel
theorem dX11_later_5 : decode cX11_later 5 = .ok (.invokestatic 65, 3) := by decide +kernel
theorem dX11_later_8 : decode cX11_later 8 = .ok (.ifCond .ne 5, 3) := by decide +kernel
theorem dX11_later_11 : decode cX11_later 11 = .ok (.iconst (-1), 1) := by decide +kernel
theorem dX11_later_12 : decode cX11_later 12 = .ok (.ireturn, 1) := by decide +kernel
theorem dX11_later_13 : decode cX11_later 13 = .ok (.aload_n 0, 1) := by decide +kernel
theorem dX11_later_14 : decode cX11_later 14 = .ok (.getfield 19, 3) := by decide +kernel
theorem dX11_later_17 : decode cX11_later 17 = .ok (.iload_n 1, 1) := by decide +kernel
theorem dX11_later_18 : decode cX11_later 18 = .ok (.invokevirtual 253, 3) := by decide +kernel
theorem dX11_later_21 : decode cX11_later 21 = .ok (.aload_n 0, 1) := by decide +kernel
theorem dX11_later_22 : decode cX11_later 22 = .ok (.getfield 19, 3) := by decide +kernel
theorem dX11_later_25 : decode cX11_later 25 = .ok (.invokevirtual 105, 3) := by decide +kernel
theorem dX11_later_28 : decode cX11_later 28 = .ok (.ireturn, 1) := by decide +kernel
theorem dX11_level_0 : decode cX11_level 0 = .ok (.aload_n 0, 1) := by decide +kernel
theorem dX11_level_1 : decode cX11_level 1 = .ok (.getfield 28, 3) := by decide +kernel
theorem dX11_level_4 : decode cX11_level 4 = .ok (.invokevirtual 256, 3) := by decide +kernel
theorem dX11_level_7 : decode cX11_level 7 = .ok (.ireturn, 1) := by decide +kernel
theorem dX11_steer_0 : decode cX11_steer 0 = .ok (.iload_n 1, 1) := by decide +kernel
theorem dX11_steer_1 : decode cX11_steer 1 = .ok (.iconst 1, 1) := by decide +kernel
theorem dX11_steer_2 : decode cX11_steer 2 = .ok (.bipush 99, 2) := by decide +kernel
theorem dX11_steer_4 : decode cX11_steer 4 = .ok (.invokestatic 65, 3) := by decide +kernel
theorem dX11_steer_7 : decode cX11_steer 7 = .ok (.ifCond .eq 14, 3) := by decide +kernel
theorem dX11_steer_10 : decode cX11_steer 10 = .ok (.aload_n 0, 1) := by decide +kernel
theorem dX11_steer_11 : decode cX11_steer 11 = .ok (.getfield 28, 3) := by decide +kernel
theorem dX11_steer_14 : decode cX11_steer 14 = .ok (.iload_n 1, 1) := by decide +kernel
theorem dX11_steer_15 : decode cX11_steer 15 = .ok (.invokevirtual 259, 3) := by decide +kernel
theorem dX11_steer_18 : decode cX11_steer 18 = .ok (.goto 4, 3) := by decide +kernel
theorem dX11_steer_21 : decode cX11_steer 21 = .ok (.iconst (-1), 1) := by decide +kernel
theorem dX11_steer_22 : decode cX11_steer 22 = .ok (.ireturn, 1) := by decide +kernel
theorem dX11_clock_0 : decode cX11_clock 0 = .ok (.aload_n 0, 1) := by decide +kernel
theorem dX11_clock_1 : decode cX11_clock 1 = .ok (.getfield 19, 3) := by decide +kernel
theorem dX11_clock_4 : decode cX11_clock 4 = .ok (.iload_n 1, 1) := by decide +kernel
theorem dX11_clock_5 : decode cX11_clock 5 = .ok (.invokevirtual 79, 3) := by decide +kernel
theorem dX11_clock_8 : decode cX11_clock 8 = .ok (.astore_n 3, 1) := by decide +kernel
theorem dX11_clock_9 : decode cX11_clock 9 = .ok (.aload_n 3, 1) := by decide +kernel
theorem dX11_clock_10 : decode cX11_clock 10 = .ok (.ifnonnull 5, 3) := by decide +kernel
theorem dX11_clock_13 : decode cX11_clock 13 = .ok (.iconst (-1), 1) := by decide +kernel
theorem dX11_clock_14 : decode cX11_clock 14 = .ok (.ireturn, 1) := by decide +kernel
theorem dX11_clock_15 : decode cX11_clock 15 = .ok (.iload_n 2, 1) := by decide +kernel
theorem dX11_clock_16 : decode cX11_clock 16 = .ok (.tableswitch 78 0 3 #[32, 48, 64, 73], 32) := by decide +kernel
theorem dX11_clock_48 : decode cX11_clock 48 = .ok (.aload_n 3, 1) := by decide +kernel
theorem dX11_clock_49 : decode cX11_clock 49 = .ok (.aload_n 0, 1) := by decide +kernel
theorem dX11_clock_50 : decode cX11_clock 50 = .ok (.getfield 19, 3) := by decide +kernel
theorem dX11_clock_53 : decode cX11_clock 53 = .ok (.invokevirtual 105, 3) := by decide +kernel
theorem dX11_clock_56 : decode cX11_clock 56 = .ok (.invokevirtual 262, 3) := by decide +kernel
theorem dX11_clock_59 : decode cX11_clock 59 = .ok (.ldc_w 265, 3) := by decide +kernel
theorem dX11_clock_62 : decode cX11_clock 62 = .ok (.iadd, 1) := by decide +kernel
theorem dX11_clock_63 : decode cX11_clock 63 = .ok (.ireturn, 1) := by decide +kernel
theorem dX11_clock_64 : decode cX11_clock 64 = .ok (.aload_n 3, 1) := by decide +kernel
theorem dX11_clock_65 : decode cX11_clock 65 = .ok (.aload_n 0, 1) := by decide +kernel
theorem dX11_clock_66 : decode cX11_clock 66 = .ok (.getfield 19, 3) := by decide +kernel
theorem dX11_clock_69 : decode cX11_clock 69 = .ok (.invokevirtual 105, 3) := by decide +kernel
theorem dX11_clock_72 : decode cX11_clock 72 = .ok (.invokevirtual 266, 3) := by decide +kernel
theorem dX11_clock_75 : decode cX11_clock 75 = .ok (.ldc_w 265, 3) := by decide +kernel
theorem dX11_clock_78 : decode cX11_clock 78 = .ok (.iadd, 1) := by decide +kernel
theorem dX11_clock_79 : decode cX11_clock 79 = .ok (.ireturn, 1) := by decide +kernel
theorem dX11_clock_80 : decode cX11_clock 80 = .ok (.aload_n 3, 1) := by decide +kernel
theorem dX11_clock_81 : decode cX11_clock 81 = .ok (.getfield 269, 3) := by decide +kernel
theorem dX11_clock_84 : decode cX11_clock 84 = .ok (.ldc_w 265, 3) := by decide +kernel
theorem dX11_clock_87 : decode cX11_clock 87 = .ok (.iadd, 1) := by decide +kernel
theorem dX11_clock_88 : decode cX11_clock 88 = .ok (.ireturn, 1) := by decide +kernel
theorem dX11_clock_89 : decode cX11_clock 89 = .ok (.aload_n 3, 1) := by decide +kernel
theorem dX11_clock_90 : decode cX11_clock 90 = .ok (.getfield 272, 3) := by decide +kernel
theorem dX11_clock_93 : decode cX11_clock 93 = .ok (.ireturn, 1) := by decide +kernel
theorem dX11_clock_94 : decode cX11_clock 94 = .ok (.iconst (-1), 1) := by decide +kernel
theorem dX11_clock_95 : decode cX11_clock 95 = .ok (.ireturn, 1) := by decide +kernel
theorem dX11_apart_0 : decode cX11_apart 0 = .ok (.aload_n 0, 1) := by decide +kernel
theorem dX11_apart_1 : decode cX11_apart 1 = .ok (.getfield 28, 3) := by decide +kernel
theorem dX11_apart_4 : decode cX11_apart 4 = .ok (.invokevirtual 275, 3) := by decide +kernel
theorem dX11_apart_7 : decode cX11_apart 7 = .ok (.ireturn, 1) := by decide +kernel
theorem dX11_count_0 : decode cX11_count 0 = .ok (.iload_n 1, 1) := by decide +kernel
theorem dX11_count_1 : decode cX11_count 1 = .ok (.tableswitch 178 0 12 #[67, 75, 83, 91, 99, 107, 115, 123, 131, 139, 154, 162, 170], 67) := by decide +kernel
theorem dX11_count_68 : decode cX11_count 68 = .ok (.aload_n 0, 1) := by decide +kernel
theorem dX11_count_69 : decode cX11_count 69 = .ok (.getfield 19, 3) := by decide +kernel
theorem dX11_count_72 : decode cX11_count 72 = .ok (.invokevirtual 76, 3) := by decide +kernel
theorem dX11_count_75 : decode cX11_count 75 = .ok (.ireturn, 1) := by decide +kernel
theorem dX11_count_76 : decode cX11_count 76 = .ok (.aload_n 0, 1) := by decide +kernel
theorem dX11_count_77 : decode cX11_count 77 = .ok (.getfield 19, 3) := by decide +kernel
theorem dX11_count_80 : decode cX11_count 80 = .ok (.invokevirtual 105, 3) := by decide +kernel
theorem dX11_count_83 : decode cX11_count 83 = .ok (.ireturn, 1) := by decide +kernel
theorem dX11_count_84 : decode cX11_count 84 = .ok (.aload_n 0, 1) := by decide +kernel
theorem dX11_count_85 : decode cX11_count 85 = .ok (.getfield 19, 3) := by decide +kernel
theorem dX11_count_88 : decode cX11_count 88 = .ok (.invokevirtual 124, 3) := by decide +kernel
theorem dX11_count_91 : decode cX11_count 91 = .ok (.ireturn, 1) := by decide +kernel
theorem dX11_count_92 : decode cX11_count 92 = .ok (.aload_n 0, 1) := by decide +kernel
theorem dX11_count_93 : decode cX11_count 93 = .ok (.getfield 19, 3) := by decide +kernel
theorem dX11_count_96 : decode cX11_count 96 = .ok (.invokevirtual 278, 3) := by decide +kernel
theorem dX11_count_99 : decode cX11_count 99 = .ok (.ireturn, 1) := by decide +kernel
theorem dX11_count_100 : decode cX11_count 100 = .ok (.aload_n 0, 1) := by decide +kernel
theorem dX11_count_101 : decode cX11_count 101 = .ok (.getfield 19, 3) := by decide +kernel
theorem dX11_count_104 : decode cX11_count 104 = .ok (.invokevirtual 281, 3) := by decide +kernel
theorem dX11_count_107 : decode cX11_count 107 = .ok (.ireturn, 1) := by decide +kernel
theorem dX11_count_108 : decode cX11_count 108 = .ok (.aload_n 0, 1) := by decide +kernel
theorem dX11_count_109 : decode cX11_count 109 = .ok (.getfield 35, 3) := by decide +kernel
theorem dX11_count_112 : decode cX11_count 112 = .ok (.invokevirtual 284, 3) := by decide +kernel
theorem dX11_count_115 : decode cX11_count 115 = .ok (.ireturn, 1) := by decide +kernel
theorem dX11_count_116 : decode cX11_count 116 = .ok (.aload_n 0, 1) := by decide +kernel
theorem dX11_count_117 : decode cX11_count 117 = .ok (.getfield 35, 3) := by decide +kernel
theorem dX11_count_120 : decode cX11_count 120 = .ok (.invokevirtual 287, 3) := by decide +kernel
theorem dX11_count_123 : decode cX11_count 123 = .ok (.ireturn, 1) := by decide +kernel
theorem dX11_count_124 : decode cX11_count 124 = .ok (.aload_n 0, 1) := by decide +kernel
theorem dX11_count_125 : decode cX11_count 125 = .ok (.getfield 35, 3) := by decide +kernel
theorem dX11_count_128 : decode cX11_count 128 = .ok (.invokevirtual 290, 3) := by decide +kernel
theorem dX11_count_131 : decode cX11_count 131 = .ok (.ireturn, 1) := by decide +kernel
theorem dX11_count_132 : decode cX11_count 132 = .ok (.aload_n 0, 1) := by decide +kernel
theorem dX11_count_133 : decode cX11_count 133 = .ok (.getfield 10, 3) := by decide +kernel
theorem dX11_count_136 : decode cX11_count 136 = .ok (.invokevirtual 69, 3) := by decide +kernel
theorem dX11_count_139 : decode cX11_count 139 = .ok (.ireturn, 1) := by decide +kernel
theorem dX11_count_140 : decode cX11_count 140 = .ok (.aload_n 0, 1) := by decide +kernel
theorem dX11_count_141 : decode cX11_count 141 = .ok (.getfield 19, 3) := by decide +kernel
theorem dX11_count_144 : decode cX11_count 144 = .ok (.aload_n 0, 1) := by decide +kernel
theorem dX11_count_145 : decode cX11_count 145 = .ok (.getfield 19, 3) := by decide +kernel
theorem dX11_count_148 : decode cX11_count 148 = .ok (.invokevirtual 76, 3) := by decide +kernel
theorem dX11_count_151 : decode cX11_count 151 = .ok (.invokevirtual 89, 3) := by decide +kernel
theorem dX11_count_154 : decode cX11_count 154 = .ok (.ireturn, 1) := by decide +kernel
theorem dX11_count_155 : decode cX11_count 155 = .ok (.aload_n 0, 1) := by decide +kernel
theorem dX11_count_156 : decode cX11_count 156 = .ok (.getfield 19, 3) := by decide +kernel
theorem dX11_count_159 : decode cX11_count 159 = .ok (.invokevirtual 293, 3) := by decide +kernel
theorem dX11_count_162 : decode cX11_count 162 = .ok (.ireturn, 1) := by decide +kernel
theorem dX11_count_163 : decode cX11_count 163 = .ok (.aload_n 0, 1) := by decide +kernel
theorem dX11_count_164 : decode cX11_count 164 = .ok (.getfield 19, 3) := by decide +kernel
theorem dX11_count_167 : decode cX11_count 167 = .ok (.invokevirtual 296, 3) := by decide +kernel
theorem dX11_count_170 : decode cX11_count 170 = .ok (.ireturn, 1) := by decide +kernel
theorem dX11_count_171 : decode cX11_count 171 = .ok (.aload_n 0, 1) := by decide +kernel
theorem dX11_count_172 : decode cX11_count 172 = .ok (.getfield 19, 3) := by decide +kernel
theorem dX11_count_175 : decode cX11_count 175 = .ok (.invokevirtual 299, 3) := by decide +kernel
theorem dX11_count_178 : decode cX11_count 178 = .ok (.ireturn, 1) := by decide +kernel
theorem dX11_count_179 : decode cX11_count 179 = .ok (.iconst (-1), 1) := by decide +kernel
theorem dX11_count_180 : decode cX11_count 180 = .ok (.ireturn, 1) := by decide +kernel
theorem dX11_isWithin_0 : decode cX11_isWithin 0 = .ok (.iload_n 0, 1) := by decide +kernel
theorem dX11_isWithin_1 : decode cX11_isWithin 1 = .ok (.iload_n 1, 1) := by decide +kernel
theorem dX11_isWithin_2 : decode cX11_isWithin 2 = .ok (.if_icmp .lt 12, 3) := by decide +kernel
theorem dX11_isWithin_5 : decode cX11_isWithin 5 = .ok (.iload_n 0, 1) := by decide +kernel
theorem dX11_isWithin_6 : decode cX11_isWithin 6 = .ok (.iload_n 2, 1) := by decide +kernel
theorem dX11_isWithin_7 : decode cX11_isWithin 7 = .ok (.if_icmp .gt 7, 3) := by decide +kernel
theorem dX11_isWithin_10 : decode cX11_isWithin 10 = .ok (.iconst 1, 1) := by decide +kernel
theorem dX11_isWithin_11 : decode cX11_isWithin 11 = .ok (.goto 4, 3) := by decide +kernel
theorem dX11_isWithin_14 : decode cX11_isWithin 14 = .ok (.iconst 0, 1) := by decide +kernel
theorem dX11_isWithin_15 : decode cX11_isWithin 15 = .ok (.ireturn, 1) := by decide +kernel
theorem dX11_isByte_0 : decode cX11_isByte 0 = .ok (.iload_n 0, 1) := by decide +kernel
theorem dX11_isByte_1 : decode cX11_isByte 1 = .ok (.iconst 0, 1) := by decide +kernel
theorem dX11_isByte_2 : decode cX11_isByte 2 = .ok (.sipush 255, 3) := by decide +kernel
theorem dX11_isByte_5 : decode cX11_isByte 5 = .ok (.invokestatic 65, 3) := by decide +kernel
theorem dX11_isByte_8 : decode cX11_isByte 8 = .ok (.ireturn, 1) := by decide +kernel
theorem dX11_isMessage_0 : decode cX11_isMessage 0 = .ok (.iload_n 0, 1) := by decide +kernel
theorem dX11_isMessage_1 : decode cX11_isMessage 1 = .ok (.iconst 1, 1) := by decide +kernel
theorem dX11_isMessage_2 : decode cX11_isMessage 2 = .ok (.sipush 255, 3) := by decide +kernel
theorem dX11_isMessage_5 : decode cX11_isMessage 5 = .ok (.invokestatic 65, 3) := by decide +kernel
theorem dX11_isMessage_8 : decode cX11_isMessage 8 = .ok (.ireturn, 1) := by decide +kernel
theorem dX12_init_0 : decode cX12_init 0 = .ok (.aload_n 0, 1) := by decide +kernel
theorem dX12_init_1 : decode cX12_init 1 = .ok (.invokespecial 1, 3) := by decide +kernel
theorem dX12_init_4 : decode cX12_init 4 = .ok (.aload_n 0, 1) := by decide +kernel
theorem dX12_init_5 : decode cX12_init 5 = .ok (.sipush 200, 3) := by decide +kernel
theorem dX12_init_8 : decode cX12_init 8 = .ok (.newarray .int, 2) := by decide +kernel
theorem dX12_init_10 : decode cX12_init 10 = .ok (.putfield 7, 3) := by decide +kernel
theorem dX12_init_13 : decode cX12_init 13 = .ok (.aload_n 0, 1) := by decide +kernel
theorem dX12_init_14 : decode cX12_init 14 = .ok (.bipush 8, 2) := by decide +kernel
theorem dX12_init_16 : decode cX12_init 16 = .ok (.newarray .int, 2) := by decide +kernel
theorem dX12_init_18 : decode cX12_init 18 = .ok (.putfield 13, 3) := by decide +kernel
theorem dX12_init_21 : decode cX12_init 21 = .ok (.aload_n 0, 1) := by decide +kernel
theorem dX12_init_22 : decode cX12_init 22 = .ok (.bipush 9, 2) := by decide +kernel
theorem dX12_init_24 : decode cX12_init 24 = .ok (.newarray .int, 2) := by decide +kernel
theorem dX12_init_26 : decode cX12_init 26 = .ok (.putfield 16, 3) := by decide +kernel
theorem dX12_init_29 : decode cX12_init 29 = .ok (.aload_n 0, 1) := by decide +kernel
theorem dX12_init_30 : decode cX12_init 30 = .ok (.bipush 8, 2) := by decide +kernel
theorem dX12_init_32 : decode cX12_init 32 = .ok (.newarray .int, 2) := by decide +kernel
theorem dX12_init_34 : decode cX12_init 34 = .ok (.putfield 19, 3) := by decide +kernel
theorem dX12_init_37 : decode cX12_init 37 = .ok (.aload_n 0, 1) := by decide +kernel
theorem dX12_init_38 : decode cX12_init 38 = .ok (.bipush 8, 2) := by decide +kernel
theorem dX12_init_40 : decode cX12_init 40 = .ok (.newarray .int, 2) := by decide +kernel
theorem dX12_init_42 : decode cX12_init 42 = .ok (.putfield 22, 3) := by decide +kernel
theorem dX12_init_45 : decode cX12_init 45 = .ok (.aload_n 0, 1) := by decide +kernel
theorem dX12_init_46 : decode cX12_init 46 = .ok (.bipush 8, 2) := by decide +kernel
theorem dX12_init_48 : decode cX12_init 48 = .ok (.newarray .int, 2) := by decide +kernel
theorem dX12_init_50 : decode cX12_init 50 = .ok (.putfield 25, 3) := by decide +kernel
theorem dX12_init_53 : decode cX12_init 53 = .ok (.aload_n 0, 1) := by decide +kernel
theorem dX12_init_54 : decode cX12_init 54 = .ok (.bipush 9, 2) := by decide +kernel
theorem dX12_init_56 : decode cX12_init 56 = .ok (.newarray .int, 2) := by decide +kernel
theorem dX12_init_58 : decode cX12_init 58 = .ok (.putfield 28, 3) := by decide +kernel
theorem dX12_init_61 : decode cX12_init 61 = .ok (.aload_n 0, 1) := by decide +kernel
theorem dX12_init_62 : decode cX12_init 62 = .ok (.bipush 8, 2) := by decide +kernel
theorem dX12_init_64 : decode cX12_init 64 = .ok (.newarray .int, 2) := by decide +kernel
theorem dX12_init_66 : decode cX12_init 66 = .ok (.putfield 31, 3) := by decide +kernel
theorem dX12_init_69 : decode cX12_init 69 = .ok (.aload_n 0, 1) := by decide +kernel
theorem dX12_init_70 : decode cX12_init 70 = .ok (.bipush 8, 2) := by decide +kernel
theorem dX12_init_72 : decode cX12_init 72 = .ok (.newarray .int, 2) := by decide +kernel
theorem dX12_init_74 : decode cX12_init 74 = .ok (.putfield 34, 3) := by decide +kernel
theorem dX12_init_77 : decode cX12_init 77 = .ok (.aload_n 0, 1) := by decide +kernel
theorem dX12_init_78 : decode cX12_init 78 = .ok (.bipush 9, 2) := by decide +kernel
theorem dX12_init_80 : decode cX12_init 80 = .ok (.newarray .int, 2) := by decide +kernel
theorem dX12_init_82 : decode cX12_init 82 = .ok (.putfield 37, 3) := by decide +kernel
theorem dX12_init_85 : decode cX12_init 85 = .ok (.aload_n 0, 1) := by decide +kernel
theorem dX12_init_86 : decode cX12_init 86 = .ok (.bipush 8, 2) := by decide +kernel
theorem dX12_init_88 : decode cX12_init 88 = .ok (.newarray .int, 2) := by decide +kernel
theorem dX12_init_90 : decode cX12_init 90 = .ok (.putfield 40, 3) := by decide +kernel
theorem dX12_init_93 : decode cX12_init 93 = .ok (.aload_n 0, 1) := by decide +kernel
theorem dX12_init_94 : decode cX12_init 94 = .ok (.sipush 128, 3) := by decide +kernel
theorem dX12_init_97 : decode cX12_init 97 = .ok (.newarray .int, 2) := by decide +kernel
theorem dX12_init_99 : decode cX12_init 99 = .ok (.putfield 43, 3) := by decide +kernel
theorem dX12_init_102 : decode cX12_init 102 = .ok (.aload_n 0, 1) := by decide +kernel
theorem dX12_init_103 : decode cX12_init 103 = .ok (.bipush 8, 2) := by decide +kernel
theorem dX12_init_105 : decode cX12_init 105 = .ok (.newarray .int, 2) := by decide +kernel
theorem dX12_init_107 : decode cX12_init 107 = .ok (.putfield 46, 3) := by decide +kernel
theorem dX12_init_110 : decode cX12_init 110 = .ok (.aload_n 0, 1) := by decide +kernel
theorem dX12_init_111 : decode cX12_init 111 = .ok (.bipush 8, 2) := by decide +kernel
theorem dX12_init_113 : decode cX12_init 113 = .ok (.newarray .int, 2) := by decide +kernel
theorem dX12_init_115 : decode cX12_init 115 = .ok (.putfield 49, 3) := by decide +kernel
theorem dX12_init_118 : decode cX12_init 118 = .ok (.aload_n 0, 1) := by decide +kernel
theorem dX12_init_119 : decode cX12_init 119 = .ok (.bipush 16, 2) := by decide +kernel
theorem dX12_init_121 : decode cX12_init 121 = .ok (.newarray .int, 2) := by decide +kernel
theorem dX12_init_123 : decode cX12_init 123 = .ok (.putfield 52, 3) := by decide +kernel
theorem dX12_init_126 : decode cX12_init 126 = .ok (.aload_n 0, 1) := by decide +kernel
theorem dX12_init_127 : decode cX12_init 127 = .ok (.bipush 16, 2) := by decide +kernel
theorem dX12_init_129 : decode cX12_init 129 = .ok (.newarray .int, 2) := by decide +kernel
theorem dX12_init_131 : decode cX12_init 131 = .ok (.putfield 55, 3) := by decide +kernel
theorem dX12_init_134 : decode cX12_init 134 = .ok (.aload_n 0, 1) := by decide +kernel
theorem dX12_init_135 : decode cX12_init 135 = .ok (.bipush 16, 2) := by decide +kernel
theorem dX12_init_137 : decode cX12_init 137 = .ok (.newarray .int, 2) := by decide +kernel
theorem dX12_init_139 : decode cX12_init 139 = .ok (.putfield 58, 3) := by decide +kernel
theorem dX12_init_142 : decode cX12_init 142 = .ok (.aload_n 0, 1) := by decide +kernel
theorem dX12_init_143 : decode cX12_init 143 = .ok (.bipush 64, 2) := by decide +kernel
theorem dX12_init_145 : decode cX12_init 145 = .ok (.newarray .int, 2) := by decide +kernel
theorem dX12_init_147 : decode cX12_init 147 = .ok (.putfield 61, 3) := by decide +kernel
theorem dX12_init_150 : decode cX12_init 150 = .ok (.aload_n 0, 1) := by decide +kernel
theorem dX12_init_151 : decode cX12_init 151 = .ok (.bipush 16, 2) := by decide +kernel
theorem dX12_init_153 : decode cX12_init 153 = .ok (.newarray .int, 2) := by decide +kernel
theorem dX12_init_155 : decode cX12_init 155 = .ok (.putfield 64, 3) := by decide +kernel
theorem dX12_init_158 : decode cX12_init 158 = .ok (.aload_n 0, 1) := by decide +kernel
theorem dX12_init_159 : decode cX12_init 159 = .ok (.bipush 16, 2) := by decide +kernel
theorem dX12_init_161 : decode cX12_init 161 = .ok (.newarray .int, 2) := by decide +kernel
theorem dX12_init_163 : decode cX12_init 163 = .ok (.putfield 67, 3) := by decide +kernel
theorem dX12_init_166 : decode cX12_init 166 = .ok (.aload_n 0, 1) := by decide +kernel
theorem dX12_init_167 : decode cX12_init 167 = .ok (.bipush 16, 2) := by decide +kernel
theorem dX12_init_169 : decode cX12_init 169 = .ok (.newarray .int, 2) := by decide +kernel
theorem dX12_init_171 : decode cX12_init 171 = .ok (.putfield 70, 3) := by decide +kernel
theorem dX12_init_174 : decode cX12_init 174 = .ok (.aload_n 0, 1) := by decide +kernel
theorem dX12_init_175 : decode cX12_init 175 = .ok (.bipush 8, 2) := by decide +kernel
theorem dX12_init_177 : decode cX12_init 177 = .ok (.newarray .int, 2) := by decide +kernel
theorem dX12_init_179 : decode cX12_init 179 = .ok (.putfield 73, 3) := by decide +kernel
theorem dX12_init_182 : decode cX12_init 182 = .ok (.aload_n 0, 1) := by decide +kernel
theorem dX12_init_183 : decode cX12_init 183 = .ok (.bipush 8, 2) := by decide +kernel
theorem dX12_init_185 : decode cX12_init 185 = .ok (.newarray .int, 2) := by decide +kernel
theorem dX12_init_187 : decode cX12_init 187 = .ok (.putfield 76, 3) := by decide +kernel
theorem dX12_init_190 : decode cX12_init 190 = .ok (.aload_n 0, 1) := by decide +kernel
theorem dX12_init_191 : decode cX12_init 191 = .ok (.iconst 4, 1) := by decide +kernel
theorem dX12_init_192 : decode cX12_init 192 = .ok (.newarray .int, 2) := by decide +kernel
theorem dX12_init_194 : decode cX12_init 194 = .ok (.putfield 79, 3) := by decide +kernel
theorem dX12_init_197 : decode cX12_init 197 = .ok (.aload_n 0, 1) := by decide +kernel
theorem dX12_init_198 : decode cX12_init 198 = .ok (.iconst 4, 1) := by decide +kernel
theorem dX12_init_199 : decode cX12_init 199 = .ok (.newarray .int, 2) := by decide +kernel
theorem dX12_init_201 : decode cX12_init 201 = .ok (.putfield 82, 3) := by decide +kernel
theorem dX12_init_204 : decode cX12_init 204 = .ok (.aload_n 0, 1) := by decide +kernel
theorem dX12_init_205 : decode cX12_init 205 = .ok (.iconst 4, 1) := by decide +kernel
theorem dX12_init_206 : decode cX12_init 206 = .ok (.newarray .int, 2) := by decide +kernel
theorem dX12_init_208 : decode cX12_init 208 = .ok (.putfield 85, 3) := by decide +kernel
theorem dX12_init_211 : decode cX12_init 211 = .ok (.aload_n 0, 1) := by decide +kernel
theorem dX12_init_212 : decode cX12_init 212 = .ok (.iconst 4, 1) := by decide +kernel
theorem dX12_init_213 : decode cX12_init 213 = .ok (.newarray .int, 2) := by decide +kernel
theorem dX12_init_215 : decode cX12_init 215 = .ok (.putfield 88, 3) := by decide +kernel
theorem dX12_init_218 : decode cX12_init 218 = .ok (.aload_n 0, 1) := by decide +kernel
theorem dX12_init_219 : decode cX12_init 219 = .ok (.bipush 32, 2) := by decide +kernel
theorem dX12_init_221 : decode cX12_init 221 = .ok (.newarray .int, 2) := by decide +kernel
theorem dX12_init_223 : decode cX12_init 223 = .ok (.putfield 91, 3) := by decide +kernel
theorem dX12_init_226 : decode cX12_init 226 = .ok (.aload_n 0, 1) := by decide +kernel
theorem dX12_init_227 : decode cX12_init 227 = .ok (.bipush 64, 2) := by decide +kernel
theorem dX12_init_229 : decode cX12_init 229 = .ok (.newarray .int, 2) := by decide +kernel
theorem dX12_init_231 : decode cX12_init 231 = .ok (.putfield 94, 3) := by decide +kernel
theorem dX12_init_234 : decode cX12_init 234 = .ok (.aload_n 0, 1) := by decide +kernel
theorem dX12_init_235 : decode cX12_init 235 = .ok (.bipush 8, 2) := by decide +kernel
theorem dX12_init_237 : decode cX12_init 237 = .ok (.newarray .int, 2) := by decide +kernel
theorem dX12_init_239 : decode cX12_init 239 = .ok (.putfield 97, 3) := by decide +kernel
theorem dX12_init_242 : decode cX12_init 242 = .ok (.aload_n 0, 1) := by decide +kernel
theorem dX12_init_243 : decode cX12_init 243 = .ok (.iconst 4, 1) := by decide +kernel
theorem dX12_init_244 : decode cX12_init 244 = .ok (.newarray .int, 2) := by decide +kernel
theorem dX12_init_246 : decode cX12_init 246 = .ok (.putfield 100, 3) := by decide +kernel
theorem dX12_init_249 : decode cX12_init 249 = .ok (.aload_n 0, 1) := by decide +kernel
theorem dX12_init_250 : decode cX12_init 250 = .ok (.iconst 4, 1) := by decide +kernel
theorem dX12_init_251 : decode cX12_init 251 = .ok (.newarray .int, 2) := by decide +kernel
theorem dX12_init_253 : decode cX12_init 253 = .ok (.putfield 103, 3) := by decide +kernel
theorem dX12_init_256 : decode cX12_init 256 = .ok (.aload_n 0, 1) := by decide +kernel
theorem dX12_init_257 : decode cX12_init 257 = .ok (.bipush 32, 2) := by decide +kernel
theorem dX12_init_259 : decode cX12_init 259 = .ok (.newarray .int, 2) := by decide +kernel
theorem dX12_init_261 : decode cX12_init 261 = .ok (.putfield 106, 3) := by decide +kernel
theorem dX12_init_264 : decode cX12_init 264 = .ok (.aload_n 0, 1) := by decide +kernel
theorem dX12_init_265 : decode cX12_init 265 = .ok (.bipush 30, 2) := by decide +kernel
theorem dX12_init_267 : decode cX12_init 267 = .ok (.newarray .int, 2) := by decide +kernel
theorem dX12_init_269 : decode cX12_init 269 = .ok (.putfield 109, 3) := by decide +kernel
theorem dX12_init_272 : decode cX12_init 272 = .ok (.aload_n 0, 1) := by decide +kernel
theorem dX12_init_273 : decode cX12_init 273 = .ok (.bipush 8, 2) := by decide +kernel
theorem dX12_init_275 : decode cX12_init 275 = .ok (.newarray .int, 2) := by decide +kernel
theorem dX12_init_277 : decode cX12_init 277 = .ok (.putfield 112, 3) := by decide +kernel
theorem dX12_init_280 : decode cX12_init 280 = .ok (.aload_n 0, 1) := by decide +kernel
theorem dX12_init_281 : decode cX12_init 281 = .ok (.bipush 8, 2) := by decide +kernel
theorem dX12_init_283 : decode cX12_init 283 = .ok (.newarray .int, 2) := by decide +kernel
theorem dX12_init_285 : decode cX12_init 285 = .ok (.putfield 115, 3) := by decide +kernel
theorem dX12_init_288 : decode cX12_init 288 = .ok (.aload_n 0, 1) := by decide +kernel
theorem dX12_init_289 : decode cX12_init 289 = .ok (.bipush 8, 2) := by decide +kernel
theorem dX12_init_291 : decode cX12_init 291 = .ok (.newarray .int, 2) := by decide +kernel
theorem dX12_init_293 : decode cX12_init 293 = .ok (.putfield 118, 3) := by decide +kernel
theorem dX12_init_296 : decode cX12_init 296 = .ok (.aload_n 0, 1) := by decide +kernel
theorem dX12_init_297 : decode cX12_init 297 = .ok (.invokevirtual 121, 3) := by decide +kernel
theorem dX12_init_300 : decode cX12_init 300 = .ok (.aload_n 0, 1) := by decide +kernel
theorem dX12_init_301 : decode cX12_init 301 = .ok (.bipush 11, 2) := by decide +kernel
theorem dX12_init_303 : decode cX12_init 303 = .ok (.iconst 3, 1) := by decide +kernel
theorem dX12_init_304 : decode cX12_init 304 = .ok (.iconst 0, 1) := by decide +kernel
theorem dX12_init_305 : decode cX12_init 305 = .ok (.iconst 5, 1) := by decide +kernel
theorem dX12_init_306 : decode cX12_init 306 = .ok (.invokevirtual 124, 3) := by decide +kernel
theorem dX12_init_309 : decode cX12_init 309 = .ok (.aload_n 0, 1) := by decide +kernel
theorem dX12_init_310 : decode cX12_init 310 = .ok (.bipush 22, 2) := by decide +kernel
theorem dX12_init_312 : decode cX12_init 312 = .ok (.iconst 5, 1) := by decide +kernel
theorem dX12_init_313 : decode cX12_init 313 = .ok (.bipush 20, 2) := by decide +kernel
theorem dX12_init_315 : decode cX12_init 315 = .ok (.iconst 4, 1) := by decide +kernel
theorem dX12_init_316 : decode cX12_init 316 = .ok (.invokevirtual 124, 3) := by decide +kernel
theorem dX12_init_319 : decode cX12_init 319 = .ok (.aload_n 0, 1) := by decide +kernel
theorem dX12_init_320 : decode cX12_init 320 = .ok (.bipush 33, 2) := by decide +kernel
theorem dX12_init_322 : decode cX12_init 322 = .ok (.iconst 4, 1) := by decide +kernel
theorem dX12_init_323 : decode cX12_init 323 = .ok (.bipush 100, 2) := by decide +kernel
theorem dX12_init_325 : decode cX12_init 325 = .ok (.iconst 3, 1) := by decide +kernel
theorem dX12_init_326 : decode cX12_init 326 = .ok (.invokevirtual 124, 3) := by decide +kernel
theorem dX12_init_329 : decode cX12_init 329 = .ok (.aload_n 0, 1) := by decide +kernel
theorem dX12_init_330 : decode cX12_init 330 = .ok (.bipush 7, 2) := by decide +kernel
theorem dX12_init_332 : decode cX12_init 332 = .ok (.iconst 2, 1) := by decide +kernel
theorem dX12_init_333 : decode cX12_init 333 = .ok (.bipush 50, 2) := by decide +kernel
theorem dX12_init_335 : decode cX12_init 335 = .ok (.iconst 4, 1) := by decide +kernel
theorem dX12_init_336 : decode cX12_init 336 = .ok (.invokevirtual 124, 3) := by decide +kernel
theorem dX12_init_339 : decode cX12_init 339 = .ok (.aload_n 0, 1) := by decide +kernel
theorem dX12_init_340 : decode cX12_init 340 = .ok (.getfield 16, 3) := by decide +kernel
theorem dX12_init_343 : decode cX12_init 343 = .ok (.bipush 8, 2) := by decide +kernel
theorem dX12_init_345 : decode cX12_init 345 = .ok (.iconst 4, 1) := by decide +kernel
theorem dX12_init_346 : decode cX12_init 346 = .ok (.iastore, 1) := by decide +kernel
theorem dX12_init_347 : decode cX12_init 347 = .ok (.aload_n 0, 1) := by decide +kernel
theorem dX12_init_348 : decode cX12_init 348 = .ok (.iconst 3, 1) := by decide +kernel
theorem dX12_init_349 : decode cX12_init 349 = .ok (.putfield 128, 3) := by decide +kernel
theorem dX12_init_352 : decode cX12_init 352 = .ok (.aload_n 0, 1) := by decide +kernel
theorem dX12_init_353 : decode cX12_init 353 = .ok (.iconst 2, 1) := by decide +kernel
theorem dX12_init_354 : decode cX12_init 354 = .ok (.putfield 132, 3) := by decide +kernel
theorem dX12_init_357 : decode cX12_init 357 = .ok (.aload_n 0, 1) := by decide +kernel
theorem dX12_init_358 : decode cX12_init 358 = .ok (.invokevirtual 135, 3) := by decide +kernel
theorem dX12_init_361 : decode cX12_init 361 = .ok (.return_, 1) := by decide +kernel
theorem dX12_in_0 : decode cX12_in 0 = .ok (.lload_n 0, 1) := by decide +kernel
theorem dX12_in_1 : decode cX12_in 1 = .ok (.lload_n 2, 1) := by decide +kernel
theorem dX12_in_2 : decode cX12_in 2 = .ok (.lcmp, 1) := by decide +kernel
theorem dX12_in_3 : decode cX12_in 3 = .ok (.ifCond .lt 14, 3) := by decide +kernel
theorem dX12_in_6 : decode cX12_in 6 = .ok (.lload_n 0, 1) := by decide +kernel
theorem dX12_in_7 : decode cX12_in 7 = .ok (.lload 4, 2) := by decide +kernel
theorem dX12_in_9 : decode cX12_in 9 = .ok (.lcmp, 1) := by decide +kernel
theorem dX12_in_10 : decode cX12_in 10 = .ok (.ifCond .gt 7, 3) := by decide +kernel
theorem dX12_in_13 : decode cX12_in 13 = .ok (.iconst 1, 1) := by decide +kernel
theorem dX12_in_14 : decode cX12_in 14 = .ok (.goto 4, 3) := by decide +kernel
theorem dX12_in_17 : decode cX12_in 17 = .ok (.iconst 0, 1) := by decide +kernel
theorem dX12_in_18 : decode cX12_in 18 = .ok (.ireturn, 1) := by decide +kernel
theorem dX12_empty_0 : decode cX12_empty 0 = .ok (.aload_n 0, 1) := by decide +kernel
theorem dX12_empty_1 : decode cX12_empty 1 = .ok (.iconst 0, 1) := by decide +kernel
theorem dX12_empty_2 : decode cX12_empty 2 = .ok (.putfield 138, 3) := by decide +kernel
theorem dX12_empty_5 : decode cX12_empty 5 = .ok (.aload_n 0, 1) := by decide +kernel
theorem dX12_empty_6 : decode cX12_empty 6 = .ok (.getfield 16, 3) := by decide +kernel
theorem dX12_empty_9 : decode cX12_empty 9 = .ok (.bipush 8, 2) := by decide +kernel
theorem dX12_empty_11 : decode cX12_empty 11 = .ok (.iconst 1, 1) := by decide +kernel
theorem dX12_empty_12 : decode cX12_empty 12 = .ok (.iastore, 1) := by decide +kernel
theorem dX12_empty_13 : decode cX12_empty 13 = .ok (.aload_n 0, 1) := by decide +kernel
theorem dX12_empty_14 : decode cX12_empty 14 = .ok (.iconst 2, 1) := by decide +kernel
theorem dX12_empty_15 : decode cX12_empty 15 = .ok (.putfield 128, 3) := by decide +kernel
theorem dX12_empty_18 : decode cX12_empty 18 = .ok (.aload_n 0, 1) := by decide +kernel
theorem dX12_empty_19 : decode cX12_empty 19 = .ok (.iconst 1, 1) := by decide +kernel
theorem dX12_empty_20 : decode cX12_empty 20 = .ok (.putfield 132, 3) := by decide +kernel
theorem dX12_empty_23 : decode cX12_empty 23 = .ok (.return_, 1) := by decide +kernel
theorem dX12_deviceIs_0 : decode cX12_deviceIs 0 = .ok (.aload_n 0, 1) := by decide +kernel
theorem dX12_deviceIs_1 : decode cX12_deviceIs 1 = .ok (.getfield 13, 3) := by decide +kernel
theorem dX12_deviceIs_4 : decode cX12_deviceIs 4 = .ok (.aload_n 0, 1) := by decide +kernel
theorem dX12_deviceIs_5 : decode cX12_deviceIs 5 = .ok (.getfield 138, 3) := by decide +kernel
theorem dX12_deviceIs_8 : decode cX12_deviceIs 8 = .ok (.iload_n 1, 1) := by decide +kernel
theorem dX12_deviceIs_9 : decode cX12_deviceIs 9 = .ok (.iastore, 1) := by decide +kernel
theorem dX12_deviceIs_10 : decode cX12_deviceIs 10 = .ok (.aload_n 0, 1) := by decide +kernel
theorem dX12_deviceIs_11 : decode cX12_deviceIs 11 = .ok (.getfield 16, 3) := by decide +kernel
theorem dX12_deviceIs_14 : decode cX12_deviceIs 14 = .ok (.aload_n 0, 1) := by decide +kernel
theorem dX12_deviceIs_15 : decode cX12_deviceIs 15 = .ok (.getfield 138, 3) := by decide +kernel
theorem dX12_deviceIs_18 : decode cX12_deviceIs 18 = .ok (.iload_n 2, 1) := by decide +kernel
theorem dX12_deviceIs_19 : decode cX12_deviceIs 19 = .ok (.iastore, 1) := by decide +kernel
theorem dX12_deviceIs_20 : decode cX12_deviceIs 20 = .ok (.aload_n 0, 1) := by decide +kernel
theorem dX12_deviceIs_21 : decode cX12_deviceIs 21 = .ok (.getfield 19, 3) := by decide +kernel
theorem dX12_deviceIs_24 : decode cX12_deviceIs 24 = .ok (.aload_n 0, 1) := by decide +kernel
theorem dX12_deviceIs_25 : decode cX12_deviceIs 25 = .ok (.getfield 138, 3) := by decide +kernel
theorem dX12_deviceIs_28 : decode cX12_deviceIs 28 = .ok (.iload_n 3, 1) := by decide +kernel
theorem dX12_deviceIs_29 : decode cX12_deviceIs 29 = .ok (.iastore, 1) := by decide +kernel
theorem dX12_deviceIs_30 : decode cX12_deviceIs 30 = .ok (.aload_n 0, 1) := by decide +kernel
theorem dX12_deviceIs_31 : decode cX12_deviceIs 31 = .ok (.getfield 22, 3) := by decide +kernel
theorem dX12_deviceIs_34 : decode cX12_deviceIs 34 = .ok (.aload_n 0, 1) := by decide +kernel
theorem dX12_deviceIs_35 : decode cX12_deviceIs 35 = .ok (.getfield 138, 3) := by decide +kernel
theorem dX12_deviceIs_38 : decode cX12_deviceIs 38 = .ok (.iload 4, 2) := by decide +kernel
theorem dX12_deviceIs_40 : decode cX12_deviceIs 40 = .ok (.iastore, 1) := by decide +kernel
theorem dX12_deviceIs_41 : decode cX12_deviceIs 41 = .ok (.aload_n 0, 1) := by decide +kernel
theorem dX12_deviceIs_42 : decode cX12_deviceIs 42 = .ok (.dup, 1) := by decide +kernel
theorem dX12_deviceIs_43 : decode cX12_deviceIs 43 = .ok (.getfield 138, 3) := by decide +kernel
theorem dX12_deviceIs_46 : decode cX12_deviceIs 46 = .ok (.iconst 1, 1) := by decide +kernel
theorem dX12_deviceIs_47 : decode cX12_deviceIs 47 = .ok (.iadd, 1) := by decide +kernel
theorem dX12_deviceIs_48 : decode cX12_deviceIs 48 = .ok (.putfield 138, 3) := by decide +kernel
theorem dX12_deviceIs_51 : decode cX12_deviceIs 51 = .ok (.return_, 1) := by decide +kernel
theorem dX12_write_0 : decode cX12_write 0 = .ok (.iload_n 1, 1) := by decide +kernel
theorem dX12_write_1 : decode cX12_write 1 = .ok (.i2l, 1) := by decide +kernel
theorem dX12_write_2 : decode cX12_write 2 = .ok (.ldc2_w 141, 3) := by decide +kernel
theorem dX12_write_5 : decode cX12_write 5 = .ok (.ldc2_w 143, 3) := by decide +kernel
theorem dX12_write_8 : decode cX12_write 8 = .ok (.invokestatic 145, 3) := by decide +kernel
theorem dX12_write_11 : decode cX12_write 11 = .ok (.ifCond .ne 5, 3) := by decide +kernel
theorem dX12_write_14 : decode cX12_write 14 = .ok (.iconst (-1), 1) := by decide +kernel
theorem dX12_write_15 : decode cX12_write 15 = .ok (.ireturn, 1) := by decide +kernel
theorem dX12_write_16 : decode cX12_write 16 = .ok (.aload_n 0, 1) := by decide +kernel
theorem dX12_write_17 : decode cX12_write 17 = .ok (.getfield 149, 3) := by decide +kernel
theorem dX12_write_20 : decode cX12_write 20 = .ok (.sipush 200, 3) := by decide +kernel
theorem dX12_write_23 : decode cX12_write 23 = .ok (.if_icmp .ne 6, 3) := by decide +kernel
theorem dX12_write_26 : decode cX12_write 26 = .ok (.bipush (-3), 2) := by decide +kernel
theorem dX12_write_28 : decode cX12_write 28 = .ok (.ireturn, 1) := by decide +kernel
theorem dX12_write_29 : decode cX12_write 29 = .ok (.aload_n 0, 1) := by decide +kernel
theorem dX12_write_30 : decode cX12_write 30 = .ok (.getfield 7, 3) := by decide +kernel
theorem dX12_write_33 : decode cX12_write 33 = .ok (.aload_n 0, 1) := by decide +kernel
theorem dX12_write_34 : decode cX12_write 34 = .ok (.getfield 149, 3) := by decide +kernel
theorem dX12_write_37 : decode cX12_write 37 = .ok (.iload_n 1, 1) := by decide +kernel
theorem dX12_write_38 : decode cX12_write 38 = .ok (.iastore, 1) := by decide +kernel
theorem dX12_write_39 : decode cX12_write 39 = .ok (.aload_n 0, 1) := by decide +kernel
theorem dX12_write_40 : decode cX12_write 40 = .ok (.dup, 1) := by decide +kernel
theorem dX12_write_41 : decode cX12_write 41 = .ok (.getfield 149, 3) := by decide +kernel
theorem dX12_write_44 : decode cX12_write 44 = .ok (.iconst 1, 1) := by decide +kernel
theorem dX12_write_45 : decode cX12_write 45 = .ok (.iadd, 1) := by decide +kernel
theorem dX12_write_46 : decode cX12_write 46 = .ok (.putfield 149, 3) := by decide +kernel
theorem dX12_write_49 : decode cX12_write 49 = .ok (.aload_n 0, 1) := by decide +kernel
theorem dX12_write_50 : decode cX12_write 50 = .ok (.getfield 149, 3) := by decide +kernel
theorem dX12_write_53 : decode cX12_write 53 = .ok (.ireturn, 1) := by decide +kernel
theorem dX12_wipe_0 : decode cX12_wipe 0 = .ok (.aload_n 0, 1) := by decide +kernel
theorem dX12_wipe_1 : decode cX12_wipe 1 = .ok (.getfield 149, 3) := by decide +kernel
theorem dX12_wipe_4 : decode cX12_wipe 4 = .ok (.istore_n 1, 1) := by decide +kernel
theorem dX12_wipe_5 : decode cX12_wipe 5 = .ok (.aload_n 0, 1) := by decide +kernel
theorem dX12_wipe_6 : decode cX12_wipe 6 = .ok (.iconst 0, 1) := by decide +kernel
theorem dX12_wipe_7 : decode cX12_wipe 7 = .ok (.putfield 149, 3) := by decide +kernel
theorem dX12_wipe_10 : decode cX12_wipe 10 = .ok (.iload_n 1, 1) := by decide +kernel
theorem dX12_wipe_11 : decode cX12_wipe 11 = .ok (.ireturn, 1) := by decide +kernel
theorem dX12_letterAt_0 : decode cX12_letterAt 0 = .ok (.iload_n 1, 1) := by decide +kernel
theorem dX12_letterAt_1 : decode cX12_letterAt 1 = .ok (.aload_n 0, 1) := by decide +kernel
theorem dX12_letterAt_2 : decode cX12_letterAt 2 = .ok (.getfield 149, 3) := by decide +kernel
theorem dX12_letterAt_5 : decode cX12_letterAt 5 = .ok (.if_icmp .ge 12, 3) := by decide +kernel
theorem dX12_letterAt_8 : decode cX12_letterAt 8 = .ok (.aload_n 0, 1) := by decide +kernel
theorem dX12_letterAt_9 : decode cX12_letterAt 9 = .ok (.getfield 7, 3) := by decide +kernel
theorem dX12_letterAt_12 : decode cX12_letterAt 12 = .ok (.iload_n 1, 1) := by decide +kernel
theorem dX12_letterAt_13 : decode cX12_letterAt 13 = .ok (.iaload, 1) := by decide +kernel
theorem dX12_letterAt_14 : decode cX12_letterAt 14 = .ok (.goto 4, 3) := by decide +kernel
theorem dX12_letterAt_17 : decode cX12_letterAt 17 = .ok (.iconst 0, 1) := by decide +kernel
theorem dX12_letterAt_18 : decode cX12_letterAt 18 = .ok (.ireturn, 1) := by decide +kernel
theorem dX12_figures_0 : decode cX12_figures 0 = .ok (.iconst 0, 1) := by decide +kernel
theorem dX12_figures_1 : decode cX12_figures 1 = .ok (.istore_n 2, 1) := by decide +kernel
theorem dX12_figures_2 : decode cX12_figures 2 = .ok (.iconst 0, 1) := by decide +kernel
theorem dX12_figures_3 : decode cX12_figures 3 = .ok (.istore_n 3, 1) := by decide +kernel
theorem dX12_figures_4 : decode cX12_figures 4 = .ok (.iload_n 3, 1) := by decide +kernel
theorem dX12_figures_5 : decode cX12_figures 5 = .ok (.iload_n 1, 1) := by decide +kernel
theorem dX12_figures_6 : decode cX12_figures 6 = .ok (.if_icmp .ge 60, 3) := by decide +kernel
theorem dX12_figures_9 : decode cX12_figures 9 = .ok (.aload_n 0, 1) := by decide +kernel
theorem dX12_figures_10 : decode cX12_figures 10 = .ok (.aload_n 0, 1) := by decide +kernel
theorem dX12_figures_11 : decode cX12_figures 11 = .ok (.getfield 152, 3) := by decide +kernel
theorem dX12_figures_14 : decode cX12_figures 14 = .ok (.invokevirtual 155, 3) := by decide +kernel
theorem dX12_figures_17 : decode cX12_figures 17 = .ok (.i2l, 1) := by decide +kernel
theorem dX12_figures_18 : decode cX12_figures 18 = .ok (.ldc2_w 159, 3) := by decide +kernel
theorem dX12_figures_21 : decode cX12_figures 21 = .ok (.ldc2_w 161, 3) := by decide +kernel
theorem dX12_figures_24 : decode cX12_figures 24 = .ok (.invokestatic 145, 3) := by decide +kernel
theorem dX12_figures_27 : decode cX12_figures 27 = .ok (.ifCond .ne 6, 3) := by decide +kernel
theorem dX12_figures_30 : decode cX12_figures 30 = .ok (.bipush (-4), 2) := by decide +kernel
theorem dX12_figures_32 : decode cX12_figures 32 = .ok (.ireturn, 1) := by decide +kernel
theorem dX12_figures_33 : decode cX12_figures 33 = .ok (.bipush 10, 2) := by decide +kernel
theorem dX12_figures_35 : decode cX12_figures 35 = .ok (.iload_n 2, 1) := by decide +kernel
theorem dX12_figures_36 : decode cX12_figures 36 = .ok (.imul, 1) := by decide +kernel
theorem dX12_figures_37 : decode cX12_figures 37 = .ok (.aload_n 0, 1) := by decide +kernel
theorem dX12_figures_38 : decode cX12_figures 38 = .ok (.aload_n 0, 1) := by decide +kernel
theorem dX12_figures_39 : decode cX12_figures 39 = .ok (.getfield 152, 3) := by decide +kernel
theorem dX12_figures_42 : decode cX12_figures 42 = .ok (.invokevirtual 155, 3) := by decide +kernel
theorem dX12_figures_45 : decode cX12_figures 45 = .ok (.iadd, 1) := by decide +kernel
theorem dX12_figures_46 : decode cX12_figures 46 = .ok (.bipush 48, 2) := by decide +kernel
theorem dX12_figures_48 : decode cX12_figures 48 = .ok (.isub, 1) := by decide +kernel
theorem dX12_figures_49 : decode cX12_figures 49 = .ok (.istore_n 2, 1) := by decide +kernel
theorem dX12_figures_50 : decode cX12_figures 50 = .ok (.aload_n 0, 1) := by decide +kernel
theorem dX12_figures_51 : decode cX12_figures 51 = .ok (.dup, 1) := by decide +kernel
theorem dX12_figures_52 : decode cX12_figures 52 = .ok (.getfield 152, 3) := by decide +kernel
theorem dX12_figures_55 : decode cX12_figures 55 = .ok (.iconst 1, 1) := by decide +kernel
theorem dX12_figures_56 : decode cX12_figures 56 = .ok (.iadd, 1) := by decide +kernel
theorem dX12_figures_57 : decode cX12_figures 57 = .ok (.putfield 152, 3) := by decide +kernel
theorem dX12_figures_60 : decode cX12_figures 60 = .ok (.iinc 3 1, 3) := by decide +kernel
theorem dX12_figures_63 : decode cX12_figures 63 = .ok (.goto (-59), 3) := by decide +kernel
theorem dX12_figures_66 : decode cX12_figures 66 = .ok (.iload_n 2, 1) := by decide +kernel
theorem dX12_figures_67 : decode cX12_figures 67 = .ok (.ireturn, 1) := by decide +kernel
theorem dX12_ends_0 : decode cX12_ends 0 = .ok (.aload_n 0, 1) := by decide +kernel
theorem dX12_ends_1 : decode cX12_ends 1 = .ok (.dup, 1) := by decide +kernel
theorem dX12_ends_2 : decode cX12_ends 2 = .ok (.getfield 152, 3) := by decide +kernel
theorem dX12_ends_5 : decode cX12_ends 5 = .ok (.iconst 1, 1) := by decide +kernel
theorem dX12_ends_6 : decode cX12_ends 6 = .ok (.iadd, 1) := by decide +kernel
theorem dX12_ends_7 : decode cX12_ends 7 = .ok (.putfield 152, 3) := by decide +kernel
theorem dX12_ends_10 : decode cX12_ends 10 = .ok (.aload_n 0, 1) := by decide +kernel
theorem dX12_ends_11 : decode cX12_ends 11 = .ok (.aload_n 0, 1) := by decide +kernel
theorem dX12_ends_12 : decode cX12_ends 12 = .ok (.getfield 152, 3) := by decide +kernel
theorem dX12_ends_15 : decode cX12_ends 15 = .ok (.iconst 1, 1) := by decide +kernel
theorem dX12_ends_16 : decode cX12_ends 16 = .ok (.isub, 1) := by decide +kernel
theorem dX12_ends_17 : decode cX12_ends 17 = .ok (.invokevirtual 155, 3) := by decide +kernel
theorem dX12_ends_20 : decode cX12_ends 20 = .ok (.bipush 59, 2) := by decide +kernel
theorem dX12_ends_22 : decode cX12_ends 22 = .ok (.if_icmp .ne 7, 3) := by decide +kernel
theorem dX12_ends_25 : decode cX12_ends 25 = .ok (.iconst 1, 1) := by decide +kernel
theorem dX12_ends_26 : decode cX12_ends 26 = .ok (.goto 4, 3) := by decide +kernel
theorem dX12_ends_29 : decode cX12_ends 29 = .ok (.iconst 0, 1) := by decide +kernel
theorem dX12_ends_30 : decode cX12_ends 30 = .ok (.ireturn, 1) := by decide +kernel
theorem dX12_deviceItem_0 : decode cX12_deviceItem 0 = .ok (.aload_n 0, 1) := by decide +kernel
theorem dX12_deviceItem_1 : decode cX12_deviceItem 1 = .ok (.iconst 2, 1) := by decide +kernel
theorem dX12_deviceItem_2 : decode cX12_deviceItem 2 = .ok (.invokevirtual 163, 3) := by decide +kernel
theorem dX12_deviceItem_5 : decode cX12_deviceItem 5 = .ok (.istore_n 1, 1) := by decide +kernel
theorem dX12_deviceItem_6 : decode cX12_deviceItem 6 = .ok (.iload_n 1, 1) := by decide +kernel
theorem dX12_deviceItem_7 : decode cX12_deviceItem 7 = .ok (.bipush (-4), 2) := by decide +kernel
theorem dX12_deviceItem_9 : decode cX12_deviceItem 9 = .ok (.if_icmp .ne 8, 3) := by decide +kernel
theorem dX12_deviceItem_12 : decode cX12_deviceItem 12 = .ok (.bipush (-4), 2) := by decide +kernel
theorem dX12_deviceItem_14 : decode cX12_deviceItem 14 = .ok (.goto 8, 3) := by decide +kernel
theorem dX12_deviceItem_17 : decode cX12_deviceItem 17 = .ok (.aload_n 0, 1) := by decide +kernel
theorem dX12_deviceItem_18 : decode cX12_deviceItem 18 = .ok (.iconst 1, 1) := by decide +kernel
theorem dX12_deviceItem_19 : decode cX12_deviceItem 19 = .ok (.invokevirtual 163, 3) := by decide +kernel
theorem dX12_deviceItem_22 : decode cX12_deviceItem 22 = .ok (.istore_n 2, 1) := by decide +kernel
theorem dX12_deviceItem_23 : decode cX12_deviceItem 23 = .ok (.iload_n 2, 1) := by decide +kernel
theorem dX12_deviceItem_24 : decode cX12_deviceItem 24 = .ok (.bipush (-4), 2) := by decide +kernel
theorem dX12_deviceItem_26 : decode cX12_deviceItem 26 = .ok (.if_icmp .ne 8, 3) := by decide +kernel
theorem dX12_deviceItem_29 : decode cX12_deviceItem 29 = .ok (.bipush (-4), 2) := by decide +kernel
theorem dX12_deviceItem_31 : decode cX12_deviceItem 31 = .ok (.goto 8, 3) := by decide +kernel
theorem dX12_deviceItem_34 : decode cX12_deviceItem 34 = .ok (.aload_n 0, 1) := by decide +kernel
theorem dX12_deviceItem_35 : decode cX12_deviceItem 35 = .ok (.iconst 3, 1) := by decide +kernel
theorem dX12_deviceItem_36 : decode cX12_deviceItem 36 = .ok (.invokevirtual 163, 3) := by decide +kernel
theorem dX12_deviceItem_39 : decode cX12_deviceItem 39 = .ok (.istore_n 3, 1) := by decide +kernel
theorem dX12_deviceItem_40 : decode cX12_deviceItem 40 = .ok (.iload_n 3, 1) := by decide +kernel
theorem dX12_deviceItem_41 : decode cX12_deviceItem 41 = .ok (.bipush (-4), 2) := by decide +kernel
theorem dX12_deviceItem_43 : decode cX12_deviceItem 43 = .ok (.if_icmp .ne 8, 3) := by decide +kernel
theorem dX12_deviceItem_46 : decode cX12_deviceItem 46 = .ok (.bipush (-4), 2) := by decide +kernel
theorem dX12_deviceItem_48 : decode cX12_deviceItem 48 = .ok (.goto 8, 3) := by decide +kernel
theorem dX12_deviceItem_51 : decode cX12_deviceItem 51 = .ok (.aload_n 0, 1) := by decide +kernel
theorem dX12_deviceItem_52 : decode cX12_deviceItem 52 = .ok (.iconst 1, 1) := by decide +kernel
theorem dX12_deviceItem_53 : decode cX12_deviceItem 53 = .ok (.invokevirtual 163, 3) := by decide +kernel
theorem dX12_deviceItem_56 : decode cX12_deviceItem 56 = .ok (.istore 4, 2) := by decide +kernel
theorem dX12_deviceItem_58 : decode cX12_deviceItem 58 = .ok (.iload 4, 2) := by decide +kernel
theorem dX12_deviceItem_60 : decode cX12_deviceItem 60 = .ok (.bipush (-4), 2) := by decide +kernel
theorem dX12_deviceItem_62 : decode cX12_deviceItem 62 = .ok (.if_icmp .eq 27, 3) := by decide +kernel
theorem dX12_deviceItem_65 : decode cX12_deviceItem 65 = .ok (.aload_n 0, 1) := by decide +kernel
theorem dX12_deviceItem_66 : decode cX12_deviceItem 66 = .ok (.getfield 138, 3) := by decide +kernel
theorem dX12_deviceItem_69 : decode cX12_deviceItem 69 = .ok (.bipush 8, 2) := by decide +kernel
theorem dX12_deviceItem_71 : decode cX12_deviceItem 71 = .ok (.if_icmp .eq 18, 3) := by decide +kernel
theorem dX12_deviceItem_74 : decode cX12_deviceItem 74 = .ok (.iload_n 1, 1) := by decide +kernel
theorem dX12_deviceItem_75 : decode cX12_deviceItem 75 = .ok (.ifCond .eq 14, 3) := by decide +kernel
theorem dX12_deviceItem_78 : decode cX12_deviceItem 78 = .ok (.iload_n 2, 1) := by decide +kernel
theorem dX12_deviceItem_79 : decode cX12_deviceItem 79 = .ok (.ifCond .eq 10, 3) := by decide +kernel
theorem dX12_deviceItem_82 : decode cX12_deviceItem 82 = .ok (.iload 4, 2) := by decide +kernel
theorem dX12_deviceItem_84 : decode cX12_deviceItem 84 = .ok (.bipush 8, 2) := by decide +kernel
theorem dX12_deviceItem_86 : decode cX12_deviceItem 86 = .ok (.if_icmp .le 5, 3) := by decide +kernel
theorem dX12_deviceItem_89 : decode cX12_deviceItem 89 = .ok (.iconst 0, 1) := by decide +kernel
theorem dX12_deviceItem_90 : decode cX12_deviceItem 90 = .ok (.ireturn, 1) := by decide +kernel
theorem dX12_deviceItem_91 : decode cX12_deviceItem 91 = .ok (.iconst 0, 1) := by decide +kernel
theorem dX12_deviceItem_92 : decode cX12_deviceItem 92 = .ok (.istore 5, 2) := by decide +kernel
theorem dX12_deviceItem_94 : decode cX12_deviceItem 94 = .ok (.iload 5, 2) := by decide +kernel
theorem dX12_deviceItem_96 : decode cX12_deviceItem 96 = .ok (.aload_n 0, 1) := by decide +kernel
theorem dX12_deviceItem_97 : decode cX12_deviceItem 97 = .ok (.getfield 138, 3) := by decide +kernel
theorem dX12_deviceItem_100 : decode cX12_deviceItem 100 = .ok (.if_icmp .ge 22, 3) := by decide +kernel
theorem dX12_deviceItem_103 : decode cX12_deviceItem 103 = .ok (.aload_n 0, 1) := by decide +kernel
theorem dX12_deviceItem_104 : decode cX12_deviceItem 104 = .ok (.getfield 13, 3) := by decide +kernel
theorem dX12_deviceItem_107 : decode cX12_deviceItem 107 = .ok (.iload 5, 2) := by decide +kernel
theorem dX12_deviceItem_109 : decode cX12_deviceItem 109 = .ok (.iaload, 1) := by decide +kernel
theorem dX12_deviceItem_110 : decode cX12_deviceItem 110 = .ok (.iload_n 1, 1) := by decide +kernel
theorem dX12_deviceItem_111 : decode cX12_deviceItem 111 = .ok (.if_icmp .ne 5, 3) := by decide +kernel
theorem dX12_deviceItem_114 : decode cX12_deviceItem 114 = .ok (.iconst 0, 1) := by decide +kernel
theorem dX12_deviceItem_115 : decode cX12_deviceItem 115 = .ok (.ireturn, 1) := by decide +kernel
theorem dX12_deviceItem_116 : decode cX12_deviceItem 116 = .ok (.iinc 5 1, 3) := by decide +kernel
theorem dX12_deviceItem_119 : decode cX12_deviceItem 119 = .ok (.goto (-25), 3) := by decide +kernel
theorem dX12_deviceItem_122 : decode cX12_deviceItem 122 = .ok (.aload_n 0, 1) := by decide +kernel
theorem dX12_deviceItem_123 : decode cX12_deviceItem 123 = .ok (.iload_n 1, 1) := by decide +kernel
theorem dX12_deviceItem_124 : decode cX12_deviceItem 124 = .ok (.iload_n 2, 1) := by decide +kernel
theorem dX12_deviceItem_125 : decode cX12_deviceItem 125 = .ok (.iload_n 3, 1) := by decide +kernel
theorem dX12_deviceItem_126 : decode cX12_deviceItem 126 = .ok (.iload 4, 2) := by decide +kernel
theorem dX12_deviceItem_128 : decode cX12_deviceItem 128 = .ok (.invokevirtual 124, 3) := by decide +kernel
theorem dX12_deviceItem_131 : decode cX12_deviceItem 131 = .ok (.aload_n 0, 1) := by decide +kernel
theorem dX12_deviceItem_132 : decode cX12_deviceItem 132 = .ok (.invokevirtual 166, 3) := by decide +kernel
theorem dX12_deviceItem_135 : decode cX12_deviceItem 135 = .ok (.ireturn, 1) := by decide +kernel
theorem dX12_endItem_0 : decode cX12_endItem 0 = .ok (.aload_n 0, 1) := by decide +kernel
theorem dX12_endItem_1 : decode cX12_endItem 1 = .ok (.iconst 1, 1) := by decide +kernel
theorem dX12_endItem_2 : decode cX12_endItem 2 = .ok (.invokevirtual 163, 3) := by decide +kernel
theorem dX12_endItem_5 : decode cX12_endItem 5 = .ok (.istore_n 1, 1) := by decide +kernel
theorem dX12_endItem_6 : decode cX12_endItem 6 = .ok (.iload_n 1, 1) := by decide +kernel
theorem dX12_endItem_7 : decode cX12_endItem 7 = .ok (.bipush (-4), 2) := by decide +kernel
theorem dX12_endItem_9 : decode cX12_endItem 9 = .ok (.if_icmp .ne 8, 3) := by decide +kernel
theorem dX12_endItem_12 : decode cX12_endItem 12 = .ok (.bipush (-4), 2) := by decide +kernel
theorem dX12_endItem_14 : decode cX12_endItem 14 = .ok (.goto 8, 3) := by decide +kernel
theorem dX12_endItem_17 : decode cX12_endItem 17 = .ok (.aload_n 0, 1) := by decide +kernel
theorem dX12_endItem_18 : decode cX12_endItem 18 = .ok (.iconst 1, 1) := by decide +kernel
theorem dX12_endItem_19 : decode cX12_endItem 19 = .ok (.invokevirtual 163, 3) := by decide +kernel
theorem dX12_endItem_22 : decode cX12_endItem 22 = .ok (.istore_n 2, 1) := by decide +kernel
theorem dX12_endItem_23 : decode cX12_endItem 23 = .ok (.iload_n 2, 1) := by decide +kernel
theorem dX12_endItem_24 : decode cX12_endItem 24 = .ok (.bipush (-4), 2) := by decide +kernel
theorem dX12_endItem_26 : decode cX12_endItem 26 = .ok (.if_icmp .ne 8, 3) := by decide +kernel
theorem dX12_endItem_29 : decode cX12_endItem 29 = .ok (.bipush (-4), 2) := by decide +kernel
theorem dX12_endItem_31 : decode cX12_endItem 31 = .ok (.goto 8, 3) := by decide +kernel
theorem dX12_endItem_34 : decode cX12_endItem 34 = .ok (.aload_n 0, 1) := by decide +kernel
theorem dX12_endItem_35 : decode cX12_endItem 35 = .ok (.iconst 1, 1) := by decide +kernel
theorem dX12_endItem_36 : decode cX12_endItem 36 = .ok (.invokevirtual 163, 3) := by decide +kernel
theorem dX12_endItem_39 : decode cX12_endItem 39 = .ok (.istore_n 3, 1) := by decide +kernel
theorem dX12_endItem_40 : decode cX12_endItem 40 = .ok (.iload_n 3, 1) := by decide +kernel
theorem dX12_endItem_41 : decode cX12_endItem 41 = .ok (.bipush (-4), 2) := by decide +kernel
theorem dX12_endItem_43 : decode cX12_endItem 43 = .ok (.if_icmp .eq 7, 3) := by decide +kernel
theorem dX12_endItem_46 : decode cX12_endItem 46 = .ok (.iload_n 1, 1) := by decide +kernel
theorem dX12_endItem_47 : decode cX12_endItem 47 = .ok (.ifCond .ne 5, 3) := by decide +kernel
theorem dX12_endItem_50 : decode cX12_endItem 50 = .ok (.iconst 0, 1) := by decide +kernel
theorem dX12_endItem_51 : decode cX12_endItem 51 = .ok (.ireturn, 1) := by decide +kernel
theorem dX12_endItem_52 : decode cX12_endItem 52 = .ok (.aload_n 0, 1) := by decide +kernel
theorem dX12_endItem_53 : decode cX12_endItem 53 = .ok (.getfield 16, 3) := by decide +kernel
theorem dX12_endItem_56 : decode cX12_endItem 56 = .ok (.bipush 8, 2) := by decide +kernel
theorem dX12_endItem_58 : decode cX12_endItem 58 = .ok (.iload_n 1, 1) := by decide +kernel
theorem dX12_endItem_59 : decode cX12_endItem 59 = .ok (.iastore, 1) := by decide +kernel
theorem dX12_endItem_60 : decode cX12_endItem 60 = .ok (.aload_n 0, 1) := by decide +kernel
theorem dX12_endItem_61 : decode cX12_endItem 61 = .ok (.iload_n 2, 1) := by decide +kernel
theorem dX12_endItem_62 : decode cX12_endItem 62 = .ok (.putfield 128, 3) := by decide +kernel
theorem dX12_endItem_65 : decode cX12_endItem 65 = .ok (.aload_n 0, 1) := by decide +kernel
theorem dX12_endItem_66 : decode cX12_endItem 66 = .ok (.iload_n 3, 1) := by decide +kernel
theorem dX12_endItem_67 : decode cX12_endItem 67 = .ok (.putfield 132, 3) := by decide +kernel
theorem dX12_endItem_70 : decode cX12_endItem 70 = .ok (.aload_n 0, 1) := by decide +kernel
theorem dX12_endItem_71 : decode cX12_endItem 71 = .ok (.invokevirtual 166, 3) := by decide +kernel
theorem dX12_endItem_74 : decode cX12_endItem 74 = .ok (.ireturn, 1) := by decide +kernel
theorem dX12_readAll_0 : decode cX12_readAll 0 = .ok (.aload_n 0, 1) := by decide +kernel
theorem dX12_readAll_1 : decode cX12_readAll 1 = .ok (.invokevirtual 121, 3) := by decide +kernel
theorem dX12_readAll_4 : decode cX12_readAll 4 = .ok (.aload_n 0, 1) := by decide +kernel
theorem dX12_readAll_5 : decode cX12_readAll 5 = .ok (.iconst 0, 1) := by decide +kernel
theorem dX12_readAll_6 : decode cX12_readAll 6 = .ok (.putfield 152, 3) := by decide +kernel
theorem dX12_readAll_9 : decode cX12_readAll 9 = .ok (.aload_n 0, 1) := by decide +kernel
theorem dX12_readAll_10 : decode cX12_readAll 10 = .ok (.getfield 152, 3) := by decide +kernel
theorem dX12_readAll_13 : decode cX12_readAll 13 = .ok (.aload_n 0, 1) := by decide +kernel
theorem dX12_readAll_14 : decode cX12_readAll 14 = .ok (.getfield 149, 3) := by decide +kernel
theorem dX12_readAll_17 : decode cX12_readAll 17 = .ok (.if_icmp .ge 68, 3) := by decide +kernel
theorem dX12_readAll_20 : decode cX12_readAll 20 = .ok (.aload_n 0, 1) := by decide +kernel
theorem dX12_readAll_21 : decode cX12_readAll 21 = .ok (.getfield 152, 3) := by decide +kernel
theorem dX12_readAll_24 : decode cX12_readAll 24 = .ok (.istore_n 1, 1) := by decide +kernel
theorem dX12_readAll_25 : decode cX12_readAll 25 = .ok (.aload_n 0, 1) := by decide +kernel
theorem dX12_readAll_26 : decode cX12_readAll 26 = .ok (.aload_n 0, 1) := by decide +kernel
theorem dX12_readAll_27 : decode cX12_readAll 27 = .ok (.getfield 152, 3) := by decide +kernel
theorem dX12_readAll_30 : decode cX12_readAll 30 = .ok (.invokevirtual 155, 3) := by decide +kernel
theorem dX12_readAll_33 : decode cX12_readAll 33 = .ok (.istore_n 2, 1) := by decide +kernel
theorem dX12_readAll_34 : decode cX12_readAll 34 = .ok (.aload_n 0, 1) := by decide +kernel
theorem dX12_readAll_35 : decode cX12_readAll 35 = .ok (.dup, 1) := by decide +kernel
theorem dX12_readAll_36 : decode cX12_readAll 36 = .ok (.getfield 152, 3) := by decide +kernel
theorem dX12_readAll_39 : decode cX12_readAll 39 = .ok (.iconst 1, 1) := by decide +kernel
theorem dX12_readAll_40 : decode cX12_readAll 40 = .ok (.iadd, 1) := by decide +kernel
theorem dX12_readAll_41 : decode cX12_readAll 41 = .ok (.putfield 152, 3) := by decide +kernel
theorem dX12_readAll_44 : decode cX12_readAll 44 = .ok (.iload_n 2, 1) := by decide +kernel
theorem dX12_readAll_45 : decode cX12_readAll 45 = .ok (.bipush 100, 2) := by decide +kernel
theorem dX12_readAll_47 : decode cX12_readAll 47 = .ok (.if_icmp .ne 10, 3) := by decide +kernel
theorem dX12_readAll_50 : decode cX12_readAll 50 = .ok (.aload_n 0, 1) := by decide +kernel
theorem dX12_readAll_51 : decode cX12_readAll 51 = .ok (.invokevirtual 170, 3) := by decide +kernel
theorem dX12_readAll_54 : decode cX12_readAll 54 = .ok (.goto 21, 3) := by decide +kernel
theorem dX12_readAll_57 : decode cX12_readAll 57 = .ok (.iload_n 2, 1) := by decide +kernel
theorem dX12_readAll_58 : decode cX12_readAll 58 = .ok (.bipush 101, 2) := by decide +kernel
theorem dX12_readAll_60 : decode cX12_readAll 60 = .ok (.if_icmp .ne 14, 3) := by decide +kernel
theorem dX12_readAll_63 : decode cX12_readAll 63 = .ok (.aload_n 0, 1) := by decide +kernel
theorem dX12_readAll_64 : decode cX12_readAll 64 = .ok (.invokevirtual 173, 3) := by decide +kernel
theorem dX12_readAll_67 : decode cX12_readAll 67 = .ok (.ifCond .eq 7, 3) := by decide +kernel
theorem dX12_readAll_70 : decode cX12_readAll 70 = .ok (.iconst 1, 1) := by decide +kernel
theorem dX12_readAll_71 : decode cX12_readAll 71 = .ok (.goto 4, 3) := by decide +kernel
theorem dX12_readAll_74 : decode cX12_readAll 74 = .ok (.iconst 0, 1) := by decide +kernel
theorem dX12_readAll_75 : decode cX12_readAll 75 = .ok (.istore_n 3, 1) := by decide +kernel
theorem dX12_readAll_76 : decode cX12_readAll 76 = .ok (.iload_n 3, 1) := by decide +kernel
theorem dX12_readAll_77 : decode cX12_readAll 77 = .ok (.ifCond .ne 5, 3) := by decide +kernel
theorem dX12_readAll_80 : decode cX12_readAll 80 = .ok (.iload_n 1, 1) := by decide +kernel
theorem dX12_readAll_81 : decode cX12_readAll 81 = .ok (.ireturn, 1) := by decide +kernel
theorem dX12_readAll_82 : decode cX12_readAll 82 = .ok (.goto (-73), 3) := by decide +kernel
theorem dX12_readAll_85 : decode cX12_readAll 85 = .ok (.bipush (-4), 2) := by decide +kernel
theorem dX12_readAll_87 : decode cX12_readAll 87 = .ok (.ireturn, 1) := by decide +kernel
theorem dX12_fault_0 : decode cX12_fault 0 = .ok (.aload_n 0, 1) := by decide +kernel
theorem dX12_fault_1 : decode cX12_fault 1 = .ok (.invokevirtual 176, 3) := by decide +kernel
theorem dX12_fault_4 : decode cX12_fault 4 = .ok (.ireturn, 1) := by decide +kernel
theorem dX12_lay_0 : decode cX12_lay 0 = .ok (.aload_n 0, 1) := by decide +kernel
theorem dX12_lay_1 : decode cX12_lay 1 = .ok (.invokevirtual 176, 3) := by decide +kernel
theorem dX12_lay_4 : decode cX12_lay 4 = .ok (.bipush (-4), 2) := by decide +kernel
theorem dX12_lay_6 : decode cX12_lay 6 = .ok (.if_icmp .ne 10, 3) := by decide +kernel
theorem dX12_lay_9 : decode cX12_lay 9 = .ok (.aload_n 0, 1) := by decide +kernel
theorem dX12_lay_10 : decode cX12_lay 10 = .ok (.getfield 138, 3) := by decide +kernel
theorem dX12_lay_13 : decode cX12_lay 13 = .ok (.ifCond .ne 6, 3) := by decide +kernel
theorem dX12_lay_16 : decode cX12_lay 16 = .ok (.bipush (-2), 2) := by decide +kernel
theorem dX12_lay_18 : decode cX12_lay 18 = .ok (.ireturn, 1) := by decide +kernel
theorem dX12_lay_19 : decode cX12_lay 19 = .ok (.aload_n 0, 1) := by decide +kernel
theorem dX12_lay_20 : decode cX12_lay 20 = .ok (.invokevirtual 135, 3) := by decide +kernel
theorem dX12_lay_23 : decode cX12_lay 23 = .ok (.aload_n 0, 1) := by decide +kernel
theorem dX12_lay_24 : decode cX12_lay 24 = .ok (.getfield 180, 3) := by decide +kernel
theorem dX12_lay_27 : decode cX12_lay 27 = .ok (.ireturn, 1) := by decide +kernel
theorem dX12_begin_0 : decode cX12_begin 0 = .ok (.aload_n 0, 1) := by decide +kernel
theorem dX12_begin_1 : decode cX12_begin 1 = .ok (.aload_n 0, 1) := by decide +kernel
theorem dX12_begin_2 : decode cX12_begin 2 = .ok (.getfield 138, 3) := by decide +kernel
theorem dX12_begin_5 : decode cX12_begin 5 = .ok (.putfield 180, 3) := by decide +kernel
theorem dX12_begin_8 : decode cX12_begin 8 = .ok (.aload_n 0, 1) := by decide +kernel
theorem dX12_begin_9 : decode cX12_begin 9 = .ok (.aload_n 0, 1) := by decide +kernel
theorem dX12_begin_10 : decode cX12_begin 10 = .ok (.getfield 128, 3) := by decide +kernel
theorem dX12_begin_13 : decode cX12_begin 13 = .ok (.putfield 183, 3) := by decide +kernel
theorem dX12_begin_16 : decode cX12_begin 16 = .ok (.aload_n 0, 1) := by decide +kernel
theorem dX12_begin_17 : decode cX12_begin 17 = .ok (.aload_n 0, 1) := by decide +kernel
theorem dX12_begin_18 : decode cX12_begin 18 = .ok (.getfield 132, 3) := by decide +kernel
theorem dX12_begin_21 : decode cX12_begin 21 = .ok (.putfield 186, 3) := by decide +kernel
theorem dX12_begin_24 : decode cX12_begin 24 = .ok (.iconst 0, 1) := by decide +kernel
theorem dX12_begin_25 : decode cX12_begin 25 = .ok (.istore_n 1, 1) := by decide +kernel
theorem dX12_begin_26 : decode cX12_begin 26 = .ok (.iload_n 1, 1) := by decide +kernel
theorem dX12_begin_27 : decode cX12_begin 27 = .ok (.bipush 8, 2) := by decide +kernel
theorem dX12_begin_29 : decode cX12_begin 29 = .ok (.if_icmp .ge 76, 3) := by decide +kernel
theorem dX12_begin_32 : decode cX12_begin 32 = .ok (.aload_n 0, 1) := by decide +kernel
theorem dX12_begin_33 : decode cX12_begin 33 = .ok (.getfield 25, 3) := by decide +kernel
theorem dX12_begin_36 : decode cX12_begin 36 = .ok (.iload_n 1, 1) := by decide +kernel
theorem dX12_begin_37 : decode cX12_begin 37 = .ok (.aload_n 0, 1) := by decide +kernel
theorem dX12_begin_38 : decode cX12_begin 38 = .ok (.getfield 13, 3) := by decide +kernel
theorem dX12_begin_41 : decode cX12_begin 41 = .ok (.iload_n 1, 1) := by decide +kernel
theorem dX12_begin_42 : decode cX12_begin 42 = .ok (.iaload, 1) := by decide +kernel
theorem dX12_begin_43 : decode cX12_begin 43 = .ok (.iastore, 1) := by decide +kernel
theorem dX12_begin_44 : decode cX12_begin 44 = .ok (.aload_n 0, 1) := by decide +kernel
theorem dX12_begin_45 : decode cX12_begin 45 = .ok (.getfield 28, 3) := by decide +kernel
theorem dX12_begin_48 : decode cX12_begin 48 = .ok (.iload_n 1, 1) := by decide +kernel
theorem dX12_begin_49 : decode cX12_begin 49 = .ok (.aload_n 0, 1) := by decide +kernel
theorem dX12_begin_50 : decode cX12_begin 50 = .ok (.getfield 16, 3) := by decide +kernel
theorem dX12_begin_53 : decode cX12_begin 53 = .ok (.iload_n 1, 1) := by decide +kernel
theorem dX12_begin_54 : decode cX12_begin 54 = .ok (.iaload, 1) := by decide +kernel
theorem dX12_begin_55 : decode cX12_begin 55 = .ok (.iastore, 1) := by decide +kernel
theorem dX12_begin_56 : decode cX12_begin 56 = .ok (.aload_n 0, 1) := by decide +kernel
theorem dX12_begin_57 : decode cX12_begin 57 = .ok (.getfield 31, 3) := by decide +kernel
theorem dX12_begin_60 : decode cX12_begin 60 = .ok (.iload_n 1, 1) := by decide +kernel
theorem dX12_begin_61 : decode cX12_begin 61 = .ok (.aload_n 0, 1) := by decide +kernel
theorem dX12_begin_62 : decode cX12_begin 62 = .ok (.getfield 19, 3) := by decide +kernel
theorem dX12_begin_65 : decode cX12_begin 65 = .ok (.iload_n 1, 1) := by decide +kernel
theorem dX12_begin_66 : decode cX12_begin 66 = .ok (.iaload, 1) := by decide +kernel
theorem dX12_begin_67 : decode cX12_begin 67 = .ok (.iastore, 1) := by decide +kernel
theorem dX12_begin_68 : decode cX12_begin 68 = .ok (.aload_n 0, 1) := by decide +kernel
theorem dX12_begin_69 : decode cX12_begin 69 = .ok (.getfield 34, 3) := by decide +kernel
theorem dX12_begin_72 : decode cX12_begin 72 = .ok (.iload_n 1, 1) := by decide +kernel
theorem dX12_begin_73 : decode cX12_begin 73 = .ok (.aload_n 0, 1) := by decide +kernel
theorem dX12_begin_74 : decode cX12_begin 74 = .ok (.getfield 22, 3) := by decide +kernel
theorem dX12_begin_77 : decode cX12_begin 77 = .ok (.iload_n 1, 1) := by decide +kernel
theorem dX12_begin_78 : decode cX12_begin 78 = .ok (.iaload, 1) := by decide +kernel
theorem dX12_begin_79 : decode cX12_begin 79 = .ok (.iastore, 1) := by decide +kernel
theorem dX12_begin_80 : decode cX12_begin 80 = .ok (.aload_n 0, 1) := by decide +kernel
theorem dX12_begin_81 : decode cX12_begin 81 = .ok (.getfield 46, 3) := by decide +kernel
theorem dX12_begin_84 : decode cX12_begin 84 = .ok (.iload_n 1, 1) := by decide +kernel
theorem dX12_begin_85 : decode cX12_begin 85 = .ok (.iconst 0, 1) := by decide +kernel
theorem dX12_begin_86 : decode cX12_begin 86 = .ok (.iastore, 1) := by decide +kernel
theorem dX12_begin_87 : decode cX12_begin 87 = .ok (.aload_n 0, 1) := by decide +kernel
theorem dX12_begin_88 : decode cX12_begin 88 = .ok (.getfield 49, 3) := by decide +kernel
theorem dX12_begin_91 : decode cX12_begin 91 = .ok (.iload_n 1, 1) := by decide +kernel
theorem dX12_begin_92 : decode cX12_begin 92 = .ok (.iconst 0, 1) := by decide +kernel
theorem dX12_begin_93 : decode cX12_begin 93 = .ok (.iastore, 1) := by decide +kernel
theorem dX12_begin_94 : decode cX12_begin 94 = .ok (.aload_n 0, 1) := by decide +kernel
theorem dX12_begin_95 : decode cX12_begin 95 = .ok (.iload_n 1, 1) := by decide +kernel
theorem dX12_begin_96 : decode cX12_begin 96 = .ok (.invokevirtual 189, 3) := by decide +kernel
theorem dX12_begin_99 : decode cX12_begin 99 = .ok (.iinc 1 1, 3) := by decide +kernel
theorem dX12_begin_102 : decode cX12_begin 102 = .ok (.goto (-76), 3) := by decide +kernel
theorem dX12_begin_105 : decode cX12_begin 105 = .ok (.aload_n 0, 1) := by decide +kernel
theorem dX12_begin_106 : decode cX12_begin 106 = .ok (.getfield 28, 3) := by decide +kernel
theorem dX12_begin_109 : decode cX12_begin 109 = .ok (.aload_n 0, 1) := by decide +kernel
theorem dX12_begin_110 : decode cX12_begin 110 = .ok (.getfield 180, 3) := by decide +kernel
theorem dX12_begin_113 : decode cX12_begin 113 = .ok (.aload_n 0, 1) := by decide +kernel
theorem dX12_begin_114 : decode cX12_begin 114 = .ok (.getfield 16, 3) := by decide +kernel
theorem dX12_begin_117 : decode cX12_begin 117 = .ok (.bipush 8, 2) := by decide +kernel
theorem dX12_begin_119 : decode cX12_begin 119 = .ok (.iaload, 1) := by decide +kernel
theorem dX12_begin_120 : decode cX12_begin 120 = .ok (.iastore, 1) := by decide +kernel
theorem dX12_begin_121 : decode cX12_begin 121 = .ok (.iconst 0, 1) := by decide +kernel
theorem dX12_begin_122 : decode cX12_begin 122 = .ok (.istore_n 1, 1) := by decide +kernel
theorem dX12_begin_123 : decode cX12_begin 123 = .ok (.iload_n 1, 1) := by decide +kernel
theorem dX12_begin_124 : decode cX12_begin 124 = .ok (.bipush 9, 2) := by decide +kernel
theorem dX12_begin_126 : decode cX12_begin 126 = .ok (.if_icmp .ge 16, 3) := by decide +kernel
theorem dX12_begin_129 : decode cX12_begin 129 = .ok (.aload_n 0, 1) := by decide +kernel
theorem dX12_begin_130 : decode cX12_begin 130 = .ok (.getfield 37, 3) := by decide +kernel
theorem dX12_begin_133 : decode cX12_begin 133 = .ok (.iload_n 1, 1) := by decide +kernel
theorem dX12_begin_134 : decode cX12_begin 134 = .ok (.iconst 0, 1) := by decide +kernel
theorem dX12_begin_135 : decode cX12_begin 135 = .ok (.iastore, 1) := by decide +kernel
theorem dX12_begin_136 : decode cX12_begin 136 = .ok (.iinc 1 1, 3) := by decide +kernel
theorem dX12_begin_139 : decode cX12_begin 139 = .ok (.goto (-16), 3) := by decide +kernel
theorem dX12_begin_142 : decode cX12_begin 142 = .ok (.iconst 0, 1) := by decide +kernel
theorem dX12_begin_143 : decode cX12_begin 143 = .ok (.istore_n 1, 1) := by decide +kernel
theorem dX12_begin_144 : decode cX12_begin 144 = .ok (.iload_n 1, 1) := by decide +kernel
theorem dX12_begin_145 : decode cX12_begin 145 = .ok (.sipush 128, 3) := by decide +kernel
theorem dX12_begin_148 : decode cX12_begin 148 = .ok (.if_icmp .ge 16, 3) := by decide +kernel
theorem dX12_begin_151 : decode cX12_begin 151 = .ok (.aload_n 0, 1) := by decide +kernel
theorem dX12_begin_152 : decode cX12_begin 152 = .ok (.getfield 43, 3) := by decide +kernel
theorem dX12_begin_155 : decode cX12_begin 155 = .ok (.iload_n 1, 1) := by decide +kernel
theorem dX12_begin_156 : decode cX12_begin 156 = .ok (.iconst 0, 1) := by decide +kernel
theorem dX12_begin_157 : decode cX12_begin 157 = .ok (.iastore, 1) := by decide +kernel
theorem dX12_begin_158 : decode cX12_begin 158 = .ok (.iinc 1 1, 3) := by decide +kernel
theorem dX12_begin_161 : decode cX12_begin 161 = .ok (.goto (-17), 3) := by decide +kernel
theorem dX12_begin_164 : decode cX12_begin 164 = .ok (.iconst 0, 1) := by decide +kernel
theorem dX12_begin_165 : decode cX12_begin 165 = .ok (.istore_n 1, 1) := by decide +kernel
theorem dX12_begin_166 : decode cX12_begin 166 = .ok (.iload_n 1, 1) := by decide +kernel
theorem dX12_begin_167 : decode cX12_begin 167 = .ok (.bipush 16, 2) := by decide +kernel
theorem dX12_begin_169 : decode cX12_begin 169 = .ok (.if_icmp .ge 16, 3) := by decide +kernel
theorem dX12_begin_172 : decode cX12_begin 172 = .ok (.aload_n 0, 1) := by decide +kernel
theorem dX12_begin_173 : decode cX12_begin 173 = .ok (.getfield 55, 3) := by decide +kernel
theorem dX12_begin_176 : decode cX12_begin 176 = .ok (.iload_n 1, 1) := by decide +kernel
theorem dX12_begin_177 : decode cX12_begin 177 = .ok (.iconst 0, 1) := by decide +kernel
theorem dX12_begin_178 : decode cX12_begin 178 = .ok (.iastore, 1) := by decide +kernel
theorem dX12_begin_179 : decode cX12_begin 179 = .ok (.iinc 1 1, 3) := by decide +kernel
theorem dX12_begin_182 : decode cX12_begin 182 = .ok (.goto (-16), 3) := by decide +kernel
theorem dX12_begin_185 : decode cX12_begin 185 = .ok (.iconst 0, 1) := by decide +kernel
theorem dX12_begin_186 : decode cX12_begin 186 = .ok (.istore_n 1, 1) := by decide +kernel
theorem dX12_begin_187 : decode cX12_begin 187 = .ok (.iload_n 1, 1) := by decide +kernel
theorem dX12_begin_188 : decode cX12_begin 188 = .ok (.bipush 32, 2) := by decide +kernel
theorem dX12_begin_190 : decode cX12_begin 190 = .ok (.if_icmp .ge 16, 3) := by decide +kernel
theorem dX12_begin_193 : decode cX12_begin 193 = .ok (.aload_n 0, 1) := by decide +kernel
theorem dX12_begin_194 : decode cX12_begin 194 = .ok (.getfield 91, 3) := by decide +kernel
theorem dX12_begin_197 : decode cX12_begin 197 = .ok (.iload_n 1, 1) := by decide +kernel
theorem dX12_begin_198 : decode cX12_begin 198 = .ok (.iconst 0, 1) := by decide +kernel
theorem dX12_begin_199 : decode cX12_begin 199 = .ok (.iastore, 1) := by decide +kernel
theorem dX12_begin_200 : decode cX12_begin 200 = .ok (.iinc 1 1, 3) := by decide +kernel
theorem dX12_begin_203 : decode cX12_begin 203 = .ok (.goto (-16), 3) := by decide +kernel
theorem dX12_begin_206 : decode cX12_begin 206 = .ok (.iconst 0, 1) := by decide +kernel
theorem dX12_begin_207 : decode cX12_begin 207 = .ok (.istore_n 1, 1) := by decide +kernel
theorem dX12_begin_208 : decode cX12_begin 208 = .ok (.iload_n 1, 1) := by decide +kernel
theorem dX12_begin_209 : decode cX12_begin 209 = .ok (.iconst 4, 1) := by decide +kernel
theorem dX12_begin_210 : decode cX12_begin 210 = .ok (.if_icmp .ge 16, 3) := by decide +kernel
theorem dX12_begin_213 : decode cX12_begin 213 = .ok (.aload_n 0, 1) := by decide +kernel
theorem dX12_begin_214 : decode cX12_begin 214 = .ok (.getfield 79, 3) := by decide +kernel
theorem dX12_begin_217 : decode cX12_begin 217 = .ok (.iload_n 1, 1) := by decide +kernel
theorem dX12_begin_218 : decode cX12_begin 218 = .ok (.iconst 0, 1) := by decide +kernel
theorem dX12_begin_219 : decode cX12_begin 219 = .ok (.iastore, 1) := by decide +kernel
theorem dX12_begin_220 : decode cX12_begin 220 = .ok (.iinc 1 1, 3) := by decide +kernel
theorem dX12_begin_223 : decode cX12_begin 223 = .ok (.goto (-15), 3) := by decide +kernel
theorem dX12_begin_226 : decode cX12_begin 226 = .ok (.aload_n 0, 1) := by decide +kernel
theorem dX12_begin_227 : decode cX12_begin 227 = .ok (.iconst 0, 1) := by decide +kernel
theorem dX12_begin_228 : decode cX12_begin 228 = .ok (.putfield 193, 3) := by decide +kernel
theorem dX12_begin_231 : decode cX12_begin 231 = .ok (.aload_n 0, 1) := by decide +kernel
theorem dX12_begin_232 : decode cX12_begin 232 = .ok (.iconst 0, 1) := by decide +kernel
theorem dX12_begin_233 : decode cX12_begin 233 = .ok (.putfield 196, 3) := by decide +kernel
theorem dX12_begin_236 : decode cX12_begin 236 = .ok (.aload_n 0, 1) := by decide +kernel
theorem dX12_begin_237 : decode cX12_begin 237 = .ok (.iconst 0, 1) := by decide +kernel
theorem dX12_begin_238 : decode cX12_begin 238 = .ok (.putfield 199, 3) := by decide +kernel
theorem dX12_begin_241 : decode cX12_begin 241 = .ok (.aload_n 0, 1) := by decide +kernel
theorem dX12_begin_242 : decode cX12_begin 242 = .ok (.iconst 0, 1) := by decide +kernel
theorem dX12_begin_243 : decode cX12_begin 243 = .ok (.putfield 203, 3) := by decide +kernel
theorem dX12_begin_246 : decode cX12_begin 246 = .ok (.aload_n 0, 1) := by decide +kernel
theorem dX12_begin_247 : decode cX12_begin 247 = .ok (.iconst 0, 1) := by decide +kernel
theorem dX12_begin_248 : decode cX12_begin 248 = .ok (.putfield 206, 3) := by decide +kernel
theorem dX12_begin_251 : decode cX12_begin 251 = .ok (.return_, 1) := by decide +kernel
theorem dX12_becomeInit_0 : decode cX12_becomeInit 0 = .ok (.aload_n 0, 1) := by decide +kernel
theorem dX12_becomeInit_1 : decode cX12_becomeInit 1 = .ok (.getfield 40, 3) := by decide +kernel
theorem dX12_becomeInit_4 : decode cX12_becomeInit 4 = .ok (.iload_n 1, 1) := by decide +kernel
theorem dX12_becomeInit_5 : decode cX12_becomeInit 5 = .ok (.iconst 0, 1) := by decide +kernel
theorem dX12_becomeInit_6 : decode cX12_becomeInit 6 = .ok (.iastore, 1) := by decide +kernel
theorem dX12_becomeInit_7 : decode cX12_becomeInit 7 = .ok (.aload_n 0, 1) := by decide +kernel
theorem dX12_becomeInit_8 : decode cX12_becomeInit 8 = .ok (.getfield 73, 3) := by decide +kernel
theorem dX12_becomeInit_11 : decode cX12_becomeInit 11 = .ok (.iload_n 1, 1) := by decide +kernel
theorem dX12_becomeInit_12 : decode cX12_becomeInit 12 = .ok (.bipush (-4), 2) := by decide +kernel
theorem dX12_becomeInit_14 : decode cX12_becomeInit 14 = .ok (.iastore, 1) := by decide +kernel
theorem dX12_becomeInit_15 : decode cX12_becomeInit 15 = .ok (.aload_n 0, 1) := by decide +kernel
theorem dX12_becomeInit_16 : decode cX12_becomeInit 16 = .ok (.getfield 76, 3) := by decide +kernel
theorem dX12_becomeInit_19 : decode cX12_becomeInit 19 = .ok (.iload_n 1, 1) := by decide +kernel
theorem dX12_becomeInit_20 : decode cX12_becomeInit 20 = .ok (.bipush (-4), 2) := by decide +kernel
theorem dX12_becomeInit_22 : decode cX12_becomeInit 22 = .ok (.iastore, 1) := by decide +kernel
theorem dX12_becomeInit_23 : decode cX12_becomeInit 23 = .ok (.iconst 0, 1) := by decide +kernel
theorem dX12_becomeInit_24 : decode cX12_becomeInit 24 = .ok (.istore_n 2, 1) := by decide +kernel
theorem dX12_becomeInit_25 : decode cX12_becomeInit 25 = .ok (.iload_n 2, 1) := by decide +kernel
theorem dX12_becomeInit_26 : decode cX12_becomeInit 26 = .ok (.iconst 2, 1) := by decide +kernel
theorem dX12_becomeInit_27 : decode cX12_becomeInit 27 = .ok (.if_icmp .ge 42, 3) := by decide +kernel
theorem dX12_becomeInit_30 : decode cX12_becomeInit 30 = .ok (.aload_n 0, 1) := by decide +kernel
theorem dX12_becomeInit_31 : decode cX12_becomeInit 31 = .ok (.getfield 64, 3) := by decide +kernel
theorem dX12_becomeInit_34 : decode cX12_becomeInit 34 = .ok (.iconst 2, 1) := by decide +kernel
theorem dX12_becomeInit_35 : decode cX12_becomeInit 35 = .ok (.iload_n 1, 1) := by decide +kernel
theorem dX12_becomeInit_36 : decode cX12_becomeInit 36 = .ok (.imul, 1) := by decide +kernel
theorem dX12_becomeInit_37 : decode cX12_becomeInit 37 = .ok (.iload_n 2, 1) := by decide +kernel
theorem dX12_becomeInit_38 : decode cX12_becomeInit 38 = .ok (.iadd, 1) := by decide +kernel
theorem dX12_becomeInit_39 : decode cX12_becomeInit 39 = .ok (.iconst 0, 1) := by decide +kernel
theorem dX12_becomeInit_40 : decode cX12_becomeInit 40 = .ok (.iastore, 1) := by decide +kernel
theorem dX12_becomeInit_41 : decode cX12_becomeInit 41 = .ok (.aload_n 0, 1) := by decide +kernel
theorem dX12_becomeInit_42 : decode cX12_becomeInit 42 = .ok (.getfield 67, 3) := by decide +kernel
theorem dX12_becomeInit_45 : decode cX12_becomeInit 45 = .ok (.iconst 2, 1) := by decide +kernel
theorem dX12_becomeInit_46 : decode cX12_becomeInit 46 = .ok (.iload_n 1, 1) := by decide +kernel
theorem dX12_becomeInit_47 : decode cX12_becomeInit 47 = .ok (.imul, 1) := by decide +kernel
theorem dX12_becomeInit_48 : decode cX12_becomeInit 48 = .ok (.iload_n 2, 1) := by decide +kernel
theorem dX12_becomeInit_49 : decode cX12_becomeInit 49 = .ok (.iadd, 1) := by decide +kernel
theorem dX12_becomeInit_50 : decode cX12_becomeInit 50 = .ok (.iconst 0, 1) := by decide +kernel
theorem dX12_becomeInit_51 : decode cX12_becomeInit 51 = .ok (.iastore, 1) := by decide +kernel
theorem dX12_becomeInit_52 : decode cX12_becomeInit 52 = .ok (.aload_n 0, 1) := by decide +kernel
theorem dX12_becomeInit_53 : decode cX12_becomeInit 53 = .ok (.getfield 70, 3) := by decide +kernel
theorem dX12_becomeInit_56 : decode cX12_becomeInit 56 = .ok (.iconst 2, 1) := by decide +kernel
theorem dX12_becomeInit_57 : decode cX12_becomeInit 57 = .ok (.iload_n 1, 1) := by decide +kernel
theorem dX12_becomeInit_58 : decode cX12_becomeInit 58 = .ok (.imul, 1) := by decide +kernel
theorem dX12_becomeInit_59 : decode cX12_becomeInit 59 = .ok (.iload_n 2, 1) := by decide +kernel
theorem dX12_becomeInit_60 : decode cX12_becomeInit 60 = .ok (.iadd, 1) := by decide +kernel
theorem dX12_becomeInit_61 : decode cX12_becomeInit 61 = .ok (.iconst 1, 1) := by decide +kernel
theorem dX12_becomeInit_62 : decode cX12_becomeInit 62 = .ok (.iastore, 1) := by decide +kernel
theorem dX12_becomeInit_63 : decode cX12_becomeInit 63 = .ok (.iinc 2 1, 3) := by decide +kernel
theorem dX12_becomeInit_66 : decode cX12_becomeInit 66 = .ok (.goto (-41), 3) := by decide +kernel
theorem dX12_becomeInit_69 : decode cX12_becomeInit 69 = .ok (.return_, 1) := by decide +kernel
theorem dX12_isDevice_0 : decode cX12_isDevice 0 = .ok (.iload_n 1, 1) := by decide +kernel
theorem dX12_isDevice_1 : decode cX12_isDevice 1 = .ok (.i2l, 1) := by decide +kernel
theorem dX12_isDevice_2 : decode cX12_isDevice 2 = .ok (.lconst 0, 1) := by decide +kernel
theorem dX12_isDevice_3 : decode cX12_isDevice 3 = .ok (.aload_n 0, 1) := by decide +kernel
theorem dX12_isDevice_4 : decode cX12_isDevice 4 = .ok (.getfield 180, 3) := by decide +kernel
theorem dX12_isDevice_7 : decode cX12_isDevice 7 = .ok (.iconst 1, 1) := by decide +kernel
theorem dX12_isDevice_8 : decode cX12_isDevice 8 = .ok (.isub, 1) := by decide +kernel
theorem dX12_isDevice_9 : decode cX12_isDevice 9 = .ok (.i2l, 1) := by decide +kernel
theorem dX12_isDevice_10 : decode cX12_isDevice 10 = .ok (.invokestatic 145, 3) := by decide +kernel
theorem dX12_isDevice_13 : decode cX12_isDevice 13 = .ok (.ireturn, 1) := by decide +kernel
theorem dX12_sideA_0 : decode cX12_sideA 0 = .ok (.iconst 0, 1) := by decide +kernel
theorem dX12_sideA_1 : decode cX12_sideA 1 = .ok (.istore_n 1, 1) := by decide +kernel
theorem dX12_sideA_2 : decode cX12_sideA 2 = .ok (.iload_n 1, 1) := by decide +kernel
theorem dX12_sideA_3 : decode cX12_sideA 3 = .ok (.aload_n 0, 1) := by decide +kernel
theorem dX12_sideA_4 : decode cX12_sideA 4 = .ok (.getfield 180, 3) := by decide +kernel
theorem dX12_sideA_7 : decode cX12_sideA 7 = .ok (.if_icmp .gt 21, 3) := by decide +kernel
theorem dX12_sideA_10 : decode cX12_sideA 10 = .ok (.aload_n 0, 1) := by decide +kernel
theorem dX12_sideA_11 : decode cX12_sideA 11 = .ok (.getfield 37, 3) := by decide +kernel
theorem dX12_sideA_14 : decode cX12_sideA 14 = .ok (.iload_n 1, 1) := by decide +kernel
theorem dX12_sideA_15 : decode cX12_sideA 15 = .ok (.iaload, 1) := by decide +kernel
theorem dX12_sideA_16 : decode cX12_sideA 16 = .ok (.iconst 1, 1) := by decide +kernel
theorem dX12_sideA_17 : decode cX12_sideA 17 = .ok (.if_icmp .ne 5, 3) := by decide +kernel
theorem dX12_sideA_20 : decode cX12_sideA 20 = .ok (.iload_n 1, 1) := by decide +kernel
theorem dX12_sideA_21 : decode cX12_sideA 21 = .ok (.ireturn, 1) := by decide +kernel
theorem dX12_sideA_22 : decode cX12_sideA 22 = .ok (.iinc 1 1, 3) := by decide +kernel
theorem dX12_sideA_25 : decode cX12_sideA 25 = .ok (.goto (-23), 3) := by decide +kernel
theorem dX12_sideA_28 : decode cX12_sideA 28 = .ok (.aload_n 0, 1) := by decide +kernel
theorem dX12_sideA_29 : decode cX12_sideA 29 = .ok (.getfield 180, 3) := by decide +kernel
theorem dX12_sideA_32 : decode cX12_sideA 32 = .ok (.ireturn, 1) := by decide +kernel
theorem dX12_isCut_0 : decode cX12_isCut 0 = .ok (.iconst 0, 1) := by decide +kernel
theorem dX12_isCut_1 : decode cX12_isCut 1 = .ok (.istore_n 1, 1) := by decide +kernel
theorem dX12_isCut_2 : decode cX12_isCut 2 = .ok (.iconst 0, 1) := by decide +kernel
theorem dX12_isCut_3 : decode cX12_isCut 3 = .ok (.istore_n 2, 1) := by decide +kernel
theorem dX12_isCut_4 : decode cX12_isCut 4 = .ok (.iload_n 2, 1) := by decide +kernel
theorem dX12_isCut_5 : decode cX12_isCut 5 = .ok (.aload_n 0, 1) := by decide +kernel
theorem dX12_isCut_6 : decode cX12_isCut 6 = .ok (.getfield 180, 3) := by decide +kernel
theorem dX12_isCut_9 : decode cX12_isCut 9 = .ok (.if_icmp .gt 29, 3) := by decide +kernel
theorem dX12_isCut_12 : decode cX12_isCut 12 = .ok (.iload_n 1, 1) := by decide +kernel
theorem dX12_isCut_13 : decode cX12_isCut 13 = .ok (.ifCond .ne 13, 3) := by decide +kernel
theorem dX12_isCut_16 : decode cX12_isCut 16 = .ok (.aload_n 0, 1) := by decide +kernel
theorem dX12_isCut_17 : decode cX12_isCut 17 = .ok (.getfield 37, 3) := by decide +kernel
theorem dX12_isCut_20 : decode cX12_isCut 20 = .ok (.iload_n 2, 1) := by decide +kernel
theorem dX12_isCut_21 : decode cX12_isCut 21 = .ok (.iaload, 1) := by decide +kernel
theorem dX12_isCut_22 : decode cX12_isCut 22 = .ok (.iconst 1, 1) := by decide +kernel
theorem dX12_isCut_23 : decode cX12_isCut 23 = .ok (.if_icmp .ne 7, 3) := by decide +kernel
theorem dX12_isCut_26 : decode cX12_isCut 26 = .ok (.iconst 1, 1) := by decide +kernel
theorem dX12_isCut_27 : decode cX12_isCut 27 = .ok (.goto 4, 3) := by decide +kernel
theorem dX12_isCut_30 : decode cX12_isCut 30 = .ok (.iconst 0, 1) := by decide +kernel
theorem dX12_isCut_31 : decode cX12_isCut 31 = .ok (.istore_n 1, 1) := by decide +kernel
theorem dX12_isCut_32 : decode cX12_isCut 32 = .ok (.iinc 2 1, 3) := by decide +kernel
theorem dX12_isCut_35 : decode cX12_isCut 35 = .ok (.goto (-31), 3) := by decide +kernel
theorem dX12_isCut_38 : decode cX12_isCut 38 = .ok (.iload_n 1, 1) := by decide +kernel
theorem dX12_isCut_39 : decode cX12_isCut 39 = .ok (.ireturn, 1) := by decide +kernel
theorem dX12_firstB_0 : decode cX12_firstB 0 = .ok (.aload_n 0, 1) := by decide +kernel
theorem dX12_firstB_1 : decode cX12_firstB 1 = .ok (.getfield 180, 3) := by decide +kernel
theorem dX12_firstB_4 : decode cX12_firstB 4 = .ok (.istore_n 1, 1) := by decide +kernel
theorem dX12_firstB_5 : decode cX12_firstB 5 = .ok (.iload_n 1, 1) := by decide +kernel
theorem dX12_firstB_6 : decode cX12_firstB 6 = .ok (.ifCond .lt 21, 3) := by decide +kernel
theorem dX12_firstB_9 : decode cX12_firstB 9 = .ok (.aload_n 0, 1) := by decide +kernel
theorem dX12_firstB_10 : decode cX12_firstB 10 = .ok (.getfield 37, 3) := by decide +kernel
theorem dX12_firstB_13 : decode cX12_firstB 13 = .ok (.iload_n 1, 1) := by decide +kernel
theorem dX12_firstB_14 : decode cX12_firstB 14 = .ok (.iaload, 1) := by decide +kernel
theorem dX12_firstB_15 : decode cX12_firstB 15 = .ok (.iconst 1, 1) := by decide +kernel
theorem dX12_firstB_16 : decode cX12_firstB 16 = .ok (.if_icmp .ne 5, 3) := by decide +kernel
theorem dX12_firstB_19 : decode cX12_firstB 19 = .ok (.iload_n 1, 1) := by decide +kernel
theorem dX12_firstB_20 : decode cX12_firstB 20 = .ok (.ireturn, 1) := by decide +kernel
theorem dX12_firstB_21 : decode cX12_firstB 21 = .ok (.iinc 1 (-1), 3) := by decide +kernel
theorem dX12_firstB_24 : decode cX12_firstB 24 = .ok (.goto (-19), 3) := by decide +kernel
theorem dX12_firstB_27 : decode cX12_firstB 27 = .ok (.aload_n 0, 1) := by decide +kernel
theorem dX12_firstB_28 : decode cX12_firstB 28 = .ok (.getfield 180, 3) := by decide +kernel
theorem dX12_firstB_31 : decode cX12_firstB 31 = .ok (.ireturn, 1) := by decide +kernel
theorem dX12_sideOf_0 : decode cX12_sideOf 0 = .ok (.iload_n 1, 1) := by decide +kernel
theorem dX12_sideOf_1 : decode cX12_sideOf 1 = .ok (.aload_n 0, 1) := by decide +kernel
theorem dX12_sideOf_2 : decode cX12_sideOf 2 = .ok (.invokevirtual 209, 3) := by decide +kernel
theorem dX12_sideOf_5 : decode cX12_sideOf 5 = .ok (.if_icmp .ge 7, 3) := by decide +kernel
theorem dX12_sideOf_8 : decode cX12_sideOf 8 = .ok (.iconst 1, 1) := by decide +kernel
theorem dX12_sideOf_9 : decode cX12_sideOf 9 = .ok (.goto 16, 3) := by decide +kernel
theorem dX12_sideOf_12 : decode cX12_sideOf 12 = .ok (.iload_n 1, 1) := by decide +kernel
theorem dX12_sideOf_13 : decode cX12_sideOf 13 = .ok (.aload_n 0, 1) := by decide +kernel
theorem dX12_sideOf_14 : decode cX12_sideOf 14 = .ok (.invokevirtual 212, 3) := by decide +kernel
theorem dX12_sideOf_17 : decode cX12_sideOf 17 = .ok (.if_icmp .lt 7, 3) := by decide +kernel
theorem dX12_sideOf_20 : decode cX12_sideOf 20 = .ok (.iconst 2, 1) := by decide +kernel
theorem dX12_sideOf_21 : decode cX12_sideOf 21 = .ok (.goto 4, 3) := by decide +kernel
theorem dX12_sideOf_24 : decode cX12_sideOf 24 = .ok (.iconst 0, 1) := by decide +kernel
theorem dX12_sideOf_25 : decode cX12_sideOf 25 = .ok (.ireturn, 1) := by decide +kernel
theorem dX12_wires_0 : decode cX12_wires 0 = .ok (.iconst 0, 1) := by decide +kernel
theorem dX12_wires_1 : decode cX12_wires 1 = .ok (.istore_n 3, 1) := by decide +kernel
theorem dX12_wires_2 : decode cX12_wires 2 = .ok (.iload_n 1, 1) := by decide +kernel
theorem dX12_wires_3 : decode cX12_wires 3 = .ok (.istore 4, 2) := by decide +kernel
theorem dX12_wires_5 : decode cX12_wires 5 = .ok (.iload 4, 2) := by decide +kernel
theorem dX12_wires_7 : decode cX12_wires 7 = .ok (.iload_n 2, 1) := by decide +kernel
theorem dX12_wires_8 : decode cX12_wires 8 = .ok (.if_icmp .gt 19, 3) := by decide +kernel
theorem dX12_wires_11 : decode cX12_wires 11 = .ok (.iload_n 3, 1) := by decide +kernel
theorem dX12_wires_12 : decode cX12_wires 12 = .ok (.aload_n 0, 1) := by decide +kernel
theorem dX12_wires_13 : decode cX12_wires 13 = .ok (.getfield 28, 3) := by decide +kernel
theorem dX12_wires_16 : decode cX12_wires 16 = .ok (.iload 4, 2) := by decide +kernel
theorem dX12_wires_18 : decode cX12_wires 18 = .ok (.iaload, 1) := by decide +kernel
theorem dX12_wires_19 : decode cX12_wires 19 = .ok (.iadd, 1) := by decide +kernel
theorem dX12_wires_20 : decode cX12_wires 20 = .ok (.istore_n 3, 1) := by decide +kernel
theorem dX12_wires_21 : decode cX12_wires 21 = .ok (.iinc 4 1, 3) := by decide +kernel
theorem dX12_wires_24 : decode cX12_wires 24 = .ok (.goto (-19), 3) := by decide +kernel
theorem dX12_wires_27 : decode cX12_wires 27 = .ok (.iload_n 3, 1) := by decide +kernel
theorem dX12_wires_28 : decode cX12_wires 28 = .ok (.ireturn, 1) := by decide +kernel
theorem dX12_whenBy_0 : decode cX12_whenBy 0 = .ok (.iload_n 1, 1) := by decide +kernel
theorem dX12_whenBy_1 : decode cX12_whenBy 1 = .ok (.aload_n 0, 1) := by decide +kernel
theorem dX12_whenBy_2 : decode cX12_whenBy 2 = .ok (.invokevirtual 209, 3) := by decide +kernel
theorem dX12_whenBy_5 : decode cX12_whenBy 5 = .ok (.if_icmp .ge 22, 3) := by decide +kernel
theorem dX12_whenBy_8 : decode cX12_whenBy 8 = .ok (.aload_n 0, 1) := by decide +kernel
theorem dX12_whenBy_9 : decode cX12_whenBy 9 = .ok (.getfield 193, 3) := by decide +kernel
theorem dX12_whenBy_12 : decode cX12_whenBy 12 = .ok (.aload_n 0, 1) := by decide +kernel
theorem dX12_whenBy_13 : decode cX12_whenBy 13 = .ok (.iconst 0, 1) := by decide +kernel
theorem dX12_whenBy_14 : decode cX12_whenBy 14 = .ok (.iload_n 1, 1) := by decide +kernel
theorem dX12_whenBy_15 : decode cX12_whenBy 15 = .ok (.invokevirtual 215, 3) := by decide +kernel
theorem dX12_whenBy_18 : decode cX12_whenBy 18 = .ok (.iadd, 1) := by decide +kernel
theorem dX12_whenBy_19 : decode cX12_whenBy 19 = .ok (.iload_n 1, 1) := by decide +kernel
theorem dX12_whenBy_20 : decode cX12_whenBy 20 = .ok (.aload_n 0, 1) := by decide +kernel
theorem dX12_whenBy_21 : decode cX12_whenBy 21 = .ok (.getfield 183, 3) := by decide +kernel
theorem dX12_whenBy_24 : decode cX12_whenBy 24 = .ok (.imul, 1) := by decide +kernel
theorem dX12_whenBy_25 : decode cX12_whenBy 25 = .ok (.iadd, 1) := by decide +kernel
theorem dX12_whenBy_26 : decode cX12_whenBy 26 = .ok (.ireturn, 1) := by decide +kernel
theorem dX12_whenBy_27 : decode cX12_whenBy 27 = .ok (.aload_n 0, 1) := by decide +kernel
theorem dX12_whenBy_28 : decode cX12_whenBy 28 = .ok (.invokevirtual 212, 3) := by decide +kernel
theorem dX12_whenBy_31 : decode cX12_whenBy 31 = .ok (.istore_n 2, 1) := by decide +kernel
theorem dX12_whenBy_32 : decode cX12_whenBy 32 = .ok (.aload_n 0, 1) := by decide +kernel
theorem dX12_whenBy_33 : decode cX12_whenBy 33 = .ok (.getfield 193, 3) := by decide +kernel
theorem dX12_whenBy_36 : decode cX12_whenBy 36 = .ok (.aload_n 0, 1) := by decide +kernel
theorem dX12_whenBy_37 : decode cX12_whenBy 37 = .ok (.iload_n 2, 1) := by decide +kernel
theorem dX12_whenBy_38 : decode cX12_whenBy 38 = .ok (.iconst 1, 1) := by decide +kernel
theorem dX12_whenBy_39 : decode cX12_whenBy 39 = .ok (.iadd, 1) := by decide +kernel
theorem dX12_whenBy_40 : decode cX12_whenBy 40 = .ok (.aload_n 0, 1) := by decide +kernel
theorem dX12_whenBy_41 : decode cX12_whenBy 41 = .ok (.getfield 180, 3) := by decide +kernel
theorem dX12_whenBy_44 : decode cX12_whenBy 44 = .ok (.invokevirtual 215, 3) := by decide +kernel
theorem dX12_whenBy_47 : decode cX12_whenBy 47 = .ok (.iadd, 1) := by decide +kernel
theorem dX12_whenBy_48 : decode cX12_whenBy 48 = .ok (.aload_n 0, 1) := by decide +kernel
theorem dX12_whenBy_49 : decode cX12_whenBy 49 = .ok (.getfield 180, 3) := by decide +kernel
theorem dX12_whenBy_52 : decode cX12_whenBy 52 = .ok (.iload_n 2, 1) := by decide +kernel
theorem dX12_whenBy_53 : decode cX12_whenBy 53 = .ok (.isub, 1) := by decide +kernel
theorem dX12_whenBy_54 : decode cX12_whenBy 54 = .ok (.iconst 1, 1) := by decide +kernel
theorem dX12_whenBy_55 : decode cX12_whenBy 55 = .ok (.isub, 1) := by decide +kernel
theorem dX12_whenBy_56 : decode cX12_whenBy 56 = .ok (.aload_n 0, 1) := by decide +kernel
theorem dX12_whenBy_57 : decode cX12_whenBy 57 = .ok (.getfield 186, 3) := by decide +kernel
theorem dX12_whenBy_60 : decode cX12_whenBy 60 = .ok (.imul, 1) := by decide +kernel
theorem dX12_whenBy_61 : decode cX12_whenBy 61 = .ok (.iadd, 1) := by decide +kernel
theorem dX12_whenBy_62 : decode cX12_whenBy 62 = .ok (.aload_n 0, 1) := by decide +kernel
theorem dX12_whenBy_63 : decode cX12_whenBy 63 = .ok (.iload_n 2, 1) := by decide +kernel
theorem dX12_whenBy_64 : decode cX12_whenBy 64 = .ok (.iconst 1, 1) := by decide +kernel
theorem dX12_whenBy_65 : decode cX12_whenBy 65 = .ok (.iadd, 1) := by decide +kernel
theorem dX12_whenBy_66 : decode cX12_whenBy 66 = .ok (.iload_n 1, 1) := by decide +kernel
theorem dX12_whenBy_67 : decode cX12_whenBy 67 = .ok (.invokevirtual 215, 3) := by decide +kernel
theorem dX12_whenBy_70 : decode cX12_whenBy 70 = .ok (.iadd, 1) := by decide +kernel
theorem dX12_whenBy_71 : decode cX12_whenBy 71 = .ok (.iload_n 1, 1) := by decide +kernel
theorem dX12_whenBy_72 : decode cX12_whenBy 72 = .ok (.iload_n 2, 1) := by decide +kernel
theorem dX12_whenBy_73 : decode cX12_whenBy 73 = .ok (.isub, 1) := by decide +kernel
theorem dX12_whenBy_74 : decode cX12_whenBy 74 = .ok (.aload_n 0, 1) := by decide +kernel
theorem dX12_whenBy_75 : decode cX12_whenBy 75 = .ok (.getfield 183, 3) := by decide +kernel
theorem dX12_whenBy_78 : decode cX12_whenBy 78 = .ok (.imul, 1) := by decide +kernel
theorem dX12_whenBy_79 : decode cX12_whenBy 79 = .ok (.iadd, 1) := by decide +kernel
theorem dX12_whenBy_80 : decode cX12_whenBy 80 = .ok (.ireturn, 1) := by decide +kernel
theorem dX12_tripOf_0 : decode cX12_tripOf 0 = .ok (.iload_n 1, 1) := by decide +kernel
theorem dX12_tripOf_1 : decode cX12_tripOf 1 = .ok (.ifCond .ne 7, 3) := by decide +kernel
theorem dX12_tripOf_4 : decode cX12_tripOf 4 = .ok (.iconst 0, 1) := by decide +kernel
theorem dX12_tripOf_5 : decode cX12_tripOf 5 = .ok (.goto 22, 3) := by decide +kernel
theorem dX12_tripOf_8 : decode cX12_tripOf 8 = .ok (.iconst 2, 1) := by decide +kernel
theorem dX12_tripOf_9 : decode cX12_tripOf 9 = .ok (.iload_n 2, 1) := by decide +kernel
theorem dX12_tripOf_10 : decode cX12_tripOf 10 = .ok (.imul, 1) := by decide +kernel
theorem dX12_tripOf_11 : decode cX12_tripOf 11 = .ok (.iload_n 1, 1) := by decide +kernel
theorem dX12_tripOf_12 : decode cX12_tripOf 12 = .ok (.aload_n 0, 1) := by decide +kernel
theorem dX12_tripOf_13 : decode cX12_tripOf 13 = .ok (.getfield 183, 3) := by decide +kernel
theorem dX12_tripOf_16 : decode cX12_tripOf 16 = .ok (.imul, 1) := by decide +kernel
theorem dX12_tripOf_17 : decode cX12_tripOf 17 = .ok (.iadd, 1) := by decide +kernel
theorem dX12_tripOf_18 : decode cX12_tripOf 18 = .ok (.iload_n 1, 1) := by decide +kernel
theorem dX12_tripOf_19 : decode cX12_tripOf 19 = .ok (.iconst 1, 1) := by decide +kernel
theorem dX12_tripOf_20 : decode cX12_tripOf 20 = .ok (.isub, 1) := by decide +kernel
theorem dX12_tripOf_21 : decode cX12_tripOf 21 = .ok (.aload_n 0, 1) := by decide +kernel
theorem dX12_tripOf_22 : decode cX12_tripOf 22 = .ok (.getfield 186, 3) := by decide +kernel
theorem dX12_tripOf_25 : decode cX12_tripOf 25 = .ok (.imul, 1) := by decide +kernel
theorem dX12_tripOf_26 : decode cX12_tripOf 26 = .ok (.iadd, 1) := by decide +kernel
theorem dX12_tripOf_27 : decode cX12_tripOf 27 = .ok (.ireturn, 1) := by decide +kernel
theorem dX12_trip_0 : decode cX12_trip 0 = .ok (.aload_n 0, 1) := by decide +kernel
theorem dX12_trip_1 : decode cX12_trip 1 = .ok (.invokevirtual 219, 3) := by decide +kernel
theorem dX12_trip_4 : decode cX12_trip 4 = .ok (.ifCond .ne 23, 3) := by decide +kernel
theorem dX12_trip_7 : decode cX12_trip 7 = .ok (.aload_n 0, 1) := by decide +kernel
theorem dX12_trip_8 : decode cX12_trip 8 = .ok (.iconst 0, 1) := by decide +kernel
theorem dX12_trip_9 : decode cX12_trip 9 = .ok (.aload_n 0, 1) := by decide +kernel
theorem dX12_trip_10 : decode cX12_trip 10 = .ok (.getfield 180, 3) := by decide +kernel
theorem dX12_trip_13 : decode cX12_trip 13 = .ok (.invokevirtual 215, 3) := by decide +kernel
theorem dX12_trip_16 : decode cX12_trip 16 = .ok (.aload_n 0, 1) := by decide +kernel
theorem dX12_trip_17 : decode cX12_trip 17 = .ok (.getfield 180, 3) := by decide +kernel
theorem dX12_trip_20 : decode cX12_trip 20 = .ok (.aload_n 0, 1) := by decide +kernel
theorem dX12_trip_21 : decode cX12_trip 21 = .ok (.getfield 183, 3) := by decide +kernel
theorem dX12_trip_24 : decode cX12_trip 24 = .ok (.imul, 1) := by decide +kernel
theorem dX12_trip_25 : decode cX12_trip 25 = .ok (.iadd, 1) := by decide +kernel
theorem dX12_trip_26 : decode cX12_trip 26 = .ok (.ireturn, 1) := by decide +kernel
theorem dX12_trip_27 : decode cX12_trip 27 = .ok (.aload_n 0, 1) := by decide +kernel
theorem dX12_trip_28 : decode cX12_trip 28 = .ok (.aload_n 0, 1) := by decide +kernel
theorem dX12_trip_29 : decode cX12_trip 29 = .ok (.invokevirtual 209, 3) := by decide +kernel
theorem dX12_trip_32 : decode cX12_trip 32 = .ok (.aload_n 0, 1) := by decide +kernel
theorem dX12_trip_33 : decode cX12_trip 33 = .ok (.iconst 0, 1) := by decide +kernel
theorem dX12_trip_34 : decode cX12_trip 34 = .ok (.aload_n 0, 1) := by decide +kernel
theorem dX12_trip_35 : decode cX12_trip 35 = .ok (.invokevirtual 209, 3) := by decide +kernel
theorem dX12_trip_38 : decode cX12_trip 38 = .ok (.iconst 1, 1) := by decide +kernel
theorem dX12_trip_39 : decode cX12_trip 39 = .ok (.isub, 1) := by decide +kernel
theorem dX12_trip_40 : decode cX12_trip 40 = .ok (.invokevirtual 215, 3) := by decide +kernel
theorem dX12_trip_43 : decode cX12_trip 43 = .ok (.invokevirtual 222, 3) := by decide +kernel
theorem dX12_trip_46 : decode cX12_trip 46 = .ok (.istore_n 1, 1) := by decide +kernel
theorem dX12_trip_47 : decode cX12_trip 47 = .ok (.aload_n 0, 1) := by decide +kernel
theorem dX12_trip_48 : decode cX12_trip 48 = .ok (.aload_n 0, 1) := by decide +kernel
theorem dX12_trip_49 : decode cX12_trip 49 = .ok (.getfield 180, 3) := by decide +kernel
theorem dX12_trip_52 : decode cX12_trip 52 = .ok (.aload_n 0, 1) := by decide +kernel
theorem dX12_trip_53 : decode cX12_trip 53 = .ok (.invokevirtual 212, 3) := by decide +kernel
theorem dX12_trip_56 : decode cX12_trip 56 = .ok (.isub, 1) := by decide +kernel
theorem dX12_trip_57 : decode cX12_trip 57 = .ok (.aload_n 0, 1) := by decide +kernel
theorem dX12_trip_58 : decode cX12_trip 58 = .ok (.aload_n 0, 1) := by decide +kernel
theorem dX12_trip_59 : decode cX12_trip 59 = .ok (.invokevirtual 212, 3) := by decide +kernel
theorem dX12_trip_62 : decode cX12_trip 62 = .ok (.iconst 1, 1) := by decide +kernel
theorem dX12_trip_63 : decode cX12_trip 63 = .ok (.iadd, 1) := by decide +kernel
theorem dX12_trip_64 : decode cX12_trip 64 = .ok (.aload_n 0, 1) := by decide +kernel
theorem dX12_trip_65 : decode cX12_trip 65 = .ok (.getfield 180, 3) := by decide +kernel
theorem dX12_trip_68 : decode cX12_trip 68 = .ok (.invokevirtual 215, 3) := by decide +kernel
theorem dX12_trip_71 : decode cX12_trip 71 = .ok (.invokevirtual 222, 3) := by decide +kernel
theorem dX12_trip_74 : decode cX12_trip 74 = .ok (.istore_n 2, 1) := by decide +kernel
theorem dX12_trip_75 : decode cX12_trip 75 = .ok (.iload_n 1, 1) := by decide +kernel
theorem dX12_trip_76 : decode cX12_trip 76 = .ok (.iload_n 2, 1) := by decide +kernel
theorem dX12_trip_77 : decode cX12_trip 77 = .ok (.if_icmp .le 7, 3) := by decide +kernel
theorem dX12_trip_80 : decode cX12_trip 80 = .ok (.iload_n 1, 1) := by decide +kernel
theorem dX12_trip_81 : decode cX12_trip 81 = .ok (.goto 4, 3) := by decide +kernel
theorem dX12_trip_84 : decode cX12_trip 84 = .ok (.iload_n 2, 1) := by decide +kernel
theorem dX12_trip_85 : decode cX12_trip 85 = .ok (.ireturn, 1) := by decide +kernel
theorem dX12_ownAt_0 : decode cX12_ownAt 0 = .ok (.iload_n 2, 1) := by decide +kernel
theorem dX12_ownAt_1 : decode cX12_ownAt 1 = .ok (.i2l, 1) := by decide +kernel
theorem dX12_ownAt_2 : decode cX12_ownAt 2 = .ok (.aload_n 0, 1) := by decide +kernel
theorem dX12_ownAt_3 : decode cX12_ownAt 3 = .ok (.getfield 34, 3) := by decide +kernel
theorem dX12_ownAt_6 : decode cX12_ownAt 6 = .ok (.iload_n 1, 1) := by decide +kernel
theorem dX12_ownAt_7 : decode cX12_ownAt 7 = .ok (.iaload, 1) := by decide +kernel
theorem dX12_ownAt_8 : decode cX12_ownAt 8 = .ok (.iconst 4, 1) := by decide +kernel
theorem dX12_ownAt_9 : decode cX12_ownAt 9 = .ok (.isub, 1) := by decide +kernel
theorem dX12_ownAt_10 : decode cX12_ownAt 10 = .ok (.i2l, 1) := by decide +kernel
theorem dX12_ownAt_11 : decode cX12_ownAt 11 = .ok (.lmul, 1) := by decide +kernel
theorem dX12_ownAt_12 : decode cX12_ownAt 12 = .ok (.lstore_n 3, 1) := by decide +kernel
theorem dX12_ownAt_13 : decode cX12_ownAt 13 = .ok (.lload_n 3, 1) := by decide +kernel
theorem dX12_ownAt_14 : decode cX12_ownAt 14 = .ok (.ldc2_w 225, 3) := by decide +kernel
theorem dX12_ownAt_17 : decode cX12_ownAt 17 = .ok (.ldiv, 1) := by decide +kernel
theorem dX12_ownAt_18 : decode cX12_ownAt 18 = .ok (.lstore 5, 2) := by decide +kernel
theorem dX12_ownAt_20 : decode cX12_ownAt 20 = .ok (.aload_n 0, 1) := by decide +kernel
theorem dX12_ownAt_21 : decode cX12_ownAt 21 = .ok (.getfield 31, 3) := by decide +kernel
theorem dX12_ownAt_24 : decode cX12_ownAt 24 = .ok (.iload_n 1, 1) := by decide +kernel
theorem dX12_ownAt_25 : decode cX12_ownAt 25 = .ok (.iaload, 1) := by decide +kernel
theorem dX12_ownAt_26 : decode cX12_ownAt 26 = .ok (.iload_n 2, 1) := by decide +kernel
theorem dX12_ownAt_27 : decode cX12_ownAt 27 = .ok (.iadd, 1) := by decide +kernel
theorem dX12_ownAt_28 : decode cX12_ownAt 28 = .ok (.i2l, 1) := by decide +kernel
theorem dX12_ownAt_29 : decode cX12_ownAt 29 = .ok (.lload 5, 2) := by decide +kernel
theorem dX12_ownAt_31 : decode cX12_ownAt 31 = .ok (.ldc2_w 225, 3) := by decide +kernel
theorem dX12_ownAt_34 : decode cX12_ownAt 34 = .ok (.lmul, 1) := by decide +kernel
theorem dX12_ownAt_35 : decode cX12_ownAt 35 = .ok (.lload_n 3, 1) := by decide +kernel
theorem dX12_ownAt_36 : decode cX12_ownAt 36 = .ok (.lcmp, 1) := by decide +kernel
theorem dX12_ownAt_37 : decode cX12_ownAt 37 = .ok (.ifCond .le 10, 3) := by decide +kernel
theorem dX12_ownAt_40 : decode cX12_ownAt 40 = .ok (.lload 5, 2) := by decide +kernel
theorem dX12_ownAt_42 : decode cX12_ownAt 42 = .ok (.lconst 1, 1) := by decide +kernel
theorem dX12_ownAt_43 : decode cX12_ownAt 43 = .ok (.lsub, 1) := by decide +kernel
theorem dX12_ownAt_44 : decode cX12_ownAt 44 = .ok (.goto 5, 3) := by decide +kernel
theorem dX12_ownAt_47 : decode cX12_ownAt 47 = .ok (.lload 5, 2) := by decide +kernel
theorem dX12_ownAt_49 : decode cX12_ownAt 49 = .ok (.ladd, 1) := by decide +kernel
theorem dX12_ownAt_50 : decode cX12_ownAt 50 = .ok (.lreturn, 1) := by decide +kernel
theorem dX12_systemAt_0 : decode cX12_systemAt 0 = .ok (.aload_n 0, 1) := by decide +kernel
theorem dX12_systemAt_1 : decode cX12_systemAt 1 = .ok (.iload_n 1, 1) := by decide +kernel
theorem dX12_systemAt_2 : decode cX12_systemAt 2 = .ok (.iload_n 2, 1) := by decide +kernel
theorem dX12_systemAt_3 : decode cX12_systemAt 3 = .ok (.invokevirtual 227, 3) := by decide +kernel
theorem dX12_systemAt_6 : decode cX12_systemAt 6 = .ok (.aload_n 0, 1) := by decide +kernel
theorem dX12_systemAt_7 : decode cX12_systemAt 7 = .ok (.getfield 46, 3) := by decide +kernel
theorem dX12_systemAt_10 : decode cX12_systemAt 10 = .ok (.iload_n 1, 1) := by decide +kernel
theorem dX12_systemAt_11 : decode cX12_systemAt 11 = .ok (.iaload, 1) := by decide +kernel
theorem dX12_systemAt_12 : decode cX12_systemAt 12 = .ok (.i2l, 1) := by decide +kernel
theorem dX12_systemAt_13 : decode cX12_systemAt 13 = .ok (.ladd, 1) := by decide +kernel
theorem dX12_systemAt_14 : decode cX12_systemAt 14 = .ok (.lreturn, 1) := by decide +kernel
theorem dX12_byteAt_0 : decode cX12_byteAt 0 = .ok (.aload_n 0, 1) := by decide +kernel
theorem dX12_byteAt_1 : decode cX12_byteAt 1 = .ok (.iload_n 1, 1) := by decide +kernel
theorem dX12_byteAt_2 : decode cX12_byteAt 2 = .ok (.iload_n 3, 1) := by decide +kernel
theorem dX12_byteAt_3 : decode cX12_byteAt 3 = .ok (.invokevirtual 231, 3) := by decide +kernel
theorem dX12_byteAt_6 : decode cX12_byteAt 6 = .ok (.ldc2_w 234, 3) := by decide +kernel
theorem dX12_byteAt_9 : decode cX12_byteAt 9 = .ok (.lrem, 1) := by decide +kernel
theorem dX12_byteAt_10 : decode cX12_byteAt 10 = .ok (.lstore 4, 2) := by decide +kernel
theorem dX12_byteAt_12 : decode cX12_byteAt 12 = .ok (.lload 4, 2) := by decide +kernel
theorem dX12_byteAt_14 : decode cX12_byteAt 14 = .ok (.lconst 0, 1) := by decide +kernel
theorem dX12_byteAt_15 : decode cX12_byteAt 15 = .ok (.lcmp, 1) := by decide +kernel
theorem dX12_byteAt_16 : decode cX12_byteAt 16 = .ok (.ifCond .ge 12, 3) := by decide +kernel
theorem dX12_byteAt_19 : decode cX12_byteAt 19 = .ok (.lload 4, 2) := by decide +kernel
theorem dX12_byteAt_21 : decode cX12_byteAt 21 = .ok (.ldc2_w 234, 3) := by decide +kernel
theorem dX12_byteAt_24 : decode cX12_byteAt 24 = .ok (.ladd, 1) := by decide +kernel
theorem dX12_byteAt_25 : decode cX12_byteAt 25 = .ok (.goto 5, 3) := by decide +kernel
theorem dX12_byteAt_28 : decode cX12_byteAt 28 = .ok (.lload 4, 2) := by decide +kernel
theorem dX12_byteAt_30 : decode cX12_byteAt 30 = .ok (.l2i, 1) := by decide +kernel
theorem dX12_byteAt_31 : decode cX12_byteAt 31 = .ok (.istore 6, 2) := by decide +kernel
theorem dX12_byteAt_33 : decode cX12_byteAt 33 = .ok (.iload_n 2, 1) := by decide +kernel
theorem dX12_byteAt_34 : decode cX12_byteAt 34 = .ok (.tableswitch 58 0 3 #[30, 37, 44, 51], 30) := by decide +kernel
theorem dX12_byteAt_64 : decode cX12_byteAt 64 = .ok (.aload_n 0, 1) := by decide +kernel
theorem dX12_byteAt_65 : decode cX12_byteAt 65 = .ok (.getfield 25, 3) := by decide +kernel
theorem dX12_byteAt_68 : decode cX12_byteAt 68 = .ok (.iload_n 1, 1) := by decide +kernel
theorem dX12_byteAt_69 : decode cX12_byteAt 69 = .ok (.iaload, 1) := by decide +kernel
theorem dX12_byteAt_70 : decode cX12_byteAt 70 = .ok (.ireturn, 1) := by decide +kernel
theorem dX12_byteAt_71 : decode cX12_byteAt 71 = .ok (.aload_n 0, 1) := by decide +kernel
theorem dX12_byteAt_72 : decode cX12_byteAt 72 = .ok (.getfield 40, 3) := by decide +kernel
theorem dX12_byteAt_75 : decode cX12_byteAt 75 = .ok (.iload_n 1, 1) := by decide +kernel
theorem dX12_byteAt_76 : decode cX12_byteAt 76 = .ok (.iaload, 1) := by decide +kernel
theorem dX12_byteAt_77 : decode cX12_byteAt 77 = .ok (.ireturn, 1) := by decide +kernel
theorem dX12_byteAt_78 : decode cX12_byteAt 78 = .ok (.iload 6, 2) := by decide +kernel
theorem dX12_byteAt_80 : decode cX12_byteAt 80 = .ok (.sipush 256, 3) := by decide +kernel
theorem dX12_byteAt_83 : decode cX12_byteAt 83 = .ok (.irem, 1) := by decide +kernel
theorem dX12_byteAt_84 : decode cX12_byteAt 84 = .ok (.ireturn, 1) := by decide +kernel
theorem dX12_byteAt_85 : decode cX12_byteAt 85 = .ok (.iload 6, 2) := by decide +kernel
theorem dX12_byteAt_87 : decode cX12_byteAt 87 = .ok (.sipush 256, 3) := by decide +kernel
theorem dX12_byteAt_90 : decode cX12_byteAt 90 = .ok (.idiv, 1) := by decide +kernel
theorem dX12_byteAt_91 : decode cX12_byteAt 91 = .ok (.ireturn, 1) := by decide +kernel
theorem dX12_byteAt_92 : decode cX12_byteAt 92 = .ok (.aload_n 0, 1) := by decide +kernel
theorem dX12_byteAt_93 : decode cX12_byteAt 93 = .ok (.getfield 43, 3) := by decide +kernel
theorem dX12_byteAt_96 : decode cX12_byteAt 96 = .ok (.bipush 16, 2) := by decide +kernel
theorem dX12_byteAt_98 : decode cX12_byteAt 98 = .ok (.iload_n 1, 1) := by decide +kernel
theorem dX12_byteAt_99 : decode cX12_byteAt 99 = .ok (.imul, 1) := by decide +kernel
theorem dX12_byteAt_100 : decode cX12_byteAt 100 = .ok (.iload_n 2, 1) := by decide +kernel
theorem dX12_byteAt_101 : decode cX12_byteAt 101 = .ok (.iadd, 1) := by decide +kernel
theorem dX12_byteAt_102 : decode cX12_byteAt 102 = .ok (.iaload, 1) := by decide +kernel
theorem dX12_byteAt_103 : decode cX12_byteAt 103 = .ok (.ireturn, 1) := by decide +kernel
theorem dX12_device_0 : decode cX12_device 0 = .ok (.aload_n 0, 1) := by decide +kernel
theorem dX12_device_1 : decode cX12_device 1 = .ok (.iload_n 1, 1) := by decide +kernel
theorem dX12_device_2 : decode cX12_device 2 = .ok (.invokevirtual 236, 3) := by decide +kernel
theorem dX12_device_5 : decode cX12_device 5 = .ok (.ifCond .eq 15, 3) := by decide +kernel
theorem dX12_device_8 : decode cX12_device 8 = .ok (.iload_n 2, 1) := by decide +kernel
theorem dX12_device_9 : decode cX12_device 9 = .ok (.i2l, 1) := by decide +kernel
theorem dX12_device_10 : decode cX12_device 10 = .ok (.lconst 0, 1) := by decide +kernel
theorem dX12_device_11 : decode cX12_device 11 = .ok (.ldc2_w 240, 3) := by decide +kernel
theorem dX12_device_14 : decode cX12_device 14 = .ok (.invokestatic 145, 3) := by decide +kernel
theorem dX12_device_17 : decode cX12_device 17 = .ok (.ifCond .ne 5, 3) := by decide +kernel
theorem dX12_device_20 : decode cX12_device 20 = .ok (.iconst (-1), 1) := by decide +kernel
theorem dX12_device_21 : decode cX12_device 21 = .ok (.ireturn, 1) := by decide +kernel
theorem dX12_device_22 : decode cX12_device 22 = .ok (.iload_n 2, 1) := by decide +kernel
theorem dX12_device_23 : decode cX12_device 23 = .ok (.tableswitch 68 0 4 #[33, 40, 47, 54, 61], 33) := by decide +kernel
theorem dX12_device_56 : decode cX12_device 56 = .ok (.aload_n 0, 1) := by decide +kernel
theorem dX12_device_57 : decode cX12_device 57 = .ok (.getfield 25, 3) := by decide +kernel
theorem dX12_device_60 : decode cX12_device 60 = .ok (.iload_n 1, 1) := by decide +kernel
theorem dX12_device_61 : decode cX12_device 61 = .ok (.iaload, 1) := by decide +kernel
theorem dX12_device_62 : decode cX12_device 62 = .ok (.ireturn, 1) := by decide +kernel
theorem dX12_device_63 : decode cX12_device 63 = .ok (.aload_n 0, 1) := by decide +kernel
theorem dX12_device_64 : decode cX12_device 64 = .ok (.getfield 28, 3) := by decide +kernel
theorem dX12_device_67 : decode cX12_device 67 = .ok (.iload_n 1, 1) := by decide +kernel
theorem dX12_device_68 : decode cX12_device 68 = .ok (.iaload, 1) := by decide +kernel
theorem dX12_device_69 : decode cX12_device 69 = .ok (.ireturn, 1) := by decide +kernel
theorem dX12_device_70 : decode cX12_device 70 = .ok (.aload_n 0, 1) := by decide +kernel
theorem dX12_device_71 : decode cX12_device 71 = .ok (.getfield 31, 3) := by decide +kernel
theorem dX12_device_74 : decode cX12_device 74 = .ok (.iload_n 1, 1) := by decide +kernel
theorem dX12_device_75 : decode cX12_device 75 = .ok (.iaload, 1) := by decide +kernel
theorem dX12_device_76 : decode cX12_device 76 = .ok (.ireturn, 1) := by decide +kernel
theorem dX12_device_77 : decode cX12_device 77 = .ok (.aload_n 0, 1) := by decide +kernel
theorem dX12_device_78 : decode cX12_device 78 = .ok (.getfield 34, 3) := by decide +kernel
theorem dX12_device_81 : decode cX12_device 81 = .ok (.iload_n 1, 1) := by decide +kernel
theorem dX12_device_82 : decode cX12_device 82 = .ok (.iaload, 1) := by decide +kernel
theorem dX12_device_83 : decode cX12_device 83 = .ok (.ireturn, 1) := by decide +kernel
theorem dX12_device_84 : decode cX12_device 84 = .ok (.aload_n 0, 1) := by decide +kernel
theorem dX12_device_85 : decode cX12_device 85 = .ok (.getfield 40, 3) := by decide +kernel
theorem dX12_device_88 : decode cX12_device 88 = .ok (.iload_n 1, 1) := by decide +kernel
theorem dX12_device_89 : decode cX12_device 89 = .ok (.iaload, 1) := by decide +kernel
theorem dX12_device_90 : decode cX12_device 90 = .ok (.ireturn, 1) := by decide +kernel
theorem dX12_device_91 : decode cX12_device 91 = .ok (.aload_n 0, 1) := by decide +kernel
theorem dX12_device_92 : decode cX12_device 92 = .ok (.iload_n 1, 1) := by decide +kernel
theorem dX12_device_93 : decode cX12_device 93 = .ok (.invokevirtual 242, 3) := by decide +kernel
theorem dX12_device_96 : decode cX12_device 96 = .ok (.ireturn, 1) := by decide +kernel
theorem dX12_memory_0 : decode cX12_memory 0 = .ok (.aload_n 0, 1) := by decide +kernel
theorem dX12_memory_1 : decode cX12_memory 1 = .ok (.iload_n 1, 1) := by decide +kernel
theorem dX12_memory_2 : decode cX12_memory 2 = .ok (.invokevirtual 236, 3) := by decide +kernel
theorem dX12_memory_5 : decode cX12_memory 5 = .ok (.ifCond .eq 28, 3) := by decide +kernel
theorem dX12_memory_8 : decode cX12_memory 8 = .ok (.iload_n 2, 1) := by decide +kernel
theorem dX12_memory_9 : decode cX12_memory 9 = .ok (.i2l, 1) := by decide +kernel
theorem dX12_memory_10 : decode cX12_memory 10 = .ok (.lconst 0, 1) := by decide +kernel
theorem dX12_memory_11 : decode cX12_memory 11 = .ok (.ldc2_w 245, 3) := by decide +kernel
theorem dX12_memory_14 : decode cX12_memory 14 = .ok (.invokestatic 145, 3) := by decide +kernel
theorem dX12_memory_17 : decode cX12_memory 17 = .ok (.ifCond .eq 16, 3) := by decide +kernel
theorem dX12_memory_20 : decode cX12_memory 20 = .ok (.aload_n 0, 1) := by decide +kernel
theorem dX12_memory_21 : decode cX12_memory 21 = .ok (.iload_n 1, 1) := by decide +kernel
theorem dX12_memory_22 : decode cX12_memory 22 = .ok (.iload_n 2, 1) := by decide +kernel
theorem dX12_memory_23 : decode cX12_memory 23 = .ok (.aload_n 0, 1) := by decide +kernel
theorem dX12_memory_24 : decode cX12_memory 24 = .ok (.getfield 193, 3) := by decide +kernel
theorem dX12_memory_27 : decode cX12_memory 27 = .ok (.invokevirtual 247, 3) := by decide +kernel
theorem dX12_memory_30 : decode cX12_memory 30 = .ok (.goto 4, 3) := by decide +kernel
theorem dX12_memory_33 : decode cX12_memory 33 = .ok (.iconst (-1), 1) := by decide +kernel
theorem dX12_memory_34 : decode cX12_memory 34 = .ok (.ireturn, 1) := by decide +kernel
theorem dX12_own_0 : decode cX12_own 0 = .ok (.aload_n 0, 1) := by decide +kernel
theorem dX12_own_1 : decode cX12_own 1 = .ok (.iload_n 1, 1) := by decide +kernel
theorem dX12_own_2 : decode cX12_own 2 = .ok (.invokevirtual 236, 3) := by decide +kernel
theorem dX12_own_5 : decode cX12_own 5 = .ok (.ifCond .eq 29, 3) := by decide +kernel
theorem dX12_own_8 : decode cX12_own 8 = .ok (.iload_n 2, 1) := by decide +kernel
theorem dX12_own_9 : decode cX12_own 9 = .ok (.i2l, 1) := by decide +kernel
theorem dX12_own_10 : decode cX12_own 10 = .ok (.ldc2_w 251, 3) := by decide +kernel
theorem dX12_own_13 : decode cX12_own 13 = .ok (.ldc2_w 245, 3) := by decide +kernel
theorem dX12_own_16 : decode cX12_own 16 = .ok (.invokestatic 145, 3) := by decide +kernel
theorem dX12_own_19 : decode cX12_own 19 = .ok (.ifCond .eq 15, 3) := by decide +kernel
theorem dX12_own_22 : decode cX12_own 22 = .ok (.iload_n 3, 1) := by decide +kernel
theorem dX12_own_23 : decode cX12_own 23 = .ok (.i2l, 1) := by decide +kernel
theorem dX12_own_24 : decode cX12_own 24 = .ok (.lconst 0, 1) := by decide +kernel
theorem dX12_own_25 : decode cX12_own 25 = .ok (.ldc2_w 253, 3) := by decide +kernel
theorem dX12_own_28 : decode cX12_own 28 = .ok (.invokestatic 145, 3) := by decide +kernel
theorem dX12_own_31 : decode cX12_own 31 = .ok (.ifCond .ne 5, 3) := by decide +kernel
theorem dX12_own_34 : decode cX12_own 34 = .ok (.iconst (-1), 1) := by decide +kernel
theorem dX12_own_35 : decode cX12_own 35 = .ok (.ireturn, 1) := by decide +kernel
theorem dX12_own_36 : decode cX12_own 36 = .ok (.aload_n 0, 1) := by decide +kernel
theorem dX12_own_37 : decode cX12_own 37 = .ok (.getfield 43, 3) := by decide +kernel
theorem dX12_own_40 : decode cX12_own 40 = .ok (.bipush 16, 2) := by decide +kernel
theorem dX12_own_42 : decode cX12_own 42 = .ok (.iload_n 1, 1) := by decide +kernel
theorem dX12_own_43 : decode cX12_own 43 = .ok (.imul, 1) := by decide +kernel
theorem dX12_own_44 : decode cX12_own 44 = .ok (.iload_n 2, 1) := by decide +kernel
theorem dX12_own_45 : decode cX12_own 45 = .ok (.iadd, 1) := by decide +kernel
theorem dX12_own_46 : decode cX12_own 46 = .ok (.iaload, 1) := by decide +kernel
theorem dX12_own_47 : decode cX12_own 47 = .ok (.istore 4, 2) := by decide +kernel
theorem dX12_own_49 : decode cX12_own 49 = .ok (.aload_n 0, 1) := by decide +kernel
theorem dX12_own_50 : decode cX12_own 50 = .ok (.getfield 43, 3) := by decide +kernel
theorem dX12_own_53 : decode cX12_own 53 = .ok (.bipush 16, 2) := by decide +kernel
theorem dX12_own_55 : decode cX12_own 55 = .ok (.iload_n 1, 1) := by decide +kernel
theorem dX12_own_56 : decode cX12_own 56 = .ok (.imul, 1) := by decide +kernel
theorem dX12_own_57 : decode cX12_own 57 = .ok (.iload_n 2, 1) := by decide +kernel
theorem dX12_own_58 : decode cX12_own 58 = .ok (.iadd, 1) := by decide +kernel
theorem dX12_own_59 : decode cX12_own 59 = .ok (.iload_n 3, 1) := by decide +kernel
theorem dX12_own_60 : decode cX12_own 60 = .ok (.iastore, 1) := by decide +kernel
theorem dX12_own_61 : decode cX12_own 61 = .ok (.iload 4, 2) := by decide +kernel
theorem dX12_own_63 : decode cX12_own 63 = .ok (.ireturn, 1) := by decide +kernel
theorem dX12_cutMany_0 : decode cX12_cutMany 0 = .ok (.iconst 0, 1) := by decide +kernel
theorem dX12_cutMany_1 : decode cX12_cutMany 1 = .ok (.istore_n 1, 1) := by decide +kernel
theorem dX12_cutMany_2 : decode cX12_cutMany 2 = .ok (.iconst 0, 1) := by decide +kernel
theorem dX12_cutMany_3 : decode cX12_cutMany 3 = .ok (.istore_n 2, 1) := by decide +kernel
theorem dX12_cutMany_4 : decode cX12_cutMany 4 = .ok (.iload_n 2, 1) := by decide +kernel
theorem dX12_cutMany_5 : decode cX12_cutMany 5 = .ok (.aload_n 0, 1) := by decide +kernel
theorem dX12_cutMany_6 : decode cX12_cutMany 6 = .ok (.getfield 180, 3) := by decide +kernel
theorem dX12_cutMany_9 : decode cX12_cutMany 9 = .ok (.if_icmp .gt 18, 3) := by decide +kernel
theorem dX12_cutMany_12 : decode cX12_cutMany 12 = .ok (.iload_n 1, 1) := by decide +kernel
theorem dX12_cutMany_13 : decode cX12_cutMany 13 = .ok (.aload_n 0, 1) := by decide +kernel
theorem dX12_cutMany_14 : decode cX12_cutMany 14 = .ok (.getfield 37, 3) := by decide +kernel
theorem dX12_cutMany_17 : decode cX12_cutMany 17 = .ok (.iload_n 2, 1) := by decide +kernel
theorem dX12_cutMany_18 : decode cX12_cutMany 18 = .ok (.iaload, 1) := by decide +kernel
theorem dX12_cutMany_19 : decode cX12_cutMany 19 = .ok (.iadd, 1) := by decide +kernel
theorem dX12_cutMany_20 : decode cX12_cutMany 20 = .ok (.istore_n 1, 1) := by decide +kernel
theorem dX12_cutMany_21 : decode cX12_cutMany 21 = .ok (.iinc 2 1, 3) := by decide +kernel
theorem dX12_cutMany_24 : decode cX12_cutMany 24 = .ok (.goto (-20), 3) := by decide +kernel
theorem dX12_cutMany_27 : decode cX12_cutMany 27 = .ok (.iload_n 1, 1) := by decide +kernel
theorem dX12_cutMany_28 : decode cX12_cutMany 28 = .ok (.ireturn, 1) := by decide +kernel
theorem dX12_cut_0 : decode cX12_cut 0 = .ok (.iload_n 1, 1) := by decide +kernel
theorem dX12_cut_1 : decode cX12_cut 1 = .ok (.i2l, 1) := by decide +kernel
theorem dX12_cut_2 : decode cX12_cut 2 = .ok (.lconst 0, 1) := by decide +kernel
theorem dX12_cut_3 : decode cX12_cut 3 = .ok (.aload_n 0, 1) := by decide +kernel
theorem dX12_cut_4 : decode cX12_cut 4 = .ok (.getfield 180, 3) := by decide +kernel
theorem dX12_cut_7 : decode cX12_cut 7 = .ok (.i2l, 1) := by decide +kernel
theorem dX12_cut_8 : decode cX12_cut 8 = .ok (.invokestatic 145, 3) := by decide +kernel
theorem dX12_cut_11 : decode cX12_cut 11 = .ok (.ifCond .eq 13, 3) := by decide +kernel
theorem dX12_cut_14 : decode cX12_cut 14 = .ok (.iload_n 2, 1) := by decide +kernel
theorem dX12_cut_15 : decode cX12_cut 15 = .ok (.i2l, 1) := by decide +kernel
theorem dX12_cut_16 : decode cX12_cut 16 = .ok (.lconst 0, 1) := by decide +kernel
theorem dX12_cut_17 : decode cX12_cut 17 = .ok (.lconst 1, 1) := by decide +kernel
theorem dX12_cut_18 : decode cX12_cut 18 = .ok (.invokestatic 145, 3) := by decide +kernel
theorem dX12_cut_21 : decode cX12_cut 21 = .ok (.ifCond .ne 5, 3) := by decide +kernel
theorem dX12_cut_24 : decode cX12_cut 24 = .ok (.iconst (-1), 1) := by decide +kernel
theorem dX12_cut_25 : decode cX12_cut 25 = .ok (.ireturn, 1) := by decide +kernel
theorem dX12_cut_26 : decode cX12_cut 26 = .ok (.aload_n 0, 1) := by decide +kernel
theorem dX12_cut_27 : decode cX12_cut 27 = .ok (.getfield 37, 3) := by decide +kernel
theorem dX12_cut_30 : decode cX12_cut 30 = .ok (.iload_n 1, 1) := by decide +kernel
theorem dX12_cut_31 : decode cX12_cut 31 = .ok (.iaload, 1) := by decide +kernel
theorem dX12_cut_32 : decode cX12_cut 32 = .ok (.iload_n 2, 1) := by decide +kernel
theorem dX12_cut_33 : decode cX12_cut 33 = .ok (.if_icmp .ne 6, 3) := by decide +kernel
theorem dX12_cut_36 : decode cX12_cut 36 = .ok (.bipush (-2), 2) := by decide +kernel
theorem dX12_cut_38 : decode cX12_cut 38 = .ok (.ireturn, 1) := by decide +kernel
theorem dX12_cut_39 : decode cX12_cut 39 = .ok (.aload_n 0, 1) := by decide +kernel
theorem dX12_cut_40 : decode cX12_cut 40 = .ok (.getfield 37, 3) := by decide +kernel
theorem dX12_cut_43 : decode cX12_cut 43 = .ok (.iload_n 1, 1) := by decide +kernel
theorem dX12_cut_44 : decode cX12_cut 44 = .ok (.iload_n 2, 1) := by decide +kernel
theorem dX12_cut_45 : decode cX12_cut 45 = .ok (.iastore, 1) := by decide +kernel
theorem dX12_cut_46 : decode cX12_cut 46 = .ok (.aload_n 0, 1) := by decide +kernel
theorem dX12_cut_47 : decode cX12_cut 47 = .ok (.invokevirtual 255, 3) := by decide +kernel
theorem dX12_cut_50 : decode cX12_cut 50 = .ok (.ireturn, 1) := by decide +kernel
theorem dX12_lose_0 : decode cX12_lose 0 = .ok (.iload_n 1, 1) := by decide +kernel
theorem dX12_lose_1 : decode cX12_lose 1 = .ok (.i2l, 1) := by decide +kernel
theorem dX12_lose_2 : decode cX12_lose 2 = .ok (.lconst 0, 1) := by decide +kernel
theorem dX12_lose_3 : decode cX12_lose 3 = .ok (.ldc2_w 258, 3) := by decide +kernel
theorem dX12_lose_6 : decode cX12_lose 6 = .ok (.invokestatic 145, 3) := by decide +kernel
theorem dX12_lose_9 : decode cX12_lose 9 = .ok (.ifCond .ne 5, 3) := by decide +kernel
theorem dX12_lose_12 : decode cX12_lose 12 = .ok (.iconst (-1), 1) := by decide +kernel
theorem dX12_lose_13 : decode cX12_lose 13 = .ok (.ireturn, 1) := by decide +kernel
theorem dX12_lose_14 : decode cX12_lose 14 = .ok (.aload_n 0, 1) := by decide +kernel
theorem dX12_lose_15 : decode cX12_lose 15 = .ok (.getfield 196, 3) := by decide +kernel
theorem dX12_lose_18 : decode cX12_lose 18 = .ok (.istore_n 2, 1) := by decide +kernel
theorem dX12_lose_19 : decode cX12_lose 19 = .ok (.aload_n 0, 1) := by decide +kernel
theorem dX12_lose_20 : decode cX12_lose 20 = .ok (.iload_n 1, 1) := by decide +kernel
theorem dX12_lose_21 : decode cX12_lose 21 = .ok (.putfield 196, 3) := by decide +kernel
theorem dX12_lose_24 : decode cX12_lose 24 = .ok (.iload_n 2, 1) := by decide +kernel
theorem dX12_lose_25 : decode cX12_lose 25 = .ok (.ireturn, 1) := by decide +kernel
theorem dX12_state_0 : decode cX12_state 0 = .ok (.aload_n 0, 1) := by decide +kernel
theorem dX12_state_1 : decode cX12_state 1 = .ok (.iload_n 1, 1) := by decide +kernel
theorem dX12_state_2 : decode cX12_state 2 = .ok (.invokevirtual 236, 3) := by decide +kernel
theorem dX12_state_5 : decode cX12_state 5 = .ok (.ifCond .eq 15, 3) := by decide +kernel
theorem dX12_state_8 : decode cX12_state 8 = .ok (.iload_n 2, 1) := by decide +kernel
theorem dX12_state_9 : decode cX12_state 9 = .ok (.i2l, 1) := by decide +kernel
theorem dX12_state_10 : decode cX12_state 10 = .ok (.lconst 0, 1) := by decide +kernel
theorem dX12_state_11 : decode cX12_state 11 = .ok (.ldc2_w 260, 3) := by decide +kernel
theorem dX12_state_14 : decode cX12_state 14 = .ok (.invokestatic 145, 3) := by decide +kernel
theorem dX12_state_17 : decode cX12_state 17 = .ok (.ifCond .ne 5, 3) := by decide +kernel
theorem dX12_state_20 : decode cX12_state 20 = .ok (.iconst (-1), 1) := by decide +kernel
theorem dX12_state_21 : decode cX12_state 21 = .ok (.ireturn, 1) := by decide +kernel
theorem dX12_state_22 : decode cX12_state 22 = .ok (.aload_n 0, 1) := by decide +kernel
theorem dX12_state_23 : decode cX12_state 23 = .ok (.getfield 40, 3) := by decide +kernel
theorem dX12_state_26 : decode cX12_state 26 = .ok (.iload_n 1, 1) := by decide +kernel
theorem dX12_state_27 : decode cX12_state 27 = .ok (.iaload, 1) := by decide +kernel
theorem dX12_state_28 : decode cX12_state 28 = .ok (.istore_n 3, 1) := by decide +kernel
theorem dX12_state_29 : decode cX12_state 29 = .ok (.aload_n 0, 1) := by decide +kernel
theorem dX12_state_30 : decode cX12_state 30 = .ok (.iload_n 1, 1) := by decide +kernel
theorem dX12_state_31 : decode cX12_state 31 = .ok (.invokevirtual 242, 3) := by decide +kernel
theorem dX12_state_34 : decode cX12_state 34 = .ok (.ifCond .eq 15, 3) := by decide +kernel
theorem dX12_state_37 : decode cX12_state 37 = .ok (.iload_n 3, 1) := by decide +kernel
theorem dX12_state_38 : decode cX12_state 38 = .ok (.iload_n 2, 1) := by decide +kernel
theorem dX12_state_39 : decode cX12_state 39 = .ok (.if_icmp .eq 10, 3) := by decide +kernel
theorem dX12_state_42 : decode cX12_state 42 = .ok (.iload_n 2, 1) := by decide +kernel
theorem dX12_state_43 : decode cX12_state 43 = .ok (.iload_n 3, 1) := by decide +kernel
theorem dX12_state_44 : decode cX12_state 44 = .ok (.iconst 1, 1) := by decide +kernel
theorem dX12_state_45 : decode cX12_state 45 = .ok (.iadd, 1) := by decide +kernel
theorem dX12_state_46 : decode cX12_state 46 = .ok (.if_icmp .le 6, 3) := by decide +kernel
theorem dX12_state_49 : decode cX12_state 49 = .ok (.bipush (-2), 2) := by decide +kernel
theorem dX12_state_51 : decode cX12_state 51 = .ok (.ireturn, 1) := by decide +kernel
theorem dX12_state_52 : decode cX12_state 52 = .ok (.aload_n 0, 1) := by decide +kernel
theorem dX12_state_53 : decode cX12_state 53 = .ok (.getfield 40, 3) := by decide +kernel
theorem dX12_state_56 : decode cX12_state 56 = .ok (.iload_n 1, 1) := by decide +kernel
theorem dX12_state_57 : decode cX12_state 57 = .ok (.iload_n 2, 1) := by decide +kernel
theorem dX12_state_58 : decode cX12_state 58 = .ok (.iastore, 1) := by decide +kernel
theorem dX12_state_59 : decode cX12_state 59 = .ok (.iload_n 2, 1) := by decide +kernel
theorem dX12_state_60 : decode cX12_state 60 = .ok (.ifCond .ne 8, 3) := by decide +kernel
theorem dX12_state_63 : decode cX12_state 63 = .ok (.aload_n 0, 1) := by decide +kernel
theorem dX12_state_64 : decode cX12_state 64 = .ok (.iload_n 1, 1) := by decide +kernel
theorem dX12_state_65 : decode cX12_state 65 = .ok (.invokevirtual 189, 3) := by decide +kernel
theorem dX12_state_68 : decode cX12_state 68 = .ok (.iload_n 3, 1) := by decide +kernel
theorem dX12_state_69 : decode cX12_state 69 = .ok (.ireturn, 1) := by decide +kernel
theorem dX12_map_0 : decode cX12_map 0 = .ok (.aload_n 0, 1) := by decide +kernel
theorem dX12_map_1 : decode cX12_map 1 = .ok (.iload_n 1, 1) := by decide +kernel
theorem dX12_map_2 : decode cX12_map 2 = .ok (.invokevirtual 236, 3) := by decide +kernel
theorem dX12_map_5 : decode cX12_map 5 = .ok (.ifCond .eq 71, 3) := by decide +kernel
theorem dX12_map_8 : decode cX12_map 8 = .ok (.iload_n 2, 1) := by decide +kernel
theorem dX12_map_9 : decode cX12_map 9 = .ok (.i2l, 1) := by decide +kernel
theorem dX12_map_10 : decode cX12_map 10 = .ok (.lconst 0, 1) := by decide +kernel
theorem dX12_map_11 : decode cX12_map 11 = .ok (.lconst 1, 1) := by decide +kernel
theorem dX12_map_12 : decode cX12_map 12 = .ok (.invokestatic 145, 3) := by decide +kernel
theorem dX12_map_15 : decode cX12_map 15 = .ok (.ifCond .eq 61, 3) := by decide +kernel
theorem dX12_map_18 : decode cX12_map 18 = .ok (.iload 4, 2) := by decide +kernel
theorem dX12_map_20 : decode cX12_map 20 = .ok (.i2l, 1) := by decide +kernel
theorem dX12_map_21 : decode cX12_map 21 = .ok (.lconst 1, 1) := by decide +kernel
theorem dX12_map_22 : decode cX12_map 22 = .ok (.ldc2_w 262, 3) := by decide +kernel
theorem dX12_map_25 : decode cX12_map 25 = .ok (.invokestatic 145, 3) := by decide +kernel
theorem dX12_map_28 : decode cX12_map 28 = .ok (.ifCond .eq 48, 3) := by decide +kernel
theorem dX12_map_31 : decode cX12_map 31 = .ok (.iload_n 3, 1) := by decide +kernel
theorem dX12_map_32 : decode cX12_map 32 = .ok (.i2l, 1) := by decide +kernel
theorem dX12_map_33 : decode cX12_map 33 = .ok (.lconst 0, 1) := by decide +kernel
theorem dX12_map_34 : decode cX12_map 34 = .ok (.bipush 32, 2) := by decide +kernel
theorem dX12_map_36 : decode cX12_map 36 = .ok (.iload 4, 2) := by decide +kernel
theorem dX12_map_38 : decode cX12_map 38 = .ok (.isub, 1) := by decide +kernel
theorem dX12_map_39 : decode cX12_map 39 = .ok (.i2l, 1) := by decide +kernel
theorem dX12_map_40 : decode cX12_map 40 = .ok (.invokestatic 145, 3) := by decide +kernel
theorem dX12_map_43 : decode cX12_map 43 = .ok (.ifCond .eq 33, 3) := by decide +kernel
theorem dX12_map_46 : decode cX12_map 46 = .ok (.iload 5, 2) := by decide +kernel
theorem dX12_map_48 : decode cX12_map 48 = .ok (.i2l, 1) := by decide +kernel
theorem dX12_map_49 : decode cX12_map 49 = .ok (.iload_n 2, 1) := by decide +kernel
theorem dX12_map_50 : decode cX12_map 50 = .ok (.ifCond .ne 7, 3) := by decide +kernel
theorem dX12_map_53 : decode cX12_map 53 = .ok (.lconst 0, 1) := by decide +kernel
theorem dX12_map_54 : decode cX12_map 54 = .ok (.goto 6, 3) := by decide +kernel
theorem dX12_map_57 : decode cX12_map 57 = .ok (.ldc2_w 251, 3) := by decide +kernel
theorem dX12_map_60 : decode cX12_map 60 = .ok (.bipush 16, 2) := by decide +kernel
theorem dX12_map_62 : decode cX12_map 62 = .ok (.iload 4, 2) := by decide +kernel
theorem dX12_map_64 : decode cX12_map 64 = .ok (.isub, 1) := by decide +kernel
theorem dX12_map_65 : decode cX12_map 65 = .ok (.i2l, 1) := by decide +kernel
theorem dX12_map_66 : decode cX12_map 66 = .ok (.invokestatic 145, 3) := by decide +kernel
theorem dX12_map_69 : decode cX12_map 69 = .ok (.ifCond .eq 7, 3) := by decide +kernel
theorem dX12_map_72 : decode cX12_map 72 = .ok (.iconst 1, 1) := by decide +kernel
theorem dX12_map_73 : decode cX12_map 73 = .ok (.goto 4, 3) := by decide +kernel
theorem dX12_map_76 : decode cX12_map 76 = .ok (.iconst 0, 1) := by decide +kernel
theorem dX12_map_77 : decode cX12_map 77 = .ok (.istore 6, 2) := by decide +kernel
theorem dX12_map_79 : decode cX12_map 79 = .ok (.iload 6, 2) := by decide +kernel
theorem dX12_map_81 : decode cX12_map 81 = .ok (.ifCond .ne 5, 3) := by decide +kernel
theorem dX12_map_84 : decode cX12_map 84 = .ok (.iconst (-1), 1) := by decide +kernel
theorem dX12_map_85 : decode cX12_map 85 = .ok (.ireturn, 1) := by decide +kernel
theorem dX12_map_86 : decode cX12_map 86 = .ok (.iconst 0, 1) := by decide +kernel
theorem dX12_map_87 : decode cX12_map 87 = .ok (.istore 7, 2) := by decide +kernel
theorem dX12_map_89 : decode cX12_map 89 = .ok (.iload 7, 2) := by decide +kernel
theorem dX12_map_91 : decode cX12_map 91 = .ok (.aload_n 0, 1) := by decide +kernel
theorem dX12_map_92 : decode cX12_map 92 = .ok (.getfield 180, 3) := by decide +kernel
theorem dX12_map_95 : decode cX12_map 95 = .ok (.if_icmp .ge 69, 3) := by decide +kernel
theorem dX12_map_98 : decode cX12_map 98 = .ok (.iconst 2, 1) := by decide +kernel
theorem dX12_map_99 : decode cX12_map 99 = .ok (.iload 7, 2) := by decide +kernel
theorem dX12_map_101 : decode cX12_map 101 = .ok (.imul, 1) := by decide +kernel
theorem dX12_map_102 : decode cX12_map 102 = .ok (.iload_n 2, 1) := by decide +kernel
theorem dX12_map_103 : decode cX12_map 103 = .ok (.iadd, 1) := by decide +kernel
theorem dX12_map_104 : decode cX12_map 104 = .ok (.istore 8, 2) := by decide +kernel
theorem dX12_map_106 : decode cX12_map 106 = .ok (.iload 7, 2) := by decide +kernel
theorem dX12_map_108 : decode cX12_map 108 = .ok (.iload_n 1, 1) := by decide +kernel
theorem dX12_map_109 : decode cX12_map 109 = .ok (.if_icmp .eq 49, 3) := by decide +kernel
theorem dX12_map_112 : decode cX12_map 112 = .ok (.aload_n 0, 1) := by decide +kernel
theorem dX12_map_113 : decode cX12_map 113 = .ok (.getfield 55, 3) := by decide +kernel
theorem dX12_map_116 : decode cX12_map 116 = .ok (.iload 8, 2) := by decide +kernel
theorem dX12_map_118 : decode cX12_map 118 = .ok (.iaload, 1) := by decide +kernel
theorem dX12_map_119 : decode cX12_map 119 = .ok (.ifCond .le 39, 3) := by decide +kernel
theorem dX12_map_122 : decode cX12_map 122 = .ok (.iload_n 3, 1) := by decide +kernel
theorem dX12_map_123 : decode cX12_map 123 = .ok (.aload_n 0, 1) := by decide +kernel
theorem dX12_map_124 : decode cX12_map 124 = .ok (.getfield 52, 3) := by decide +kernel
theorem dX12_map_127 : decode cX12_map 127 = .ok (.iload 8, 2) := by decide +kernel
theorem dX12_map_129 : decode cX12_map 129 = .ok (.iaload, 1) := by decide +kernel
theorem dX12_map_130 : decode cX12_map 130 = .ok (.aload_n 0, 1) := by decide +kernel
theorem dX12_map_131 : decode cX12_map 131 = .ok (.getfield 55, 3) := by decide +kernel
theorem dX12_map_134 : decode cX12_map 134 = .ok (.iload 8, 2) := by decide +kernel
theorem dX12_map_136 : decode cX12_map 136 = .ok (.iaload, 1) := by decide +kernel
theorem dX12_map_137 : decode cX12_map 137 = .ok (.iadd, 1) := by decide +kernel
theorem dX12_map_138 : decode cX12_map 138 = .ok (.if_icmp .ge 20, 3) := by decide +kernel
theorem dX12_map_141 : decode cX12_map 141 = .ok (.aload_n 0, 1) := by decide +kernel
theorem dX12_map_142 : decode cX12_map 142 = .ok (.getfield 52, 3) := by decide +kernel
theorem dX12_map_145 : decode cX12_map 145 = .ok (.iload 8, 2) := by decide +kernel
theorem dX12_map_147 : decode cX12_map 147 = .ok (.iaload, 1) := by decide +kernel
theorem dX12_map_148 : decode cX12_map 148 = .ok (.iload_n 3, 1) := by decide +kernel
theorem dX12_map_149 : decode cX12_map 149 = .ok (.iload 4, 2) := by decide +kernel
theorem dX12_map_151 : decode cX12_map 151 = .ok (.iadd, 1) := by decide +kernel
theorem dX12_map_152 : decode cX12_map 152 = .ok (.if_icmp .ge 6, 3) := by decide +kernel
theorem dX12_map_155 : decode cX12_map 155 = .ok (.bipush (-2), 2) := by decide +kernel
theorem dX12_map_157 : decode cX12_map 157 = .ok (.ireturn, 1) := by decide +kernel
theorem dX12_map_158 : decode cX12_map 158 = .ok (.iinc 7 1, 3) := by decide +kernel
theorem dX12_map_161 : decode cX12_map 161 = .ok (.goto (-72), 3) := by decide +kernel
theorem dX12_map_164 : decode cX12_map 164 = .ok (.aload_n 0, 1) := by decide +kernel
theorem dX12_map_165 : decode cX12_map 165 = .ok (.getfield 55, 3) := by decide +kernel
theorem dX12_map_168 : decode cX12_map 168 = .ok (.iconst 2, 1) := by decide +kernel
theorem dX12_map_169 : decode cX12_map 169 = .ok (.iload_n 1, 1) := by decide +kernel
theorem dX12_map_170 : decode cX12_map 170 = .ok (.imul, 1) := by decide +kernel
theorem dX12_map_171 : decode cX12_map 171 = .ok (.iload_n 2, 1) := by decide +kernel
theorem dX12_map_172 : decode cX12_map 172 = .ok (.iadd, 1) := by decide +kernel
theorem dX12_map_173 : decode cX12_map 173 = .ok (.iaload, 1) := by decide +kernel
theorem dX12_map_174 : decode cX12_map 174 = .ok (.ifCond .le 7, 3) := by decide +kernel
theorem dX12_map_177 : decode cX12_map 177 = .ok (.iconst 1, 1) := by decide +kernel
theorem dX12_map_178 : decode cX12_map 178 = .ok (.goto 4, 3) := by decide +kernel
theorem dX12_map_181 : decode cX12_map 181 = .ok (.iconst 0, 1) := by decide +kernel
theorem dX12_map_182 : decode cX12_map 182 = .ok (.istore 7, 2) := by decide +kernel
theorem dX12_map_184 : decode cX12_map 184 = .ok (.aload_n 0, 1) := by decide +kernel
theorem dX12_map_185 : decode cX12_map 185 = .ok (.getfield 52, 3) := by decide +kernel
theorem dX12_map_188 : decode cX12_map 188 = .ok (.iconst 2, 1) := by decide +kernel
theorem dX12_map_189 : decode cX12_map 189 = .ok (.iload_n 1, 1) := by decide +kernel
theorem dX12_map_190 : decode cX12_map 190 = .ok (.imul, 1) := by decide +kernel
theorem dX12_map_191 : decode cX12_map 191 = .ok (.iload_n 2, 1) := by decide +kernel
theorem dX12_map_192 : decode cX12_map 192 = .ok (.iadd, 1) := by decide +kernel
theorem dX12_map_193 : decode cX12_map 193 = .ok (.iload_n 3, 1) := by decide +kernel
theorem dX12_map_194 : decode cX12_map 194 = .ok (.iastore, 1) := by decide +kernel
theorem dX12_map_195 : decode cX12_map 195 = .ok (.aload_n 0, 1) := by decide +kernel
theorem dX12_map_196 : decode cX12_map 196 = .ok (.getfield 55, 3) := by decide +kernel
theorem dX12_map_199 : decode cX12_map 199 = .ok (.iconst 2, 1) := by decide +kernel
theorem dX12_map_200 : decode cX12_map 200 = .ok (.iload_n 1, 1) := by decide +kernel
theorem dX12_map_201 : decode cX12_map 201 = .ok (.imul, 1) := by decide +kernel
theorem dX12_map_202 : decode cX12_map 202 = .ok (.iload_n 2, 1) := by decide +kernel
theorem dX12_map_203 : decode cX12_map 203 = .ok (.iadd, 1) := by decide +kernel
theorem dX12_map_204 : decode cX12_map 204 = .ok (.iload 4, 2) := by decide +kernel
theorem dX12_map_206 : decode cX12_map 206 = .ok (.iastore, 1) := by decide +kernel
theorem dX12_map_207 : decode cX12_map 207 = .ok (.aload_n 0, 1) := by decide +kernel
theorem dX12_map_208 : decode cX12_map 208 = .ok (.getfield 58, 3) := by decide +kernel
theorem dX12_map_211 : decode cX12_map 211 = .ok (.iconst 2, 1) := by decide +kernel
theorem dX12_map_212 : decode cX12_map 212 = .ok (.iload_n 1, 1) := by decide +kernel
theorem dX12_map_213 : decode cX12_map 213 = .ok (.imul, 1) := by decide +kernel
theorem dX12_map_214 : decode cX12_map 214 = .ok (.iload_n 2, 1) := by decide +kernel
theorem dX12_map_215 : decode cX12_map 215 = .ok (.iadd, 1) := by decide +kernel
theorem dX12_map_216 : decode cX12_map 216 = .ok (.iload 5, 2) := by decide +kernel
theorem dX12_map_218 : decode cX12_map 218 = .ok (.iastore, 1) := by decide +kernel
theorem dX12_map_219 : decode cX12_map 219 = .ok (.iload 7, 2) := by decide +kernel
theorem dX12_map_221 : decode cX12_map 221 = .ok (.ireturn, 1) := by decide +kernel
theorem dX12_unmap_0 : decode cX12_unmap 0 = .ok (.aload_n 0, 1) := by decide +kernel
theorem dX12_unmap_1 : decode cX12_unmap 1 = .ok (.iload_n 1, 1) := by decide +kernel
theorem dX12_unmap_2 : decode cX12_unmap 2 = .ok (.invokevirtual 236, 3) := by decide +kernel
theorem dX12_unmap_5 : decode cX12_unmap 5 = .ok (.ifCond .eq 13, 3) := by decide +kernel
theorem dX12_unmap_8 : decode cX12_unmap 8 = .ok (.iload_n 2, 1) := by decide +kernel
theorem dX12_unmap_9 : decode cX12_unmap 9 = .ok (.i2l, 1) := by decide +kernel
theorem dX12_unmap_10 : decode cX12_unmap 10 = .ok (.lconst 0, 1) := by decide +kernel
theorem dX12_unmap_11 : decode cX12_unmap 11 = .ok (.lconst 1, 1) := by decide +kernel
theorem dX12_unmap_12 : decode cX12_unmap 12 = .ok (.invokestatic 145, 3) := by decide +kernel
theorem dX12_unmap_15 : decode cX12_unmap 15 = .ok (.ifCond .ne 5, 3) := by decide +kernel
theorem dX12_unmap_18 : decode cX12_unmap 18 = .ok (.iconst (-1), 1) := by decide +kernel
theorem dX12_unmap_19 : decode cX12_unmap 19 = .ok (.ireturn, 1) := by decide +kernel
theorem dX12_unmap_20 : decode cX12_unmap 20 = .ok (.aload_n 0, 1) := by decide +kernel
theorem dX12_unmap_21 : decode cX12_unmap 21 = .ok (.getfield 55, 3) := by decide +kernel
theorem dX12_unmap_24 : decode cX12_unmap 24 = .ok (.iconst 2, 1) := by decide +kernel
theorem dX12_unmap_25 : decode cX12_unmap 25 = .ok (.iload_n 1, 1) := by decide +kernel
theorem dX12_unmap_26 : decode cX12_unmap 26 = .ok (.imul, 1) := by decide +kernel
theorem dX12_unmap_27 : decode cX12_unmap 27 = .ok (.iload_n 2, 1) := by decide +kernel
theorem dX12_unmap_28 : decode cX12_unmap 28 = .ok (.iadd, 1) := by decide +kernel
theorem dX12_unmap_29 : decode cX12_unmap 29 = .ok (.iaload, 1) := by decide +kernel
theorem dX12_unmap_30 : decode cX12_unmap 30 = .ok (.ifCond .ne 6, 3) := by decide +kernel
theorem dX12_unmap_33 : decode cX12_unmap 33 = .ok (.bipush (-2), 2) := by decide +kernel
theorem dX12_unmap_35 : decode cX12_unmap 35 = .ok (.ireturn, 1) := by decide +kernel
theorem dX12_unmap_36 : decode cX12_unmap 36 = .ok (.aload_n 0, 1) := by decide +kernel
theorem dX12_unmap_37 : decode cX12_unmap 37 = .ok (.getfield 55, 3) := by decide +kernel
theorem dX12_unmap_40 : decode cX12_unmap 40 = .ok (.iconst 2, 1) := by decide +kernel
theorem dX12_unmap_41 : decode cX12_unmap 41 = .ok (.iload_n 1, 1) := by decide +kernel
theorem dX12_unmap_42 : decode cX12_unmap 42 = .ok (.imul, 1) := by decide +kernel
theorem dX12_unmap_43 : decode cX12_unmap 43 = .ok (.iload_n 2, 1) := by decide +kernel
theorem dX12_unmap_44 : decode cX12_unmap 44 = .ok (.iadd, 1) := by decide +kernel
theorem dX12_unmap_45 : decode cX12_unmap 45 = .ok (.iconst 0, 1) := by decide +kernel
theorem dX12_unmap_46 : decode cX12_unmap 46 = .ok (.iastore, 1) := by decide +kernel
theorem dX12_unmap_47 : decode cX12_unmap 47 = .ok (.iconst 1, 1) := by decide +kernel
theorem dX12_unmap_48 : decode cX12_unmap 48 = .ok (.ireturn, 1) := by decide +kernel
theorem dX12_mapped_0 : decode cX12_mapped 0 = .ok (.aload_n 0, 1) := by decide +kernel
theorem dX12_mapped_1 : decode cX12_mapped 1 = .ok (.iload_n 1, 1) := by decide +kernel
theorem dX12_mapped_2 : decode cX12_mapped 2 = .ok (.invokevirtual 236, 3) := by decide +kernel
theorem dX12_mapped_5 : decode cX12_mapped 5 = .ok (.ifCond .eq 25, 3) := by decide +kernel
theorem dX12_mapped_8 : decode cX12_mapped 8 = .ok (.iload_n 2, 1) := by decide +kernel
theorem dX12_mapped_9 : decode cX12_mapped 9 = .ok (.i2l, 1) := by decide +kernel
theorem dX12_mapped_10 : decode cX12_mapped 10 = .ok (.lconst 0, 1) := by decide +kernel
theorem dX12_mapped_11 : decode cX12_mapped 11 = .ok (.lconst 1, 1) := by decide +kernel
theorem dX12_mapped_12 : decode cX12_mapped 12 = .ok (.invokestatic 145, 3) := by decide +kernel
theorem dX12_mapped_15 : decode cX12_mapped 15 = .ok (.ifCond .eq 15, 3) := by decide +kernel
theorem dX12_mapped_18 : decode cX12_mapped 18 = .ok (.iload_n 3, 1) := by decide +kernel
theorem dX12_mapped_19 : decode cX12_mapped 19 = .ok (.i2l, 1) := by decide +kernel
theorem dX12_mapped_20 : decode cX12_mapped 20 = .ok (.lconst 0, 1) := by decide +kernel
theorem dX12_mapped_21 : decode cX12_mapped 21 = .ok (.ldc2_w 264, 3) := by decide +kernel
theorem dX12_mapped_24 : decode cX12_mapped 24 = .ok (.invokestatic 145, 3) := by decide +kernel
theorem dX12_mapped_27 : decode cX12_mapped 27 = .ok (.ifCond .ne 5, 3) := by decide +kernel
theorem dX12_mapped_30 : decode cX12_mapped 30 = .ok (.iconst (-1), 1) := by decide +kernel
theorem dX12_mapped_31 : decode cX12_mapped 31 = .ok (.ireturn, 1) := by decide +kernel
theorem dX12_mapped_32 : decode cX12_mapped 32 = .ok (.iconst 2, 1) := by decide +kernel
theorem dX12_mapped_33 : decode cX12_mapped 33 = .ok (.iload_n 1, 1) := by decide +kernel
theorem dX12_mapped_34 : decode cX12_mapped 34 = .ok (.imul, 1) := by decide +kernel
theorem dX12_mapped_35 : decode cX12_mapped 35 = .ok (.iload_n 2, 1) := by decide +kernel
theorem dX12_mapped_36 : decode cX12_mapped 36 = .ok (.iadd, 1) := by decide +kernel
theorem dX12_mapped_37 : decode cX12_mapped 37 = .ok (.istore 4, 2) := by decide +kernel
theorem dX12_mapped_39 : decode cX12_mapped 39 = .ok (.aload_n 0, 1) := by decide +kernel
theorem dX12_mapped_40 : decode cX12_mapped 40 = .ok (.getfield 55, 3) := by decide +kernel
theorem dX12_mapped_43 : decode cX12_mapped 43 = .ok (.iload 4, 2) := by decide +kernel
theorem dX12_mapped_45 : decode cX12_mapped 45 = .ok (.iaload, 1) := by decide +kernel
theorem dX12_mapped_46 : decode cX12_mapped 46 = .ok (.ifCond .ne 8, 3) := by decide +kernel
theorem dX12_mapped_49 : decode cX12_mapped 49 = .ok (.bipush (-4), 2) := by decide +kernel
theorem dX12_mapped_51 : decode cX12_mapped 51 = .ok (.goto 39, 3) := by decide +kernel
theorem dX12_mapped_54 : decode cX12_mapped 54 = .ok (.iload_n 3, 1) := by decide +kernel
theorem dX12_mapped_55 : decode cX12_mapped 55 = .ok (.ifCond .ne 13, 3) := by decide +kernel
theorem dX12_mapped_58 : decode cX12_mapped 58 = .ok (.aload_n 0, 1) := by decide +kernel
theorem dX12_mapped_59 : decode cX12_mapped 59 = .ok (.getfield 52, 3) := by decide +kernel
theorem dX12_mapped_62 : decode cX12_mapped 62 = .ok (.iload 4, 2) := by decide +kernel
theorem dX12_mapped_64 : decode cX12_mapped 64 = .ok (.iaload, 1) := by decide +kernel
theorem dX12_mapped_65 : decode cX12_mapped 65 = .ok (.goto 25, 3) := by decide +kernel
theorem dX12_mapped_68 : decode cX12_mapped 68 = .ok (.iload_n 3, 1) := by decide +kernel
theorem dX12_mapped_69 : decode cX12_mapped 69 = .ok (.iconst 1, 1) := by decide +kernel
theorem dX12_mapped_70 : decode cX12_mapped 70 = .ok (.if_icmp .ne 13, 3) := by decide +kernel
theorem dX12_mapped_73 : decode cX12_mapped 73 = .ok (.aload_n 0, 1) := by decide +kernel
theorem dX12_mapped_74 : decode cX12_mapped 74 = .ok (.getfield 55, 3) := by decide +kernel
theorem dX12_mapped_77 : decode cX12_mapped 77 = .ok (.iload 4, 2) := by decide +kernel
theorem dX12_mapped_79 : decode cX12_mapped 79 = .ok (.iaload, 1) := by decide +kernel
theorem dX12_mapped_80 : decode cX12_mapped 80 = .ok (.goto 10, 3) := by decide +kernel
theorem dX12_mapped_83 : decode cX12_mapped 83 = .ok (.aload_n 0, 1) := by decide +kernel
theorem dX12_mapped_84 : decode cX12_mapped 84 = .ok (.getfield 58, 3) := by decide +kernel
theorem dX12_mapped_87 : decode cX12_mapped 87 = .ok (.iload 4, 2) := by decide +kernel
theorem dX12_mapped_89 : decode cX12_mapped 89 = .ok (.iaload, 1) := by decide +kernel
theorem dX12_mapped_90 : decode cX12_mapped 90 = .ok (.ireturn, 1) := by decide +kernel
theorem dX12_isGram_0 : decode cX12_isGram 0 = .ok (.iload 4, 2) := by decide +kernel
theorem dX12_isGram_2 : decode cX12_isGram 2 = .ok (.i2l, 1) := by decide +kernel
theorem dX12_isGram_3 : decode cX12_isGram 3 = .ok (.lconst 1, 1) := by decide +kernel
theorem dX12_isGram_4 : decode cX12_isGram 4 = .ok (.ldc2_w 262, 3) := by decide +kernel
theorem dX12_isGram_7 : decode cX12_isGram 7 = .ok (.invokestatic 145, 3) := by decide +kernel
theorem dX12_isGram_10 : decode cX12_isGram 10 = .ok (.ifCond .ne 5, 3) := by decide +kernel
theorem dX12_isGram_13 : decode cX12_isGram 13 = .ok (.iconst 0, 1) := by decide +kernel
theorem dX12_isGram_14 : decode cX12_isGram 14 = .ok (.ireturn, 1) := by decide +kernel
theorem dX12_isGram_15 : decode cX12_isGram 15 = .ok (.iload_n 1, 1) := by decide +kernel
theorem dX12_isGram_16 : decode cX12_isGram 16 = .ok (.i2l, 1) := by decide +kernel
theorem dX12_isGram_17 : decode cX12_isGram 17 = .ok (.ldc2_w 266, 3) := by decide +kernel
theorem dX12_isGram_20 : decode cX12_isGram 20 = .ok (.ldc2_w 268, 3) := by decide +kernel
theorem dX12_isGram_23 : decode cX12_isGram 23 = .ok (.invokestatic 145, 3) := by decide +kernel
theorem dX12_isGram_26 : decode cX12_isGram 26 = .ok (.ifCond .eq 28, 3) := by decide +kernel
theorem dX12_isGram_29 : decode cX12_isGram 29 = .ok (.iload_n 3, 1) := by decide +kernel
theorem dX12_isGram_30 : decode cX12_isGram 30 = .ok (.ifCond .ne 22, 3) := by decide +kernel
theorem dX12_isGram_33 : decode cX12_isGram 33 = .ok (.iload_n 2, 1) := by decide +kernel
theorem dX12_isGram_34 : decode cX12_isGram 34 = .ok (.i2l, 1) := by decide +kernel
theorem dX12_isGram_35 : decode cX12_isGram 35 = .ok (.lconst 0, 1) := by decide +kernel
theorem dX12_isGram_36 : decode cX12_isGram 36 = .ok (.bipush 32, 2) := by decide +kernel
theorem dX12_isGram_38 : decode cX12_isGram 38 = .ok (.iload 4, 2) := by decide +kernel
theorem dX12_isGram_40 : decode cX12_isGram 40 = .ok (.isub, 1) := by decide +kernel
theorem dX12_isGram_41 : decode cX12_isGram 41 = .ok (.i2l, 1) := by decide +kernel
theorem dX12_isGram_42 : decode cX12_isGram 42 = .ok (.invokestatic 145, 3) := by decide +kernel
theorem dX12_isGram_45 : decode cX12_isGram 45 = .ok (.ifCond .eq 7, 3) := by decide +kernel
theorem dX12_isGram_48 : decode cX12_isGram 48 = .ok (.iconst 1, 1) := by decide +kernel
theorem dX12_isGram_49 : decode cX12_isGram 49 = .ok (.goto 4, 3) := by decide +kernel
theorem dX12_isGram_52 : decode cX12_isGram 52 = .ok (.iconst 0, 1) := by decide +kernel
theorem dX12_isGram_53 : decode cX12_isGram 53 = .ok (.ireturn, 1) := by decide +kernel
theorem dX12_isGram_54 : decode cX12_isGram 54 = .ok (.iload_n 1, 1) := by decide +kernel
theorem dX12_isGram_55 : decode cX12_isGram 55 = .ok (.i2l, 1) := by decide +kernel
theorem dX12_isGram_56 : decode cX12_isGram 56 = .ok (.lconst 1, 1) := by decide +kernel
theorem dX12_isGram_57 : decode cX12_isGram 57 = .ok (.ldc2_w 258, 3) := by decide +kernel
theorem dX12_isGram_60 : decode cX12_isGram 60 = .ok (.invokestatic 145, 3) := by decide +kernel
theorem dX12_isGram_63 : decode cX12_isGram 63 = .ok (.ifCond .eq 15, 3) := by decide +kernel
theorem dX12_isGram_66 : decode cX12_isGram 66 = .ok (.iload_n 3, 1) := by decide +kernel
theorem dX12_isGram_67 : decode cX12_isGram 67 = .ok (.i2l, 1) := by decide +kernel
theorem dX12_isGram_68 : decode cX12_isGram 68 = .ok (.lconst 0, 1) := by decide +kernel
theorem dX12_isGram_69 : decode cX12_isGram 69 = .ok (.ldc2_w 245, 3) := by decide +kernel
theorem dX12_isGram_72 : decode cX12_isGram 72 = .ok (.invokestatic 145, 3) := by decide +kernel
theorem dX12_isGram_75 : decode cX12_isGram 75 = .ok (.ifCond .ne 5, 3) := by decide +kernel
theorem dX12_isGram_78 : decode cX12_isGram 78 = .ok (.iconst 0, 1) := by decide +kernel
theorem dX12_isGram_79 : decode cX12_isGram 79 = .ok (.ireturn, 1) := by decide +kernel
theorem dX12_isGram_80 : decode cX12_isGram 80 = .ok (.iload_n 1, 1) := by decide +kernel
theorem dX12_isGram_81 : decode cX12_isGram 81 = .ok (.iconst 4, 1) := by decide +kernel
theorem dX12_isGram_82 : decode cX12_isGram 82 = .ok (.if_icmp .ge 15, 3) := by decide +kernel
theorem dX12_isGram_85 : decode cX12_isGram 85 = .ok (.iload_n 2, 1) := by decide +kernel
theorem dX12_isGram_86 : decode cX12_isGram 86 = .ok (.i2l, 1) := by decide +kernel
theorem dX12_isGram_87 : decode cX12_isGram 87 = .ok (.lconst 0, 1) := by decide +kernel
theorem dX12_isGram_88 : decode cX12_isGram 88 = .ok (.ldc2_w 270, 3) := by decide +kernel
theorem dX12_isGram_91 : decode cX12_isGram 91 = .ok (.invokestatic 145, 3) := by decide +kernel
theorem dX12_isGram_94 : decode cX12_isGram 94 = .ok (.goto 30, 3) := by decide +kernel
theorem dX12_isGram_97 : decode cX12_isGram 97 = .ok (.iload_n 1, 1) := by decide +kernel
theorem dX12_isGram_98 : decode cX12_isGram 98 = .ok (.bipush 7, 2) := by decide +kernel
theorem dX12_isGram_100 : decode cX12_isGram 100 = .ok (.if_icmp .ge 15, 3) := by decide +kernel
theorem dX12_isGram_103 : decode cX12_isGram 103 = .ok (.iload_n 2, 1) := by decide +kernel
theorem dX12_isGram_104 : decode cX12_isGram 104 = .ok (.i2l, 1) := by decide +kernel
theorem dX12_isGram_105 : decode cX12_isGram 105 = .ok (.lconst 1, 1) := by decide +kernel
theorem dX12_isGram_106 : decode cX12_isGram 106 = .ok (.ldc2_w 272, 3) := by decide +kernel
theorem dX12_isGram_109 : decode cX12_isGram 109 = .ok (.invokestatic 145, 3) := by decide +kernel
theorem dX12_isGram_112 : decode cX12_isGram 112 = .ok (.goto 12, 3) := by decide +kernel
theorem dX12_isGram_115 : decode cX12_isGram 115 = .ok (.iload_n 2, 1) := by decide +kernel
theorem dX12_isGram_116 : decode cX12_isGram 116 = .ok (.ifCond .ne 7, 3) := by decide +kernel
theorem dX12_isGram_119 : decode cX12_isGram 119 = .ok (.iconst 1, 1) := by decide +kernel
theorem dX12_isGram_120 : decode cX12_isGram 120 = .ok (.goto 4, 3) := by decide +kernel
theorem dX12_isGram_123 : decode cX12_isGram 123 = .ok (.iconst 0, 1) := by decide +kernel
theorem dX12_isGram_124 : decode cX12_isGram 124 = .ok (.ireturn, 1) := by decide +kernel
theorem dX12_gram_0 : decode cX12_gram 0 = .ok (.iload_n 1, 1) := by decide +kernel
theorem dX12_gram_1 : decode cX12_gram 1 = .ok (.i2l, 1) := by decide +kernel
theorem dX12_gram_2 : decode cX12_gram 2 = .ok (.lconst 0, 1) := by decide +kernel
theorem dX12_gram_3 : decode cX12_gram 3 = .ok (.ldc2_w 260, 3) := by decide +kernel
theorem dX12_gram_6 : decode cX12_gram 6 = .ok (.invokestatic 145, 3) := by decide +kernel
theorem dX12_gram_9 : decode cX12_gram 9 = .ok (.ifCond .eq 16, 3) := by decide +kernel
theorem dX12_gram_12 : decode cX12_gram 12 = .ok (.aload_n 0, 1) := by decide +kernel
theorem dX12_gram_13 : decode cX12_gram 13 = .ok (.iload_n 2, 1) := by decide +kernel
theorem dX12_gram_14 : decode cX12_gram 14 = .ok (.iload_n 3, 1) := by decide +kernel
theorem dX12_gram_15 : decode cX12_gram 15 = .ok (.iload 4, 2) := by decide +kernel
theorem dX12_gram_17 : decode cX12_gram 17 = .ok (.iload 5, 2) := by decide +kernel
theorem dX12_gram_19 : decode cX12_gram 19 = .ok (.invokevirtual 274, 3) := by decide +kernel
theorem dX12_gram_22 : decode cX12_gram 22 = .ok (.ifCond .ne 5, 3) := by decide +kernel
theorem dX12_gram_25 : decode cX12_gram 25 = .ok (.iconst (-1), 1) := by decide +kernel
theorem dX12_gram_26 : decode cX12_gram 26 = .ok (.ireturn, 1) := by decide +kernel
theorem dX12_gram_27 : decode cX12_gram 27 = .ok (.aload_n 0, 1) := by decide +kernel
theorem dX12_gram_28 : decode cX12_gram 28 = .ok (.getfield 79, 3) := by decide +kernel
theorem dX12_gram_31 : decode cX12_gram 31 = .ok (.iload_n 1, 1) := by decide +kernel
theorem dX12_gram_32 : decode cX12_gram 32 = .ok (.iaload, 1) := by decide +kernel
theorem dX12_gram_33 : decode cX12_gram 33 = .ok (.istore 6, 2) := by decide +kernel
theorem dX12_gram_35 : decode cX12_gram 35 = .ok (.aload_n 0, 1) := by decide +kernel
theorem dX12_gram_36 : decode cX12_gram 36 = .ok (.getfield 79, 3) := by decide +kernel
theorem dX12_gram_39 : decode cX12_gram 39 = .ok (.iload_n 1, 1) := by decide +kernel
theorem dX12_gram_40 : decode cX12_gram 40 = .ok (.iload_n 2, 1) := by decide +kernel
theorem dX12_gram_41 : decode cX12_gram 41 = .ok (.iastore, 1) := by decide +kernel
theorem dX12_gram_42 : decode cX12_gram 42 = .ok (.aload_n 0, 1) := by decide +kernel
theorem dX12_gram_43 : decode cX12_gram 43 = .ok (.getfield 82, 3) := by decide +kernel
theorem dX12_gram_46 : decode cX12_gram 46 = .ok (.iload_n 1, 1) := by decide +kernel
theorem dX12_gram_47 : decode cX12_gram 47 = .ok (.iload_n 3, 1) := by decide +kernel
theorem dX12_gram_48 : decode cX12_gram 48 = .ok (.iastore, 1) := by decide +kernel
theorem dX12_gram_49 : decode cX12_gram 49 = .ok (.aload_n 0, 1) := by decide +kernel
theorem dX12_gram_50 : decode cX12_gram 50 = .ok (.getfield 85, 3) := by decide +kernel
theorem dX12_gram_53 : decode cX12_gram 53 = .ok (.iload_n 1, 1) := by decide +kernel
theorem dX12_gram_54 : decode cX12_gram 54 = .ok (.iload 4, 2) := by decide +kernel
theorem dX12_gram_56 : decode cX12_gram 56 = .ok (.iastore, 1) := by decide +kernel
theorem dX12_gram_57 : decode cX12_gram 57 = .ok (.aload_n 0, 1) := by decide +kernel
theorem dX12_gram_58 : decode cX12_gram 58 = .ok (.getfield 88, 3) := by decide +kernel
theorem dX12_gram_61 : decode cX12_gram 61 = .ok (.iload_n 1, 1) := by decide +kernel
theorem dX12_gram_62 : decode cX12_gram 62 = .ok (.iload 5, 2) := by decide +kernel
theorem dX12_gram_64 : decode cX12_gram 64 = .ok (.iastore, 1) := by decide +kernel
theorem dX12_gram_65 : decode cX12_gram 65 = .ok (.iload 6, 2) := by decide +kernel
theorem dX12_gram_67 : decode cX12_gram 67 = .ok (.ireturn, 1) := by decide +kernel
theorem dX12_clear_0 : decode cX12_clear 0 = .ok (.iload_n 1, 1) := by decide +kernel
theorem dX12_clear_1 : decode cX12_clear 1 = .ok (.i2l, 1) := by decide +kernel
theorem dX12_clear_2 : decode cX12_clear 2 = .ok (.lconst 0, 1) := by decide +kernel
theorem dX12_clear_3 : decode cX12_clear 3 = .ok (.ldc2_w 260, 3) := by decide +kernel
theorem dX12_clear_6 : decode cX12_clear 6 = .ok (.invokestatic 145, 3) := by decide +kernel
theorem dX12_clear_9 : decode cX12_clear 9 = .ok (.ifCond .ne 5, 3) := by decide +kernel
theorem dX12_clear_12 : decode cX12_clear 12 = .ok (.iconst (-1), 1) := by decide +kernel
theorem dX12_clear_13 : decode cX12_clear 13 = .ok (.ireturn, 1) := by decide +kernel
theorem dX12_clear_14 : decode cX12_clear 14 = .ok (.aload_n 0, 1) := by decide +kernel
theorem dX12_clear_15 : decode cX12_clear 15 = .ok (.getfield 79, 3) := by decide +kernel
theorem dX12_clear_18 : decode cX12_clear 18 = .ok (.iload_n 1, 1) := by decide +kernel
theorem dX12_clear_19 : decode cX12_clear 19 = .ok (.iaload, 1) := by decide +kernel
theorem dX12_clear_20 : decode cX12_clear 20 = .ok (.istore_n 2, 1) := by decide +kernel
theorem dX12_clear_21 : decode cX12_clear 21 = .ok (.aload_n 0, 1) := by decide +kernel
theorem dX12_clear_22 : decode cX12_clear 22 = .ok (.getfield 79, 3) := by decide +kernel
theorem dX12_clear_25 : decode cX12_clear 25 = .ok (.iload_n 1, 1) := by decide +kernel
theorem dX12_clear_26 : decode cX12_clear 26 = .ok (.iconst 0, 1) := by decide +kernel
theorem dX12_clear_27 : decode cX12_clear 27 = .ok (.iastore, 1) := by decide +kernel
theorem dX12_clear_28 : decode cX12_clear 28 = .ok (.iload_n 2, 1) := by decide +kernel
theorem dX12_clear_29 : decode cX12_clear 29 = .ok (.ifCond .ne 8, 3) := by decide +kernel
theorem dX12_clear_32 : decode cX12_clear 32 = .ok (.bipush (-2), 2) := by decide +kernel
theorem dX12_clear_34 : decode cX12_clear 34 = .ok (.goto 4, 3) := by decide +kernel
theorem dX12_clear_37 : decode cX12_clear 37 = .ok (.iload_n 2, 1) := by decide +kernel
theorem dX12_clear_38 : decode cX12_clear 38 = .ok (.ireturn, 1) := by decide +kernel
theorem dX12_put_0 : decode cX12_put 0 = .ok (.iload_n 1, 1) := by decide +kernel
theorem dX12_put_1 : decode cX12_put 1 = .ok (.i2l, 1) := by decide +kernel
theorem dX12_put_2 : decode cX12_put 2 = .ok (.lconst 0, 1) := by decide +kernel
theorem dX12_put_3 : decode cX12_put 3 = .ok (.ldc2_w 260, 3) := by decide +kernel
theorem dX12_put_6 : decode cX12_put 6 = .ok (.invokestatic 145, 3) := by decide +kernel
theorem dX12_put_9 : decode cX12_put 9 = .ok (.ifCond .eq 27, 3) := by decide +kernel
theorem dX12_put_12 : decode cX12_put 12 = .ok (.iload_n 2, 1) := by decide +kernel
theorem dX12_put_13 : decode cX12_put 13 = .ok (.i2l, 1) := by decide +kernel
theorem dX12_put_14 : decode cX12_put 14 = .ok (.lconst 0, 1) := by decide +kernel
theorem dX12_put_15 : decode cX12_put 15 = .ok (.ldc2_w 270, 3) := by decide +kernel
theorem dX12_put_18 : decode cX12_put 18 = .ok (.invokestatic 145, 3) := by decide +kernel
theorem dX12_put_21 : decode cX12_put 21 = .ok (.ifCond .eq 15, 3) := by decide +kernel
theorem dX12_put_24 : decode cX12_put 24 = .ok (.iload_n 3, 1) := by decide +kernel
theorem dX12_put_25 : decode cX12_put 25 = .ok (.i2l, 1) := by decide +kernel
theorem dX12_put_26 : decode cX12_put 26 = .ok (.lconst 0, 1) := by decide +kernel
theorem dX12_put_27 : decode cX12_put 27 = .ok (.ldc2_w 253, 3) := by decide +kernel
theorem dX12_put_30 : decode cX12_put 30 = .ok (.invokestatic 145, 3) := by decide +kernel
theorem dX12_put_33 : decode cX12_put 33 = .ok (.ifCond .ne 5, 3) := by decide +kernel
theorem dX12_put_36 : decode cX12_put 36 = .ok (.iconst (-1), 1) := by decide +kernel
theorem dX12_put_37 : decode cX12_put 37 = .ok (.ireturn, 1) := by decide +kernel
theorem dX12_put_38 : decode cX12_put 38 = .ok (.aload_n 0, 1) := by decide +kernel
theorem dX12_put_39 : decode cX12_put 39 = .ok (.getfield 91, 3) := by decide +kernel
theorem dX12_put_42 : decode cX12_put 42 = .ok (.bipush 8, 2) := by decide +kernel
theorem dX12_put_44 : decode cX12_put 44 = .ok (.iload_n 1, 1) := by decide +kernel
theorem dX12_put_45 : decode cX12_put 45 = .ok (.imul, 1) := by decide +kernel
theorem dX12_put_46 : decode cX12_put 46 = .ok (.iload_n 2, 1) := by decide +kernel
theorem dX12_put_47 : decode cX12_put 47 = .ok (.iadd, 1) := by decide +kernel
theorem dX12_put_48 : decode cX12_put 48 = .ok (.iaload, 1) := by decide +kernel
theorem dX12_put_49 : decode cX12_put 49 = .ok (.istore 4, 2) := by decide +kernel
theorem dX12_put_51 : decode cX12_put 51 = .ok (.aload_n 0, 1) := by decide +kernel
theorem dX12_put_52 : decode cX12_put 52 = .ok (.getfield 91, 3) := by decide +kernel
theorem dX12_put_55 : decode cX12_put 55 = .ok (.bipush 8, 2) := by decide +kernel
theorem dX12_put_57 : decode cX12_put 57 = .ok (.iload_n 1, 1) := by decide +kernel
theorem dX12_put_58 : decode cX12_put 58 = .ok (.imul, 1) := by decide +kernel
theorem dX12_put_59 : decode cX12_put 59 = .ok (.iload_n 2, 1) := by decide +kernel
theorem dX12_put_60 : decode cX12_put 60 = .ok (.iadd, 1) := by decide +kernel
theorem dX12_put_61 : decode cX12_put 61 = .ok (.iload_n 3, 1) := by decide +kernel
theorem dX12_put_62 : decode cX12_put 62 = .ok (.iastore, 1) := by decide +kernel
theorem dX12_put_63 : decode cX12_put 63 = .ok (.iload 4, 2) := by decide +kernel
theorem dX12_put_65 : decode cX12_put 65 = .ok (.ireturn, 1) := by decide +kernel
theorem dX12_editOwn_0 : decode cX12_editOwn 0 = .ok (.aload_n 0, 1) := by decide +kernel
theorem dX12_editOwn_1 : decode cX12_editOwn 1 = .ok (.getfield 79, 3) := by decide +kernel
theorem dX12_editOwn_4 : decode cX12_editOwn 4 = .ok (.iload_n 2, 1) := by decide +kernel
theorem dX12_editOwn_5 : decode cX12_editOwn 5 = .ok (.iaload, 1) := by decide +kernel
theorem dX12_editOwn_6 : decode cX12_editOwn 6 = .ok (.iconst 1, 1) := by decide +kernel
theorem dX12_editOwn_7 : decode cX12_editOwn 7 = .ok (.isub, 1) := by decide +kernel
theorem dX12_editOwn_8 : decode cX12_editOwn 8 = .ok (.iconst 3, 1) := by decide +kernel
theorem dX12_editOwn_9 : decode cX12_editOwn 9 = .ok (.irem, 1) := by decide +kernel
theorem dX12_editOwn_10 : decode cX12_editOwn 10 = .ok (.istore 5, 2) := by decide +kernel
theorem dX12_editOwn_12 : decode cX12_editOwn 12 = .ok (.aload_n 0, 1) := by decide +kernel
theorem dX12_editOwn_13 : decode cX12_editOwn 13 = .ok (.getfield 85, 3) := by decide +kernel
theorem dX12_editOwn_16 : decode cX12_editOwn 16 = .ok (.iload_n 2, 1) := by decide +kernel
theorem dX12_editOwn_17 : decode cX12_editOwn 17 = .ok (.iaload, 1) := by decide +kernel
theorem dX12_editOwn_18 : decode cX12_editOwn 18 = .ok (.aload_n 0, 1) := by decide +kernel
theorem dX12_editOwn_19 : decode cX12_editOwn 19 = .ok (.getfield 88, 3) := by decide +kernel
theorem dX12_editOwn_22 : decode cX12_editOwn 22 = .ok (.iload_n 2, 1) := by decide +kernel
theorem dX12_editOwn_23 : decode cX12_editOwn 23 = .ok (.iaload, 1) := by decide +kernel
theorem dX12_editOwn_24 : decode cX12_editOwn 24 = .ok (.iadd, 1) := by decide +kernel
theorem dX12_editOwn_25 : decode cX12_editOwn 25 = .ok (.bipush 16, 2) := by decide +kernel
theorem dX12_editOwn_27 : decode cX12_editOwn 27 = .ok (.if_icmp .gt 7, 3) := by decide +kernel
theorem dX12_editOwn_30 : decode cX12_editOwn 30 = .ok (.iconst 1, 1) := by decide +kernel
theorem dX12_editOwn_31 : decode cX12_editOwn 31 = .ok (.goto 4, 3) := by decide +kernel
theorem dX12_editOwn_34 : decode cX12_editOwn 34 = .ok (.iconst 0, 1) := by decide +kernel
theorem dX12_editOwn_35 : decode cX12_editOwn 35 = .ok (.istore 6, 2) := by decide +kernel
theorem dX12_editOwn_37 : decode cX12_editOwn 37 = .ok (.iload 5, 2) := by decide +kernel
theorem dX12_editOwn_39 : decode cX12_editOwn 39 = .ok (.iconst 1, 1) := by decide +kernel
theorem dX12_editOwn_40 : decode cX12_editOwn 40 = .ok (.if_icmp .eq 12, 3) := by decide +kernel
theorem dX12_editOwn_43 : decode cX12_editOwn 43 = .ok (.iload 6, 2) := by decide +kernel
theorem dX12_editOwn_45 : decode cX12_editOwn 45 = .ok (.ifCond .eq 7, 3) := by decide +kernel
theorem dX12_editOwn_48 : decode cX12_editOwn 48 = .ok (.iconst 1, 1) := by decide +kernel
theorem dX12_editOwn_49 : decode cX12_editOwn 49 = .ok (.goto 4, 3) := by decide +kernel
theorem dX12_editOwn_52 : decode cX12_editOwn 52 = .ok (.iconst 0, 1) := by decide +kernel
theorem dX12_editOwn_53 : decode cX12_editOwn 53 = .ok (.istore 7, 2) := by decide +kernel
theorem dX12_editOwn_55 : decode cX12_editOwn 55 = .ok (.iload 5, 2) := by decide +kernel
theorem dX12_editOwn_57 : decode cX12_editOwn 57 = .ok (.ifCond .eq 22, 3) := by decide +kernel
theorem dX12_editOwn_60 : decode cX12_editOwn 60 = .ok (.iload 6, 2) := by decide +kernel
theorem dX12_editOwn_62 : decode cX12_editOwn 62 = .ok (.ifCond .eq 17, 3) := by decide +kernel
theorem dX12_editOwn_65 : decode cX12_editOwn 65 = .ok (.aload_n 0, 1) := by decide +kernel
theorem dX12_editOwn_66 : decode cX12_editOwn 66 = .ok (.getfield 85, 3) := by decide +kernel
theorem dX12_editOwn_69 : decode cX12_editOwn 69 = .ok (.iload_n 2, 1) := by decide +kernel
theorem dX12_editOwn_70 : decode cX12_editOwn 70 = .ok (.iaload, 1) := by decide +kernel
theorem dX12_editOwn_71 : decode cX12_editOwn 71 = .ok (.iconst 4, 1) := by decide +kernel
theorem dX12_editOwn_72 : decode cX12_editOwn 72 = .ok (.if_icmp .lt 7, 3) := by decide +kernel
theorem dX12_editOwn_75 : decode cX12_editOwn 75 = .ok (.iconst 1, 1) := by decide +kernel
theorem dX12_editOwn_76 : decode cX12_editOwn 76 = .ok (.goto 4, 3) := by decide +kernel
theorem dX12_editOwn_79 : decode cX12_editOwn 79 = .ok (.iconst 0, 1) := by decide +kernel
theorem dX12_editOwn_80 : decode cX12_editOwn 80 = .ok (.istore 8, 2) := by decide +kernel
theorem dX12_editOwn_82 : decode cX12_editOwn 82 = .ok (.iconst 0, 1) := by decide +kernel
theorem dX12_editOwn_83 : decode cX12_editOwn 83 = .ok (.istore 9, 2) := by decide +kernel
theorem dX12_editOwn_85 : decode cX12_editOwn 85 = .ok (.iload 9, 2) := by decide +kernel
theorem dX12_editOwn_87 : decode cX12_editOwn 87 = .ok (.aload_n 0, 1) := by decide +kernel
theorem dX12_editOwn_88 : decode cX12_editOwn 88 = .ok (.getfield 88, 3) := by decide +kernel
theorem dX12_editOwn_91 : decode cX12_editOwn 91 = .ok (.iload_n 2, 1) := by decide +kernel
theorem dX12_editOwn_92 : decode cX12_editOwn 92 = .ok (.iaload, 1) := by decide +kernel
theorem dX12_editOwn_93 : decode cX12_editOwn 93 = .ok (.if_icmp .ge 121, 3) := by decide +kernel
theorem dX12_editOwn_96 : decode cX12_editOwn 96 = .ok (.bipush 32, 2) := by decide +kernel
theorem dX12_editOwn_98 : decode cX12_editOwn 98 = .ok (.iload_n 1, 1) := by decide +kernel
theorem dX12_editOwn_99 : decode cX12_editOwn 99 = .ok (.imul, 1) := by decide +kernel
theorem dX12_editOwn_100 : decode cX12_editOwn 100 = .ok (.bipush 8, 2) := by decide +kernel
theorem dX12_editOwn_102 : decode cX12_editOwn 102 = .ok (.iload_n 2, 1) := by decide +kernel
theorem dX12_editOwn_103 : decode cX12_editOwn 103 = .ok (.imul, 1) := by decide +kernel
theorem dX12_editOwn_104 : decode cX12_editOwn 104 = .ok (.iadd, 1) := by decide +kernel
theorem dX12_editOwn_105 : decode cX12_editOwn 105 = .ok (.iload 9, 2) := by decide +kernel
theorem dX12_editOwn_107 : decode cX12_editOwn 107 = .ok (.iadd, 1) := by decide +kernel
theorem dX12_editOwn_108 : decode cX12_editOwn 108 = .ok (.istore 10, 2) := by decide +kernel
theorem dX12_editOwn_110 : decode cX12_editOwn 110 = .ok (.aload_n 0, 1) := by decide +kernel
theorem dX12_editOwn_111 : decode cX12_editOwn 111 = .ok (.getfield 112, 3) := by decide +kernel
theorem dX12_editOwn_114 : decode cX12_editOwn 114 = .ok (.iload 9, 2) := by decide +kernel
theorem dX12_editOwn_116 : decode cX12_editOwn 116 = .ok (.aload_n 0, 1) := by decide +kernel
theorem dX12_editOwn_117 : decode cX12_editOwn 117 = .ok (.getfield 94, 3) := by decide +kernel
theorem dX12_editOwn_120 : decode cX12_editOwn 120 = .ok (.iload 10, 2) := by decide +kernel
theorem dX12_editOwn_122 : decode cX12_editOwn 122 = .ok (.iaload, 1) := by decide +kernel
theorem dX12_editOwn_123 : decode cX12_editOwn 123 = .ok (.iastore, 1) := by decide +kernel
theorem dX12_editOwn_124 : decode cX12_editOwn 124 = .ok (.aload_n 0, 1) := by decide +kernel
theorem dX12_editOwn_125 : decode cX12_editOwn 125 = .ok (.iload_n 3, 1) := by decide +kernel
theorem dX12_editOwn_126 : decode cX12_editOwn 126 = .ok (.aload_n 0, 1) := by decide +kernel
theorem dX12_editOwn_127 : decode cX12_editOwn 127 = .ok (.getfield 85, 3) := by decide +kernel
theorem dX12_editOwn_130 : decode cX12_editOwn 130 = .ok (.iload_n 2, 1) := by decide +kernel
theorem dX12_editOwn_131 : decode cX12_editOwn 131 = .ok (.iaload, 1) := by decide +kernel
theorem dX12_editOwn_132 : decode cX12_editOwn 132 = .ok (.iload 9, 2) := by decide +kernel
theorem dX12_editOwn_134 : decode cX12_editOwn 134 = .ok (.iadd, 1) := by decide +kernel
theorem dX12_editOwn_135 : decode cX12_editOwn 135 = .ok (.bipush 16, 2) := by decide +kernel
theorem dX12_editOwn_137 : decode cX12_editOwn 137 = .ok (.if_icmp .ge 15, 3) := by decide +kernel
theorem dX12_editOwn_140 : decode cX12_editOwn 140 = .ok (.aload_n 0, 1) := by decide +kernel
theorem dX12_editOwn_141 : decode cX12_editOwn 141 = .ok (.getfield 85, 3) := by decide +kernel
theorem dX12_editOwn_144 : decode cX12_editOwn 144 = .ok (.iload_n 2, 1) := by decide +kernel
theorem dX12_editOwn_145 : decode cX12_editOwn 145 = .ok (.iaload, 1) := by decide +kernel
theorem dX12_editOwn_146 : decode cX12_editOwn 146 = .ok (.iload 9, 2) := by decide +kernel
theorem dX12_editOwn_148 : decode cX12_editOwn 148 = .ok (.iadd, 1) := by decide +kernel
theorem dX12_editOwn_149 : decode cX12_editOwn 149 = .ok (.goto 4, 3) := by decide +kernel
theorem dX12_editOwn_152 : decode cX12_editOwn 152 = .ok (.iconst 0, 1) := by decide +kernel
theorem dX12_editOwn_153 : decode cX12_editOwn 153 = .ok (.iload 4, 2) := by decide +kernel
theorem dX12_editOwn_155 : decode cX12_editOwn 155 = .ok (.invokevirtual 247, 3) := by decide +kernel
theorem dX12_editOwn_158 : decode cX12_editOwn 158 = .ok (.istore 11, 2) := by decide +kernel
theorem dX12_editOwn_160 : decode cX12_editOwn 160 = .ok (.aload_n 0, 1) := by decide +kernel
theorem dX12_editOwn_161 : decode cX12_editOwn 161 = .ok (.getfield 94, 3) := by decide +kernel
theorem dX12_editOwn_164 : decode cX12_editOwn 164 = .ok (.iload 10, 2) := by decide +kernel
theorem dX12_editOwn_166 : decode cX12_editOwn 166 = .ok (.iload 7, 2) := by decide +kernel
theorem dX12_editOwn_168 : decode cX12_editOwn 168 = .ok (.ifCond .ne 13, 3) := by decide +kernel
theorem dX12_editOwn_171 : decode cX12_editOwn 171 = .ok (.aload_n 0, 1) := by decide +kernel
theorem dX12_editOwn_172 : decode cX12_editOwn 172 = .ok (.getfield 112, 3) := by decide +kernel
theorem dX12_editOwn_175 : decode cX12_editOwn 175 = .ok (.iload 9, 2) := by decide +kernel
theorem dX12_editOwn_177 : decode cX12_editOwn 177 = .ok (.iaload, 1) := by decide +kernel
theorem dX12_editOwn_178 : decode cX12_editOwn 178 = .ok (.goto 29, 3) := by decide +kernel
theorem dX12_editOwn_181 : decode cX12_editOwn 181 = .ok (.aload_n 0, 1) := by decide +kernel
theorem dX12_editOwn_182 : decode cX12_editOwn 182 = .ok (.getfield 79, 3) := by decide +kernel
theorem dX12_editOwn_185 : decode cX12_editOwn 185 = .ok (.iload_n 2, 1) := by decide +kernel
theorem dX12_editOwn_186 : decode cX12_editOwn 186 = .ok (.iaload, 1) := by decide +kernel
theorem dX12_editOwn_187 : decode cX12_editOwn 187 = .ok (.bipush 7, 2) := by decide +kernel
theorem dX12_editOwn_189 : decode cX12_editOwn 189 = .ok (.if_icmp .lt 16, 3) := by decide +kernel
theorem dX12_editOwn_192 : decode cX12_editOwn 192 = .ok (.iload 11, 2) := by decide +kernel
theorem dX12_editOwn_194 : decode cX12_editOwn 194 = .ok (.aload_n 0, 1) := by decide +kernel
theorem dX12_editOwn_195 : decode cX12_editOwn 195 = .ok (.getfield 112, 3) := by decide +kernel
theorem dX12_editOwn_198 : decode cX12_editOwn 198 = .ok (.iload 9, 2) := by decide +kernel
theorem dX12_editOwn_200 : decode cX12_editOwn 200 = .ok (.iaload, 1) := by decide +kernel
theorem dX12_editOwn_201 : decode cX12_editOwn 201 = .ok (.ior, 1) := by decide +kernel
theorem dX12_editOwn_202 : decode cX12_editOwn 202 = .ok (.goto 5, 3) := by decide +kernel
theorem dX12_editOwn_205 : decode cX12_editOwn 205 = .ok (.iload 11, 2) := by decide +kernel
theorem dX12_editOwn_207 : decode cX12_editOwn 207 = .ok (.iastore, 1) := by decide +kernel
theorem dX12_editOwn_208 : decode cX12_editOwn 208 = .ok (.iinc 9 1, 3) := by decide +kernel
theorem dX12_editOwn_211 : decode cX12_editOwn 211 = .ok (.goto (-126), 3) := by decide +kernel
theorem dX12_editOwn_214 : decode cX12_editOwn 214 = .ok (.iconst 0, 1) := by decide +kernel
theorem dX12_editOwn_215 : decode cX12_editOwn 215 = .ok (.istore 9, 2) := by decide +kernel
theorem dX12_editOwn_217 : decode cX12_editOwn 217 = .ok (.iload 9, 2) := by decide +kernel
theorem dX12_editOwn_219 : decode cX12_editOwn 219 = .ok (.aload_n 0, 1) := by decide +kernel
theorem dX12_editOwn_220 : decode cX12_editOwn 220 = .ok (.getfield 88, 3) := by decide +kernel
theorem dX12_editOwn_223 : decode cX12_editOwn 223 = .ok (.iload_n 2, 1) := by decide +kernel
theorem dX12_editOwn_224 : decode cX12_editOwn 224 = .ok (.iaload, 1) := by decide +kernel
theorem dX12_editOwn_225 : decode cX12_editOwn 225 = .ok (.if_icmp .ge 40, 3) := by decide +kernel
theorem dX12_editOwn_228 : decode cX12_editOwn 228 = .ok (.iload 8, 2) := by decide +kernel
theorem dX12_editOwn_230 : decode cX12_editOwn 230 = .ok (.ifCond .eq 35, 3) := by decide +kernel
theorem dX12_editOwn_233 : decode cX12_editOwn 233 = .ok (.aload_n 0, 1) := by decide +kernel
theorem dX12_editOwn_234 : decode cX12_editOwn 234 = .ok (.getfield 43, 3) := by decide +kernel
theorem dX12_editOwn_237 : decode cX12_editOwn 237 = .ok (.bipush 16, 2) := by decide +kernel
theorem dX12_editOwn_239 : decode cX12_editOwn 239 = .ok (.iload_n 3, 1) := by decide +kernel
theorem dX12_editOwn_240 : decode cX12_editOwn 240 = .ok (.imul, 1) := by decide +kernel
theorem dX12_editOwn_241 : decode cX12_editOwn 241 = .ok (.aload_n 0, 1) := by decide +kernel
theorem dX12_editOwn_242 : decode cX12_editOwn 242 = .ok (.getfield 85, 3) := by decide +kernel
theorem dX12_editOwn_245 : decode cX12_editOwn 245 = .ok (.iload_n 2, 1) := by decide +kernel
theorem dX12_editOwn_246 : decode cX12_editOwn 246 = .ok (.iaload, 1) := by decide +kernel
theorem dX12_editOwn_247 : decode cX12_editOwn 247 = .ok (.iadd, 1) := by decide +kernel
theorem dX12_editOwn_248 : decode cX12_editOwn 248 = .ok (.iload 9, 2) := by decide +kernel
theorem dX12_editOwn_250 : decode cX12_editOwn 250 = .ok (.iadd, 1) := by decide +kernel
theorem dX12_editOwn_251 : decode cX12_editOwn 251 = .ok (.aload_n 0, 1) := by decide +kernel
theorem dX12_editOwn_252 : decode cX12_editOwn 252 = .ok (.getfield 112, 3) := by decide +kernel
theorem dX12_editOwn_255 : decode cX12_editOwn 255 = .ok (.iload 9, 2) := by decide +kernel
theorem dX12_editOwn_257 : decode cX12_editOwn 257 = .ok (.iaload, 1) := by decide +kernel
theorem dX12_editOwn_258 : decode cX12_editOwn 258 = .ok (.iastore, 1) := by decide +kernel
theorem dX12_editOwn_259 : decode cX12_editOwn 259 = .ok (.iinc 9 1, 3) := by decide +kernel
theorem dX12_editOwn_262 : decode cX12_editOwn 262 = .ok (.goto (-45), 3) := by decide +kernel
theorem dX12_editOwn_265 : decode cX12_editOwn 265 = .ok (.aload_n 0, 1) := by decide +kernel
theorem dX12_editOwn_266 : decode cX12_editOwn 266 = .ok (.getfield 97, 3) := by decide +kernel
theorem dX12_editOwn_269 : decode cX12_editOwn 269 = .ok (.iconst 4, 1) := by decide +kernel
theorem dX12_editOwn_270 : decode cX12_editOwn 270 = .ok (.iload_n 1, 1) := by decide +kernel
theorem dX12_editOwn_271 : decode cX12_editOwn 271 = .ok (.imul, 1) := by decide +kernel
theorem dX12_editOwn_272 : decode cX12_editOwn 272 = .ok (.iload_n 2, 1) := by decide +kernel
theorem dX12_editOwn_273 : decode cX12_editOwn 273 = .ok (.iadd, 1) := by decide +kernel
theorem dX12_editOwn_274 : decode cX12_editOwn 274 = .ok (.dup2, 1) := by decide +kernel
theorem dX12_editOwn_275 : decode cX12_editOwn 275 = .ok (.iaload, 1) := by decide +kernel
theorem dX12_editOwn_276 : decode cX12_editOwn 276 = .ok (.iload 7, 2) := by decide +kernel
theorem dX12_editOwn_278 : decode cX12_editOwn 278 = .ok (.ifCond .eq 7, 3) := by decide +kernel
theorem dX12_editOwn_281 : decode cX12_editOwn 281 = .ok (.iconst 1, 1) := by decide +kernel
theorem dX12_editOwn_282 : decode cX12_editOwn 282 = .ok (.goto 4, 3) := by decide +kernel
theorem dX12_editOwn_285 : decode cX12_editOwn 285 = .ok (.iconst 0, 1) := by decide +kernel
theorem dX12_editOwn_286 : decode cX12_editOwn 286 = .ok (.iload 8, 2) := by decide +kernel
theorem dX12_editOwn_288 : decode cX12_editOwn 288 = .ok (.ifCond .ne 7, 3) := by decide +kernel
theorem dX12_editOwn_291 : decode cX12_editOwn 291 = .ok (.iconst 0, 1) := by decide +kernel
theorem dX12_editOwn_292 : decode cX12_editOwn 292 = .ok (.goto 14, 3) := by decide +kernel
theorem dX12_editOwn_295 : decode cX12_editOwn 295 = .ok (.iload 5, 2) := by decide +kernel
theorem dX12_editOwn_297 : decode cX12_editOwn 297 = .ok (.iconst 1, 1) := by decide +kernel
theorem dX12_editOwn_298 : decode cX12_editOwn 298 = .ok (.if_icmp .ne 7, 3) := by decide +kernel
theorem dX12_editOwn_301 : decode cX12_editOwn 301 = .ok (.iconst 1, 1) := by decide +kernel
theorem dX12_editOwn_302 : decode cX12_editOwn 302 = .ok (.goto 4, 3) := by decide +kernel
theorem dX12_editOwn_305 : decode cX12_editOwn 305 = .ok (.iconst 2, 1) := by decide +kernel
theorem dX12_editOwn_306 : decode cX12_editOwn 306 = .ok (.iadd, 1) := by decide +kernel
theorem dX12_editOwn_307 : decode cX12_editOwn 307 = .ok (.iadd, 1) := by decide +kernel
theorem dX12_editOwn_308 : decode cX12_editOwn 308 = .ok (.iastore, 1) := by decide +kernel
theorem dX12_editOwn_309 : decode cX12_editOwn 309 = .ok (.return_, 1) := by decide +kernel
theorem dX12_byteOver_0 : decode cX12_byteOver 0 = .ok (.iconst 2, 1) := by decide +kernel
theorem dX12_byteOver_1 : decode cX12_byteOver 1 = .ok (.iload_n 1, 1) := by decide +kernel
theorem dX12_byteOver_2 : decode cX12_byteOver 2 = .ok (.imul, 1) := by decide +kernel
theorem dX12_byteOver_3 : decode cX12_byteOver 3 = .ok (.iload_n 2, 1) := by decide +kernel
theorem dX12_byteOver_4 : decode cX12_byteOver 4 = .ok (.iadd, 1) := by decide +kernel
theorem dX12_byteOver_5 : decode cX12_byteOver 5 = .ok (.istore 4, 2) := by decide +kernel
theorem dX12_byteOver_7 : decode cX12_byteOver 7 = .ok (.iload_n 3, 1) := by decide +kernel
theorem dX12_byteOver_8 : decode cX12_byteOver 8 = .ok (.i2l, 1) := by decide +kernel
theorem dX12_byteOver_9 : decode cX12_byteOver 9 = .ok (.aload_n 0, 1) := by decide +kernel
theorem dX12_byteOver_10 : decode cX12_byteOver 10 = .ok (.getfield 52, 3) := by decide +kernel
theorem dX12_byteOver_13 : decode cX12_byteOver 13 = .ok (.iload 4, 2) := by decide +kernel
theorem dX12_byteOver_15 : decode cX12_byteOver 15 = .ok (.iaload, 1) := by decide +kernel
theorem dX12_byteOver_16 : decode cX12_byteOver 16 = .ok (.i2l, 1) := by decide +kernel
theorem dX12_byteOver_17 : decode cX12_byteOver 17 = .ok (.aload_n 0, 1) := by decide +kernel
theorem dX12_byteOver_18 : decode cX12_byteOver 18 = .ok (.getfield 52, 3) := by decide +kernel
theorem dX12_byteOver_21 : decode cX12_byteOver 21 = .ok (.iload 4, 2) := by decide +kernel
theorem dX12_byteOver_23 : decode cX12_byteOver 23 = .ok (.iaload, 1) := by decide +kernel
theorem dX12_byteOver_24 : decode cX12_byteOver 24 = .ok (.aload_n 0, 1) := by decide +kernel
theorem dX12_byteOver_25 : decode cX12_byteOver 25 = .ok (.getfield 55, 3) := by decide +kernel
theorem dX12_byteOver_28 : decode cX12_byteOver 28 = .ok (.iload 4, 2) := by decide +kernel
theorem dX12_byteOver_30 : decode cX12_byteOver 30 = .ok (.iaload, 1) := by decide +kernel
theorem dX12_byteOver_31 : decode cX12_byteOver 31 = .ok (.iadd, 1) := by decide +kernel
theorem dX12_byteOver_32 : decode cX12_byteOver 32 = .ok (.iconst 1, 1) := by decide +kernel
theorem dX12_byteOver_33 : decode cX12_byteOver 33 = .ok (.isub, 1) := by decide +kernel
theorem dX12_byteOver_34 : decode cX12_byteOver 34 = .ok (.i2l, 1) := by decide +kernel
theorem dX12_byteOver_35 : decode cX12_byteOver 35 = .ok (.invokestatic 145, 3) := by decide +kernel
theorem dX12_byteOver_38 : decode cX12_byteOver 38 = .ok (.ifCond .eq 23, 3) := by decide +kernel
theorem dX12_byteOver_41 : decode cX12_byteOver 41 = .ok (.aload_n 0, 1) := by decide +kernel
theorem dX12_byteOver_42 : decode cX12_byteOver 42 = .ok (.getfield 58, 3) := by decide +kernel
theorem dX12_byteOver_45 : decode cX12_byteOver 45 = .ok (.iload 4, 2) := by decide +kernel
theorem dX12_byteOver_47 : decode cX12_byteOver 47 = .ok (.iaload, 1) := by decide +kernel
theorem dX12_byteOver_48 : decode cX12_byteOver 48 = .ok (.iload_n 3, 1) := by decide +kernel
theorem dX12_byteOver_49 : decode cX12_byteOver 49 = .ok (.iadd, 1) := by decide +kernel
theorem dX12_byteOver_50 : decode cX12_byteOver 50 = .ok (.aload_n 0, 1) := by decide +kernel
theorem dX12_byteOver_51 : decode cX12_byteOver 51 = .ok (.getfield 52, 3) := by decide +kernel
theorem dX12_byteOver_54 : decode cX12_byteOver 54 = .ok (.iload 4, 2) := by decide +kernel
theorem dX12_byteOver_56 : decode cX12_byteOver 56 = .ok (.iaload, 1) := by decide +kernel
theorem dX12_byteOver_57 : decode cX12_byteOver 57 = .ok (.isub, 1) := by decide +kernel
theorem dX12_byteOver_58 : decode cX12_byteOver 58 = .ok (.goto 5, 3) := by decide +kernel
theorem dX12_byteOver_61 : decode cX12_byteOver 61 = .ok (.bipush (-4), 2) := by decide +kernel
theorem dX12_byteOver_63 : decode cX12_byteOver 63 = .ok (.ireturn, 1) := by decide +kernel
theorem dX12_editMap_0 : decode cX12_editMap 0 = .ok (.aload_n 0, 1) := by decide +kernel
theorem dX12_editMap_1 : decode cX12_editMap 1 = .ok (.getfield 79, 3) := by decide +kernel
theorem dX12_editMap_4 : decode cX12_editMap 4 = .ok (.iload_n 2, 1) := by decide +kernel
theorem dX12_editMap_5 : decode cX12_editMap 5 = .ok (.iaload, 1) := by decide +kernel
theorem dX12_editMap_6 : decode cX12_editMap 6 = .ok (.bipush 10, 2) := by decide +kernel
theorem dX12_editMap_8 : decode cX12_editMap 8 = .ok (.isub, 1) := by decide +kernel
theorem dX12_editMap_9 : decode cX12_editMap 9 = .ok (.istore 5, 2) := by decide +kernel
theorem dX12_editMap_11 : decode cX12_editMap 11 = .ok (.iload 5, 2) := by decide +kernel
theorem dX12_editMap_13 : decode cX12_editMap 13 = .ok (.iconst 1, 1) := by decide +kernel
theorem dX12_editMap_14 : decode cX12_editMap 14 = .ok (.if_icmp .eq 17, 3) := by decide +kernel
theorem dX12_editMap_17 : decode cX12_editMap 17 = .ok (.aload_n 0, 1) := by decide +kernel
theorem dX12_editMap_18 : decode cX12_editMap 18 = .ok (.getfield 40, 3) := by decide +kernel
theorem dX12_editMap_21 : decode cX12_editMap 21 = .ok (.iload_n 3, 1) := by decide +kernel
theorem dX12_editMap_22 : decode cX12_editMap 22 = .ok (.iaload, 1) := by decide +kernel
theorem dX12_editMap_23 : decode cX12_editMap 23 = .ok (.iconst 2, 1) := by decide +kernel
theorem dX12_editMap_24 : decode cX12_editMap 24 = .ok (.if_icmp .lt 7, 3) := by decide +kernel
theorem dX12_editMap_27 : decode cX12_editMap 27 = .ok (.iconst 1, 1) := by decide +kernel
theorem dX12_editMap_28 : decode cX12_editMap 28 = .ok (.goto 4, 3) := by decide +kernel
theorem dX12_editMap_31 : decode cX12_editMap 31 = .ok (.iconst 0, 1) := by decide +kernel
theorem dX12_editMap_32 : decode cX12_editMap 32 = .ok (.istore 6, 2) := by decide +kernel
theorem dX12_editMap_34 : decode cX12_editMap 34 = .ok (.iload 5, 2) := by decide +kernel
theorem dX12_editMap_36 : decode cX12_editMap 36 = .ok (.ifCond .eq 17, 3) := by decide +kernel
theorem dX12_editMap_39 : decode cX12_editMap 39 = .ok (.aload_n 0, 1) := by decide +kernel
theorem dX12_editMap_40 : decode cX12_editMap 40 = .ok (.getfield 40, 3) := by decide +kernel
theorem dX12_editMap_43 : decode cX12_editMap 43 = .ok (.iload_n 3, 1) := by decide +kernel
theorem dX12_editMap_44 : decode cX12_editMap 44 = .ok (.iaload, 1) := by decide +kernel
theorem dX12_editMap_45 : decode cX12_editMap 45 = .ok (.iconst 3, 1) := by decide +kernel
theorem dX12_editMap_46 : decode cX12_editMap 46 = .ok (.if_icmp .ne 7, 3) := by decide +kernel
theorem dX12_editMap_49 : decode cX12_editMap 49 = .ok (.iconst 1, 1) := by decide +kernel
theorem dX12_editMap_50 : decode cX12_editMap 50 = .ok (.goto 4, 3) := by decide +kernel
theorem dX12_editMap_53 : decode cX12_editMap 53 = .ok (.iconst 0, 1) := by decide +kernel
theorem dX12_editMap_54 : decode cX12_editMap 54 = .ok (.istore 7, 2) := by decide +kernel
theorem dX12_editMap_56 : decode cX12_editMap 56 = .ok (.iconst 0, 1) := by decide +kernel
theorem dX12_editMap_57 : decode cX12_editMap 57 = .ok (.istore 8, 2) := by decide +kernel
theorem dX12_editMap_59 : decode cX12_editMap 59 = .ok (.iconst 0, 1) := by decide +kernel
theorem dX12_editMap_60 : decode cX12_editMap 60 = .ok (.istore 9, 2) := by decide +kernel
theorem dX12_editMap_62 : decode cX12_editMap 62 = .ok (.iconst 0, 1) := by decide +kernel
theorem dX12_editMap_63 : decode cX12_editMap 63 = .ok (.istore 10, 2) := by decide +kernel
theorem dX12_editMap_65 : decode cX12_editMap 65 = .ok (.iload 10, 2) := by decide +kernel
theorem dX12_editMap_67 : decode cX12_editMap 67 = .ok (.aload_n 0, 1) := by decide +kernel
theorem dX12_editMap_68 : decode cX12_editMap 68 = .ok (.getfield 88, 3) := by decide +kernel
theorem dX12_editMap_71 : decode cX12_editMap 71 = .ok (.iload_n 2, 1) := by decide +kernel
theorem dX12_editMap_72 : decode cX12_editMap 72 = .ok (.iaload, 1) := by decide +kernel
theorem dX12_editMap_73 : decode cX12_editMap 73 = .ok (.if_icmp .ge 85, 3) := by decide +kernel
end
section
theorem dX12_editMap_76 : decode cX12_editMap 76 = .ok (.bipush 32, 2) := by decide +kernel
theorem dX12_editMap_78 : decode cX12_editMap 78 = .ok (.iload_n 1, 1) := by decide +kernel
theorem dX12_editMap_79 : decode cX12_editMap 79 = .ok (.imul, 1) := by decide +kernel
theorem dX12_editMap_80 : decode cX12_editMap 80 = .ok (.bipush 8, 2) := by decide +kernel
theorem dX12_editMap_82 : decode cX12_editMap 82 = .ok (.iload_n 2, 1) := by decide +kernel
theorem dX12_editMap_83 : decode cX12_editMap 83 = .ok (.imul, 1) := by decide +kernel
theorem dX12_editMap_84 : decode cX12_editMap 84 = .ok (.iadd, 1) := by decide +kernel
theorem dX12_editMap_85 : decode cX12_editMap 85 = .ok (.iload 10, 2) := by decide +kernel
theorem dX12_editMap_87 : decode cX12_editMap 87 = .ok (.iadd, 1) := by decide +kernel
theorem dX12_editMap_88 : decode cX12_editMap 88 = .ok (.istore 11, 2) := by decide +kernel
theorem dX12_editMap_90 : decode cX12_editMap 90 = .ok (.aload_n 0, 1) := by decide +kernel
theorem dX12_editMap_91 : decode cX12_editMap 91 = .ok (.getfield 112, 3) := by decide +kernel
theorem dX12_editMap_94 : decode cX12_editMap 94 = .ok (.iload 10, 2) := by decide +kernel
theorem dX12_editMap_96 : decode cX12_editMap 96 = .ok (.aload_n 0, 1) := by decide +kernel
theorem dX12_editMap_97 : decode cX12_editMap 97 = .ok (.getfield 94, 3) := by decide +kernel
theorem dX12_editMap_100 : decode cX12_editMap 100 = .ok (.iload 11, 2) := by decide +kernel
theorem dX12_editMap_102 : decode cX12_editMap 102 = .ok (.iaload, 1) := by decide +kernel
theorem dX12_editMap_103 : decode cX12_editMap 103 = .ok (.iastore, 1) := by decide +kernel
theorem dX12_editMap_104 : decode cX12_editMap 104 = .ok (.aload_n 0, 1) := by decide +kernel
theorem dX12_editMap_105 : decode cX12_editMap 105 = .ok (.iload_n 3, 1) := by decide +kernel
theorem dX12_editMap_106 : decode cX12_editMap 106 = .ok (.iconst 0, 1) := by decide +kernel
theorem dX12_editMap_107 : decode cX12_editMap 107 = .ok (.aload_n 0, 1) := by decide +kernel
theorem dX12_editMap_108 : decode cX12_editMap 108 = .ok (.getfield 82, 3) := by decide +kernel
theorem dX12_editMap_111 : decode cX12_editMap 111 = .ok (.iload_n 2, 1) := by decide +kernel
theorem dX12_editMap_112 : decode cX12_editMap 112 = .ok (.iaload, 1) := by decide +kernel
theorem dX12_editMap_113 : decode cX12_editMap 113 = .ok (.iload 10, 2) := by decide +kernel
theorem dX12_editMap_115 : decode cX12_editMap 115 = .ok (.iadd, 1) := by decide +kernel
theorem dX12_editMap_116 : decode cX12_editMap 116 = .ok (.invokevirtual 278, 3) := by decide +kernel
theorem dX12_editMap_119 : decode cX12_editMap 119 = .ok (.istore 12, 2) := by decide +kernel
theorem dX12_editMap_121 : decode cX12_editMap 121 = .ok (.iload 6, 2) := by decide +kernel
theorem dX12_editMap_123 : decode cX12_editMap 123 = .ok (.ifCond .eq 29, 3) := by decide +kernel
theorem dX12_editMap_126 : decode cX12_editMap 126 = .ok (.iload 12, 2) := by decide +kernel
theorem dX12_editMap_128 : decode cX12_editMap 128 = .ok (.bipush (-4), 2) := by decide +kernel
theorem dX12_editMap_130 : decode cX12_editMap 130 = .ok (.if_icmp .eq 22, 3) := by decide +kernel
theorem dX12_editMap_133 : decode cX12_editMap 133 = .ok (.aload_n 0, 1) := by decide +kernel
theorem dX12_editMap_134 : decode cX12_editMap 134 = .ok (.getfield 94, 3) := by decide +kernel
theorem dX12_editMap_137 : decode cX12_editMap 137 = .ok (.iload 11, 2) := by decide +kernel
theorem dX12_editMap_139 : decode cX12_editMap 139 = .ok (.aload_n 0, 1) := by decide +kernel
theorem dX12_editMap_140 : decode cX12_editMap 140 = .ok (.iload_n 3, 1) := by decide +kernel
theorem dX12_editMap_141 : decode cX12_editMap 141 = .ok (.iload 12, 2) := by decide +kernel
theorem dX12_editMap_143 : decode cX12_editMap 143 = .ok (.iload 4, 2) := by decide +kernel
theorem dX12_editMap_145 : decode cX12_editMap 145 = .ok (.invokevirtual 247, 3) := by decide +kernel
theorem dX12_editMap_148 : decode cX12_editMap 148 = .ok (.iastore, 1) := by decide +kernel
theorem dX12_editMap_149 : decode cX12_editMap 149 = .ok (.iconst 1, 1) := by decide +kernel
theorem dX12_editMap_150 : decode cX12_editMap 150 = .ok (.istore 8, 2) := by decide +kernel
theorem dX12_editMap_152 : decode cX12_editMap 152 = .ok (.iinc 10 1, 3) := by decide +kernel
theorem dX12_editMap_155 : decode cX12_editMap 155 = .ok (.goto (-90), 3) := by decide +kernel
theorem dX12_editMap_158 : decode cX12_editMap 158 = .ok (.iconst 0, 1) := by decide +kernel
theorem dX12_editMap_159 : decode cX12_editMap 159 = .ok (.istore 10, 2) := by decide +kernel
theorem dX12_editMap_161 : decode cX12_editMap 161 = .ok (.iload 10, 2) := by decide +kernel
theorem dX12_editMap_163 : decode cX12_editMap 163 = .ok (.aload_n 0, 1) := by decide +kernel
theorem dX12_editMap_164 : decode cX12_editMap 164 = .ok (.getfield 88, 3) := by decide +kernel
theorem dX12_editMap_167 : decode cX12_editMap 167 = .ok (.iload_n 2, 1) := by decide +kernel
theorem dX12_editMap_168 : decode cX12_editMap 168 = .ok (.iaload, 1) := by decide +kernel
theorem dX12_editMap_169 : decode cX12_editMap 169 = .ok (.if_icmp .ge 60, 3) := by decide +kernel
theorem dX12_editMap_172 : decode cX12_editMap 172 = .ok (.aload_n 0, 1) := by decide +kernel
theorem dX12_editMap_173 : decode cX12_editMap 173 = .ok (.iload_n 3, 1) := by decide +kernel
theorem dX12_editMap_174 : decode cX12_editMap 174 = .ok (.iconst 1, 1) := by decide +kernel
theorem dX12_editMap_175 : decode cX12_editMap 175 = .ok (.aload_n 0, 1) := by decide +kernel
theorem dX12_editMap_176 : decode cX12_editMap 176 = .ok (.getfield 82, 3) := by decide +kernel
theorem dX12_editMap_179 : decode cX12_editMap 179 = .ok (.iload_n 2, 1) := by decide +kernel
theorem dX12_editMap_180 : decode cX12_editMap 180 = .ok (.iaload, 1) := by decide +kernel
theorem dX12_editMap_181 : decode cX12_editMap 181 = .ok (.iload 10, 2) := by decide +kernel
theorem dX12_editMap_183 : decode cX12_editMap 183 = .ok (.iadd, 1) := by decide +kernel
theorem dX12_editMap_184 : decode cX12_editMap 184 = .ok (.invokevirtual 278, 3) := by decide +kernel
theorem dX12_editMap_187 : decode cX12_editMap 187 = .ok (.istore 11, 2) := by decide +kernel
theorem dX12_editMap_189 : decode cX12_editMap 189 = .ok (.iload 7, 2) := by decide +kernel
theorem dX12_editMap_191 : decode cX12_editMap 191 = .ok (.ifCond .eq 32, 3) := by decide +kernel
theorem dX12_editMap_194 : decode cX12_editMap 194 = .ok (.iload 11, 2) := by decide +kernel
theorem dX12_editMap_196 : decode cX12_editMap 196 = .ok (.bipush (-4), 2) := by decide +kernel
theorem dX12_editMap_198 : decode cX12_editMap 198 = .ok (.if_icmp .eq 25, 3) := by decide +kernel
theorem dX12_editMap_201 : decode cX12_editMap 201 = .ok (.aload_n 0, 1) := by decide +kernel
theorem dX12_editMap_202 : decode cX12_editMap 202 = .ok (.getfield 43, 3) := by decide +kernel
theorem dX12_editMap_205 : decode cX12_editMap 205 = .ok (.bipush 16, 2) := by decide +kernel
theorem dX12_editMap_207 : decode cX12_editMap 207 = .ok (.iload_n 3, 1) := by decide +kernel
theorem dX12_editMap_208 : decode cX12_editMap 208 = .ok (.imul, 1) := by decide +kernel
theorem dX12_editMap_209 : decode cX12_editMap 209 = .ok (.iload 11, 2) := by decide +kernel
theorem dX12_editMap_211 : decode cX12_editMap 211 = .ok (.iadd, 1) := by decide +kernel
theorem dX12_editMap_212 : decode cX12_editMap 212 = .ok (.aload_n 0, 1) := by decide +kernel
theorem dX12_editMap_213 : decode cX12_editMap 213 = .ok (.getfield 112, 3) := by decide +kernel
theorem dX12_editMap_216 : decode cX12_editMap 216 = .ok (.iload 10, 2) := by decide +kernel
theorem dX12_editMap_218 : decode cX12_editMap 218 = .ok (.iaload, 1) := by decide +kernel
theorem dX12_editMap_219 : decode cX12_editMap 219 = .ok (.iastore, 1) := by decide +kernel
theorem dX12_editMap_220 : decode cX12_editMap 220 = .ok (.iconst 1, 1) := by decide +kernel
theorem dX12_editMap_221 : decode cX12_editMap 221 = .ok (.istore 9, 2) := by decide +kernel
theorem dX12_editMap_223 : decode cX12_editMap 223 = .ok (.iinc 10 1, 3) := by decide +kernel
theorem dX12_editMap_226 : decode cX12_editMap 226 = .ok (.goto (-65), 3) := by decide +kernel
theorem dX12_editMap_229 : decode cX12_editMap 229 = .ok (.aload_n 0, 1) := by decide +kernel
theorem dX12_editMap_230 : decode cX12_editMap 230 = .ok (.getfield 97, 3) := by decide +kernel
theorem dX12_editMap_233 : decode cX12_editMap 233 = .ok (.iconst 4, 1) := by decide +kernel
theorem dX12_editMap_234 : decode cX12_editMap 234 = .ok (.iload_n 1, 1) := by decide +kernel
theorem dX12_editMap_235 : decode cX12_editMap 235 = .ok (.imul, 1) := by decide +kernel
theorem dX12_editMap_236 : decode cX12_editMap 236 = .ok (.iload_n 2, 1) := by decide +kernel
theorem dX12_editMap_237 : decode cX12_editMap 237 = .ok (.iadd, 1) := by decide +kernel
theorem dX12_editMap_238 : decode cX12_editMap 238 = .ok (.dup2, 1) := by decide +kernel
theorem dX12_editMap_239 : decode cX12_editMap 239 = .ok (.iaload, 1) := by decide +kernel
theorem dX12_editMap_240 : decode cX12_editMap 240 = .ok (.iload 8, 2) := by decide +kernel
theorem dX12_editMap_242 : decode cX12_editMap 242 = .ok (.ifCond .eq 7, 3) := by decide +kernel
theorem dX12_editMap_245 : decode cX12_editMap 245 = .ok (.iconst 1, 1) := by decide +kernel
theorem dX12_editMap_246 : decode cX12_editMap 246 = .ok (.goto 4, 3) := by decide +kernel
theorem dX12_editMap_249 : decode cX12_editMap 249 = .ok (.iconst 0, 1) := by decide +kernel
theorem dX12_editMap_250 : decode cX12_editMap 250 = .ok (.iload 9, 2) := by decide +kernel
theorem dX12_editMap_252 : decode cX12_editMap 252 = .ok (.ifCond .ne 7, 3) := by decide +kernel
theorem dX12_editMap_255 : decode cX12_editMap 255 = .ok (.iconst 0, 1) := by decide +kernel
theorem dX12_editMap_256 : decode cX12_editMap 256 = .ok (.goto 14, 3) := by decide +kernel
theorem dX12_editMap_259 : decode cX12_editMap 259 = .ok (.iload 5, 2) := by decide +kernel
theorem dX12_editMap_261 : decode cX12_editMap 261 = .ok (.iconst 1, 1) := by decide +kernel
theorem dX12_editMap_262 : decode cX12_editMap 262 = .ok (.if_icmp .ne 7, 3) := by decide +kernel
theorem dX12_editMap_265 : decode cX12_editMap 265 = .ok (.iconst 1, 1) := by decide +kernel
theorem dX12_editMap_266 : decode cX12_editMap 266 = .ok (.goto 4, 3) := by decide +kernel
theorem dX12_editMap_269 : decode cX12_editMap 269 = .ok (.iconst 2, 1) := by decide +kernel
theorem dX12_editMap_270 : decode cX12_editMap 270 = .ok (.iadd, 1) := by decide +kernel
theorem dX12_editMap_271 : decode cX12_editMap 271 = .ok (.iadd, 1) := by decide +kernel
theorem dX12_editMap_272 : decode cX12_editMap 272 = .ok (.iastore, 1) := by decide +kernel
theorem dX12_editMap_273 : decode cX12_editMap 273 = .ok (.return_, 1) := by decide +kernel
theorem dX12_edit_0 : decode cX12_edit 0 = .ok (.iconst 0, 1) := by decide +kernel
theorem dX12_edit_1 : decode cX12_edit 1 = .ok (.istore 5, 2) := by decide +kernel
theorem dX12_edit_3 : decode cX12_edit 3 = .ok (.iload 5, 2) := by decide +kernel
theorem dX12_edit_5 : decode cX12_edit 5 = .ok (.iconst 4, 1) := by decide +kernel
theorem dX12_edit_6 : decode cX12_edit 6 = .ok (.if_icmp .ge 135, 3) := by decide +kernel
theorem dX12_edit_9 : decode cX12_edit 9 = .ok (.aload_n 0, 1) := by decide +kernel
theorem dX12_edit_10 : decode cX12_edit 10 = .ok (.getfield 79, 3) := by decide +kernel
theorem dX12_edit_13 : decode cX12_edit 13 = .ok (.iload 5, 2) := by decide +kernel
theorem dX12_edit_15 : decode cX12_edit 15 = .ok (.iaload, 1) := by decide +kernel
theorem dX12_edit_16 : decode cX12_edit 16 = .ok (.istore 6, 2) := by decide +kernel
theorem dX12_edit_18 : decode cX12_edit 18 = .ok (.iload 6, 2) := by decide +kernel
theorem dX12_edit_20 : decode cX12_edit 20 = .ok (.i2l, 1) := by decide +kernel
theorem dX12_edit_21 : decode cX12_edit 21 = .ok (.lconst 1, 1) := by decide +kernel
theorem dX12_edit_22 : decode cX12_edit 22 = .ok (.ldc2_w 260, 3) := by decide +kernel
theorem dX12_edit_25 : decode cX12_edit 25 = .ok (.invokestatic 145, 3) := by decide +kernel
theorem dX12_edit_28 : decode cX12_edit 28 = .ok (.ifCond .eq 22, 3) := by decide +kernel
theorem dX12_edit_31 : decode cX12_edit 31 = .ok (.aload_n 0, 1) := by decide +kernel
theorem dX12_edit_32 : decode cX12_edit 32 = .ok (.getfield 82, 3) := by decide +kernel
theorem dX12_edit_35 : decode cX12_edit 35 = .ok (.iload 5, 2) := by decide +kernel
theorem dX12_edit_37 : decode cX12_edit 37 = .ok (.iaload, 1) := by decide +kernel
theorem dX12_edit_38 : decode cX12_edit 38 = .ok (.iload_n 3, 1) := by decide +kernel
theorem dX12_edit_39 : decode cX12_edit 39 = .ok (.if_icmp .ne 7, 3) := by decide +kernel
theorem dX12_edit_42 : decode cX12_edit 42 = .ok (.iconst 1, 1) := by decide +kernel
theorem dX12_edit_43 : decode cX12_edit 43 = .ok (.goto 58, 3) := by decide +kernel
theorem dX12_edit_46 : decode cX12_edit 46 = .ok (.iconst 0, 1) := by decide +kernel
theorem dX12_edit_47 : decode cX12_edit 47 = .ok (.goto 54, 3) := by decide +kernel
theorem dX12_edit_50 : decode cX12_edit 50 = .ok (.iload 6, 2) := by decide +kernel
theorem dX12_edit_52 : decode cX12_edit 52 = .ok (.i2l, 1) := by decide +kernel
theorem dX12_edit_53 : decode cX12_edit 53 = .ok (.ldc2_w 251, 3) := by decide +kernel
theorem dX12_edit_56 : decode cX12_edit 56 = .ok (.ldc2_w 281, 3) := by decide +kernel
theorem dX12_edit_59 : decode cX12_edit 59 = .ok (.invokestatic 145, 3) := by decide +kernel
theorem dX12_edit_62 : decode cX12_edit 62 = .ok (.ifCond .eq 27, 3) := by decide +kernel
theorem dX12_edit_65 : decode cX12_edit 65 = .ok (.aload_n 0, 1) := by decide +kernel
theorem dX12_edit_66 : decode cX12_edit 66 = .ok (.getfield 82, 3) := by decide +kernel
theorem dX12_edit_69 : decode cX12_edit 69 = .ok (.iload 5, 2) := by decide +kernel
theorem dX12_edit_71 : decode cX12_edit 71 = .ok (.iaload, 1) := by decide +kernel
theorem dX12_edit_72 : decode cX12_edit 72 = .ok (.aload_n 0, 1) := by decide +kernel
theorem dX12_edit_73 : decode cX12_edit 73 = .ok (.getfield 25, 3) := by decide +kernel
theorem dX12_edit_76 : decode cX12_edit 76 = .ok (.iload_n 2, 1) := by decide +kernel
theorem dX12_edit_77 : decode cX12_edit 77 = .ok (.iaload, 1) := by decide +kernel
theorem dX12_edit_78 : decode cX12_edit 78 = .ok (.if_icmp .ne 7, 3) := by decide +kernel
theorem dX12_edit_81 : decode cX12_edit 81 = .ok (.iconst 1, 1) := by decide +kernel
theorem dX12_edit_82 : decode cX12_edit 82 = .ok (.goto 19, 3) := by decide +kernel
theorem dX12_edit_85 : decode cX12_edit 85 = .ok (.iconst 0, 1) := by decide +kernel
theorem dX12_edit_86 : decode cX12_edit 86 = .ok (.goto 15, 3) := by decide +kernel
theorem dX12_edit_89 : decode cX12_edit 89 = .ok (.iload 6, 2) := by decide +kernel
theorem dX12_edit_91 : decode cX12_edit 91 = .ok (.i2l, 1) := by decide +kernel
theorem dX12_edit_92 : decode cX12_edit 92 = .ok (.ldc2_w 270, 3) := by decide +kernel
theorem dX12_edit_95 : decode cX12_edit 95 = .ok (.ldc2_w 258, 3) := by decide +kernel
theorem dX12_edit_98 : decode cX12_edit 98 = .ok (.invokestatic 145, 3) := by decide +kernel
theorem dX12_edit_101 : decode cX12_edit 101 = .ok (.istore 7, 2) := by decide +kernel
theorem dX12_edit_103 : decode cX12_edit 103 = .ok (.iload 7, 2) := by decide +kernel
theorem dX12_edit_105 : decode cX12_edit 105 = .ok (.ifCond .eq 13, 3) := by decide +kernel
theorem dX12_edit_108 : decode cX12_edit 108 = .ok (.aload_n 0, 1) := by decide +kernel
theorem dX12_edit_109 : decode cX12_edit 109 = .ok (.iload_n 1, 1) := by decide +kernel
theorem dX12_edit_110 : decode cX12_edit 110 = .ok (.iload 5, 2) := by decide +kernel
theorem dX12_edit_112 : decode cX12_edit 112 = .ok (.iload_n 2, 1) := by decide +kernel
theorem dX12_edit_113 : decode cX12_edit 113 = .ok (.iload 4, 2) := by decide +kernel
theorem dX12_edit_115 : decode cX12_edit 115 = .ok (.invokevirtual 283, 3) := by decide +kernel
theorem dX12_edit_118 : decode cX12_edit 118 = .ok (.iload 6, 2) := by decide +kernel
theorem dX12_edit_120 : decode cX12_edit 120 = .ok (.bipush 10, 2) := by decide +kernel
theorem dX12_edit_122 : decode cX12_edit 122 = .ok (.if_icmp .lt 13, 3) := by decide +kernel
theorem dX12_edit_125 : decode cX12_edit 125 = .ok (.aload_n 0, 1) := by decide +kernel
theorem dX12_edit_126 : decode cX12_edit 126 = .ok (.iload_n 1, 1) := by decide +kernel
theorem dX12_edit_127 : decode cX12_edit 127 = .ok (.iload 5, 2) := by decide +kernel
theorem dX12_edit_129 : decode cX12_edit 129 = .ok (.iload_n 2, 1) := by decide +kernel
theorem dX12_edit_130 : decode cX12_edit 130 = .ok (.iload 4, 2) := by decide +kernel
theorem dX12_edit_132 : decode cX12_edit 132 = .ok (.invokevirtual 286, 3) := by decide +kernel
theorem dX12_edit_135 : decode cX12_edit 135 = .ok (.iinc 5 1, 3) := by decide +kernel
theorem dX12_edit_138 : decode cX12_edit 138 = .ok (.goto (-135), 3) := by decide +kernel
theorem dX12_edit_141 : decode cX12_edit 141 = .ok (.return_, 1) := by decide +kernel
theorem dX12_goesOut_0 : decode cX12_goesOut 0 = .ok (.iconst 0, 1) := by decide +kernel
theorem dX12_goesOut_1 : decode cX12_goesOut 1 = .ok (.istore_n 2, 1) := by decide +kernel
theorem dX12_goesOut_2 : decode cX12_goesOut 2 = .ok (.iload_n 2, 1) := by decide +kernel
theorem dX12_goesOut_3 : decode cX12_goesOut 3 = .ok (.bipush 32, 2) := by decide +kernel
theorem dX12_goesOut_5 : decode cX12_goesOut 5 = .ok (.if_icmp .ge 26, 3) := by decide +kernel
theorem dX12_goesOut_8 : decode cX12_goesOut 8 = .ok (.aload_n 0, 1) := by decide +kernel
theorem dX12_goesOut_9 : decode cX12_goesOut 9 = .ok (.getfield 94, 3) := by decide +kernel
theorem dX12_goesOut_12 : decode cX12_goesOut 12 = .ok (.bipush 32, 2) := by decide +kernel
theorem dX12_goesOut_14 : decode cX12_goesOut 14 = .ok (.iload_n 1, 1) := by decide +kernel
theorem dX12_goesOut_15 : decode cX12_goesOut 15 = .ok (.imul, 1) := by decide +kernel
theorem dX12_goesOut_16 : decode cX12_goesOut 16 = .ok (.iload_n 2, 1) := by decide +kernel
theorem dX12_goesOut_17 : decode cX12_goesOut 17 = .ok (.iadd, 1) := by decide +kernel
theorem dX12_goesOut_18 : decode cX12_goesOut 18 = .ok (.aload_n 0, 1) := by decide +kernel
theorem dX12_goesOut_19 : decode cX12_goesOut 19 = .ok (.getfield 91, 3) := by decide +kernel
theorem dX12_goesOut_22 : decode cX12_goesOut 22 = .ok (.iload_n 2, 1) := by decide +kernel
theorem dX12_goesOut_23 : decode cX12_goesOut 23 = .ok (.iaload, 1) := by decide +kernel
theorem dX12_goesOut_24 : decode cX12_goesOut 24 = .ok (.iastore, 1) := by decide +kernel
theorem dX12_goesOut_25 : decode cX12_goesOut 25 = .ok (.iinc 2 1, 3) := by decide +kernel
theorem dX12_goesOut_28 : decode cX12_goesOut 28 = .ok (.goto (-26), 3) := by decide +kernel
theorem dX12_goesOut_31 : decode cX12_goesOut 31 = .ok (.iconst 0, 1) := by decide +kernel
theorem dX12_goesOut_32 : decode cX12_goesOut 32 = .ok (.istore_n 2, 1) := by decide +kernel
theorem dX12_goesOut_33 : decode cX12_goesOut 33 = .ok (.iload_n 2, 1) := by decide +kernel
theorem dX12_goesOut_34 : decode cX12_goesOut 34 = .ok (.iconst 4, 1) := by decide +kernel
theorem dX12_goesOut_35 : decode cX12_goesOut 35 = .ok (.if_icmp .ge 20, 3) := by decide +kernel
theorem dX12_goesOut_38 : decode cX12_goesOut 38 = .ok (.aload_n 0, 1) := by decide +kernel
theorem dX12_goesOut_39 : decode cX12_goesOut 39 = .ok (.getfield 97, 3) := by decide +kernel
theorem dX12_goesOut_42 : decode cX12_goesOut 42 = .ok (.iconst 4, 1) := by decide +kernel
theorem dX12_goesOut_43 : decode cX12_goesOut 43 = .ok (.iload_n 1, 1) := by decide +kernel
theorem dX12_goesOut_44 : decode cX12_goesOut 44 = .ok (.imul, 1) := by decide +kernel
theorem dX12_goesOut_45 : decode cX12_goesOut 45 = .ok (.iload_n 2, 1) := by decide +kernel
theorem dX12_goesOut_46 : decode cX12_goesOut 46 = .ok (.iadd, 1) := by decide +kernel
theorem dX12_goesOut_47 : decode cX12_goesOut 47 = .ok (.iconst 0, 1) := by decide +kernel
theorem dX12_goesOut_48 : decode cX12_goesOut 48 = .ok (.iastore, 1) := by decide +kernel
theorem dX12_goesOut_49 : decode cX12_goesOut 49 = .ok (.iinc 2 1, 3) := by decide +kernel
theorem dX12_goesOut_52 : decode cX12_goesOut 52 = .ok (.goto (-19), 3) := by decide +kernel
theorem dX12_goesOut_55 : decode cX12_goesOut 55 = .ok (.return_, 1) := by decide +kernel
theorem dX12_goes_0 : decode cX12_goes 0 = .ok (.aload_n 0, 1) := by decide +kernel
theorem dX12_goes_1 : decode cX12_goes 1 = .ok (.iconst 0, 1) := by decide +kernel
theorem dX12_goes_2 : decode cX12_goes 2 = .ok (.invokevirtual 289, 3) := by decide +kernel
theorem dX12_goes_5 : decode cX12_goes 5 = .ok (.aload_n 0, 1) := by decide +kernel
theorem dX12_goes_6 : decode cX12_goes 6 = .ok (.iconst 1, 1) := by decide +kernel
theorem dX12_goes_7 : decode cX12_goes 7 = .ok (.invokevirtual 289, 3) := by decide +kernel
theorem dX12_goes_10 : decode cX12_goes 10 = .ok (.iconst 0, 1) := by decide +kernel
theorem dX12_goes_11 : decode cX12_goes 11 = .ok (.istore_n 1, 1) := by decide +kernel
theorem dX12_goes_12 : decode cX12_goes 12 = .ok (.iload_n 1, 1) := by decide +kernel
theorem dX12_goes_13 : decode cX12_goes 13 = .ok (.aload_n 0, 1) := by decide +kernel
theorem dX12_goes_14 : decode cX12_goes 14 = .ok (.getfield 180, 3) := by decide +kernel
theorem dX12_goes_17 : decode cX12_goes 17 = .ok (.if_icmp .ge 47, 3) := by decide +kernel
theorem dX12_goes_20 : decode cX12_goes 20 = .ok (.aload_n 0, 1) := by decide +kernel
theorem dX12_goes_21 : decode cX12_goes 21 = .ok (.iload_n 1, 1) := by decide +kernel
theorem dX12_goes_22 : decode cX12_goes 22 = .ok (.invokevirtual 242, 3) := by decide +kernel
theorem dX12_goes_25 : decode cX12_goes 25 = .ok (.istore_n 2, 1) := by decide +kernel
theorem dX12_goes_26 : decode cX12_goes 26 = .ok (.iload_n 2, 1) := by decide +kernel
theorem dX12_goes_27 : decode cX12_goes 27 = .ok (.ifCond .le 31, 3) := by decide +kernel
theorem dX12_goes_30 : decode cX12_goes 30 = .ok (.aload_n 0, 1) := by decide +kernel
theorem dX12_goes_31 : decode cX12_goes 31 = .ok (.iload_n 2, 1) := by decide +kernel
theorem dX12_goes_32 : decode cX12_goes 32 = .ok (.iconst 1, 1) := by decide +kernel
theorem dX12_goes_33 : decode cX12_goes 33 = .ok (.isub, 1) := by decide +kernel
theorem dX12_goes_34 : decode cX12_goes 34 = .ok (.iload_n 1, 1) := by decide +kernel
theorem dX12_goes_35 : decode cX12_goes 35 = .ok (.iload_n 2, 1) := by decide +kernel
theorem dX12_goes_36 : decode cX12_goes 36 = .ok (.iconst 1, 1) := by decide +kernel
theorem dX12_goes_37 : decode cX12_goes 37 = .ok (.if_icmp .ne 7, 3) := by decide +kernel
theorem dX12_goes_40 : decode cX12_goes 40 = .ok (.iload_n 1, 1) := by decide +kernel
theorem dX12_goes_41 : decode cX12_goes 41 = .ok (.goto 9, 3) := by decide +kernel
theorem dX12_goes_44 : decode cX12_goes 44 = .ok (.iload_n 1, 1) := by decide +kernel
theorem dX12_goes_45 : decode cX12_goes 45 = .ok (.aload_n 0, 1) := by decide +kernel
theorem dX12_goes_46 : decode cX12_goes 46 = .ok (.invokevirtual 212, 3) := by decide +kernel
theorem dX12_goes_49 : decode cX12_goes 49 = .ok (.isub, 1) := by decide +kernel
theorem dX12_goes_50 : decode cX12_goes 50 = .ok (.aload_n 0, 1) := by decide +kernel
theorem dX12_goes_51 : decode cX12_goes 51 = .ok (.iload_n 1, 1) := by decide +kernel
theorem dX12_goes_52 : decode cX12_goes 52 = .ok (.invokevirtual 292, 3) := by decide +kernel
theorem dX12_goes_55 : decode cX12_goes 55 = .ok (.invokevirtual 295, 3) := by decide +kernel
theorem dX12_goes_58 : decode cX12_goes 58 = .ok (.iinc 1 1, 3) := by decide +kernel
theorem dX12_goes_61 : decode cX12_goes 61 = .ok (.goto (-49), 3) := by decide +kernel
theorem dX12_goes_64 : decode cX12_goes 64 = .ok (.return_, 1) := by decide +kernel
theorem dX12_joins_0 : decode cX12_joins 0 = .ok (.iconst 0, 1) := by decide +kernel
theorem dX12_joins_1 : decode cX12_joins 1 = .ok (.istore_n 1, 1) := by decide +kernel
theorem dX12_joins_2 : decode cX12_joins 2 = .ok (.iload_n 1, 1) := by decide +kernel
theorem dX12_joins_3 : decode cX12_joins 3 = .ok (.iconst 4, 1) := by decide +kernel
theorem dX12_joins_4 : decode cX12_joins 4 = .ok (.if_icmp .ge 170, 3) := by decide +kernel
theorem dX12_joins_7 : decode cX12_joins 7 = .ok (.aload_n 0, 1) := by decide +kernel
theorem dX12_joins_8 : decode cX12_joins 8 = .ok (.getfield 100, 3) := by decide +kernel
theorem dX12_joins_11 : decode cX12_joins 11 = .ok (.iload_n 1, 1) := by decide +kernel
theorem dX12_joins_12 : decode cX12_joins 12 = .ok (.aload_n 0, 1) := by decide +kernel
theorem dX12_joins_13 : decode cX12_joins 13 = .ok (.getfield 79, 3) := by decide +kernel
theorem dX12_joins_16 : decode cX12_joins 16 = .ok (.iload_n 1, 1) := by decide +kernel
theorem dX12_joins_17 : decode cX12_joins 17 = .ok (.iaload, 1) := by decide +kernel
theorem dX12_joins_18 : decode cX12_joins 18 = .ok (.ifCond .ne 7, 3) := by decide +kernel
theorem dX12_joins_21 : decode cX12_joins 21 = .ok (.iconst 0, 1) := by decide +kernel
theorem dX12_joins_22 : decode cX12_joins 22 = .ok (.goto 9, 3) := by decide +kernel
theorem dX12_joins_25 : decode cX12_joins 25 = .ok (.aload_n 0, 1) := by decide +kernel
theorem dX12_joins_26 : decode cX12_joins 26 = .ok (.getfield 88, 3) := by decide +kernel
theorem dX12_joins_29 : decode cX12_joins 29 = .ok (.iload_n 1, 1) := by decide +kernel
theorem dX12_joins_30 : decode cX12_joins 30 = .ok (.iaload, 1) := by decide +kernel
theorem dX12_joins_31 : decode cX12_joins 31 = .ok (.iastore, 1) := by decide +kernel
theorem dX12_joins_32 : decode cX12_joins 32 = .ok (.aload_n 0, 1) := by decide +kernel
theorem dX12_joins_33 : decode cX12_joins 33 = .ok (.getfield 103, 3) := by decide +kernel
theorem dX12_joins_36 : decode cX12_joins 36 = .ok (.iload_n 1, 1) := by decide +kernel
theorem dX12_joins_37 : decode cX12_joins 37 = .ok (.aload_n 0, 1) := by decide +kernel
theorem dX12_joins_38 : decode cX12_joins 38 = .ok (.getfield 97, 3) := by decide +kernel
theorem dX12_joins_41 : decode cX12_joins 41 = .ok (.iload_n 1, 1) := by decide +kernel
theorem dX12_joins_42 : decode cX12_joins 42 = .ok (.iaload, 1) := by decide +kernel
theorem dX12_joins_43 : decode cX12_joins 43 = .ok (.aload_n 0, 1) := by decide +kernel
theorem dX12_joins_44 : decode cX12_joins 44 = .ok (.getfield 97, 3) := by decide +kernel
theorem dX12_joins_47 : decode cX12_joins 47 = .ok (.iconst 4, 1) := by decide +kernel
theorem dX12_joins_48 : decode cX12_joins 48 = .ok (.iload_n 1, 1) := by decide +kernel
theorem dX12_joins_49 : decode cX12_joins 49 = .ok (.iadd, 1) := by decide +kernel
theorem dX12_joins_50 : decode cX12_joins 50 = .ok (.iaload, 1) := by decide +kernel
theorem dX12_joins_51 : decode cX12_joins 51 = .ok (.iadd, 1) := by decide +kernel
theorem dX12_joins_52 : decode cX12_joins 52 = .ok (.iastore, 1) := by decide +kernel
theorem dX12_joins_53 : decode cX12_joins 53 = .ok (.iconst 0, 1) := by decide +kernel
theorem dX12_joins_54 : decode cX12_joins 54 = .ok (.istore_n 2, 1) := by decide +kernel
theorem dX12_joins_55 : decode cX12_joins 55 = .ok (.iload_n 2, 1) := by decide +kernel
theorem dX12_joins_56 : decode cX12_joins 56 = .ok (.bipush 8, 2) := by decide +kernel
theorem dX12_joins_58 : decode cX12_joins 58 = .ok (.if_icmp .ge 110, 3) := by decide +kernel
theorem dX12_joins_61 : decode cX12_joins 61 = .ok (.aload_n 0, 1) := by decide +kernel
theorem dX12_joins_62 : decode cX12_joins 62 = .ok (.getfield 94, 3) := by decide +kernel
theorem dX12_joins_65 : decode cX12_joins 65 = .ok (.bipush 8, 2) := by decide +kernel
theorem dX12_joins_67 : decode cX12_joins 67 = .ok (.iload_n 1, 1) := by decide +kernel
theorem dX12_joins_68 : decode cX12_joins 68 = .ok (.imul, 1) := by decide +kernel
theorem dX12_joins_69 : decode cX12_joins 69 = .ok (.iload_n 2, 1) := by decide +kernel
theorem dX12_joins_70 : decode cX12_joins 70 = .ok (.iadd, 1) := by decide +kernel
theorem dX12_joins_71 : decode cX12_joins 71 = .ok (.iaload, 1) := by decide +kernel
theorem dX12_joins_72 : decode cX12_joins 72 = .ok (.istore_n 3, 1) := by decide +kernel
theorem dX12_joins_73 : decode cX12_joins 73 = .ok (.aload_n 0, 1) := by decide +kernel
theorem dX12_joins_74 : decode cX12_joins 74 = .ok (.getfield 94, 3) := by decide +kernel
theorem dX12_joins_77 : decode cX12_joins 77 = .ok (.bipush 32, 2) := by decide +kernel
theorem dX12_joins_79 : decode cX12_joins 79 = .ok (.bipush 8, 2) := by decide +kernel
theorem dX12_joins_81 : decode cX12_joins 81 = .ok (.iload_n 1, 1) := by decide +kernel
theorem dX12_joins_82 : decode cX12_joins 82 = .ok (.imul, 1) := by decide +kernel
theorem dX12_joins_83 : decode cX12_joins 83 = .ok (.iadd, 1) := by decide +kernel
theorem dX12_joins_84 : decode cX12_joins 84 = .ok (.iload_n 2, 1) := by decide +kernel
theorem dX12_joins_85 : decode cX12_joins 85 = .ok (.iadd, 1) := by decide +kernel
theorem dX12_joins_86 : decode cX12_joins 86 = .ok (.iaload, 1) := by decide +kernel
theorem dX12_joins_87 : decode cX12_joins 87 = .ok (.istore 4, 2) := by decide +kernel
theorem dX12_joins_89 : decode cX12_joins 89 = .ok (.aload_n 0, 1) := by decide +kernel
theorem dX12_joins_90 : decode cX12_joins 90 = .ok (.getfield 79, 3) := by decide +kernel
theorem dX12_joins_93 : decode cX12_joins 93 = .ok (.iload_n 1, 1) := by decide +kernel
theorem dX12_joins_94 : decode cX12_joins 94 = .ok (.iaload, 1) := by decide +kernel
theorem dX12_joins_95 : decode cX12_joins 95 = .ok (.bipush 7, 2) := by decide +kernel
theorem dX12_joins_97 : decode cX12_joins 97 = .ok (.if_icmp .eq 14, 3) := by decide +kernel
theorem dX12_joins_100 : decode cX12_joins 100 = .ok (.aload_n 0, 1) := by decide +kernel
theorem dX12_joins_101 : decode cX12_joins 101 = .ok (.getfield 79, 3) := by decide +kernel
theorem dX12_joins_104 : decode cX12_joins 104 = .ok (.iload_n 1, 1) := by decide +kernel
theorem dX12_joins_105 : decode cX12_joins 105 = .ok (.iaload, 1) := by decide +kernel
theorem dX12_joins_106 : decode cX12_joins 106 = .ok (.bipush 9, 2) := by decide +kernel
theorem dX12_joins_108 : decode cX12_joins 108 = .ok (.if_icmp .ne 7, 3) := by decide +kernel
theorem dX12_joins_111 : decode cX12_joins 111 = .ok (.iconst 1, 1) := by decide +kernel
theorem dX12_joins_112 : decode cX12_joins 112 = .ok (.goto 4, 3) := by decide +kernel
theorem dX12_joins_115 : decode cX12_joins 115 = .ok (.iconst 0, 1) := by decide +kernel
theorem dX12_joins_116 : decode cX12_joins 116 = .ok (.istore 5, 2) := by decide +kernel
theorem dX12_joins_118 : decode cX12_joins 118 = .ok (.aload_n 0, 1) := by decide +kernel
theorem dX12_joins_119 : decode cX12_joins 119 = .ok (.getfield 106, 3) := by decide +kernel
theorem dX12_joins_122 : decode cX12_joins 122 = .ok (.bipush 8, 2) := by decide +kernel
theorem dX12_joins_124 : decode cX12_joins 124 = .ok (.iload_n 1, 1) := by decide +kernel
theorem dX12_joins_125 : decode cX12_joins 125 = .ok (.imul, 1) := by decide +kernel
theorem dX12_joins_126 : decode cX12_joins 126 = .ok (.iload_n 2, 1) := by decide +kernel
theorem dX12_joins_127 : decode cX12_joins 127 = .ok (.iadd, 1) := by decide +kernel
theorem dX12_joins_128 : decode cX12_joins 128 = .ok (.iload 5, 2) := by decide +kernel
theorem dX12_joins_130 : decode cX12_joins 130 = .ok (.ifCond .eq 10, 3) := by decide +kernel
theorem dX12_joins_133 : decode cX12_joins 133 = .ok (.iload_n 3, 1) := by decide +kernel
theorem dX12_joins_134 : decode cX12_joins 134 = .ok (.iload 4, 2) := by decide +kernel
theorem dX12_joins_136 : decode cX12_joins 136 = .ok (.ior, 1) := by decide +kernel
theorem dX12_joins_137 : decode cX12_joins 137 = .ok (.goto 24, 3) := by decide +kernel
theorem dX12_joins_140 : decode cX12_joins 140 = .ok (.iload_n 3, 1) := by decide +kernel
theorem dX12_joins_141 : decode cX12_joins 141 = .ok (.aload_n 0, 1) := by decide +kernel
theorem dX12_joins_142 : decode cX12_joins 142 = .ok (.getfield 91, 3) := by decide +kernel
theorem dX12_joins_145 : decode cX12_joins 145 = .ok (.bipush 8, 2) := by decide +kernel
theorem dX12_joins_147 : decode cX12_joins 147 = .ok (.iload_n 1, 1) := by decide +kernel
theorem dX12_joins_148 : decode cX12_joins 148 = .ok (.imul, 1) := by decide +kernel
theorem dX12_joins_149 : decode cX12_joins 149 = .ok (.iload_n 2, 1) := by decide +kernel
theorem dX12_joins_150 : decode cX12_joins 150 = .ok (.iadd, 1) := by decide +kernel
theorem dX12_joins_151 : decode cX12_joins 151 = .ok (.iaload, 1) := by decide +kernel
theorem dX12_joins_152 : decode cX12_joins 152 = .ok (.if_icmp .eq 7, 3) := by decide +kernel
theorem dX12_joins_155 : decode cX12_joins 155 = .ok (.iload_n 3, 1) := by decide +kernel
theorem dX12_joins_156 : decode cX12_joins 156 = .ok (.goto 5, 3) := by decide +kernel
theorem dX12_joins_159 : decode cX12_joins 159 = .ok (.iload 4, 2) := by decide +kernel
theorem dX12_joins_161 : decode cX12_joins 161 = .ok (.iastore, 1) := by decide +kernel
theorem dX12_joins_162 : decode cX12_joins 162 = .ok (.iinc 2 1, 3) := by decide +kernel
theorem dX12_joins_165 : decode cX12_joins 165 = .ok (.goto (-110), 3) := by decide +kernel
theorem dX12_joins_168 : decode cX12_joins 168 = .ok (.iinc 1 1, 3) := by decide +kernel
theorem dX12_joins_171 : decode cX12_joins 171 = .ok (.goto (-169), 3) := by decide +kernel
theorem dX12_joins_174 : decode cX12_joins 174 = .ok (.aload_n 0, 1) := by decide +kernel
theorem dX12_joins_175 : decode cX12_joins 175 = .ok (.iconst 1, 1) := by decide +kernel
theorem dX12_joins_176 : decode cX12_joins 176 = .ok (.putfield 199, 3) := by decide +kernel
theorem dX12_joins_179 : decode cX12_joins 179 = .ok (.return_, 1) := by decide +kernel
theorem dX12_keptAt_0 : decode cX12_keptAt 0 = .ok (.iconst 0, 1) := by decide +kernel
theorem dX12_keptAt_1 : decode cX12_keptAt 1 = .ok (.istore_n 2, 1) := by decide +kernel
theorem dX12_keptAt_2 : decode cX12_keptAt 2 = .ok (.iload_n 2, 1) := by decide +kernel
theorem dX12_keptAt_3 : decode cX12_keptAt 3 = .ok (.aload_n 0, 1) := by decide +kernel
theorem dX12_keptAt_4 : decode cX12_keptAt 4 = .ok (.getfield 203, 3) := by decide +kernel
theorem dX12_keptAt_7 : decode cX12_keptAt 7 = .ok (.if_icmp .ge 85, 3) := by decide +kernel
theorem dX12_keptAt_10 : decode cX12_keptAt 10 = .ok (.aload_n 0, 1) := by decide +kernel
theorem dX12_keptAt_11 : decode cX12_keptAt 11 = .ok (.getfield 109, 3) := by decide +kernel
theorem dX12_keptAt_14 : decode cX12_keptAt 14 = .ok (.iconst 5, 1) := by decide +kernel
theorem dX12_keptAt_15 : decode cX12_keptAt 15 = .ok (.iload_n 2, 1) := by decide +kernel
theorem dX12_keptAt_16 : decode cX12_keptAt 16 = .ok (.imul, 1) := by decide +kernel
theorem dX12_keptAt_17 : decode cX12_keptAt 17 = .ok (.iaload, 1) := by decide +kernel
theorem dX12_keptAt_18 : decode cX12_keptAt 18 = .ok (.aload_n 0, 1) := by decide +kernel
theorem dX12_keptAt_19 : decode cX12_keptAt 19 = .ok (.getfield 79, 3) := by decide +kernel
theorem dX12_keptAt_22 : decode cX12_keptAt 22 = .ok (.iload_n 1, 1) := by decide +kernel
theorem dX12_keptAt_23 : decode cX12_keptAt 23 = .ok (.iaload, 1) := by decide +kernel
theorem dX12_keptAt_24 : decode cX12_keptAt 24 = .ok (.if_icmp .ne 62, 3) := by decide +kernel
theorem dX12_keptAt_27 : decode cX12_keptAt 27 = .ok (.aload_n 0, 1) := by decide +kernel
theorem dX12_keptAt_28 : decode cX12_keptAt 28 = .ok (.getfield 109, 3) := by decide +kernel
theorem dX12_keptAt_31 : decode cX12_keptAt 31 = .ok (.iconst 5, 1) := by decide +kernel
theorem dX12_keptAt_32 : decode cX12_keptAt 32 = .ok (.iload_n 2, 1) := by decide +kernel
theorem dX12_keptAt_33 : decode cX12_keptAt 33 = .ok (.imul, 1) := by decide +kernel
theorem dX12_keptAt_34 : decode cX12_keptAt 34 = .ok (.iconst 1, 1) := by decide +kernel
theorem dX12_keptAt_35 : decode cX12_keptAt 35 = .ok (.iadd, 1) := by decide +kernel
theorem dX12_keptAt_36 : decode cX12_keptAt 36 = .ok (.iaload, 1) := by decide +kernel
theorem dX12_keptAt_37 : decode cX12_keptAt 37 = .ok (.aload_n 0, 1) := by decide +kernel
theorem dX12_keptAt_38 : decode cX12_keptAt 38 = .ok (.getfield 82, 3) := by decide +kernel
theorem dX12_keptAt_41 : decode cX12_keptAt 41 = .ok (.iload_n 1, 1) := by decide +kernel
theorem dX12_keptAt_42 : decode cX12_keptAt 42 = .ok (.iaload, 1) := by decide +kernel
theorem dX12_keptAt_43 : decode cX12_keptAt 43 = .ok (.if_icmp .ne 43, 3) := by decide +kernel
theorem dX12_keptAt_46 : decode cX12_keptAt 46 = .ok (.aload_n 0, 1) := by decide +kernel
theorem dX12_keptAt_47 : decode cX12_keptAt 47 = .ok (.getfield 109, 3) := by decide +kernel
theorem dX12_keptAt_50 : decode cX12_keptAt 50 = .ok (.iconst 5, 1) := by decide +kernel
theorem dX12_keptAt_51 : decode cX12_keptAt 51 = .ok (.iload_n 2, 1) := by decide +kernel
theorem dX12_keptAt_52 : decode cX12_keptAt 52 = .ok (.imul, 1) := by decide +kernel
theorem dX12_keptAt_53 : decode cX12_keptAt 53 = .ok (.iconst 2, 1) := by decide +kernel
theorem dX12_keptAt_54 : decode cX12_keptAt 54 = .ok (.iadd, 1) := by decide +kernel
theorem dX12_keptAt_55 : decode cX12_keptAt 55 = .ok (.iaload, 1) := by decide +kernel
theorem dX12_keptAt_56 : decode cX12_keptAt 56 = .ok (.aload_n 0, 1) := by decide +kernel
theorem dX12_keptAt_57 : decode cX12_keptAt 57 = .ok (.getfield 85, 3) := by decide +kernel
theorem dX12_keptAt_60 : decode cX12_keptAt 60 = .ok (.iload_n 1, 1) := by decide +kernel
theorem dX12_keptAt_61 : decode cX12_keptAt 61 = .ok (.iaload, 1) := by decide +kernel
theorem dX12_keptAt_62 : decode cX12_keptAt 62 = .ok (.if_icmp .ne 24, 3) := by decide +kernel
theorem dX12_keptAt_65 : decode cX12_keptAt 65 = .ok (.aload_n 0, 1) := by decide +kernel
theorem dX12_keptAt_66 : decode cX12_keptAt 66 = .ok (.getfield 109, 3) := by decide +kernel
theorem dX12_keptAt_69 : decode cX12_keptAt 69 = .ok (.iconst 5, 1) := by decide +kernel
theorem dX12_keptAt_70 : decode cX12_keptAt 70 = .ok (.iload_n 2, 1) := by decide +kernel
theorem dX12_keptAt_71 : decode cX12_keptAt 71 = .ok (.imul, 1) := by decide +kernel
theorem dX12_keptAt_72 : decode cX12_keptAt 72 = .ok (.iconst 3, 1) := by decide +kernel
theorem dX12_keptAt_73 : decode cX12_keptAt 73 = .ok (.iadd, 1) := by decide +kernel
theorem dX12_keptAt_74 : decode cX12_keptAt 74 = .ok (.iaload, 1) := by decide +kernel
theorem dX12_keptAt_75 : decode cX12_keptAt 75 = .ok (.aload_n 0, 1) := by decide +kernel
theorem dX12_keptAt_76 : decode cX12_keptAt 76 = .ok (.getfield 88, 3) := by decide +kernel
theorem dX12_keptAt_79 : decode cX12_keptAt 79 = .ok (.iload_n 1, 1) := by decide +kernel
theorem dX12_keptAt_80 : decode cX12_keptAt 80 = .ok (.iaload, 1) := by decide +kernel
theorem dX12_keptAt_81 : decode cX12_keptAt 81 = .ok (.if_icmp .ne 5, 3) := by decide +kernel
theorem dX12_keptAt_84 : decode cX12_keptAt 84 = .ok (.iload_n 2, 1) := by decide +kernel
theorem dX12_keptAt_85 : decode cX12_keptAt 85 = .ok (.ireturn, 1) := by decide +kernel
theorem dX12_keptAt_86 : decode cX12_keptAt 86 = .ok (.iinc 2 1, 3) := by decide +kernel
theorem dX12_keptAt_89 : decode cX12_keptAt 89 = .ok (.goto (-87), 3) := by decide +kernel
theorem dX12_keptAt_92 : decode cX12_keptAt 92 = .ok (.bipush (-4), 2) := by decide +kernel
theorem dX12_keptAt_94 : decode cX12_keptAt 94 = .ok (.ireturn, 1) := by decide +kernel
theorem dX12_keeps_0 : decode cX12_keeps 0 = .ok (.aload_n 0, 1) := by decide +kernel
theorem dX12_keeps_1 : decode cX12_keeps 1 = .ok (.iload_n 1, 1) := by decide +kernel
theorem dX12_keeps_2 : decode cX12_keeps 2 = .ok (.invokevirtual 298, 3) := by decide +kernel
theorem dX12_keeps_5 : decode cX12_keeps 5 = .ok (.istore_n 2, 1) := by decide +kernel
theorem dX12_keeps_6 : decode cX12_keeps 6 = .ok (.iload_n 2, 1) := by decide +kernel
theorem dX12_keeps_7 : decode cX12_keeps 7 = .ok (.bipush (-4), 2) := by decide +kernel
theorem dX12_keeps_9 : decode cX12_keeps 9 = .ok (.if_icmp .eq 85, 3) := by decide +kernel
theorem dX12_keeps_12 : decode cX12_keeps 12 = .ok (.aload_n 0, 1) := by decide +kernel
theorem dX12_keeps_13 : decode cX12_keeps 13 = .ok (.dup, 1) := by decide +kernel
theorem dX12_keeps_14 : decode cX12_keeps 14 = .ok (.getfield 206, 3) := by decide +kernel
theorem dX12_keeps_17 : decode cX12_keeps 17 = .ok (.aload_n 0, 1) := by decide +kernel
theorem dX12_keeps_18 : decode cX12_keeps 18 = .ok (.getfield 103, 3) := by decide +kernel
theorem dX12_keeps_21 : decode cX12_keeps 21 = .ok (.iload_n 1, 1) := by decide +kernel
theorem dX12_keeps_22 : decode cX12_keeps 22 = .ok (.iaload, 1) := by decide +kernel
theorem dX12_keeps_23 : decode cX12_keeps 23 = .ok (.aload_n 0, 1) := by decide +kernel
theorem dX12_keeps_24 : decode cX12_keeps 24 = .ok (.getfield 109, 3) := by decide +kernel
theorem dX12_keeps_27 : decode cX12_keeps 27 = .ok (.iconst 5, 1) := by decide +kernel
theorem dX12_keeps_28 : decode cX12_keeps 28 = .ok (.iload_n 2, 1) := by decide +kernel
theorem dX12_keeps_29 : decode cX12_keeps 29 = .ok (.imul, 1) := by decide +kernel
theorem dX12_keeps_30 : decode cX12_keeps 30 = .ok (.iconst 4, 1) := by decide +kernel
theorem dX12_keeps_31 : decode cX12_keeps 31 = .ok (.iadd, 1) := by decide +kernel
theorem dX12_keeps_32 : decode cX12_keeps 32 = .ok (.iaload, 1) := by decide +kernel
theorem dX12_keeps_33 : decode cX12_keeps 33 = .ok (.if_icmp .ge 7, 3) := by decide +kernel
theorem dX12_keeps_36 : decode cX12_keeps 36 = .ok (.iconst 1, 1) := by decide +kernel
theorem dX12_keeps_37 : decode cX12_keeps 37 = .ok (.goto 4, 3) := by decide +kernel
theorem dX12_keeps_40 : decode cX12_keeps 40 = .ok (.iconst 0, 1) := by decide +kernel
theorem dX12_keeps_41 : decode cX12_keeps 41 = .ok (.iadd, 1) := by decide +kernel
theorem dX12_keeps_42 : decode cX12_keeps 42 = .ok (.putfield 206, 3) := by decide +kernel
theorem dX12_keeps_45 : decode cX12_keeps 45 = .ok (.aload_n 0, 1) := by decide +kernel
theorem dX12_keeps_46 : decode cX12_keeps 46 = .ok (.getfield 109, 3) := by decide +kernel
theorem dX12_keeps_49 : decode cX12_keeps 49 = .ok (.iconst 5, 1) := by decide +kernel
theorem dX12_keeps_50 : decode cX12_keeps 50 = .ok (.iload_n 2, 1) := by decide +kernel
theorem dX12_keeps_51 : decode cX12_keeps 51 = .ok (.imul, 1) := by decide +kernel
theorem dX12_keeps_52 : decode cX12_keeps 52 = .ok (.iconst 4, 1) := by decide +kernel
theorem dX12_keeps_53 : decode cX12_keeps 53 = .ok (.iadd, 1) := by decide +kernel
theorem dX12_keeps_54 : decode cX12_keeps 54 = .ok (.aload_n 0, 1) := by decide +kernel
theorem dX12_keeps_55 : decode cX12_keeps 55 = .ok (.getfield 103, 3) := by decide +kernel
theorem dX12_keeps_58 : decode cX12_keeps 58 = .ok (.iload_n 1, 1) := by decide +kernel
theorem dX12_keeps_59 : decode cX12_keeps 59 = .ok (.iaload, 1) := by decide +kernel
theorem dX12_keeps_60 : decode cX12_keeps 60 = .ok (.aload_n 0, 1) := by decide +kernel
theorem dX12_keeps_61 : decode cX12_keeps 61 = .ok (.getfield 109, 3) := by decide +kernel
theorem dX12_keeps_64 : decode cX12_keeps 64 = .ok (.iconst 5, 1) := by decide +kernel
theorem dX12_keeps_65 : decode cX12_keeps 65 = .ok (.iload_n 2, 1) := by decide +kernel
theorem dX12_keeps_66 : decode cX12_keeps 66 = .ok (.imul, 1) := by decide +kernel
theorem dX12_keeps_67 : decode cX12_keeps 67 = .ok (.iconst 4, 1) := by decide +kernel
theorem dX12_keeps_68 : decode cX12_keeps 68 = .ok (.iadd, 1) := by decide +kernel
theorem dX12_keeps_69 : decode cX12_keeps 69 = .ok (.iaload, 1) := by decide +kernel
theorem dX12_keeps_70 : decode cX12_keeps 70 = .ok (.if_icmp .le 12, 3) := by decide +kernel
theorem dX12_keeps_73 : decode cX12_keeps 73 = .ok (.aload_n 0, 1) := by decide +kernel
theorem dX12_keeps_74 : decode cX12_keeps 74 = .ok (.getfield 103, 3) := by decide +kernel
theorem dX12_keeps_77 : decode cX12_keeps 77 = .ok (.iload_n 1, 1) := by decide +kernel
theorem dX12_keeps_78 : decode cX12_keeps 78 = .ok (.iaload, 1) := by decide +kernel
theorem dX12_keeps_79 : decode cX12_keeps 79 = .ok (.goto 13, 3) := by decide +kernel
theorem dX12_keeps_82 : decode cX12_keeps 82 = .ok (.aload_n 0, 1) := by decide +kernel
theorem dX12_keeps_83 : decode cX12_keeps 83 = .ok (.getfield 109, 3) := by decide +kernel
theorem dX12_keeps_86 : decode cX12_keeps 86 = .ok (.iconst 5, 1) := by decide +kernel
theorem dX12_keeps_87 : decode cX12_keeps 87 = .ok (.iload_n 2, 1) := by decide +kernel
theorem dX12_keeps_88 : decode cX12_keeps 88 = .ok (.imul, 1) := by decide +kernel
theorem dX12_keeps_89 : decode cX12_keeps 89 = .ok (.iconst 4, 1) := by decide +kernel
theorem dX12_keeps_90 : decode cX12_keeps 90 = .ok (.iadd, 1) := by decide +kernel
theorem dX12_keeps_91 : decode cX12_keeps 91 = .ok (.iaload, 1) := by decide +kernel
theorem dX12_keeps_92 : decode cX12_keeps 92 = .ok (.iastore, 1) := by decide +kernel
theorem dX12_keeps_93 : decode cX12_keeps 93 = .ok (.return_, 1) := by decide +kernel
theorem dX12_keeps_94 : decode cX12_keeps 94 = .ok (.aload_n 0, 1) := by decide +kernel
theorem dX12_keeps_95 : decode cX12_keeps 95 = .ok (.getfield 203, 3) := by decide +kernel
theorem dX12_keeps_98 : decode cX12_keeps 98 = .ok (.bipush 6, 2) := by decide +kernel
theorem dX12_keeps_100 : decode cX12_keeps 100 = .ok (.if_icmp .ne 41, 3) := by decide +kernel
theorem dX12_keeps_103 : decode cX12_keeps 103 = .ok (.iconst 0, 1) := by decide +kernel
theorem dX12_keeps_104 : decode cX12_keeps 104 = .ok (.istore_n 3, 1) := by decide +kernel
theorem dX12_keeps_105 : decode cX12_keeps 105 = .ok (.iload_n 3, 1) := by decide +kernel
theorem dX12_keeps_106 : decode cX12_keeps 106 = .ok (.bipush 25, 2) := by decide +kernel
theorem dX12_keeps_108 : decode cX12_keeps 108 = .ok (.if_icmp .ge 23, 3) := by decide +kernel
theorem dX12_keeps_111 : decode cX12_keeps 111 = .ok (.aload_n 0, 1) := by decide +kernel
theorem dX12_keeps_112 : decode cX12_keeps 112 = .ok (.getfield 109, 3) := by decide +kernel
theorem dX12_keeps_115 : decode cX12_keeps 115 = .ok (.iload_n 3, 1) := by decide +kernel
theorem dX12_keeps_116 : decode cX12_keeps 116 = .ok (.aload_n 0, 1) := by decide +kernel
theorem dX12_keeps_117 : decode cX12_keeps 117 = .ok (.getfield 109, 3) := by decide +kernel
theorem dX12_keeps_120 : decode cX12_keeps 120 = .ok (.iload_n 3, 1) := by decide +kernel
theorem dX12_keeps_121 : decode cX12_keeps 121 = .ok (.iconst 5, 1) := by decide +kernel
theorem dX12_keeps_122 : decode cX12_keeps 122 = .ok (.iadd, 1) := by decide +kernel
theorem dX12_keeps_123 : decode cX12_keeps 123 = .ok (.iaload, 1) := by decide +kernel
theorem dX12_keeps_124 : decode cX12_keeps 124 = .ok (.iastore, 1) := by decide +kernel
theorem dX12_keeps_125 : decode cX12_keeps 125 = .ok (.iinc 3 1, 3) := by decide +kernel
theorem dX12_keeps_128 : decode cX12_keeps 128 = .ok (.goto (-23), 3) := by decide +kernel
theorem dX12_keeps_131 : decode cX12_keeps 131 = .ok (.aload_n 0, 1) := by decide +kernel
theorem dX12_keeps_132 : decode cX12_keeps 132 = .ok (.dup, 1) := by decide +kernel
theorem dX12_keeps_133 : decode cX12_keeps 133 = .ok (.getfield 203, 3) := by decide +kernel
theorem dX12_keeps_136 : decode cX12_keeps 136 = .ok (.iconst 1, 1) := by decide +kernel
theorem dX12_keeps_137 : decode cX12_keeps 137 = .ok (.isub, 1) := by decide +kernel
theorem dX12_keeps_138 : decode cX12_keeps 138 = .ok (.putfield 203, 3) := by decide +kernel
theorem dX12_keeps_141 : decode cX12_keeps 141 = .ok (.aload_n 0, 1) := by decide +kernel
theorem dX12_keeps_142 : decode cX12_keeps 142 = .ok (.getfield 109, 3) := by decide +kernel
theorem dX12_keeps_145 : decode cX12_keeps 145 = .ok (.iconst 5, 1) := by decide +kernel
theorem dX12_keeps_146 : decode cX12_keeps 146 = .ok (.aload_n 0, 1) := by decide +kernel
theorem dX12_keeps_147 : decode cX12_keeps 147 = .ok (.getfield 203, 3) := by decide +kernel
theorem dX12_keeps_150 : decode cX12_keeps 150 = .ok (.imul, 1) := by decide +kernel
theorem dX12_keeps_151 : decode cX12_keeps 151 = .ok (.aload_n 0, 1) := by decide +kernel
theorem dX12_keeps_152 : decode cX12_keeps 152 = .ok (.getfield 79, 3) := by decide +kernel
theorem dX12_keeps_155 : decode cX12_keeps 155 = .ok (.iload_n 1, 1) := by decide +kernel
theorem dX12_keeps_156 : decode cX12_keeps 156 = .ok (.iaload, 1) := by decide +kernel
theorem dX12_keeps_157 : decode cX12_keeps 157 = .ok (.iastore, 1) := by decide +kernel
theorem dX12_keeps_158 : decode cX12_keeps 158 = .ok (.aload_n 0, 1) := by decide +kernel
theorem dX12_keeps_159 : decode cX12_keeps 159 = .ok (.getfield 109, 3) := by decide +kernel
theorem dX12_keeps_162 : decode cX12_keeps 162 = .ok (.iconst 5, 1) := by decide +kernel
theorem dX12_keeps_163 : decode cX12_keeps 163 = .ok (.aload_n 0, 1) := by decide +kernel
theorem dX12_keeps_164 : decode cX12_keeps 164 = .ok (.getfield 203, 3) := by decide +kernel
theorem dX12_keeps_167 : decode cX12_keeps 167 = .ok (.imul, 1) := by decide +kernel
theorem dX12_keeps_168 : decode cX12_keeps 168 = .ok (.iconst 1, 1) := by decide +kernel
theorem dX12_keeps_169 : decode cX12_keeps 169 = .ok (.iadd, 1) := by decide +kernel
theorem dX12_keeps_170 : decode cX12_keeps 170 = .ok (.aload_n 0, 1) := by decide +kernel
theorem dX12_keeps_171 : decode cX12_keeps 171 = .ok (.getfield 82, 3) := by decide +kernel
theorem dX12_keeps_174 : decode cX12_keeps 174 = .ok (.iload_n 1, 1) := by decide +kernel
theorem dX12_keeps_175 : decode cX12_keeps 175 = .ok (.iaload, 1) := by decide +kernel
theorem dX12_keeps_176 : decode cX12_keeps 176 = .ok (.iastore, 1) := by decide +kernel
theorem dX12_keeps_177 : decode cX12_keeps 177 = .ok (.aload_n 0, 1) := by decide +kernel
theorem dX12_keeps_178 : decode cX12_keeps 178 = .ok (.getfield 109, 3) := by decide +kernel
theorem dX12_keeps_181 : decode cX12_keeps 181 = .ok (.iconst 5, 1) := by decide +kernel
theorem dX12_keeps_182 : decode cX12_keeps 182 = .ok (.aload_n 0, 1) := by decide +kernel
theorem dX12_keeps_183 : decode cX12_keeps 183 = .ok (.getfield 203, 3) := by decide +kernel
theorem dX12_keeps_186 : decode cX12_keeps 186 = .ok (.imul, 1) := by decide +kernel
theorem dX12_keeps_187 : decode cX12_keeps 187 = .ok (.iconst 2, 1) := by decide +kernel
theorem dX12_keeps_188 : decode cX12_keeps 188 = .ok (.iadd, 1) := by decide +kernel
theorem dX12_keeps_189 : decode cX12_keeps 189 = .ok (.aload_n 0, 1) := by decide +kernel
theorem dX12_keeps_190 : decode cX12_keeps 190 = .ok (.getfield 85, 3) := by decide +kernel
theorem dX12_keeps_193 : decode cX12_keeps 193 = .ok (.iload_n 1, 1) := by decide +kernel
theorem dX12_keeps_194 : decode cX12_keeps 194 = .ok (.iaload, 1) := by decide +kernel
theorem dX12_keeps_195 : decode cX12_keeps 195 = .ok (.iastore, 1) := by decide +kernel
theorem dX12_keeps_196 : decode cX12_keeps 196 = .ok (.aload_n 0, 1) := by decide +kernel
theorem dX12_keeps_197 : decode cX12_keeps 197 = .ok (.getfield 109, 3) := by decide +kernel
theorem dX12_keeps_200 : decode cX12_keeps 200 = .ok (.iconst 5, 1) := by decide +kernel
theorem dX12_keeps_201 : decode cX12_keeps 201 = .ok (.aload_n 0, 1) := by decide +kernel
theorem dX12_keeps_202 : decode cX12_keeps 202 = .ok (.getfield 203, 3) := by decide +kernel
theorem dX12_keeps_205 : decode cX12_keeps 205 = .ok (.imul, 1) := by decide +kernel
theorem dX12_keeps_206 : decode cX12_keeps 206 = .ok (.iconst 3, 1) := by decide +kernel
theorem dX12_keeps_207 : decode cX12_keeps 207 = .ok (.iadd, 1) := by decide +kernel
theorem dX12_keeps_208 : decode cX12_keeps 208 = .ok (.aload_n 0, 1) := by decide +kernel
theorem dX12_keeps_209 : decode cX12_keeps 209 = .ok (.getfield 88, 3) := by decide +kernel
theorem dX12_keeps_212 : decode cX12_keeps 212 = .ok (.iload_n 1, 1) := by decide +kernel
theorem dX12_keeps_213 : decode cX12_keeps 213 = .ok (.iaload, 1) := by decide +kernel
theorem dX12_keeps_214 : decode cX12_keeps 214 = .ok (.iastore, 1) := by decide +kernel
theorem dX12_keeps_215 : decode cX12_keeps 215 = .ok (.aload_n 0, 1) := by decide +kernel
theorem dX12_keeps_216 : decode cX12_keeps 216 = .ok (.getfield 109, 3) := by decide +kernel
theorem dX12_keeps_219 : decode cX12_keeps 219 = .ok (.iconst 5, 1) := by decide +kernel
theorem dX12_keeps_220 : decode cX12_keeps 220 = .ok (.aload_n 0, 1) := by decide +kernel
theorem dX12_keeps_221 : decode cX12_keeps 221 = .ok (.getfield 203, 3) := by decide +kernel
theorem dX12_keeps_224 : decode cX12_keeps 224 = .ok (.imul, 1) := by decide +kernel
theorem dX12_keeps_225 : decode cX12_keeps 225 = .ok (.iconst 4, 1) := by decide +kernel
theorem dX12_keeps_226 : decode cX12_keeps 226 = .ok (.iadd, 1) := by decide +kernel
theorem dX12_keeps_227 : decode cX12_keeps 227 = .ok (.aload_n 0, 1) := by decide +kernel
theorem dX12_keeps_228 : decode cX12_keeps 228 = .ok (.getfield 103, 3) := by decide +kernel
theorem dX12_keeps_231 : decode cX12_keeps 231 = .ok (.iload_n 1, 1) := by decide +kernel
theorem dX12_keeps_232 : decode cX12_keeps 232 = .ok (.iaload, 1) := by decide +kernel
theorem dX12_keeps_233 : decode cX12_keeps 233 = .ok (.iastore, 1) := by decide +kernel
theorem dX12_keeps_234 : decode cX12_keeps 234 = .ok (.aload_n 0, 1) := by decide +kernel
theorem dX12_keeps_235 : decode cX12_keeps 235 = .ok (.dup, 1) := by decide +kernel
theorem dX12_keeps_236 : decode cX12_keeps 236 = .ok (.getfield 203, 3) := by decide +kernel
theorem dX12_keeps_239 : decode cX12_keeps 239 = .ok (.iconst 1, 1) := by decide +kernel
theorem dX12_keeps_240 : decode cX12_keeps 240 = .ok (.iadd, 1) := by decide +kernel
theorem dX12_keeps_241 : decode cX12_keeps 241 = .ok (.putfield 203, 3) := by decide +kernel
theorem dX12_keeps_244 : decode cX12_keeps 244 = .ok (.return_, 1) := by decide +kernel
theorem dX12_isLost_0 : decode cX12_isLost 0 = .ok (.aload_n 0, 1) := by decide +kernel
theorem dX12_isLost_1 : decode cX12_isLost 1 = .ok (.getfield 196, 3) := by decide +kernel
theorem dX12_isLost_4 : decode cX12_isLost 4 = .ok (.ifCond .ne 5, 3) := by decide +kernel
theorem dX12_isLost_7 : decode cX12_isLost 7 = .ok (.iconst 0, 1) := by decide +kernel
theorem dX12_isLost_8 : decode cX12_isLost 8 = .ok (.ireturn, 1) := by decide +kernel
theorem dX12_isLost_9 : decode cX12_isLost 9 = .ok (.aload_n 0, 1) := by decide +kernel
theorem dX12_isLost_10 : decode cX12_isLost 10 = .ok (.dup, 1) := by decide +kernel
theorem dX12_isLost_11 : decode cX12_isLost 11 = .ok (.getfield 196, 3) := by decide +kernel
theorem dX12_isLost_14 : decode cX12_isLost 14 = .ok (.iconst 1, 1) := by decide +kernel
theorem dX12_isLost_15 : decode cX12_isLost 15 = .ok (.isub, 1) := by decide +kernel
theorem dX12_isLost_16 : decode cX12_isLost 16 = .ok (.putfield 196, 3) := by decide +kernel
theorem dX12_isLost_19 : decode cX12_isLost 19 = .ok (.iconst 1, 1) := by decide +kernel
theorem dX12_isLost_20 : decode cX12_isLost 20 = .ok (.ireturn, 1) := by decide +kernel
theorem dX12_send_0 : decode cX12_send 0 = .ok (.iconst 0, 1) := by decide +kernel
theorem dX12_send_1 : decode cX12_send 1 = .ok (.istore_n 1, 1) := by decide +kernel
theorem dX12_send_2 : decode cX12_send 2 = .ok (.iconst 0, 1) := by decide +kernel
theorem dX12_send_3 : decode cX12_send 3 = .ok (.istore_n 2, 1) := by decide +kernel
theorem dX12_send_4 : decode cX12_send 4 = .ok (.iload_n 2, 1) := by decide +kernel
theorem dX12_send_5 : decode cX12_send 5 = .ok (.iconst 4, 1) := by decide +kernel
theorem dX12_send_6 : decode cX12_send 6 = .ok (.if_icmp .ge 28, 3) := by decide +kernel
theorem dX12_send_9 : decode cX12_send 9 = .ok (.iload_n 1, 1) := by decide +kernel
theorem dX12_send_10 : decode cX12_send 10 = .ok (.ifCond .ne 12, 3) := by decide +kernel
theorem dX12_send_13 : decode cX12_send 13 = .ok (.aload_n 0, 1) := by decide +kernel
theorem dX12_send_14 : decode cX12_send 14 = .ok (.getfield 79, 3) := by decide +kernel
theorem dX12_send_17 : decode cX12_send 17 = .ok (.iload_n 2, 1) := by decide +kernel
theorem dX12_send_18 : decode cX12_send 18 = .ok (.iaload, 1) := by decide +kernel
theorem dX12_send_19 : decode cX12_send 19 = .ok (.ifCond .le 7, 3) := by decide +kernel
theorem dX12_send_22 : decode cX12_send 22 = .ok (.iconst 1, 1) := by decide +kernel
theorem dX12_send_23 : decode cX12_send 23 = .ok (.goto 4, 3) := by decide +kernel
theorem dX12_send_26 : decode cX12_send 26 = .ok (.iconst 0, 1) := by decide +kernel
theorem dX12_send_27 : decode cX12_send 27 = .ok (.istore_n 1, 1) := by decide +kernel
theorem dX12_send_28 : decode cX12_send 28 = .ok (.iinc 2 1, 3) := by decide +kernel
theorem dX12_send_31 : decode cX12_send 31 = .ok (.goto (-27), 3) := by decide +kernel
theorem dX12_send_34 : decode cX12_send 34 = .ok (.iload_n 1, 1) := by decide +kernel
theorem dX12_send_35 : decode cX12_send 35 = .ok (.ifCond .ne 6, 3) := by decide +kernel
theorem dX12_send_38 : decode cX12_send 38 = .ok (.bipush (-2), 2) := by decide +kernel
theorem dX12_send_40 : decode cX12_send 40 = .ok (.ireturn, 1) := by decide +kernel
theorem dX12_send_41 : decode cX12_send 41 = .ok (.aload_n 0, 1) := by decide +kernel
theorem dX12_send_42 : decode cX12_send 42 = .ok (.invokevirtual 301, 3) := by decide +kernel
theorem dX12_send_45 : decode cX12_send 45 = .ok (.aload_n 0, 1) := by decide +kernel
theorem dX12_send_46 : decode cX12_send 46 = .ok (.dup, 1) := by decide +kernel
theorem dX12_send_47 : decode cX12_send 47 = .ok (.getfield 193, 3) := by decide +kernel
theorem dX12_send_50 : decode cX12_send 50 = .ok (.aload_n 0, 1) := by decide +kernel
theorem dX12_send_51 : decode cX12_send 51 = .ok (.invokevirtual 304, 3) := by decide +kernel
theorem dX12_send_54 : decode cX12_send 54 = .ok (.iadd, 1) := by decide +kernel
theorem dX12_send_55 : decode cX12_send 55 = .ok (.putfield 193, 3) := by decide +kernel
theorem dX12_send_58 : decode cX12_send 58 = .ok (.aload_n 0, 1) := by decide +kernel
theorem dX12_send_59 : decode cX12_send 59 = .ok (.invokevirtual 307, 3) := by decide +kernel
theorem dX12_send_62 : decode cX12_send 62 = .ok (.ifCond .eq 6, 3) := by decide +kernel
theorem dX12_send_65 : decode cX12_send 65 = .ok (.bipush (-5), 2) := by decide +kernel
theorem dX12_send_67 : decode cX12_send 67 = .ok (.ireturn, 1) := by decide +kernel
theorem dX12_send_68 : decode cX12_send 68 = .ok (.aload_n 0, 1) := by decide +kernel
theorem dX12_send_69 : decode cX12_send 69 = .ok (.invokevirtual 310, 3) := by decide +kernel
theorem dX12_send_72 : decode cX12_send 72 = .ok (.iconst 0, 1) := by decide +kernel
theorem dX12_send_73 : decode cX12_send 73 = .ok (.istore_n 2, 1) := by decide +kernel
theorem dX12_send_74 : decode cX12_send 74 = .ok (.iconst 0, 1) := by decide +kernel
theorem dX12_send_75 : decode cX12_send 75 = .ok (.istore_n 3, 1) := by decide +kernel
theorem dX12_send_76 : decode cX12_send 76 = .ok (.iload_n 3, 1) := by decide +kernel
theorem dX12_send_77 : decode cX12_send 77 = .ok (.iconst 4, 1) := by decide +kernel
theorem dX12_send_78 : decode cX12_send 78 = .ok (.if_icmp .ge 32, 3) := by decide +kernel
theorem dX12_send_81 : decode cX12_send 81 = .ok (.aload_n 0, 1) := by decide +kernel
theorem dX12_send_82 : decode cX12_send 82 = .ok (.getfield 79, 3) := by decide +kernel
theorem dX12_send_85 : decode cX12_send 85 = .ok (.iload_n 3, 1) := by decide +kernel
theorem dX12_send_86 : decode cX12_send 86 = .ok (.iaload, 1) := by decide +kernel
theorem dX12_send_87 : decode cX12_send 87 = .ok (.ifCond .le 17, 3) := by decide +kernel
theorem dX12_send_90 : decode cX12_send 90 = .ok (.aload_n 0, 1) := by decide +kernel
theorem dX12_send_91 : decode cX12_send 91 = .ok (.iload_n 3, 1) := by decide +kernel
theorem dX12_send_92 : decode cX12_send 92 = .ok (.invokevirtual 313, 3) := by decide +kernel
theorem dX12_send_95 : decode cX12_send 95 = .ok (.iload_n 2, 1) := by decide +kernel
theorem dX12_send_96 : decode cX12_send 96 = .ok (.aload_n 0, 1) := by decide +kernel
theorem dX12_send_97 : decode cX12_send 97 = .ok (.getfield 103, 3) := by decide +kernel
theorem dX12_send_100 : decode cX12_send 100 = .ok (.iload_n 3, 1) := by decide +kernel
theorem dX12_send_101 : decode cX12_send 101 = .ok (.iaload, 1) := by decide +kernel
theorem dX12_send_102 : decode cX12_send 102 = .ok (.iadd, 1) := by decide +kernel
theorem dX12_send_103 : decode cX12_send 103 = .ok (.istore_n 2, 1) := by decide +kernel
theorem dX12_send_104 : decode cX12_send 104 = .ok (.iinc 3 1, 3) := by decide +kernel
theorem dX12_send_107 : decode cX12_send 107 = .ok (.goto (-31), 3) := by decide +kernel
theorem dX12_send_110 : decode cX12_send 110 = .ok (.iload_n 2, 1) := by decide +kernel
theorem dX12_send_111 : decode cX12_send 111 = .ok (.ireturn, 1) := by decide +kernel
theorem dX12_home_0 : decode cX12_home 0 = .ok (.iload_n 1, 1) := by decide +kernel
theorem dX12_home_1 : decode cX12_home 1 = .ok (.i2l, 1) := by decide +kernel
theorem dX12_home_2 : decode cX12_home 2 = .ok (.lconst 0, 1) := by decide +kernel
theorem dX12_home_3 : decode cX12_home 3 = .ok (.ldc2_w 260, 3) := by decide +kernel
theorem dX12_home_6 : decode cX12_home 6 = .ok (.invokestatic 145, 3) := by decide +kernel
theorem dX12_home_9 : decode cX12_home 9 = .ok (.ifCond .eq 17, 3) := by decide +kernel
theorem dX12_home_12 : decode cX12_home 12 = .ok (.iload_n 2, 1) := by decide +kernel
theorem dX12_home_13 : decode cX12_home 13 = .ok (.i2l, 1) := by decide +kernel
theorem dX12_home_14 : decode cX12_home 14 = .ok (.ldc2_w 316, 3) := by decide +kernel
theorem dX12_home_17 : decode cX12_home 17 = .ok (.ldc2_w 270, 3) := by decide +kernel
theorem dX12_home_20 : decode cX12_home 20 = .ok (.invokestatic 145, 3) := by decide +kernel
theorem dX12_home_23 : decode cX12_home 23 = .ok (.ifCond .ne 5, 3) := by decide +kernel
theorem dX12_home_26 : decode cX12_home 26 = .ok (.iconst (-1), 1) := by decide +kernel
theorem dX12_home_27 : decode cX12_home 27 = .ok (.ireturn, 1) := by decide +kernel
theorem dX12_home_28 : decode cX12_home 28 = .ok (.aload_n 0, 1) := by decide +kernel
theorem dX12_home_29 : decode cX12_home 29 = .ok (.getfield 199, 3) := by decide +kernel
theorem dX12_home_32 : decode cX12_home 32 = .ok (.ifCond .eq 22, 3) := by decide +kernel
theorem dX12_home_35 : decode cX12_home 35 = .ok (.aload_n 0, 1) := by decide +kernel
theorem dX12_home_36 : decode cX12_home 36 = .ok (.getfield 100, 3) := by decide +kernel
theorem dX12_home_39 : decode cX12_home 39 = .ok (.iload_n 1, 1) := by decide +kernel
theorem dX12_home_40 : decode cX12_home 40 = .ok (.iaload, 1) := by decide +kernel
theorem dX12_home_41 : decode cX12_home 41 = .ok (.ifCond .eq 13, 3) := by decide +kernel
theorem dX12_home_44 : decode cX12_home 44 = .ok (.iload_n 2, 1) := by decide +kernel
theorem dX12_home_45 : decode cX12_home 45 = .ok (.aload_n 0, 1) := by decide +kernel
theorem dX12_home_46 : decode cX12_home 46 = .ok (.getfield 100, 3) := by decide +kernel
theorem dX12_home_49 : decode cX12_home 49 = .ok (.iload_n 1, 1) := by decide +kernel
theorem dX12_home_50 : decode cX12_home 50 = .ok (.iaload, 1) := by decide +kernel
theorem dX12_home_51 : decode cX12_home 51 = .ok (.if_icmp .lt 6, 3) := by decide +kernel
theorem dX12_home_54 : decode cX12_home 54 = .ok (.bipush (-4), 2) := by decide +kernel
theorem dX12_home_56 : decode cX12_home 56 = .ok (.ireturn, 1) := by decide +kernel
theorem dX12_home_57 : decode cX12_home 57 = .ok (.iload_n 2, 1) := by decide +kernel
theorem dX12_home_58 : decode cX12_home 58 = .ok (.ifCond .ge 12, 3) := by decide +kernel
theorem dX12_home_61 : decode cX12_home 61 = .ok (.aload_n 0, 1) := by decide +kernel
theorem dX12_home_62 : decode cX12_home 62 = .ok (.getfield 103, 3) := by decide +kernel
theorem dX12_home_65 : decode cX12_home 65 = .ok (.iload_n 1, 1) := by decide +kernel
theorem dX12_home_66 : decode cX12_home 66 = .ok (.iaload, 1) := by decide +kernel
theorem dX12_home_67 : decode cX12_home 67 = .ok (.goto 14, 3) := by decide +kernel
theorem dX12_home_70 : decode cX12_home 70 = .ok (.aload_n 0, 1) := by decide +kernel
theorem dX12_home_71 : decode cX12_home 71 = .ok (.getfield 106, 3) := by decide +kernel
theorem dX12_home_74 : decode cX12_home 74 = .ok (.bipush 8, 2) := by decide +kernel
theorem dX12_home_76 : decode cX12_home 76 = .ok (.iload_n 1, 1) := by decide +kernel
theorem dX12_home_77 : decode cX12_home 77 = .ok (.imul, 1) := by decide +kernel
theorem dX12_home_78 : decode cX12_home 78 = .ok (.iload_n 2, 1) := by decide +kernel
theorem dX12_home_79 : decode cX12_home 79 = .ok (.iadd, 1) := by decide +kernel
theorem dX12_home_80 : decode cX12_home 80 = .ok (.iaload, 1) := by decide +kernel
theorem dX12_home_81 : decode cX12_home 81 = .ok (.ireturn, 1) := by decide +kernel
theorem dX12_expected_0 : decode cX12_expected 0 = .ok (.iload_n 1, 1) := by decide +kernel
theorem dX12_expected_1 : decode cX12_expected 1 = .ok (.i2l, 1) := by decide +kernel
theorem dX12_expected_2 : decode cX12_expected 2 = .ok (.lconst 0, 1) := by decide +kernel
theorem dX12_expected_3 : decode cX12_expected 3 = .ok (.ldc2_w 260, 3) := by decide +kernel
theorem dX12_expected_6 : decode cX12_expected 6 = .ok (.invokestatic 145, 3) := by decide +kernel
theorem dX12_expected_9 : decode cX12_expected 9 = .ok (.ifCond .ne 5, 3) := by decide +kernel
theorem dX12_expected_12 : decode cX12_expected 12 = .ok (.iconst (-1), 1) := by decide +kernel
theorem dX12_expected_13 : decode cX12_expected 13 = .ok (.ireturn, 1) := by decide +kernel
theorem dX12_expected_14 : decode cX12_expected 14 = .ok (.aload_n 0, 1) := by decide +kernel
theorem dX12_expected_15 : decode cX12_expected 15 = .ok (.getfield 79, 3) := by decide +kernel
theorem dX12_expected_18 : decode cX12_expected 18 = .ok (.iload_n 1, 1) := by decide +kernel
theorem dX12_expected_19 : decode cX12_expected 19 = .ok (.iaload, 1) := by decide +kernel
theorem dX12_expected_20 : decode cX12_expected 20 = .ok (.ifCond .ne 8, 3) := by decide +kernel
theorem dX12_expected_23 : decode cX12_expected 23 = .ok (.bipush (-4), 2) := by decide +kernel
theorem dX12_expected_25 : decode cX12_expected 25 = .ok (.goto 8, 3) := by decide +kernel
theorem dX12_expected_28 : decode cX12_expected 28 = .ok (.aload_n 0, 1) := by decide +kernel
theorem dX12_expected_29 : decode cX12_expected 29 = .ok (.iload_n 1, 1) := by decide +kernel
theorem dX12_expected_30 : decode cX12_expected 30 = .ok (.invokevirtual 298, 3) := by decide +kernel
theorem dX12_expected_33 : decode cX12_expected 33 = .ok (.istore_n 2, 1) := by decide +kernel
theorem dX12_expected_34 : decode cX12_expected 34 = .ok (.iload_n 2, 1) := by decide +kernel
theorem dX12_expected_35 : decode cX12_expected 35 = .ok (.bipush (-4), 2) := by decide +kernel
theorem dX12_expected_37 : decode cX12_expected 37 = .ok (.if_icmp .ne 8, 3) := by decide +kernel
theorem dX12_expected_40 : decode cX12_expected 40 = .ok (.bipush (-4), 2) := by decide +kernel
theorem dX12_expected_42 : decode cX12_expected 42 = .ok (.goto 13, 3) := by decide +kernel
theorem dX12_expected_45 : decode cX12_expected 45 = .ok (.aload_n 0, 1) := by decide +kernel
theorem dX12_expected_46 : decode cX12_expected 46 = .ok (.getfield 109, 3) := by decide +kernel
theorem dX12_expected_49 : decode cX12_expected 49 = .ok (.iconst 5, 1) := by decide +kernel
theorem dX12_expected_50 : decode cX12_expected 50 = .ok (.iload_n 2, 1) := by decide +kernel
theorem dX12_expected_51 : decode cX12_expected 51 = .ok (.imul, 1) := by decide +kernel
theorem dX12_expected_52 : decode cX12_expected 52 = .ok (.iconst 4, 1) := by decide +kernel
theorem dX12_expected_53 : decode cX12_expected 53 = .ok (.iadd, 1) := by decide +kernel
theorem dX12_expected_54 : decode cX12_expected 54 = .ok (.iaload, 1) := by decide +kernel
theorem dX12_expected_55 : decode cX12_expected 55 = .ok (.ireturn, 1) := by decide +kernel
theorem dX12_isTalkedTo_0 : decode cX12_isTalkedTo 0 = .ok (.aload_n 0, 1) := by decide +kernel
theorem dX12_isTalkedTo_1 : decode cX12_isTalkedTo 1 = .ok (.iload_n 1, 1) := by decide +kernel
theorem dX12_isTalkedTo_2 : decode cX12_isTalkedTo 2 = .ok (.invokevirtual 242, 3) := by decide +kernel
theorem dX12_isTalkedTo_5 : decode cX12_isTalkedTo 5 = .ok (.ifCond .le 16, 3) := by decide +kernel
theorem dX12_isTalkedTo_8 : decode cX12_isTalkedTo 8 = .ok (.aload_n 0, 1) := by decide +kernel
theorem dX12_isTalkedTo_9 : decode cX12_isTalkedTo 9 = .ok (.getfield 40, 3) := by decide +kernel
theorem dX12_isTalkedTo_12 : decode cX12_isTalkedTo 12 = .ok (.iload_n 1, 1) := by decide +kernel
theorem dX12_isTalkedTo_13 : decode cX12_isTalkedTo 13 = .ok (.iaload, 1) := by decide +kernel
theorem dX12_isTalkedTo_14 : decode cX12_isTalkedTo 14 = .ok (.ifCond .le 7, 3) := by decide +kernel
theorem dX12_isTalkedTo_17 : decode cX12_isTalkedTo 17 = .ok (.iconst 1, 1) := by decide +kernel
theorem dX12_isTalkedTo_18 : decode cX12_isTalkedTo 18 = .ok (.goto 4, 3) := by decide +kernel
theorem dX12_isTalkedTo_21 : decode cX12_isTalkedTo 21 = .ok (.iconst 0, 1) := by decide +kernel
theorem dX12_isTalkedTo_22 : decode cX12_isTalkedTo 22 = .ok (.ireturn, 1) := by decide +kernel
theorem dX12_tell_0 : decode cX12_tell 0 = .ok (.aload_n 0, 1) := by decide +kernel
theorem dX12_tell_1 : decode cX12_tell 1 = .ok (.iload_n 1, 1) := by decide +kernel
theorem dX12_tell_2 : decode cX12_tell 2 = .ok (.invokevirtual 236, 3) := by decide +kernel
theorem dX12_tell_5 : decode cX12_tell 5 = .ok (.ifCond .eq 15, 3) := by decide +kernel
theorem dX12_tell_8 : decode cX12_tell 8 = .ok (.iload_n 2, 1) := by decide +kernel
theorem dX12_tell_9 : decode cX12_tell 9 = .ok (.i2l, 1) := by decide +kernel
theorem dX12_tell_10 : decode cX12_tell 10 = .ok (.lconst 1, 1) := by decide +kernel
theorem dX12_tell_11 : decode cX12_tell 11 = .ok (.ldc2_w 253, 3) := by decide +kernel
theorem dX12_tell_14 : decode cX12_tell 14 = .ok (.invokestatic 145, 3) := by decide +kernel
theorem dX12_tell_17 : decode cX12_tell 17 = .ok (.ifCond .ne 5, 3) := by decide +kernel
theorem dX12_tell_20 : decode cX12_tell 20 = .ok (.iconst (-1), 1) := by decide +kernel
theorem dX12_tell_21 : decode cX12_tell 21 = .ok (.ireturn, 1) := by decide +kernel
theorem dX12_tell_22 : decode cX12_tell 22 = .ok (.iconst 2, 1) := by decide +kernel
theorem dX12_tell_23 : decode cX12_tell 23 = .ok (.iload_n 1, 1) := by decide +kernel
theorem dX12_tell_24 : decode cX12_tell 24 = .ok (.imul, 1) := by decide +kernel
theorem dX12_tell_25 : decode cX12_tell 25 = .ok (.istore_n 3, 1) := by decide +kernel
theorem dX12_tell_26 : decode cX12_tell 26 = .ok (.aload_n 0, 1) := by decide +kernel
theorem dX12_tell_27 : decode cX12_tell 27 = .ok (.getfield 64, 3) := by decide +kernel
theorem dX12_tell_30 : decode cX12_tell 30 = .ok (.iload_n 3, 1) := by decide +kernel
theorem dX12_tell_31 : decode cX12_tell 31 = .ok (.iaload, 1) := by decide +kernel
theorem dX12_tell_32 : decode cX12_tell 32 = .ok (.iconst 4, 1) := by decide +kernel
theorem dX12_tell_33 : decode cX12_tell 33 = .ok (.if_icmp .ne 6, 3) := by decide +kernel
theorem dX12_tell_36 : decode cX12_tell 36 = .ok (.bipush (-3), 2) := by decide +kernel
theorem dX12_tell_38 : decode cX12_tell 38 = .ok (.ireturn, 1) := by decide +kernel
theorem dX12_tell_39 : decode cX12_tell 39 = .ok (.aload_n 0, 1) := by decide +kernel
theorem dX12_tell_40 : decode cX12_tell 40 = .ok (.getfield 61, 3) := by decide +kernel
theorem dX12_tell_43 : decode cX12_tell 43 = .ok (.iconst 4, 1) := by decide +kernel
theorem dX12_tell_44 : decode cX12_tell 44 = .ok (.iload_n 3, 1) := by decide +kernel
theorem dX12_tell_45 : decode cX12_tell 45 = .ok (.imul, 1) := by decide +kernel
theorem dX12_tell_46 : decode cX12_tell 46 = .ok (.aload_n 0, 1) := by decide +kernel
theorem dX12_tell_47 : decode cX12_tell 47 = .ok (.getfield 64, 3) := by decide +kernel
theorem dX12_tell_50 : decode cX12_tell 50 = .ok (.iload_n 3, 1) := by decide +kernel
theorem dX12_tell_51 : decode cX12_tell 51 = .ok (.iaload, 1) := by decide +kernel
theorem dX12_tell_52 : decode cX12_tell 52 = .ok (.iadd, 1) := by decide +kernel
theorem dX12_tell_53 : decode cX12_tell 53 = .ok (.iload_n 2, 1) := by decide +kernel
theorem dX12_tell_54 : decode cX12_tell 54 = .ok (.iastore, 1) := by decide +kernel
theorem dX12_tell_55 : decode cX12_tell 55 = .ok (.aload_n 0, 1) := by decide +kernel
theorem dX12_tell_56 : decode cX12_tell 56 = .ok (.getfield 64, 3) := by decide +kernel
theorem dX12_tell_59 : decode cX12_tell 59 = .ok (.iload_n 3, 1) := by decide +kernel
theorem dX12_tell_60 : decode cX12_tell 60 = .ok (.dup2, 1) := by decide +kernel
theorem dX12_tell_61 : decode cX12_tell 61 = .ok (.iaload, 1) := by decide +kernel
theorem dX12_tell_62 : decode cX12_tell 62 = .ok (.iconst 1, 1) := by decide +kernel
theorem dX12_tell_63 : decode cX12_tell 63 = .ok (.iadd, 1) := by decide +kernel
theorem dX12_tell_64 : decode cX12_tell 64 = .ok (.iastore, 1) := by decide +kernel
theorem dX12_tell_65 : decode cX12_tell 65 = .ok (.aload_n 0, 1) := by decide +kernel
theorem dX12_tell_66 : decode cX12_tell 66 = .ok (.getfield 64, 3) := by decide +kernel
theorem dX12_tell_69 : decode cX12_tell 69 = .ok (.iload_n 3, 1) := by decide +kernel
theorem dX12_tell_70 : decode cX12_tell 70 = .ok (.iaload, 1) := by decide +kernel
theorem dX12_tell_71 : decode cX12_tell 71 = .ok (.ireturn, 1) := by decide +kernel
theorem dX12_takesOff_0 : decode cX12_takesOff 0 = .ok (.aload_n 0, 1) := by decide +kernel
theorem dX12_takesOff_1 : decode cX12_takesOff 1 = .ok (.getfield 61, 3) := by decide +kernel
theorem dX12_takesOff_4 : decode cX12_takesOff 4 = .ok (.iconst 4, 1) := by decide +kernel
theorem dX12_takesOff_5 : decode cX12_takesOff 5 = .ok (.iload_n 1, 1) := by decide +kernel
theorem dX12_takesOff_6 : decode cX12_takesOff 6 = .ok (.imul, 1) := by decide +kernel
theorem dX12_takesOff_7 : decode cX12_takesOff 7 = .ok (.iaload, 1) := by decide +kernel
theorem dX12_takesOff_8 : decode cX12_takesOff 8 = .ok (.istore_n 2, 1) := by decide +kernel
theorem dX12_takesOff_9 : decode cX12_takesOff 9 = .ok (.aload_n 0, 1) := by decide +kernel
theorem dX12_takesOff_10 : decode cX12_takesOff 10 = .ok (.getfield 64, 3) := by decide +kernel
theorem dX12_takesOff_13 : decode cX12_takesOff 13 = .ok (.iload_n 1, 1) := by decide +kernel
theorem dX12_takesOff_14 : decode cX12_takesOff 14 = .ok (.dup2, 1) := by decide +kernel
theorem dX12_takesOff_15 : decode cX12_takesOff 15 = .ok (.iaload, 1) := by decide +kernel
theorem dX12_takesOff_16 : decode cX12_takesOff 16 = .ok (.iconst 1, 1) := by decide +kernel
theorem dX12_takesOff_17 : decode cX12_takesOff 17 = .ok (.isub, 1) := by decide +kernel
theorem dX12_takesOff_18 : decode cX12_takesOff 18 = .ok (.iastore, 1) := by decide +kernel
theorem dX12_takesOff_19 : decode cX12_takesOff 19 = .ok (.iconst 0, 1) := by decide +kernel
theorem dX12_takesOff_20 : decode cX12_takesOff 20 = .ok (.istore_n 3, 1) := by decide +kernel
theorem dX12_takesOff_21 : decode cX12_takesOff 21 = .ok (.iload_n 3, 1) := by decide +kernel
theorem dX12_takesOff_22 : decode cX12_takesOff 22 = .ok (.aload_n 0, 1) := by decide +kernel
theorem dX12_takesOff_23 : decode cX12_takesOff 23 = .ok (.getfield 64, 3) := by decide +kernel
theorem dX12_takesOff_26 : decode cX12_takesOff 26 = .ok (.iload_n 1, 1) := by decide +kernel
theorem dX12_takesOff_27 : decode cX12_takesOff 27 = .ok (.iaload, 1) := by decide +kernel
theorem dX12_takesOff_28 : decode cX12_takesOff 28 = .ok (.if_icmp .ge 31, 3) := by decide +kernel
theorem dX12_takesOff_31 : decode cX12_takesOff 31 = .ok (.aload_n 0, 1) := by decide +kernel
theorem dX12_takesOff_32 : decode cX12_takesOff 32 = .ok (.getfield 61, 3) := by decide +kernel
theorem dX12_takesOff_35 : decode cX12_takesOff 35 = .ok (.iconst 4, 1) := by decide +kernel
theorem dX12_takesOff_36 : decode cX12_takesOff 36 = .ok (.iload_n 1, 1) := by decide +kernel
theorem dX12_takesOff_37 : decode cX12_takesOff 37 = .ok (.imul, 1) := by decide +kernel
theorem dX12_takesOff_38 : decode cX12_takesOff 38 = .ok (.iload_n 3, 1) := by decide +kernel
theorem dX12_takesOff_39 : decode cX12_takesOff 39 = .ok (.iadd, 1) := by decide +kernel
theorem dX12_takesOff_40 : decode cX12_takesOff 40 = .ok (.aload_n 0, 1) := by decide +kernel
theorem dX12_takesOff_41 : decode cX12_takesOff 41 = .ok (.getfield 61, 3) := by decide +kernel
theorem dX12_takesOff_44 : decode cX12_takesOff 44 = .ok (.iconst 4, 1) := by decide +kernel
theorem dX12_takesOff_45 : decode cX12_takesOff 45 = .ok (.iload_n 1, 1) := by decide +kernel
theorem dX12_takesOff_46 : decode cX12_takesOff 46 = .ok (.imul, 1) := by decide +kernel
theorem dX12_takesOff_47 : decode cX12_takesOff 47 = .ok (.iload_n 3, 1) := by decide +kernel
theorem dX12_takesOff_48 : decode cX12_takesOff 48 = .ok (.iadd, 1) := by decide +kernel
theorem dX12_takesOff_49 : decode cX12_takesOff 49 = .ok (.iconst 1, 1) := by decide +kernel
theorem dX12_takesOff_50 : decode cX12_takesOff 50 = .ok (.iadd, 1) := by decide +kernel
theorem dX12_takesOff_51 : decode cX12_takesOff 51 = .ok (.iaload, 1) := by decide +kernel
theorem dX12_takesOff_52 : decode cX12_takesOff 52 = .ok (.iastore, 1) := by decide +kernel
theorem dX12_takesOff_53 : decode cX12_takesOff 53 = .ok (.iinc 3 1, 3) := by decide +kernel
theorem dX12_takesOff_56 : decode cX12_takesOff 56 = .ok (.goto (-35), 3) := by decide +kernel
theorem dX12_takesOff_59 : decode cX12_takesOff 59 = .ok (.iload_n 2, 1) := by decide +kernel
theorem dX12_takesOff_60 : decode cX12_takesOff 60 = .ok (.ireturn, 1) := by decide +kernel
theorem dX12_take_0 : decode cX12_take 0 = .ok (.aload_n 0, 1) := by decide +kernel
theorem dX12_take_1 : decode cX12_take 1 = .ok (.iload_n 1, 1) := by decide +kernel
theorem dX12_take_2 : decode cX12_take 2 = .ok (.invokevirtual 236, 3) := by decide +kernel
theorem dX12_take_5 : decode cX12_take 5 = .ok (.ifCond .ne 5, 3) := by decide +kernel
theorem dX12_take_8 : decode cX12_take 8 = .ok (.iconst (-1), 1) := by decide +kernel
theorem dX12_take_9 : decode cX12_take 9 = .ok (.ireturn, 1) := by decide +kernel
theorem dX12_take_10 : decode cX12_take 10 = .ok (.aload_n 0, 1) := by decide +kernel
theorem dX12_take_11 : decode cX12_take 11 = .ok (.getfield 64, 3) := by decide +kernel
theorem dX12_take_14 : decode cX12_take 14 = .ok (.iconst 2, 1) := by decide +kernel
theorem dX12_take_15 : decode cX12_take 15 = .ok (.iload_n 1, 1) := by decide +kernel
theorem dX12_take_16 : decode cX12_take 16 = .ok (.imul, 1) := by decide +kernel
theorem dX12_take_17 : decode cX12_take 17 = .ok (.iconst 1, 1) := by decide +kernel
theorem dX12_take_18 : decode cX12_take 18 = .ok (.iadd, 1) := by decide +kernel
theorem dX12_take_19 : decode cX12_take 19 = .ok (.iaload, 1) := by decide +kernel
theorem dX12_take_20 : decode cX12_take 20 = .ok (.ifCond .ne 8, 3) := by decide +kernel
theorem dX12_take_23 : decode cX12_take 23 = .ok (.bipush (-4), 2) := by decide +kernel
theorem dX12_take_25 : decode cX12_take 25 = .ok (.goto 12, 3) := by decide +kernel
theorem dX12_take_28 : decode cX12_take 28 = .ok (.aload_n 0, 1) := by decide +kernel
theorem dX12_take_29 : decode cX12_take 29 = .ok (.iconst 2, 1) := by decide +kernel
theorem dX12_take_30 : decode cX12_take 30 = .ok (.iload_n 1, 1) := by decide +kernel
theorem dX12_take_31 : decode cX12_take 31 = .ok (.imul, 1) := by decide +kernel
theorem dX12_take_32 : decode cX12_take 32 = .ok (.iconst 1, 1) := by decide +kernel
theorem dX12_take_33 : decode cX12_take 33 = .ok (.iadd, 1) := by decide +kernel
theorem dX12_take_34 : decode cX12_take 34 = .ok (.invokevirtual 318, 3) := by decide +kernel
theorem dX12_take_37 : decode cX12_take 37 = .ok (.ireturn, 1) := by decide +kernel
theorem dX12_fetch_0 : decode cX12_fetch 0 = .ok (.aload_n 0, 1) := by decide +kernel
theorem dX12_fetch_1 : decode cX12_fetch 1 = .ok (.iload_n 1, 1) := by decide +kernel
theorem dX12_fetch_2 : decode cX12_fetch 2 = .ok (.invokevirtual 236, 3) := by decide +kernel
theorem dX12_fetch_5 : decode cX12_fetch 5 = .ok (.ifCond .ne 5, 3) := by decide +kernel
theorem dX12_fetch_8 : decode cX12_fetch 8 = .ok (.iconst (-1), 1) := by decide +kernel
theorem dX12_fetch_9 : decode cX12_fetch 9 = .ok (.ireturn, 1) := by decide +kernel
theorem dX12_fetch_10 : decode cX12_fetch 10 = .ok (.aload_n 0, 1) := by decide +kernel
theorem dX12_fetch_11 : decode cX12_fetch 11 = .ok (.iload_n 1, 1) := by decide +kernel
theorem dX12_fetch_12 : decode cX12_fetch 12 = .ok (.invokevirtual 321, 3) := by decide +kernel
theorem dX12_fetch_15 : decode cX12_fetch 15 = .ok (.ifCond .ne 6, 3) := by decide +kernel
theorem dX12_fetch_18 : decode cX12_fetch 18 = .ok (.bipush (-2), 2) := by decide +kernel
theorem dX12_fetch_20 : decode cX12_fetch 20 = .ok (.ireturn, 1) := by decide +kernel
theorem dX12_fetch_21 : decode cX12_fetch 21 = .ok (.iconst 2, 1) := by decide +kernel
theorem dX12_fetch_22 : decode cX12_fetch 22 = .ok (.iload_n 1, 1) := by decide +kernel
theorem dX12_fetch_23 : decode cX12_fetch 23 = .ok (.imul, 1) := by decide +kernel
theorem dX12_fetch_24 : decode cX12_fetch 24 = .ok (.istore_n 2, 1) := by decide +kernel
theorem dX12_fetch_25 : decode cX12_fetch 25 = .ok (.aload_n 0, 1) := by decide +kernel
theorem dX12_fetch_26 : decode cX12_fetch 26 = .ok (.getfield 73, 3) := by decide +kernel
theorem dX12_fetch_29 : decode cX12_fetch 29 = .ok (.iload_n 1, 1) := by decide +kernel
theorem dX12_fetch_30 : decode cX12_fetch 30 = .ok (.iaload, 1) := by decide +kernel
theorem dX12_fetch_31 : decode cX12_fetch 31 = .ok (.istore_n 3, 1) := by decide +kernel
theorem dX12_fetch_32 : decode cX12_fetch 32 = .ok (.aload_n 0, 1) := by decide +kernel
theorem dX12_fetch_33 : decode cX12_fetch 33 = .ok (.getfield 70, 3) := by decide +kernel
theorem dX12_fetch_36 : decode cX12_fetch 36 = .ok (.iload_n 2, 1) := by decide +kernel
theorem dX12_fetch_37 : decode cX12_fetch 37 = .ok (.iaload, 1) := by decide +kernel
theorem dX12_fetch_38 : decode cX12_fetch 38 = .ok (.aload_n 0, 1) := by decide +kernel
theorem dX12_fetch_39 : decode cX12_fetch 39 = .ok (.getfield 67, 3) := by decide +kernel
theorem dX12_fetch_42 : decode cX12_fetch 42 = .ok (.iload_n 2, 1) := by decide +kernel
theorem dX12_fetch_43 : decode cX12_fetch 43 = .ok (.iaload, 1) := by decide +kernel
theorem dX12_fetch_44 : decode cX12_fetch 44 = .ok (.if_icmp .eq 40, 3) := by decide +kernel
theorem dX12_fetch_47 : decode cX12_fetch 47 = .ok (.bipush (-4), 2) := by decide +kernel
theorem dX12_fetch_49 : decode cX12_fetch 49 = .ok (.istore_n 3, 1) := by decide +kernel
theorem dX12_fetch_50 : decode cX12_fetch 50 = .ok (.aload_n 0, 1) := by decide +kernel
theorem dX12_fetch_51 : decode cX12_fetch 51 = .ok (.getfield 64, 3) := by decide +kernel
theorem dX12_fetch_54 : decode cX12_fetch 54 = .ok (.iload_n 2, 1) := by decide +kernel
theorem dX12_fetch_55 : decode cX12_fetch 55 = .ok (.iaload, 1) := by decide +kernel
theorem dX12_fetch_56 : decode cX12_fetch 56 = .ok (.ifCond .le 28, 3) := by decide +kernel
theorem dX12_fetch_59 : decode cX12_fetch 59 = .ok (.aload_n 0, 1) := by decide +kernel
theorem dX12_fetch_60 : decode cX12_fetch 60 = .ok (.iload_n 2, 1) := by decide +kernel
theorem dX12_fetch_61 : decode cX12_fetch 61 = .ok (.invokevirtual 318, 3) := by decide +kernel
theorem dX12_fetch_64 : decode cX12_fetch 64 = .ok (.istore_n 3, 1) := by decide +kernel
theorem dX12_fetch_65 : decode cX12_fetch 65 = .ok (.aload_n 0, 1) := by decide +kernel
theorem dX12_fetch_66 : decode cX12_fetch 66 = .ok (.getfield 73, 3) := by decide +kernel
theorem dX12_fetch_69 : decode cX12_fetch 69 = .ok (.iload_n 1, 1) := by decide +kernel
theorem dX12_fetch_70 : decode cX12_fetch 70 = .ok (.iload_n 3, 1) := by decide +kernel
theorem dX12_fetch_71 : decode cX12_fetch 71 = .ok (.iastore, 1) := by decide +kernel
theorem dX12_fetch_72 : decode cX12_fetch 72 = .ok (.aload_n 0, 1) := by decide +kernel
theorem dX12_fetch_73 : decode cX12_fetch 73 = .ok (.getfield 67, 3) := by decide +kernel
theorem dX12_fetch_76 : decode cX12_fetch 76 = .ok (.iload_n 2, 1) := by decide +kernel
theorem dX12_fetch_77 : decode cX12_fetch 77 = .ok (.aload_n 0, 1) := by decide +kernel
theorem dX12_fetch_78 : decode cX12_fetch 78 = .ok (.getfield 70, 3) := by decide +kernel
theorem dX12_fetch_81 : decode cX12_fetch 81 = .ok (.iload_n 2, 1) := by decide +kernel
theorem dX12_fetch_82 : decode cX12_fetch 82 = .ok (.iaload, 1) := by decide +kernel
theorem dX12_fetch_83 : decode cX12_fetch 83 = .ok (.iastore, 1) := by decide +kernel
theorem dX12_fetch_84 : decode cX12_fetch 84 = .ok (.aload_n 0, 1) := by decide +kernel
theorem dX12_fetch_85 : decode cX12_fetch 85 = .ok (.dup, 1) := by decide +kernel
theorem dX12_fetch_86 : decode cX12_fetch 86 = .ok (.getfield 193, 3) := by decide +kernel
theorem dX12_fetch_89 : decode cX12_fetch 89 = .ok (.aload_n 0, 1) := by decide +kernel
theorem dX12_fetch_90 : decode cX12_fetch 90 = .ok (.invokevirtual 304, 3) := by decide +kernel
theorem dX12_fetch_93 : decode cX12_fetch 93 = .ok (.iadd, 1) := by decide +kernel
theorem dX12_fetch_94 : decode cX12_fetch 94 = .ok (.putfield 193, 3) := by decide +kernel
theorem dX12_fetch_97 : decode cX12_fetch 97 = .ok (.aload_n 0, 1) := by decide +kernel
theorem dX12_fetch_98 : decode cX12_fetch 98 = .ok (.invokevirtual 307, 3) := by decide +kernel
theorem dX12_fetch_101 : decode cX12_fetch 101 = .ok (.ifCond .eq 6, 3) := by decide +kernel
theorem dX12_fetch_104 : decode cX12_fetch 104 = .ok (.bipush (-5), 2) := by decide +kernel
theorem dX12_fetch_106 : decode cX12_fetch 106 = .ok (.ireturn, 1) := by decide +kernel
theorem dX12_fetch_107 : decode cX12_fetch 107 = .ok (.aload_n 0, 1) := by decide +kernel
theorem dX12_fetch_108 : decode cX12_fetch 108 = .ok (.getfield 70, 3) := by decide +kernel
theorem dX12_fetch_111 : decode cX12_fetch 111 = .ok (.iload_n 2, 1) := by decide +kernel
theorem dX12_fetch_112 : decode cX12_fetch 112 = .ok (.iload_n 3, 1) := by decide +kernel
theorem dX12_fetch_113 : decode cX12_fetch 113 = .ok (.bipush (-4), 2) := by decide +kernel
theorem dX12_fetch_115 : decode cX12_fetch 115 = .ok (.if_icmp .ne 12, 3) := by decide +kernel
theorem dX12_fetch_118 : decode cX12_fetch 118 = .ok (.aload_n 0, 1) := by decide +kernel
theorem dX12_fetch_119 : decode cX12_fetch 119 = .ok (.getfield 70, 3) := by decide +kernel
theorem dX12_fetch_122 : decode cX12_fetch 122 = .ok (.iload_n 2, 1) := by decide +kernel
theorem dX12_fetch_123 : decode cX12_fetch 123 = .ok (.iaload, 1) := by decide +kernel
theorem dX12_fetch_124 : decode cX12_fetch 124 = .ok (.goto 11, 3) := by decide +kernel
theorem dX12_fetch_127 : decode cX12_fetch 127 = .ok (.iconst 1, 1) := by decide +kernel
theorem dX12_fetch_128 : decode cX12_fetch 128 = .ok (.aload_n 0, 1) := by decide +kernel
theorem dX12_fetch_129 : decode cX12_fetch 129 = .ok (.getfield 70, 3) := by decide +kernel
theorem dX12_fetch_132 : decode cX12_fetch 132 = .ok (.iload_n 2, 1) := by decide +kernel
theorem dX12_fetch_133 : decode cX12_fetch 133 = .ok (.iaload, 1) := by decide +kernel
theorem dX12_fetch_134 : decode cX12_fetch 134 = .ok (.isub, 1) := by decide +kernel
theorem dX12_fetch_135 : decode cX12_fetch 135 = .ok (.iastore, 1) := by decide +kernel
theorem dX12_fetch_136 : decode cX12_fetch 136 = .ok (.iload_n 3, 1) := by decide +kernel
theorem dX12_fetch_137 : decode cX12_fetch 137 = .ok (.ireturn, 1) := by decide +kernel
theorem dX12_pushes_0 : decode cX12_pushes 0 = .ok (.iconst 2, 1) := by decide +kernel
theorem dX12_pushes_1 : decode cX12_pushes 1 = .ok (.iload_n 1, 1) := by decide +kernel
theorem dX12_pushes_2 : decode cX12_pushes 2 = .ok (.imul, 1) := by decide +kernel
theorem dX12_pushes_3 : decode cX12_pushes 3 = .ok (.iconst 1, 1) := by decide +kernel
theorem dX12_pushes_4 : decode cX12_pushes 4 = .ok (.iadd, 1) := by decide +kernel
theorem dX12_pushes_5 : decode cX12_pushes 5 = .ok (.istore_n 2, 1) := by decide +kernel
theorem dX12_pushes_6 : decode cX12_pushes 6 = .ok (.aload_n 0, 1) := by decide +kernel
theorem dX12_pushes_7 : decode cX12_pushes 7 = .ok (.getfield 70, 3) := by decide +kernel
theorem dX12_pushes_10 : decode cX12_pushes 10 = .ok (.iload_n 2, 1) := by decide +kernel
theorem dX12_pushes_11 : decode cX12_pushes 11 = .ok (.iaload, 1) := by decide +kernel
theorem dX12_pushes_12 : decode cX12_pushes 12 = .ok (.aload_n 0, 1) := by decide +kernel
theorem dX12_pushes_13 : decode cX12_pushes 13 = .ok (.getfield 67, 3) := by decide +kernel
theorem dX12_pushes_16 : decode cX12_pushes 16 = .ok (.iload_n 2, 1) := by decide +kernel
theorem dX12_pushes_17 : decode cX12_pushes 17 = .ok (.iaload, 1) := by decide +kernel
theorem dX12_pushes_18 : decode cX12_pushes 18 = .ok (.if_icmp .ne 7, 3) := by decide +kernel
theorem dX12_pushes_21 : decode cX12_pushes 21 = .ok (.iconst 1, 1) := by decide +kernel
theorem dX12_pushes_22 : decode cX12_pushes 22 = .ok (.goto 4, 3) := by decide +kernel
theorem dX12_pushes_25 : decode cX12_pushes 25 = .ok (.iconst 0, 1) := by decide +kernel
theorem dX12_pushes_26 : decode cX12_pushes 26 = .ok (.istore_n 3, 1) := by decide +kernel
theorem dX12_pushes_27 : decode cX12_pushes 27 = .ok (.iload_n 3, 1) := by decide +kernel
theorem dX12_pushes_28 : decode cX12_pushes 28 = .ok (.ifCond .ne 58, 3) := by decide +kernel
theorem dX12_pushes_31 : decode cX12_pushes 31 = .ok (.aload_n 0, 1) := by decide +kernel
theorem dX12_pushes_32 : decode cX12_pushes 32 = .ok (.getfield 64, 3) := by decide +kernel
theorem dX12_pushes_35 : decode cX12_pushes 35 = .ok (.iload_n 2, 1) := by decide +kernel
theorem dX12_pushes_36 : decode cX12_pushes 36 = .ok (.iaload, 1) := by decide +kernel
theorem dX12_pushes_37 : decode cX12_pushes 37 = .ok (.iconst 4, 1) := by decide +kernel
theorem dX12_pushes_38 : decode cX12_pushes 38 = .ok (.if_icmp .ge 48, 3) := by decide +kernel
theorem dX12_pushes_41 : decode cX12_pushes 41 = .ok (.aload_n 0, 1) := by decide +kernel
theorem dX12_pushes_42 : decode cX12_pushes 42 = .ok (.getfield 61, 3) := by decide +kernel
theorem dX12_pushes_45 : decode cX12_pushes 45 = .ok (.iconst 4, 1) := by decide +kernel
theorem dX12_pushes_46 : decode cX12_pushes 46 = .ok (.iload_n 2, 1) := by decide +kernel
theorem dX12_pushes_47 : decode cX12_pushes 47 = .ok (.imul, 1) := by decide +kernel
theorem dX12_pushes_48 : decode cX12_pushes 48 = .ok (.aload_n 0, 1) := by decide +kernel
theorem dX12_pushes_49 : decode cX12_pushes 49 = .ok (.getfield 64, 3) := by decide +kernel
theorem dX12_pushes_52 : decode cX12_pushes 52 = .ok (.iload_n 2, 1) := by decide +kernel
theorem dX12_pushes_53 : decode cX12_pushes 53 = .ok (.iaload, 1) := by decide +kernel
theorem dX12_pushes_54 : decode cX12_pushes 54 = .ok (.iadd, 1) := by decide +kernel
theorem dX12_pushes_55 : decode cX12_pushes 55 = .ok (.aload_n 0, 1) := by decide +kernel
theorem dX12_pushes_56 : decode cX12_pushes 56 = .ok (.getfield 76, 3) := by decide +kernel
theorem dX12_pushes_59 : decode cX12_pushes 59 = .ok (.iload_n 1, 1) := by decide +kernel
theorem dX12_pushes_60 : decode cX12_pushes 60 = .ok (.iaload, 1) := by decide +kernel
theorem dX12_pushes_61 : decode cX12_pushes 61 = .ok (.iastore, 1) := by decide +kernel
theorem dX12_pushes_62 : decode cX12_pushes 62 = .ok (.aload_n 0, 1) := by decide +kernel
theorem dX12_pushes_63 : decode cX12_pushes 63 = .ok (.getfield 64, 3) := by decide +kernel
theorem dX12_pushes_66 : decode cX12_pushes 66 = .ok (.iload_n 2, 1) := by decide +kernel
theorem dX12_pushes_67 : decode cX12_pushes 67 = .ok (.dup2, 1) := by decide +kernel
theorem dX12_pushes_68 : decode cX12_pushes 68 = .ok (.iaload, 1) := by decide +kernel
theorem dX12_pushes_69 : decode cX12_pushes 69 = .ok (.iconst 1, 1) := by decide +kernel
theorem dX12_pushes_70 : decode cX12_pushes 70 = .ok (.iadd, 1) := by decide +kernel
theorem dX12_pushes_71 : decode cX12_pushes 71 = .ok (.iastore, 1) := by decide +kernel
theorem dX12_pushes_72 : decode cX12_pushes 72 = .ok (.aload_n 0, 1) := by decide +kernel
theorem dX12_pushes_73 : decode cX12_pushes 73 = .ok (.getfield 67, 3) := by decide +kernel
theorem dX12_pushes_76 : decode cX12_pushes 76 = .ok (.iload_n 2, 1) := by decide +kernel
theorem dX12_pushes_77 : decode cX12_pushes 77 = .ok (.aload_n 0, 1) := by decide +kernel
theorem dX12_pushes_78 : decode cX12_pushes 78 = .ok (.getfield 70, 3) := by decide +kernel
theorem dX12_pushes_81 : decode cX12_pushes 81 = .ok (.iload_n 2, 1) := by decide +kernel
theorem dX12_pushes_82 : decode cX12_pushes 82 = .ok (.iaload, 1) := by decide +kernel
theorem dX12_pushes_83 : decode cX12_pushes 83 = .ok (.iastore, 1) := by decide +kernel
theorem dX12_pushes_84 : decode cX12_pushes 84 = .ok (.iconst 1, 1) := by decide +kernel
theorem dX12_pushes_85 : decode cX12_pushes 85 = .ok (.istore_n 3, 1) := by decide +kernel
theorem dX12_pushes_86 : decode cX12_pushes 86 = .ok (.aload_n 0, 1) := by decide +kernel
theorem dX12_pushes_87 : decode cX12_pushes 87 = .ok (.dup, 1) := by decide +kernel
theorem dX12_pushes_88 : decode cX12_pushes 88 = .ok (.getfield 193, 3) := by decide +kernel
theorem dX12_pushes_91 : decode cX12_pushes 91 = .ok (.aload_n 0, 1) := by decide +kernel
theorem dX12_pushes_92 : decode cX12_pushes 92 = .ok (.invokevirtual 304, 3) := by decide +kernel
theorem dX12_pushes_95 : decode cX12_pushes 95 = .ok (.iadd, 1) := by decide +kernel
theorem dX12_pushes_96 : decode cX12_pushes 96 = .ok (.putfield 193, 3) := by decide +kernel
theorem dX12_pushes_99 : decode cX12_pushes 99 = .ok (.aload_n 0, 1) := by decide +kernel
theorem dX12_pushes_100 : decode cX12_pushes 100 = .ok (.invokevirtual 307, 3) := by decide +kernel
theorem dX12_pushes_103 : decode cX12_pushes 103 = .ok (.ifCond .eq 6, 3) := by decide +kernel
theorem dX12_pushes_106 : decode cX12_pushes 106 = .ok (.bipush (-5), 2) := by decide +kernel
theorem dX12_pushes_108 : decode cX12_pushes 108 = .ok (.ireturn, 1) := by decide +kernel
theorem dX12_pushes_109 : decode cX12_pushes 109 = .ok (.iload_n 3, 1) := by decide +kernel
theorem dX12_pushes_110 : decode cX12_pushes 110 = .ok (.ifCond .ne 6, 3) := by decide +kernel
theorem dX12_pushes_113 : decode cX12_pushes 113 = .ok (.bipush (-3), 2) := by decide +kernel
theorem dX12_pushes_115 : decode cX12_pushes 115 = .ok (.ireturn, 1) := by decide +kernel
theorem dX12_pushes_116 : decode cX12_pushes 116 = .ok (.aload_n 0, 1) := by decide +kernel
theorem dX12_pushes_117 : decode cX12_pushes 117 = .ok (.getfield 70, 3) := by decide +kernel
theorem dX12_pushes_120 : decode cX12_pushes 120 = .ok (.iload_n 2, 1) := by decide +kernel
theorem dX12_pushes_121 : decode cX12_pushes 121 = .ok (.iconst 1, 1) := by decide +kernel
theorem dX12_pushes_122 : decode cX12_pushes 122 = .ok (.aload_n 0, 1) := by decide +kernel
theorem dX12_pushes_123 : decode cX12_pushes 123 = .ok (.getfield 70, 3) := by decide +kernel
theorem dX12_pushes_126 : decode cX12_pushes 126 = .ok (.iload_n 2, 1) := by decide +kernel
theorem dX12_pushes_127 : decode cX12_pushes 127 = .ok (.iaload, 1) := by decide +kernel
theorem dX12_pushes_128 : decode cX12_pushes 128 = .ok (.isub, 1) := by decide +kernel
theorem dX12_pushes_129 : decode cX12_pushes 129 = .ok (.iastore, 1) := by decide +kernel
theorem dX12_pushes_130 : decode cX12_pushes 130 = .ok (.aload_n 0, 1) := by decide +kernel
theorem dX12_pushes_131 : decode cX12_pushes 131 = .ok (.getfield 76, 3) := by decide +kernel
theorem dX12_pushes_134 : decode cX12_pushes 134 = .ok (.iload_n 1, 1) := by decide +kernel
theorem dX12_pushes_135 : decode cX12_pushes 135 = .ok (.bipush (-4), 2) := by decide +kernel
theorem dX12_pushes_137 : decode cX12_pushes 137 = .ok (.iastore, 1) := by decide +kernel
theorem dX12_pushes_138 : decode cX12_pushes 138 = .ok (.aload_n 0, 1) := by decide +kernel
theorem dX12_pushes_139 : decode cX12_pushes 139 = .ok (.getfield 64, 3) := by decide +kernel
theorem dX12_pushes_142 : decode cX12_pushes 142 = .ok (.iload_n 2, 1) := by decide +kernel
theorem dX12_pushes_143 : decode cX12_pushes 143 = .ok (.iaload, 1) := by decide +kernel
theorem dX12_pushes_144 : decode cX12_pushes 144 = .ok (.ireturn, 1) := by decide +kernel
theorem dX12_push_0 : decode cX12_push 0 = .ok (.aload_n 0, 1) := by decide +kernel
theorem dX12_push_1 : decode cX12_push 1 = .ok (.iload_n 1, 1) := by decide +kernel
theorem dX12_push_2 : decode cX12_push 2 = .ok (.invokevirtual 236, 3) := by decide +kernel
theorem dX12_push_5 : decode cX12_push 5 = .ok (.ifCond .eq 15, 3) := by decide +kernel
theorem dX12_push_8 : decode cX12_push 8 = .ok (.iload_n 2, 1) := by decide +kernel
theorem dX12_push_9 : decode cX12_push 9 = .ok (.i2l, 1) := by decide +kernel
theorem dX12_push_10 : decode cX12_push 10 = .ok (.lconst 1, 1) := by decide +kernel
theorem dX12_push_11 : decode cX12_push 11 = .ok (.ldc2_w 253, 3) := by decide +kernel
theorem dX12_push_14 : decode cX12_push 14 = .ok (.invokestatic 145, 3) := by decide +kernel
theorem dX12_push_17 : decode cX12_push 17 = .ok (.ifCond .ne 5, 3) := by decide +kernel
theorem dX12_push_20 : decode cX12_push 20 = .ok (.iconst (-1), 1) := by decide +kernel
theorem dX12_push_21 : decode cX12_push 21 = .ok (.ireturn, 1) := by decide +kernel
theorem dX12_push_22 : decode cX12_push 22 = .ok (.aload_n 0, 1) := by decide +kernel
theorem dX12_push_23 : decode cX12_push 23 = .ok (.iload_n 1, 1) := by decide +kernel
theorem dX12_push_24 : decode cX12_push 24 = .ok (.invokevirtual 321, 3) := by decide +kernel
theorem dX12_push_27 : decode cX12_push 27 = .ok (.ifCond .eq 14, 3) := by decide +kernel
theorem dX12_push_30 : decode cX12_push 30 = .ok (.aload_n 0, 1) := by decide +kernel
theorem dX12_push_31 : decode cX12_push 31 = .ok (.getfield 76, 3) := by decide +kernel
theorem dX12_push_34 : decode cX12_push 34 = .ok (.iload_n 1, 1) := by decide +kernel
theorem dX12_push_35 : decode cX12_push 35 = .ok (.iaload, 1) := by decide +kernel
theorem dX12_push_36 : decode cX12_push 36 = .ok (.bipush (-4), 2) := by decide +kernel
theorem dX12_push_38 : decode cX12_push 38 = .ok (.if_icmp .eq 6, 3) := by decide +kernel
theorem dX12_push_41 : decode cX12_push 41 = .ok (.bipush (-2), 2) := by decide +kernel
theorem dX12_push_43 : decode cX12_push 43 = .ok (.ireturn, 1) := by decide +kernel
theorem dX12_push_44 : decode cX12_push 44 = .ok (.aload_n 0, 1) := by decide +kernel
theorem dX12_push_45 : decode cX12_push 45 = .ok (.getfield 76, 3) := by decide +kernel
theorem dX12_push_48 : decode cX12_push 48 = .ok (.iload_n 1, 1) := by decide +kernel
theorem dX12_push_49 : decode cX12_push 49 = .ok (.iload_n 2, 1) := by decide +kernel
theorem dX12_push_50 : decode cX12_push 50 = .ok (.iastore, 1) := by decide +kernel
theorem dX12_push_51 : decode cX12_push 51 = .ok (.aload_n 0, 1) := by decide +kernel
theorem dX12_push_52 : decode cX12_push 52 = .ok (.iload_n 1, 1) := by decide +kernel
theorem dX12_push_53 : decode cX12_push 53 = .ok (.invokevirtual 324, 3) := by decide +kernel
theorem dX12_push_56 : decode cX12_push 56 = .ok (.istore_n 3, 1) := by decide +kernel
theorem dX12_push_57 : decode cX12_push 57 = .ok (.iload_n 3, 1) := by decide +kernel
theorem dX12_push_58 : decode cX12_push 58 = .ok (.bipush (-3), 2) := by decide +kernel
theorem dX12_push_60 : decode cX12_push 60 = .ok (.if_icmp .ne 11, 3) := by decide +kernel
theorem dX12_push_63 : decode cX12_push 63 = .ok (.aload_n 0, 1) := by decide +kernel
theorem dX12_push_64 : decode cX12_push 64 = .ok (.getfield 76, 3) := by decide +kernel
theorem dX12_push_67 : decode cX12_push 67 = .ok (.iload_n 1, 1) := by decide +kernel
theorem dX12_push_68 : decode cX12_push 68 = .ok (.bipush (-4), 2) := by decide +kernel
theorem dX12_push_70 : decode cX12_push 70 = .ok (.iastore, 1) := by decide +kernel
theorem dX12_push_71 : decode cX12_push 71 = .ok (.iload_n 3, 1) := by decide +kernel
theorem dX12_push_72 : decode cX12_push 72 = .ok (.ireturn, 1) := by decide +kernel
theorem dX12_again_0 : decode cX12_again 0 = .ok (.aload_n 0, 1) := by decide +kernel
theorem dX12_again_1 : decode cX12_again 1 = .ok (.iload_n 1, 1) := by decide +kernel
theorem dX12_again_2 : decode cX12_again 2 = .ok (.invokevirtual 236, 3) := by decide +kernel
theorem dX12_again_5 : decode cX12_again 5 = .ok (.ifCond .ne 5, 3) := by decide +kernel
theorem dX12_again_8 : decode cX12_again 8 = .ok (.iconst (-1), 1) := by decide +kernel
theorem dX12_again_9 : decode cX12_again 9 = .ok (.ireturn, 1) := by decide +kernel
theorem dX12_again_10 : decode cX12_again 10 = .ok (.aload_n 0, 1) := by decide +kernel
theorem dX12_again_11 : decode cX12_again 11 = .ok (.iload_n 1, 1) := by decide +kernel
theorem dX12_again_12 : decode cX12_again 12 = .ok (.invokevirtual 321, 3) := by decide +kernel
theorem dX12_again_15 : decode cX12_again 15 = .ok (.ifCond .eq 22, 3) := by decide +kernel
theorem dX12_again_18 : decode cX12_again 18 = .ok (.aload_n 0, 1) := by decide +kernel
theorem dX12_again_19 : decode cX12_again 19 = .ok (.getfield 76, 3) := by decide +kernel
theorem dX12_again_22 : decode cX12_again 22 = .ok (.iload_n 1, 1) := by decide +kernel
theorem dX12_again_23 : decode cX12_again 23 = .ok (.iaload, 1) := by decide +kernel
theorem dX12_again_24 : decode cX12_again 24 = .ok (.bipush (-4), 2) := by decide +kernel
theorem dX12_again_26 : decode cX12_again 26 = .ok (.if_icmp .eq 11, 3) := by decide +kernel
theorem dX12_again_29 : decode cX12_again 29 = .ok (.aload_n 0, 1) := by decide +kernel
theorem dX12_again_30 : decode cX12_again 30 = .ok (.iload_n 1, 1) := by decide +kernel
theorem dX12_again_31 : decode cX12_again 31 = .ok (.invokevirtual 324, 3) := by decide +kernel
theorem dX12_again_34 : decode cX12_again 34 = .ok (.goto 5, 3) := by decide +kernel
theorem dX12_again_37 : decode cX12_again 37 = .ok (.bipush (-2), 2) := by decide +kernel
theorem dX12_again_39 : decode cX12_again 39 = .ok (.ireturn, 1) := by decide +kernel
theorem dX12_box_0 : decode cX12_box 0 = .ok (.aload_n 0, 1) := by decide +kernel
theorem dX12_box_1 : decode cX12_box 1 = .ok (.iload_n 1, 1) := by decide +kernel
theorem dX12_box_2 : decode cX12_box 2 = .ok (.invokevirtual 236, 3) := by decide +kernel
theorem dX12_box_5 : decode cX12_box 5 = .ok (.ifCond .eq 15, 3) := by decide +kernel
theorem dX12_box_8 : decode cX12_box 8 = .ok (.iload_n 2, 1) := by decide +kernel
theorem dX12_box_9 : decode cX12_box 9 = .ok (.i2l, 1) := by decide +kernel
theorem dX12_box_10 : decode cX12_box 10 = .ok (.lconst 0, 1) := by decide +kernel
theorem dX12_box_11 : decode cX12_box 11 = .ok (.ldc2_w 270, 3) := by decide +kernel
theorem dX12_box_14 : decode cX12_box 14 = .ok (.invokestatic 145, 3) := by decide +kernel
theorem dX12_box_17 : decode cX12_box 17 = .ok (.ifCond .ne 5, 3) := by decide +kernel
theorem dX12_box_20 : decode cX12_box 20 = .ok (.iconst (-1), 1) := by decide +kernel
theorem dX12_box_21 : decode cX12_box 21 = .ok (.ireturn, 1) := by decide +kernel
theorem dX12_box_22 : decode cX12_box 22 = .ok (.iload_n 2, 1) := by decide +kernel
theorem dX12_box_23 : decode cX12_box 23 = .ok (.tableswitch 85 0 6 #[41, 41, 52, 52, 65, 65, 78], 41) := by decide +kernel
theorem dX12_box_64 : decode cX12_box 64 = .ok (.aload_n 0, 1) := by decide +kernel
theorem dX12_box_65 : decode cX12_box 65 = .ok (.getfield 64, 3) := by decide +kernel
theorem dX12_box_68 : decode cX12_box 68 = .ok (.iconst 2, 1) := by decide +kernel
theorem dX12_box_69 : decode cX12_box 69 = .ok (.iload_n 1, 1) := by decide +kernel
theorem dX12_box_70 : decode cX12_box 70 = .ok (.imul, 1) := by decide +kernel
theorem dX12_box_71 : decode cX12_box 71 = .ok (.iload_n 2, 1) := by decide +kernel
theorem dX12_box_72 : decode cX12_box 72 = .ok (.iadd, 1) := by decide +kernel
theorem dX12_box_73 : decode cX12_box 73 = .ok (.iaload, 1) := by decide +kernel
theorem dX12_box_74 : decode cX12_box 74 = .ok (.ireturn, 1) := by decide +kernel
theorem dX12_box_75 : decode cX12_box 75 = .ok (.aload_n 0, 1) := by decide +kernel
theorem dX12_box_76 : decode cX12_box 76 = .ok (.getfield 67, 3) := by decide +kernel
theorem dX12_box_79 : decode cX12_box 79 = .ok (.iconst 2, 1) := by decide +kernel
theorem dX12_box_80 : decode cX12_box 80 = .ok (.iload_n 1, 1) := by decide +kernel
theorem dX12_box_81 : decode cX12_box 81 = .ok (.imul, 1) := by decide +kernel
theorem dX12_box_82 : decode cX12_box 82 = .ok (.iload_n 2, 1) := by decide +kernel
theorem dX12_box_83 : decode cX12_box 83 = .ok (.iadd, 1) := by decide +kernel
theorem dX12_box_84 : decode cX12_box 84 = .ok (.iconst 2, 1) := by decide +kernel
theorem dX12_box_85 : decode cX12_box 85 = .ok (.isub, 1) := by decide +kernel
theorem dX12_box_86 : decode cX12_box 86 = .ok (.iaload, 1) := by decide +kernel
theorem dX12_box_87 : decode cX12_box 87 = .ok (.ireturn, 1) := by decide +kernel
theorem dX12_box_88 : decode cX12_box 88 = .ok (.aload_n 0, 1) := by decide +kernel
theorem dX12_box_89 : decode cX12_box 89 = .ok (.getfield 70, 3) := by decide +kernel
theorem dX12_box_92 : decode cX12_box 92 = .ok (.iconst 2, 1) := by decide +kernel
theorem dX12_box_93 : decode cX12_box 93 = .ok (.iload_n 1, 1) := by decide +kernel
theorem dX12_box_94 : decode cX12_box 94 = .ok (.imul, 1) := by decide +kernel
theorem dX12_box_95 : decode cX12_box 95 = .ok (.iload_n 2, 1) := by decide +kernel
theorem dX12_box_96 : decode cX12_box 96 = .ok (.iadd, 1) := by decide +kernel
theorem dX12_box_97 : decode cX12_box 97 = .ok (.iconst 4, 1) := by decide +kernel
theorem dX12_box_98 : decode cX12_box 98 = .ok (.isub, 1) := by decide +kernel
theorem dX12_box_99 : decode cX12_box 99 = .ok (.iaload, 1) := by decide +kernel
theorem dX12_box_100 : decode cX12_box 100 = .ok (.ireturn, 1) := by decide +kernel
theorem dX12_box_101 : decode cX12_box 101 = .ok (.aload_n 0, 1) := by decide +kernel
theorem dX12_box_102 : decode cX12_box 102 = .ok (.getfield 73, 3) := by decide +kernel
theorem dX12_box_105 : decode cX12_box 105 = .ok (.iload_n 1, 1) := by decide +kernel
theorem dX12_box_106 : decode cX12_box 106 = .ok (.iaload, 1) := by decide +kernel
theorem dX12_box_107 : decode cX12_box 107 = .ok (.ireturn, 1) := by decide +kernel
theorem dX12_box_108 : decode cX12_box 108 = .ok (.aload_n 0, 1) := by decide +kernel
theorem dX12_box_109 : decode cX12_box 109 = .ok (.getfield 76, 3) := by decide +kernel
theorem dX12_box_112 : decode cX12_box 112 = .ok (.iload_n 1, 1) := by decide +kernel
theorem dX12_box_113 : decode cX12_box 113 = .ok (.iaload, 1) := by decide +kernel
theorem dX12_box_114 : decode cX12_box 114 = .ok (.ireturn, 1) := by decide +kernel
theorem dX12_later_0 : decode cX12_later 0 = .ok (.iload_n 1, 1) := by decide +kernel
theorem dX12_later_1 : decode cX12_later 1 = .ok (.i2l, 1) := by decide +kernel
theorem dX12_later_2 : decode cX12_later 2 = .ok (.lconst 1, 1) := by decide +kernel
theorem dX12_later_3 : decode cX12_later 3 = .ok (.ldc2_w 327, 3) := by decide +kernel
theorem dX12_later_6 : decode cX12_later 6 = .ok (.invokestatic 145, 3) := by decide +kernel
theorem dX12_later_9 : decode cX12_later 9 = .ok (.ifCond .ne 5, 3) := by decide +kernel
theorem dX12_later_12 : decode cX12_later 12 = .ok (.iconst (-1), 1) := by decide +kernel
theorem dX12_later_13 : decode cX12_later 13 = .ok (.ireturn, 1) := by decide +kernel
theorem dX12_later_14 : decode cX12_later 14 = .ok (.aload_n 0, 1) := by decide +kernel
theorem dX12_later_15 : decode cX12_later 15 = .ok (.dup, 1) := by decide +kernel
theorem dX12_later_16 : decode cX12_later 16 = .ok (.getfield 193, 3) := by decide +kernel
theorem dX12_later_19 : decode cX12_later 19 = .ok (.iload_n 1, 1) := by decide +kernel
theorem dX12_later_20 : decode cX12_later 20 = .ok (.iadd, 1) := by decide +kernel
theorem dX12_later_21 : decode cX12_later 21 = .ok (.putfield 193, 3) := by decide +kernel
theorem dX12_later_24 : decode cX12_later 24 = .ok (.aload_n 0, 1) := by decide +kernel
theorem dX12_later_25 : decode cX12_later 25 = .ok (.getfield 193, 3) := by decide +kernel
theorem dX12_later_28 : decode cX12_later 28 = .ok (.ireturn, 1) := by decide +kernel
theorem dX12_gone_0 : decode cX12_gone 0 = .ok (.aload_n 0, 1) := by decide +kernel
theorem dX12_gone_1 : decode cX12_gone 1 = .ok (.iload_n 1, 1) := by decide +kernel
theorem dX12_gone_2 : decode cX12_gone 2 = .ok (.aload_n 0, 1) := by decide +kernel
theorem dX12_gone_3 : decode cX12_gone 3 = .ok (.getfield 118, 3) := by decide +kernel
theorem dX12_gone_6 : decode cX12_gone 6 = .ok (.iload_n 1, 1) := by decide +kernel
theorem dX12_gone_7 : decode cX12_gone 7 = .ok (.iaload, 1) := by decide +kernel
theorem dX12_gone_8 : decode cX12_gone 8 = .ok (.invokevirtual 227, 3) := by decide +kernel
theorem dX12_gone_11 : decode cX12_gone 11 = .ok (.aload_n 0, 1) := by decide +kernel
theorem dX12_gone_12 : decode cX12_gone 12 = .ok (.iload_n 1, 1) := by decide +kernel
theorem dX12_gone_13 : decode cX12_gone 13 = .ok (.aload_n 0, 1) := by decide +kernel
theorem dX12_gone_14 : decode cX12_gone 14 = .ok (.getfield 115, 3) := by decide +kernel
theorem dX12_gone_17 : decode cX12_gone 17 = .ok (.iload_n 1, 1) := by decide +kernel
theorem dX12_gone_18 : decode cX12_gone 18 = .ok (.iaload, 1) := by decide +kernel
theorem dX12_gone_19 : decode cX12_gone 19 = .ok (.invokevirtual 227, 3) := by decide +kernel
theorem dX12_gone_22 : decode cX12_gone 22 = .ok (.lsub, 1) := by decide +kernel
theorem dX12_gone_23 : decode cX12_gone 23 = .ok (.lreturn, 1) := by decide +kernel
theorem dX12_level_0 : decode cX12_level 0 = .ok (.aload_n 0, 1) := by decide +kernel
theorem dX12_level_1 : decode cX12_level 1 = .ok (.invokevirtual 209, 3) := by decide +kernel
theorem dX12_level_4 : decode cX12_level 4 = .ok (.istore_n 1, 1) := by decide +kernel
theorem dX12_level_5 : decode cX12_level 5 = .ok (.iload_n 1, 1) := by decide +kernel
theorem dX12_level_6 : decode cX12_level 6 = .ok (.ifCond .ne 6, 3) := by decide +kernel
theorem dX12_level_9 : decode cX12_level 9 = .ok (.bipush (-2), 2) := by decide +kernel
theorem dX12_level_11 : decode cX12_level 11 = .ok (.ireturn, 1) := by decide +kernel
theorem dX12_level_12 : decode cX12_level 12 = .ok (.iconst 0, 1) := by decide +kernel
theorem dX12_level_13 : decode cX12_level 13 = .ok (.istore_n 2, 1) := by decide +kernel
theorem dX12_level_14 : decode cX12_level 14 = .ok (.iload_n 2, 1) := by decide +kernel
theorem dX12_level_15 : decode cX12_level 15 = .ok (.iload_n 1, 1) := by decide +kernel
theorem dX12_level_16 : decode cX12_level 16 = .ok (.if_icmp .ge 20, 3) := by decide +kernel
theorem dX12_level_19 : decode cX12_level 19 = .ok (.aload_n 0, 1) := by decide +kernel
theorem dX12_level_20 : decode cX12_level 20 = .ok (.getfield 115, 3) := by decide +kernel
theorem dX12_level_23 : decode cX12_level 23 = .ok (.iload_n 2, 1) := by decide +kernel
theorem dX12_level_24 : decode cX12_level 24 = .ok (.aload_n 0, 1) := by decide +kernel
theorem dX12_level_25 : decode cX12_level 25 = .ok (.iload_n 2, 1) := by decide +kernel
theorem dX12_level_26 : decode cX12_level 26 = .ok (.invokevirtual 292, 3) := by decide +kernel
theorem dX12_level_29 : decode cX12_level 29 = .ok (.iastore, 1) := by decide +kernel
theorem dX12_level_30 : decode cX12_level 30 = .ok (.iinc 2 1, 3) := by decide +kernel
theorem dX12_level_33 : decode cX12_level 33 = .ok (.goto (-19), 3) := by decide +kernel
theorem dX12_level_36 : decode cX12_level 36 = .ok (.iload_n 1, 1) := by decide +kernel
theorem dX12_level_37 : decode cX12_level 37 = .ok (.iconst 1, 1) := by decide +kernel
theorem dX12_level_38 : decode cX12_level 38 = .ok (.isub, 1) := by decide +kernel
theorem dX12_level_39 : decode cX12_level 39 = .ok (.istore_n 2, 1) := by decide +kernel
theorem dX12_level_40 : decode cX12_level 40 = .ok (.iload_n 2, 1) := by decide +kernel
theorem dX12_level_41 : decode cX12_level 41 = .ok (.ifCond .lt 71, 3) := by decide +kernel
theorem dX12_level_44 : decode cX12_level 44 = .ok (.aload_n 0, 1) := by decide +kernel
theorem dX12_level_45 : decode cX12_level 45 = .ok (.getfield 118, 3) := by decide +kernel
theorem dX12_level_48 : decode cX12_level 48 = .ok (.iload_n 2, 1) := by decide +kernel
theorem dX12_level_49 : decode cX12_level 49 = .ok (.iload_n 2, 1) := by decide +kernel
theorem dX12_level_50 : decode cX12_level 50 = .ok (.iload_n 1, 1) := by decide +kernel
theorem dX12_level_51 : decode cX12_level 51 = .ok (.iconst 1, 1) := by decide +kernel
theorem dX12_level_52 : decode cX12_level 52 = .ok (.isub, 1) := by decide +kernel
theorem dX12_level_53 : decode cX12_level 53 = .ok (.if_icmp .ne 17, 3) := by decide +kernel
theorem dX12_level_56 : decode cX12_level 56 = .ok (.aload_n 0, 1) := by decide +kernel
theorem dX12_level_57 : decode cX12_level 57 = .ok (.getfield 115, 3) := by decide +kernel
theorem dX12_level_60 : decode cX12_level 60 = .ok (.iload_n 2, 1) := by decide +kernel
theorem dX12_level_61 : decode cX12_level 61 = .ok (.iaload, 1) := by decide +kernel
theorem dX12_level_62 : decode cX12_level 62 = .ok (.aload_n 0, 1) := by decide +kernel
theorem dX12_level_63 : decode cX12_level 63 = .ok (.getfield 183, 3) := by decide +kernel
theorem dX12_level_66 : decode cX12_level 66 = .ok (.iadd, 1) := by decide +kernel
theorem dX12_level_67 : decode cX12_level 67 = .ok (.goto 38, 3) := by decide +kernel
theorem dX12_level_70 : decode cX12_level 70 = .ok (.aload_n 0, 1) := by decide +kernel
theorem dX12_level_71 : decode cX12_level 71 = .ok (.getfield 118, 3) := by decide +kernel
theorem dX12_level_74 : decode cX12_level 74 = .ok (.iload_n 2, 1) := by decide +kernel
theorem dX12_level_75 : decode cX12_level 75 = .ok (.iconst 1, 1) := by decide +kernel
theorem dX12_level_76 : decode cX12_level 76 = .ok (.iadd, 1) := by decide +kernel
theorem dX12_level_77 : decode cX12_level 77 = .ok (.iaload, 1) := by decide +kernel
theorem dX12_level_78 : decode cX12_level 78 = .ok (.iload_n 2, 1) := by decide +kernel
theorem dX12_level_79 : decode cX12_level 79 = .ok (.iconst 1, 1) := by decide +kernel
theorem dX12_level_80 : decode cX12_level 80 = .ok (.iadd, 1) := by decide +kernel
theorem dX12_level_81 : decode cX12_level 81 = .ok (.iload_n 1, 1) := by decide +kernel
theorem dX12_level_82 : decode cX12_level 82 = .ok (.iconst 1, 1) := by decide +kernel
theorem dX12_level_83 : decode cX12_level 83 = .ok (.isub, 1) := by decide +kernel
theorem dX12_level_84 : decode cX12_level 84 = .ok (.if_icmp .ne 7, 3) := by decide +kernel
theorem dX12_level_87 : decode cX12_level 87 = .ok (.iconst 0, 1) := by decide +kernel
theorem dX12_level_88 : decode cX12_level 88 = .ok (.goto 7, 3) := by decide +kernel
theorem dX12_level_91 : decode cX12_level 91 = .ok (.aload_n 0, 1) := by decide +kernel
theorem dX12_level_92 : decode cX12_level 92 = .ok (.getfield 186, 3) := by decide +kernel
theorem dX12_level_95 : decode cX12_level 95 = .ok (.iadd, 1) := by decide +kernel
theorem dX12_level_96 : decode cX12_level 96 = .ok (.aload_n 0, 1) := by decide +kernel
theorem dX12_level_97 : decode cX12_level 97 = .ok (.getfield 28, 3) := by decide +kernel
theorem dX12_level_100 : decode cX12_level 100 = .ok (.iload_n 2, 1) := by decide +kernel
theorem dX12_level_101 : decode cX12_level 101 = .ok (.iconst 1, 1) := by decide +kernel
theorem dX12_level_102 : decode cX12_level 102 = .ok (.iadd, 1) := by decide +kernel
theorem dX12_level_103 : decode cX12_level 103 = .ok (.iaload, 1) := by decide +kernel
theorem dX12_level_104 : decode cX12_level 104 = .ok (.iadd, 1) := by decide +kernel
theorem dX12_level_105 : decode cX12_level 105 = .ok (.iastore, 1) := by decide +kernel
theorem dX12_level_106 : decode cX12_level 106 = .ok (.iinc 2 (-1), 3) := by decide +kernel
theorem dX12_level_109 : decode cX12_level 109 = .ok (.goto (-69), 3) := by decide +kernel
theorem dX12_level_112 : decode cX12_level 112 = .ok (.aload_n 0, 1) := by decide +kernel
theorem dX12_level_113 : decode cX12_level 113 = .ok (.getfield 49, 3) := by decide +kernel
theorem dX12_level_116 : decode cX12_level 116 = .ok (.iconst 0, 1) := by decide +kernel
theorem dX12_level_117 : decode cX12_level 117 = .ok (.iconst 0, 1) := by decide +kernel
theorem dX12_level_118 : decode cX12_level 118 = .ok (.iastore, 1) := by decide +kernel
theorem dX12_level_119 : decode cX12_level 119 = .ok (.iconst 1, 1) := by decide +kernel
theorem dX12_level_120 : decode cX12_level 120 = .ok (.istore_n 2, 1) := by decide +kernel
theorem dX12_level_121 : decode cX12_level 121 = .ok (.iload_n 2, 1) := by decide +kernel
theorem dX12_level_122 : decode cX12_level 122 = .ok (.iload_n 1, 1) := by decide +kernel
theorem dX12_level_123 : decode cX12_level 123 = .ok (.if_icmp .ge 82, 3) := by decide +kernel
theorem dX12_level_126 : decode cX12_level 126 = .ok (.aload_n 0, 1) := by decide +kernel
theorem dX12_level_127 : decode cX12_level 127 = .ok (.iload_n 2, 1) := by decide +kernel
theorem dX12_level_128 : decode cX12_level 128 = .ok (.iconst 1, 1) := by decide +kernel
theorem dX12_level_129 : decode cX12_level 129 = .ok (.isub, 1) := by decide +kernel
theorem dX12_level_130 : decode cX12_level 130 = .ok (.invokevirtual 329, 3) := by decide +kernel
theorem dX12_level_133 : decode cX12_level 133 = .ok (.aload_n 0, 1) := by decide +kernel
theorem dX12_level_134 : decode cX12_level 134 = .ok (.iload_n 2, 1) := by decide +kernel
theorem dX12_level_135 : decode cX12_level 135 = .ok (.invokevirtual 329, 3) := by decide +kernel
theorem dX12_level_138 : decode cX12_level 138 = .ok (.lsub, 1) := by decide +kernel
theorem dX12_level_139 : decode cX12_level 139 = .ok (.aload_n 0, 1) := by decide +kernel
theorem dX12_level_140 : decode cX12_level 140 = .ok (.getfield 183, 3) := by decide +kernel
theorem dX12_level_143 : decode cX12_level 143 = .ok (.i2l, 1) := by decide +kernel
theorem dX12_level_144 : decode cX12_level 144 = .ok (.lsub, 1) := by decide +kernel
theorem dX12_level_145 : decode cX12_level 145 = .ok (.iload_n 2, 1) := by decide +kernel
theorem dX12_level_146 : decode cX12_level 146 = .ok (.iload_n 1, 1) := by decide +kernel
theorem dX12_level_147 : decode cX12_level 147 = .ok (.iconst 1, 1) := by decide +kernel
theorem dX12_level_148 : decode cX12_level 148 = .ok (.isub, 1) := by decide +kernel
theorem dX12_level_149 : decode cX12_level 149 = .ok (.if_icmp .ne 7, 3) := by decide +kernel
theorem dX12_level_152 : decode cX12_level 152 = .ok (.iconst 0, 1) := by decide +kernel
theorem dX12_level_153 : decode cX12_level 153 = .ok (.goto 7, 3) := by decide +kernel
theorem dX12_level_156 : decode cX12_level 156 = .ok (.aload_n 0, 1) := by decide +kernel
theorem dX12_level_157 : decode cX12_level 157 = .ok (.getfield 186, 3) := by decide +kernel
theorem dX12_level_160 : decode cX12_level 160 = .ok (.i2l, 1) := by decide +kernel
theorem dX12_level_161 : decode cX12_level 161 = .ok (.lsub, 1) := by decide +kernel
theorem dX12_level_162 : decode cX12_level 162 = .ok (.lstore_n 3, 1) := by decide +kernel
theorem dX12_level_163 : decode cX12_level 163 = .ok (.aload_n 0, 1) := by decide +kernel
theorem dX12_level_164 : decode cX12_level 164 = .ok (.getfield 49, 3) := by decide +kernel
theorem dX12_level_167 : decode cX12_level 167 = .ok (.iload_n 2, 1) := by decide +kernel
theorem dX12_level_168 : decode cX12_level 168 = .ok (.aload_n 0, 1) := by decide +kernel
theorem dX12_level_169 : decode cX12_level 169 = .ok (.getfield 49, 3) := by decide +kernel
theorem dX12_level_172 : decode cX12_level 172 = .ok (.iload_n 2, 1) := by decide +kernel
theorem dX12_level_173 : decode cX12_level 173 = .ok (.iconst 1, 1) := by decide +kernel
theorem dX12_level_174 : decode cX12_level 174 = .ok (.isub, 1) := by decide +kernel
theorem dX12_level_175 : decode cX12_level 175 = .ok (.iaload, 1) := by decide +kernel
theorem dX12_level_176 : decode cX12_level 176 = .ok (.aload_n 0, 1) := by decide +kernel
theorem dX12_level_177 : decode cX12_level 177 = .ok (.getfield 183, 3) := by decide +kernel
theorem dX12_level_180 : decode cX12_level 180 = .ok (.iadd, 1) := by decide +kernel
theorem dX12_level_181 : decode cX12_level 181 = .ok (.lload_n 3, 1) := by decide +kernel
theorem dX12_level_182 : decode cX12_level 182 = .ok (.lconst 0, 1) := by decide +kernel
theorem dX12_level_183 : decode cX12_level 183 = .ok (.lcmp, 1) := by decide +kernel
theorem dX12_level_184 : decode cX12_level 184 = .ok (.ifCond .ge 7, 3) := by decide +kernel
theorem dX12_level_187 : decode cX12_level 187 = .ok (.iconst 0, 1) := by decide +kernel
theorem dX12_level_188 : decode cX12_level 188 = .ok (.goto 9, 3) := by decide +kernel
theorem dX12_level_191 : decode cX12_level 191 = .ok (.lload_n 3, 1) := by decide +kernel
theorem dX12_level_192 : decode cX12_level 192 = .ok (.ldc2_w 264, 3) := by decide +kernel
theorem dX12_level_195 : decode cX12_level 195 = .ok (.ldiv, 1) := by decide +kernel
theorem dX12_level_196 : decode cX12_level 196 = .ok (.l2i, 1) := by decide +kernel
theorem dX12_level_197 : decode cX12_level 197 = .ok (.iadd, 1) := by decide +kernel
theorem dX12_level_198 : decode cX12_level 198 = .ok (.iastore, 1) := by decide +kernel
theorem dX12_level_199 : decode cX12_level 199 = .ok (.iinc 2 1, 3) := by decide +kernel
theorem dX12_level_202 : decode cX12_level 202 = .ok (.goto (-81), 3) := by decide +kernel
theorem dX12_level_205 : decode cX12_level 205 = .ok (.aload_n 0, 1) := by decide +kernel
theorem dX12_level_206 : decode cX12_level 206 = .ok (.iconst 0, 1) := by decide +kernel
theorem dX12_level_207 : decode cX12_level 207 = .ok (.aload_n 0, 1) := by decide +kernel
theorem dX12_level_208 : decode cX12_level 208 = .ok (.getfield 115, 3) := by decide +kernel
theorem dX12_level_211 : decode cX12_level 211 = .ok (.iconst 0, 1) := by decide +kernel
theorem dX12_level_212 : decode cX12_level 212 = .ok (.iaload, 1) := by decide +kernel
theorem dX12_level_213 : decode cX12_level 213 = .ok (.invokevirtual 227, 3) := by decide +kernel
theorem dX12_level_216 : decode cX12_level 216 = .ok (.lstore_n 2, 1) := by decide +kernel
theorem dX12_level_217 : decode cX12_level 217 = .ok (.iconst 0, 1) := by decide +kernel
theorem dX12_level_218 : decode cX12_level 218 = .ok (.istore 4, 2) := by decide +kernel
theorem dX12_level_220 : decode cX12_level 220 = .ok (.iload 4, 2) := by decide +kernel
theorem dX12_level_222 : decode cX12_level 222 = .ok (.iload_n 1, 1) := by decide +kernel
theorem dX12_level_223 : decode cX12_level 223 = .ok (.if_icmp .ge 41, 3) := by decide +kernel
theorem dX12_level_226 : decode cX12_level 226 = .ok (.aload_n 0, 1) := by decide +kernel
theorem dX12_level_227 : decode cX12_level 227 = .ok (.getfield 46, 3) := by decide +kernel
theorem dX12_level_230 : decode cX12_level 230 = .ok (.iload 4, 2) := by decide +kernel
theorem dX12_level_232 : decode cX12_level 232 = .ok (.lload_n 2, 1) := by decide +kernel
theorem dX12_level_233 : decode cX12_level 233 = .ok (.aload_n 0, 1) := by decide +kernel
theorem dX12_level_234 : decode cX12_level 234 = .ok (.getfield 49, 3) := by decide +kernel
theorem dX12_level_237 : decode cX12_level 237 = .ok (.iload 4, 2) := by decide +kernel
theorem dX12_level_239 : decode cX12_level 239 = .ok (.iaload, 1) := by decide +kernel
theorem dX12_level_240 : decode cX12_level 240 = .ok (.i2l, 1) := by decide +kernel
theorem dX12_level_241 : decode cX12_level 241 = .ok (.ladd, 1) := by decide +kernel
theorem dX12_level_242 : decode cX12_level 242 = .ok (.aload_n 0, 1) := by decide +kernel
theorem dX12_level_243 : decode cX12_level 243 = .ok (.iload 4, 2) := by decide +kernel
theorem dX12_level_245 : decode cX12_level 245 = .ok (.aload_n 0, 1) := by decide +kernel
theorem dX12_level_246 : decode cX12_level 246 = .ok (.getfield 115, 3) := by decide +kernel
theorem dX12_level_249 : decode cX12_level 249 = .ok (.iload 4, 2) := by decide +kernel
theorem dX12_level_251 : decode cX12_level 251 = .ok (.iaload, 1) := by decide +kernel
theorem dX12_level_252 : decode cX12_level 252 = .ok (.invokevirtual 227, 3) := by decide +kernel
theorem dX12_level_255 : decode cX12_level 255 = .ok (.lsub, 1) := by decide +kernel
theorem dX12_level_256 : decode cX12_level 256 = .ok (.l2i, 1) := by decide +kernel
theorem dX12_level_257 : decode cX12_level 257 = .ok (.iastore, 1) := by decide +kernel
theorem dX12_level_258 : decode cX12_level 258 = .ok (.iinc 4 1, 3) := by decide +kernel
theorem dX12_level_261 : decode cX12_level 261 = .ok (.goto (-41), 3) := by decide +kernel
theorem dX12_level_264 : decode cX12_level 264 = .ok (.aload_n 0, 1) := by decide +kernel
theorem dX12_level_265 : decode cX12_level 265 = .ok (.aload_n 0, 1) := by decide +kernel
theorem dX12_level_266 : decode cX12_level 266 = .ok (.getfield 118, 3) := by decide +kernel
theorem dX12_level_269 : decode cX12_level 269 = .ok (.iconst 0, 1) := by decide +kernel
theorem dX12_level_270 : decode cX12_level 270 = .ok (.iaload, 1) := by decide +kernel
theorem dX12_level_271 : decode cX12_level 271 = .ok (.iload_n 1, 1) := by decide +kernel
theorem dX12_level_272 : decode cX12_level 272 = .ok (.iconst 1, 1) := by decide +kernel
theorem dX12_level_273 : decode cX12_level 273 = .ok (.if_icmp .ne 7, 3) := by decide +kernel
theorem dX12_level_276 : decode cX12_level 276 = .ok (.iconst 0, 1) := by decide +kernel
theorem dX12_level_277 : decode cX12_level 277 = .ok (.goto 7, 3) := by decide +kernel
theorem dX12_level_280 : decode cX12_level 280 = .ok (.aload_n 0, 1) := by decide +kernel
theorem dX12_level_281 : decode cX12_level 281 = .ok (.getfield 186, 3) := by decide +kernel
theorem dX12_level_284 : decode cX12_level 284 = .ok (.iadd, 1) := by decide +kernel
theorem dX12_level_285 : decode cX12_level 285 = .ok (.aload_n 0, 1) := by decide +kernel
theorem dX12_level_286 : decode cX12_level 286 = .ok (.getfield 28, 3) := by decide +kernel
theorem dX12_level_289 : decode cX12_level 289 = .ok (.iconst 0, 1) := by decide +kernel
theorem dX12_level_290 : decode cX12_level 290 = .ok (.iaload, 1) := by decide +kernel
theorem dX12_level_291 : decode cX12_level 291 = .ok (.iadd, 1) := by decide +kernel
theorem dX12_level_292 : decode cX12_level 292 = .ok (.putfield 193, 3) := by decide +kernel
theorem dX12_level_295 : decode cX12_level 295 = .ok (.aload_n 0, 1) := by decide +kernel
theorem dX12_level_296 : decode cX12_level 296 = .ok (.getfield 49, 3) := by decide +kernel
theorem dX12_level_299 : decode cX12_level 299 = .ok (.iload_n 1, 1) := by decide +kernel
theorem dX12_level_300 : decode cX12_level 300 = .ok (.iconst 1, 1) := by decide +kernel
theorem dX12_level_301 : decode cX12_level 301 = .ok (.isub, 1) := by decide +kernel
theorem dX12_level_302 : decode cX12_level 302 = .ok (.iaload, 1) := by decide +kernel
theorem dX12_level_303 : decode cX12_level 303 = .ok (.ireturn, 1) := by decide +kernel
theorem dX12_steer_0 : decode cX12_steer 0 = .ok (.iload_n 1, 1) := by decide +kernel
theorem dX12_steer_1 : decode cX12_steer 1 = .ok (.i2l, 1) := by decide +kernel
theorem dX12_steer_2 : decode cX12_steer 2 = .ok (.lconst 1, 1) := by decide +kernel
theorem dX12_steer_3 : decode cX12_steer 3 = .ok (.ldc2_w 272, 3) := by decide +kernel
theorem dX12_steer_6 : decode cX12_steer 6 = .ok (.invokestatic 145, 3) := by decide +kernel
theorem dX12_steer_9 : decode cX12_steer 9 = .ok (.ifCond .ne 5, 3) := by decide +kernel
theorem dX12_steer_12 : decode cX12_steer 12 = .ok (.iconst (-1), 1) := by decide +kernel
theorem dX12_steer_13 : decode cX12_steer 13 = .ok (.ireturn, 1) := by decide +kernel
theorem dX12_steer_14 : decode cX12_steer 14 = .ok (.aload_n 0, 1) := by decide +kernel
theorem dX12_steer_15 : decode cX12_steer 15 = .ok (.invokevirtual 209, 3) := by decide +kernel
theorem dX12_steer_18 : decode cX12_steer 18 = .ok (.istore_n 2, 1) := by decide +kernel
theorem dX12_steer_19 : decode cX12_steer 19 = .ok (.iload_n 2, 1) := by decide +kernel
theorem dX12_steer_20 : decode cX12_steer 20 = .ok (.iconst 2, 1) := by decide +kernel
theorem dX12_steer_21 : decode cX12_steer 21 = .ok (.if_icmp .ge 6, 3) := by decide +kernel
theorem dX12_steer_24 : decode cX12_steer 24 = .ok (.bipush (-2), 2) := by decide +kernel
theorem dX12_steer_26 : decode cX12_steer 26 = .ok (.ireturn, 1) := by decide +kernel
theorem dX12_steer_27 : decode cX12_steer 27 = .ok (.aload_n 0, 1) := by decide +kernel
theorem dX12_steer_28 : decode cX12_steer 28 = .ok (.iconst 0, 1) := by decide +kernel
theorem dX12_steer_29 : decode cX12_steer 29 = .ok (.aload_n 0, 1) := by decide +kernel
theorem dX12_steer_30 : decode cX12_steer 30 = .ok (.iconst 0, 1) := by decide +kernel
theorem dX12_steer_31 : decode cX12_steer 31 = .ok (.invokevirtual 292, 3) := by decide +kernel
theorem dX12_steer_34 : decode cX12_steer 34 = .ok (.invokevirtual 231, 3) := by decide +kernel
theorem dX12_steer_37 : decode cX12_steer 37 = .ok (.lstore_n 3, 1) := by decide +kernel
theorem dX12_steer_38 : decode cX12_steer 38 = .ok (.lconst 0, 1) := by decide +kernel
theorem dX12_steer_39 : decode cX12_steer 39 = .ok (.lstore 5, 2) := by decide +kernel
theorem dX12_steer_41 : decode cX12_steer 41 = .ok (.iconst 1, 1) := by decide +kernel
theorem dX12_steer_42 : decode cX12_steer 42 = .ok (.istore 7, 2) := by decide +kernel
theorem dX12_steer_44 : decode cX12_steer 44 = .ok (.iload 7, 2) := by decide +kernel
theorem dX12_steer_46 : decode cX12_steer 46 = .ok (.iload_n 2, 1) := by decide +kernel
theorem dX12_steer_47 : decode cX12_steer 47 = .ok (.if_icmp .ge 112, 3) := by decide +kernel
theorem dX12_steer_50 : decode cX12_steer 50 = .ok (.lload_n 3, 1) := by decide +kernel
theorem dX12_steer_51 : decode cX12_steer 51 = .ok (.aload_n 0, 1) := by decide +kernel
theorem dX12_steer_52 : decode cX12_steer 52 = .ok (.getfield 49, 3) := by decide +kernel
theorem dX12_steer_55 : decode cX12_steer 55 = .ok (.iload 7, 2) := by decide +kernel
theorem dX12_steer_57 : decode cX12_steer 57 = .ok (.iaload, 1) := by decide +kernel
theorem dX12_steer_58 : decode cX12_steer 58 = .ok (.i2l, 1) := by decide +kernel
theorem dX12_steer_59 : decode cX12_steer 59 = .ok (.ladd, 1) := by decide +kernel
theorem dX12_steer_60 : decode cX12_steer 60 = .ok (.aload_n 0, 1) := by decide +kernel
theorem dX12_steer_61 : decode cX12_steer 61 = .ok (.iload 7, 2) := by decide +kernel
theorem dX12_steer_63 : decode cX12_steer 63 = .ok (.aload_n 0, 1) := by decide +kernel
theorem dX12_steer_64 : decode cX12_steer 64 = .ok (.iload 7, 2) := by decide +kernel
theorem dX12_steer_66 : decode cX12_steer 66 = .ok (.invokevirtual 292, 3) := by decide +kernel
theorem dX12_steer_69 : decode cX12_steer 69 = .ok (.invokevirtual 231, 3) := by decide +kernel
theorem dX12_steer_72 : decode cX12_steer 72 = .ok (.lsub, 1) := by decide +kernel
theorem dX12_steer_73 : decode cX12_steer 73 = .ok (.lstore 8, 2) := by decide +kernel
theorem dX12_steer_75 : decode cX12_steer 75 = .ok (.lload 8, 2) := by decide +kernel
theorem dX12_steer_77 : decode cX12_steer 77 = .ok (.lconst 0, 1) := by decide +kernel
theorem dX12_steer_78 : decode cX12_steer 78 = .ok (.lcmp, 1) := by decide +kernel
theorem dX12_steer_79 : decode cX12_steer 79 = .ok (.ifCond .ge 9, 3) := by decide +kernel
theorem dX12_steer_82 : decode cX12_steer 82 = .ok (.lload 8, 2) := by decide +kernel
theorem dX12_steer_84 : decode cX12_steer 84 = .ok (.lneg, 1) := by decide +kernel
theorem dX12_steer_85 : decode cX12_steer 85 = .ok (.goto 5, 3) := by decide +kernel
theorem dX12_steer_88 : decode cX12_steer 88 = .ok (.lload 8, 2) := by decide +kernel
theorem dX12_steer_90 : decode cX12_steer 90 = .ok (.lstore 10, 2) := by decide +kernel
theorem dX12_steer_92 : decode cX12_steer 92 = .ok (.lload 10, 2) := by decide +kernel
theorem dX12_steer_94 : decode cX12_steer 94 = .ok (.lload 5, 2) := by decide +kernel
theorem dX12_steer_96 : decode cX12_steer 96 = .ok (.lcmp, 1) := by decide +kernel
theorem dX12_steer_97 : decode cX12_steer 97 = .ok (.ifCond .le 8, 3) := by decide +kernel
theorem dX12_steer_100 : decode cX12_steer 100 = .ok (.lload 10, 2) := by decide +kernel
theorem dX12_steer_102 : decode cX12_steer 102 = .ok (.goto 5, 3) := by decide +kernel
theorem dX12_steer_105 : decode cX12_steer 105 = .ok (.lload 5, 2) := by decide +kernel
theorem dX12_steer_107 : decode cX12_steer 107 = .ok (.lstore 5, 2) := by decide +kernel
theorem dX12_steer_109 : decode cX12_steer 109 = .ok (.lload 10, 2) := by decide +kernel
theorem dX12_steer_111 : decode cX12_steer 111 = .ok (.iload_n 1, 1) := by decide +kernel
theorem dX12_steer_112 : decode cX12_steer 112 = .ok (.i2l, 1) := by decide +kernel
theorem dX12_steer_113 : decode cX12_steer 113 = .ok (.lcmp, 1) := by decide +kernel
theorem dX12_steer_114 : decode cX12_steer 114 = .ok (.ifCond .le 8, 3) := by decide +kernel
theorem dX12_steer_117 : decode cX12_steer 117 = .ok (.iload_n 1, 1) := by decide +kernel
theorem dX12_steer_118 : decode cX12_steer 118 = .ok (.i2l, 1) := by decide +kernel
theorem dX12_steer_119 : decode cX12_steer 119 = .ok (.goto 5, 3) := by decide +kernel
theorem dX12_steer_122 : decode cX12_steer 122 = .ok (.lload 10, 2) := by decide +kernel
theorem dX12_steer_124 : decode cX12_steer 124 = .ok (.lstore 12, 2) := by decide +kernel
theorem dX12_steer_126 : decode cX12_steer 126 = .ok (.aload_n 0, 1) := by decide +kernel
theorem dX12_steer_127 : decode cX12_steer 127 = .ok (.getfield 46, 3) := by decide +kernel
theorem dX12_steer_130 : decode cX12_steer 130 = .ok (.iload 7, 2) := by decide +kernel
theorem dX12_steer_132 : decode cX12_steer 132 = .ok (.dup2, 1) := by decide +kernel
theorem dX12_steer_133 : decode cX12_steer 133 = .ok (.iaload, 1) := by decide +kernel
theorem dX12_steer_134 : decode cX12_steer 134 = .ok (.lload 8, 2) := by decide +kernel
theorem dX12_steer_136 : decode cX12_steer 136 = .ok (.lconst 0, 1) := by decide +kernel
theorem dX12_steer_137 : decode cX12_steer 137 = .ok (.lcmp, 1) := by decide +kernel
theorem dX12_steer_138 : decode cX12_steer 138 = .ok (.ifCond .ge 10, 3) := by decide +kernel
theorem dX12_steer_141 : decode cX12_steer 141 = .ok (.lload 12, 2) := by decide +kernel
theorem dX12_steer_143 : decode cX12_steer 143 = .ok (.l2i, 1) := by decide +kernel
theorem dX12_steer_144 : decode cX12_steer 144 = .ok (.ineg, 1) := by decide +kernel
theorem dX12_steer_145 : decode cX12_steer 145 = .ok (.goto 6, 3) := by decide +kernel
theorem dX12_steer_148 : decode cX12_steer 148 = .ok (.lload 12, 2) := by decide +kernel
theorem dX12_steer_150 : decode cX12_steer 150 = .ok (.l2i, 1) := by decide +kernel
theorem dX12_steer_151 : decode cX12_steer 151 = .ok (.iadd, 1) := by decide +kernel
theorem dX12_steer_152 : decode cX12_steer 152 = .ok (.iastore, 1) := by decide +kernel
theorem dX12_steer_153 : decode cX12_steer 153 = .ok (.iinc 7 1, 3) := by decide +kernel
theorem dX12_steer_156 : decode cX12_steer 156 = .ok (.goto (-112), 3) := by decide +kernel
theorem dX12_steer_159 : decode cX12_steer 159 = .ok (.aload_n 0, 1) := by decide +kernel
theorem dX12_steer_160 : decode cX12_steer 160 = .ok (.dup, 1) := by decide +kernel
theorem dX12_steer_161 : decode cX12_steer 161 = .ok (.getfield 193, 3) := by decide +kernel
theorem dX12_steer_164 : decode cX12_steer 164 = .ok (.aload_n 0, 1) := by decide +kernel
theorem dX12_steer_165 : decode cX12_steer 165 = .ok (.invokevirtual 304, 3) := by decide +kernel
theorem dX12_steer_168 : decode cX12_steer 168 = .ok (.iadd, 1) := by decide +kernel
theorem dX12_steer_169 : decode cX12_steer 169 = .ok (.putfield 193, 3) := by decide +kernel
theorem dX12_steer_172 : decode cX12_steer 172 = .ok (.lload 5, 2) := by decide +kernel
theorem dX12_steer_174 : decode cX12_steer 174 = .ok (.l2i, 1) := by decide +kernel
theorem dX12_steer_175 : decode cX12_steer 175 = .ok (.ireturn, 1) := by decide +kernel
theorem dX12_clock_0 : decode cX12_clock 0 = .ok (.aload_n 0, 1) := by decide +kernel
theorem dX12_clock_1 : decode cX12_clock 1 = .ok (.iload_n 1, 1) := by decide +kernel
theorem dX12_clock_2 : decode cX12_clock 2 = .ok (.invokevirtual 236, 3) := by decide +kernel
theorem dX12_clock_5 : decode cX12_clock 5 = .ok (.ifCond .eq 15, 3) := by decide +kernel
theorem dX12_clock_8 : decode cX12_clock 8 = .ok (.iload_n 2, 1) := by decide +kernel
theorem dX12_clock_9 : decode cX12_clock 9 = .ok (.i2l, 1) := by decide +kernel
theorem dX12_clock_10 : decode cX12_clock 10 = .ok (.lconst 0, 1) := by decide +kernel
theorem dX12_clock_11 : decode cX12_clock 11 = .ok (.ldc2_w 260, 3) := by decide +kernel
theorem dX12_clock_14 : decode cX12_clock 14 = .ok (.invokestatic 145, 3) := by decide +kernel
theorem dX12_clock_17 : decode cX12_clock 17 = .ok (.ifCond .ne 5, 3) := by decide +kernel
theorem dX12_clock_20 : decode cX12_clock 20 = .ok (.iconst (-1), 1) := by decide +kernel
theorem dX12_clock_21 : decode cX12_clock 21 = .ok (.ireturn, 1) := by decide +kernel
theorem dX12_clock_22 : decode cX12_clock 22 = .ok (.iload_n 2, 1) := by decide +kernel
theorem dX12_clock_23 : decode cX12_clock 23 = .ok (.tableswitch 66 0 2 #[25, 40, 55], 25) := by decide +kernel
theorem dX12_clock_48 : decode cX12_clock 48 = .ok (.aload_n 0, 1) := by decide +kernel
theorem dX12_clock_49 : decode cX12_clock 49 = .ok (.iload_n 1, 1) := by decide +kernel
theorem dX12_clock_50 : decode cX12_clock 50 = .ok (.aload_n 0, 1) := by decide +kernel
theorem dX12_clock_51 : decode cX12_clock 51 = .ok (.getfield 193, 3) := by decide +kernel
theorem dX12_clock_54 : decode cX12_clock 54 = .ok (.invokevirtual 227, 3) := by decide +kernel
theorem dX12_clock_57 : decode cX12_clock 57 = .ok (.l2i, 1) := by decide +kernel
theorem dX12_clock_58 : decode cX12_clock 58 = .ok (.ldc_w 333, 3) := by decide +kernel
theorem dX12_clock_61 : decode cX12_clock 61 = .ok (.iadd, 1) := by decide +kernel
theorem dX12_clock_62 : decode cX12_clock 62 = .ok (.ireturn, 1) := by decide +kernel
theorem dX12_clock_63 : decode cX12_clock 63 = .ok (.aload_n 0, 1) := by decide +kernel
theorem dX12_clock_64 : decode cX12_clock 64 = .ok (.iload_n 1, 1) := by decide +kernel
theorem dX12_clock_65 : decode cX12_clock 65 = .ok (.aload_n 0, 1) := by decide +kernel
theorem dX12_clock_66 : decode cX12_clock 66 = .ok (.getfield 193, 3) := by decide +kernel
theorem dX12_clock_69 : decode cX12_clock 69 = .ok (.invokevirtual 231, 3) := by decide +kernel
theorem dX12_clock_72 : decode cX12_clock 72 = .ok (.l2i, 1) := by decide +kernel
theorem dX12_clock_73 : decode cX12_clock 73 = .ok (.ldc_w 333, 3) := by decide +kernel
theorem dX12_clock_76 : decode cX12_clock 76 = .ok (.iadd, 1) := by decide +kernel
theorem dX12_clock_77 : decode cX12_clock 77 = .ok (.ireturn, 1) := by decide +kernel
theorem dX12_clock_78 : decode cX12_clock 78 = .ok (.aload_n 0, 1) := by decide +kernel
theorem dX12_clock_79 : decode cX12_clock 79 = .ok (.getfield 46, 3) := by decide +kernel
theorem dX12_clock_82 : decode cX12_clock 82 = .ok (.iload_n 1, 1) := by decide +kernel
theorem dX12_clock_83 : decode cX12_clock 83 = .ok (.iaload, 1) := by decide +kernel
theorem dX12_clock_84 : decode cX12_clock 84 = .ok (.ldc_w 333, 3) := by decide +kernel
theorem dX12_clock_87 : decode cX12_clock 87 = .ok (.iadd, 1) := by decide +kernel
theorem dX12_clock_88 : decode cX12_clock 88 = .ok (.ireturn, 1) := by decide +kernel
theorem dX12_clock_89 : decode cX12_clock 89 = .ok (.aload_n 0, 1) := by decide +kernel
theorem dX12_clock_90 : decode cX12_clock 90 = .ok (.getfield 49, 3) := by decide +kernel
theorem dX12_clock_93 : decode cX12_clock 93 = .ok (.iload_n 1, 1) := by decide +kernel
theorem dX12_clock_94 : decode cX12_clock 94 = .ok (.iaload, 1) := by decide +kernel
theorem dX12_clock_95 : decode cX12_clock 95 = .ok (.ireturn, 1) := by decide +kernel
theorem dX12_apart_0 : decode cX12_apart 0 = .ok (.aload_n 0, 1) := by decide +kernel
theorem dX12_apart_1 : decode cX12_apart 1 = .ok (.iconst 0, 1) := by decide +kernel
theorem dX12_apart_2 : decode cX12_apart 2 = .ok (.aload_n 0, 1) := by decide +kernel
theorem dX12_apart_3 : decode cX12_apart 3 = .ok (.getfield 193, 3) := by decide +kernel
theorem dX12_apart_6 : decode cX12_apart 6 = .ok (.invokevirtual 231, 3) := by decide +kernel
theorem dX12_apart_9 : decode cX12_apart 9 = .ok (.lstore_n 1, 1) := by decide +kernel
theorem dX12_apart_10 : decode cX12_apart 10 = .ok (.lload_n 1, 1) := by decide +kernel
theorem dX12_apart_11 : decode cX12_apart 11 = .ok (.lstore_n 3, 1) := by decide +kernel
theorem dX12_apart_12 : decode cX12_apart 12 = .ok (.iconst 1, 1) := by decide +kernel
theorem dX12_apart_13 : decode cX12_apart 13 = .ok (.istore 5, 2) := by decide +kernel
theorem dX12_apart_15 : decode cX12_apart 15 = .ok (.iload 5, 2) := by decide +kernel
theorem dX12_apart_17 : decode cX12_apart 17 = .ok (.aload_n 0, 1) := by decide +kernel
theorem dX12_apart_18 : decode cX12_apart 18 = .ok (.getfield 180, 3) := by decide +kernel
theorem dX12_apart_21 : decode cX12_apart 21 = .ok (.if_icmp .ge 49, 3) := by decide +kernel
theorem dX12_apart_24 : decode cX12_apart 24 = .ok (.aload_n 0, 1) := by decide +kernel
theorem dX12_apart_25 : decode cX12_apart 25 = .ok (.iload 5, 2) := by decide +kernel
theorem dX12_apart_27 : decode cX12_apart 27 = .ok (.aload_n 0, 1) := by decide +kernel
theorem dX12_apart_28 : decode cX12_apart 28 = .ok (.getfield 193, 3) := by decide +kernel
theorem dX12_apart_31 : decode cX12_apart 31 = .ok (.invokevirtual 231, 3) := by decide +kernel
theorem dX12_apart_34 : decode cX12_apart 34 = .ok (.lstore 6, 2) := by decide +kernel
theorem dX12_apart_36 : decode cX12_apart 36 = .ok (.lload 6, 2) := by decide +kernel
theorem dX12_apart_38 : decode cX12_apart 38 = .ok (.lload_n 1, 1) := by decide +kernel
theorem dX12_apart_39 : decode cX12_apart 39 = .ok (.lcmp, 1) := by decide +kernel
theorem dX12_apart_40 : decode cX12_apart 40 = .ok (.ifCond .ge 8, 3) := by decide +kernel
theorem dX12_apart_43 : decode cX12_apart 43 = .ok (.lload 6, 2) := by decide +kernel
theorem dX12_apart_45 : decode cX12_apart 45 = .ok (.goto 4, 3) := by decide +kernel
theorem dX12_apart_48 : decode cX12_apart 48 = .ok (.lload_n 1, 1) := by decide +kernel
theorem dX12_apart_49 : decode cX12_apart 49 = .ok (.lstore_n 1, 1) := by decide +kernel
theorem dX12_apart_50 : decode cX12_apart 50 = .ok (.lload 6, 2) := by decide +kernel
theorem dX12_apart_52 : decode cX12_apart 52 = .ok (.lload_n 3, 1) := by decide +kernel
theorem dX12_apart_53 : decode cX12_apart 53 = .ok (.lcmp, 1) := by decide +kernel
theorem dX12_apart_54 : decode cX12_apart 54 = .ok (.ifCond .le 8, 3) := by decide +kernel
theorem dX12_apart_57 : decode cX12_apart 57 = .ok (.lload 6, 2) := by decide +kernel
theorem dX12_apart_59 : decode cX12_apart 59 = .ok (.goto 4, 3) := by decide +kernel
theorem dX12_apart_62 : decode cX12_apart 62 = .ok (.lload_n 3, 1) := by decide +kernel
theorem dX12_apart_63 : decode cX12_apart 63 = .ok (.lstore_n 3, 1) := by decide +kernel
theorem dX12_apart_64 : decode cX12_apart 64 = .ok (.iinc 5 1, 3) := by decide +kernel
theorem dX12_apart_67 : decode cX12_apart 67 = .ok (.goto (-52), 3) := by decide +kernel
theorem dX12_apart_70 : decode cX12_apart 70 = .ok (.lload_n 3, 1) := by decide +kernel
theorem dX12_apart_71 : decode cX12_apart 71 = .ok (.lload_n 1, 1) := by decide +kernel
theorem dX12_apart_72 : decode cX12_apart 72 = .ok (.lsub, 1) := by decide +kernel
theorem dX12_apart_73 : decode cX12_apart 73 = .ok (.l2i, 1) := by decide +kernel
theorem dX12_apart_74 : decode cX12_apart 74 = .ok (.ireturn, 1) := by decide +kernel
theorem dX12_count_0 : decode cX12_count 0 = .ok (.iload_n 1, 1) := by decide +kernel
theorem dX12_count_1 : decode cX12_count 1 = .ok (.tableswitch 142 0 12 #[67, 72, 77, 82, 87, 97, 102, 107, 112, 117, 127, 132, 137], 67) := by decide +kernel
theorem dX12_count_68 : decode cX12_count 68 = .ok (.aload_n 0, 1) := by decide +kernel
theorem dX12_count_69 : decode cX12_count 69 = .ok (.getfield 180, 3) := by decide +kernel
theorem dX12_count_72 : decode cX12_count 72 = .ok (.ireturn, 1) := by decide +kernel
theorem dX12_count_73 : decode cX12_count 73 = .ok (.aload_n 0, 1) := by decide +kernel
theorem dX12_count_74 : decode cX12_count 74 = .ok (.getfield 193, 3) := by decide +kernel
theorem dX12_count_77 : decode cX12_count 77 = .ok (.ireturn, 1) := by decide +kernel
theorem dX12_count_78 : decode cX12_count 78 = .ok (.aload_n 0, 1) := by decide +kernel
theorem dX12_count_79 : decode cX12_count 79 = .ok (.invokevirtual 255, 3) := by decide +kernel
theorem dX12_count_82 : decode cX12_count 82 = .ok (.ireturn, 1) := by decide +kernel
theorem dX12_count_83 : decode cX12_count 83 = .ok (.aload_n 0, 1) := by decide +kernel
theorem dX12_count_84 : decode cX12_count 84 = .ok (.invokevirtual 209, 3) := by decide +kernel
theorem dX12_count_87 : decode cX12_count 87 = .ok (.ireturn, 1) := by decide +kernel
theorem dX12_count_88 : decode cX12_count 88 = .ok (.aload_n 0, 1) := by decide +kernel
theorem dX12_count_89 : decode cX12_count 89 = .ok (.getfield 180, 3) := by decide +kernel
theorem dX12_count_92 : decode cX12_count 92 = .ok (.aload_n 0, 1) := by decide +kernel
theorem dX12_count_93 : decode cX12_count 93 = .ok (.invokevirtual 212, 3) := by decide +kernel
theorem dX12_count_96 : decode cX12_count 96 = .ok (.isub, 1) := by decide +kernel
theorem dX12_count_97 : decode cX12_count 97 = .ok (.ireturn, 1) := by decide +kernel
theorem dX12_count_98 : decode cX12_count 98 = .ok (.aload_n 0, 1) := by decide +kernel
theorem dX12_count_99 : decode cX12_count 99 = .ok (.getfield 206, 3) := by decide +kernel
theorem dX12_count_102 : decode cX12_count 102 = .ok (.ireturn, 1) := by decide +kernel
theorem dX12_count_103 : decode cX12_count 103 = .ok (.aload_n 0, 1) := by decide +kernel
theorem dX12_count_104 : decode cX12_count 104 = .ok (.getfield 203, 3) := by decide +kernel
theorem dX12_count_107 : decode cX12_count 107 = .ok (.ireturn, 1) := by decide +kernel
theorem dX12_count_108 : decode cX12_count 108 = .ok (.aload_n 0, 1) := by decide +kernel
theorem dX12_count_109 : decode cX12_count 109 = .ok (.getfield 196, 3) := by decide +kernel
theorem dX12_count_112 : decode cX12_count 112 = .ok (.ireturn, 1) := by decide +kernel
theorem dX12_count_113 : decode cX12_count 113 = .ok (.aload_n 0, 1) := by decide +kernel
theorem dX12_count_114 : decode cX12_count 114 = .ok (.getfield 149, 3) := by decide +kernel
theorem dX12_count_117 : decode cX12_count 117 = .ok (.ireturn, 1) := by decide +kernel
theorem dX12_count_118 : decode cX12_count 118 = .ok (.aload_n 0, 1) := by decide +kernel
theorem dX12_count_119 : decode cX12_count 119 = .ok (.getfield 28, 3) := by decide +kernel
theorem dX12_count_122 : decode cX12_count 122 = .ok (.aload_n 0, 1) := by decide +kernel
theorem dX12_count_123 : decode cX12_count 123 = .ok (.getfield 180, 3) := by decide +kernel
theorem dX12_count_126 : decode cX12_count 126 = .ok (.iaload, 1) := by decide +kernel
theorem dX12_count_127 : decode cX12_count 127 = .ok (.ireturn, 1) := by decide +kernel
theorem dX12_count_128 : decode cX12_count 128 = .ok (.aload_n 0, 1) := by decide +kernel
theorem dX12_count_129 : decode cX12_count 129 = .ok (.getfield 183, 3) := by decide +kernel
theorem dX12_count_132 : decode cX12_count 132 = .ok (.ireturn, 1) := by decide +kernel
theorem dX12_count_133 : decode cX12_count 133 = .ok (.aload_n 0, 1) := by decide +kernel
theorem dX12_count_134 : decode cX12_count 134 = .ok (.getfield 186, 3) := by decide +kernel
theorem dX12_count_137 : decode cX12_count 137 = .ok (.ireturn, 1) := by decide +kernel
theorem dX12_count_138 : decode cX12_count 138 = .ok (.aload_n 0, 1) := by decide +kernel
theorem dX12_count_139 : decode cX12_count 139 = .ok (.invokevirtual 304, 3) := by decide +kernel
theorem dX12_count_142 : decode cX12_count 142 = .ok (.ireturn, 1) := by decide +kernel
theorem dX12_count_143 : decode cX12_count 143 = .ok (.iconst (-1), 1) := by decide +kernel
theorem dX12_count_144 : decode cX12_count 144 = .ok (.ireturn, 1) := by decide +kernel
theorem dJ9_floorDiv_7cf53_0 : decode cJ9_floorDiv_7cf53 0 = .ok (.iload_n 0, 1) := by decide +kernel
theorem dJ9_floorDiv_7cf53_1 : decode cJ9_floorDiv_7cf53 1 = .ok (.iload_n 1, 1) := by decide +kernel
theorem dJ9_floorDiv_7cf53_2 : decode cJ9_floorDiv_7cf53 2 = .ok (.idiv, 1) := by decide +kernel
theorem dJ9_floorDiv_7cf53_3 : decode cJ9_floorDiv_7cf53 3 = .ok (.istore_n 2, 1) := by decide +kernel
theorem dJ9_floorDiv_7cf53_4 : decode cJ9_floorDiv_7cf53 4 = .ok (.iload_n 0, 1) := by decide +kernel
theorem dJ9_floorDiv_7cf53_5 : decode cJ9_floorDiv_7cf53 5 = .ok (.iload_n 1, 1) := by decide +kernel
theorem dJ9_floorDiv_7cf53_6 : decode cJ9_floorDiv_7cf53 6 = .ok (.ixor, 1) := by decide +kernel
theorem dJ9_floorDiv_7cf53_7 : decode cJ9_floorDiv_7cf53 7 = .ok (.ifCond .ge 14, 3) := by decide +kernel
theorem dJ9_floorDiv_7cf53_10 : decode cJ9_floorDiv_7cf53 10 = .ok (.iload_n 2, 1) := by decide +kernel
theorem dJ9_floorDiv_7cf53_11 : decode cJ9_floorDiv_7cf53 11 = .ok (.iload_n 1, 1) := by decide +kernel
theorem dJ9_floorDiv_7cf53_12 : decode cJ9_floorDiv_7cf53 12 = .ok (.imul, 1) := by decide +kernel
theorem dJ9_floorDiv_7cf53_13 : decode cJ9_floorDiv_7cf53 13 = .ok (.iload_n 0, 1) := by decide +kernel
theorem dJ9_floorDiv_7cf53_14 : decode cJ9_floorDiv_7cf53 14 = .ok (.if_icmp .eq 7, 3) := by decide +kernel
theorem dJ9_floorDiv_7cf53_17 : decode cJ9_floorDiv_7cf53 17 = .ok (.iload_n 2, 1) := by decide +kernel
theorem dJ9_floorDiv_7cf53_18 : decode cJ9_floorDiv_7cf53 18 = .ok (.iconst 1, 1) := by decide +kernel
theorem dJ9_floorDiv_7cf53_19 : decode cJ9_floorDiv_7cf53 19 = .ok (.isub, 1) := by decide +kernel
theorem dJ9_floorDiv_7cf53_20 : decode cJ9_floorDiv_7cf53 20 = .ok (.ireturn, 1) := by decide +kernel
theorem dJ9_floorDiv_7cf53_21 : decode cJ9_floorDiv_7cf53 21 = .ok (.iload_n 2, 1) := by decide +kernel
theorem dJ9_floorDiv_7cf53_22 : decode cJ9_floorDiv_7cf53 22 = .ok (.ireturn, 1) := by decide +kernel
theorem dJ9_floorMod_7cf53_0 : decode cJ9_floorMod_7cf53 0 = .ok (.iload_n 0, 1) := by decide +kernel
theorem dJ9_floorMod_7cf53_1 : decode cJ9_floorMod_7cf53 1 = .ok (.iload_n 1, 1) := by decide +kernel
theorem dJ9_floorMod_7cf53_2 : decode cJ9_floorMod_7cf53 2 = .ok (.irem, 1) := by decide +kernel
theorem dJ9_floorMod_7cf53_3 : decode cJ9_floorMod_7cf53 3 = .ok (.istore_n 2, 1) := by decide +kernel
theorem dJ9_floorMod_7cf53_4 : decode cJ9_floorMod_7cf53 4 = .ok (.iload_n 0, 1) := by decide +kernel
theorem dJ9_floorMod_7cf53_5 : decode cJ9_floorMod_7cf53 5 = .ok (.iload_n 1, 1) := by decide +kernel
theorem dJ9_floorMod_7cf53_6 : decode cJ9_floorMod_7cf53 6 = .ok (.ixor, 1) := by decide +kernel
theorem dJ9_floorMod_7cf53_7 : decode cJ9_floorMod_7cf53 7 = .ok (.ifCond .ge 11, 3) := by decide +kernel
theorem dJ9_floorMod_7cf53_10 : decode cJ9_floorMod_7cf53 10 = .ok (.iload_n 2, 1) := by decide +kernel
theorem dJ9_floorMod_7cf53_11 : decode cJ9_floorMod_7cf53 11 = .ok (.ifCond .eq 7, 3) := by decide +kernel
theorem dJ9_floorMod_7cf53_14 : decode cJ9_floorMod_7cf53 14 = .ok (.iload_n 2, 1) := by decide +kernel
theorem dJ9_floorMod_7cf53_15 : decode cJ9_floorMod_7cf53 15 = .ok (.iload_n 1, 1) := by decide +kernel
theorem dJ9_floorMod_7cf53_16 : decode cJ9_floorMod_7cf53 16 = .ok (.iadd, 1) := by decide +kernel
theorem dJ9_floorMod_7cf53_17 : decode cJ9_floorMod_7cf53 17 = .ok (.ireturn, 1) := by decide +kernel
theorem dJ9_floorMod_7cf53_18 : decode cJ9_floorMod_7cf53 18 = .ok (.iload_n 2, 1) := by decide +kernel
theorem dJ9_floorMod_7cf53_19 : decode cJ9_floorMod_7cf53 19 = .ok (.ireturn, 1) := by decide +kernel
theorem dJ9_abs_0f7a4_0 : decode cJ9_abs_0f7a4 0 = .ok (.iload_n 0, 1) := by decide +kernel
theorem dJ9_abs_0f7a4_1 : decode cJ9_abs_0f7a4 1 = .ok (.ifCond .ge 8, 3) := by decide +kernel
theorem dJ9_abs_0f7a4_4 : decode cJ9_abs_0f7a4 4 = .ok (.iload_n 0, 1) := by decide +kernel
theorem dJ9_abs_0f7a4_5 : decode cJ9_abs_0f7a4 5 = .ok (.ineg, 1) := by decide +kernel
theorem dJ9_abs_0f7a4_6 : decode cJ9_abs_0f7a4 6 = .ok (.goto 4, 3) := by decide +kernel
theorem dJ9_abs_0f7a4_9 : decode cJ9_abs_0f7a4 9 = .ok (.iload_n 0, 1) := by decide +kernel
theorem dJ9_abs_0f7a4_10 : decode cJ9_abs_0f7a4 10 = .ok (.ireturn, 1) := by decide +kernel
theorem dJ9_max_7cf53_0 : decode cJ9_max_7cf53 0 = .ok (.iload_n 0, 1) := by decide +kernel
theorem dJ9_max_7cf53_1 : decode cJ9_max_7cf53 1 = .ok (.iload_n 1, 1) := by decide +kernel
theorem dJ9_max_7cf53_2 : decode cJ9_max_7cf53 2 = .ok (.if_icmp .lt 7, 3) := by decide +kernel
theorem dJ9_max_7cf53_5 : decode cJ9_max_7cf53 5 = .ok (.iload_n 0, 1) := by decide +kernel
theorem dJ9_max_7cf53_6 : decode cJ9_max_7cf53 6 = .ok (.goto 4, 3) := by decide +kernel
theorem dJ9_max_7cf53_9 : decode cJ9_max_7cf53 9 = .ok (.iload_n 1, 1) := by decide +kernel
theorem dJ9_max_7cf53_10 : decode cJ9_max_7cf53 10 = .ok (.ireturn, 1) := by decide +kernel
theorem dJ9_min_7cf53_0 : decode cJ9_min_7cf53 0 = .ok (.iload_n 0, 1) := by decide +kernel
theorem dJ9_min_7cf53_1 : decode cJ9_min_7cf53 1 = .ok (.iload_n 1, 1) := by decide +kernel
theorem dJ9_min_7cf53_2 : decode cJ9_min_7cf53 2 = .ok (.if_icmp .gt 7, 3) := by decide +kernel
theorem dJ9_min_7cf53_5 : decode cJ9_min_7cf53 5 = .ok (.iload_n 0, 1) := by decide +kernel
theorem dJ9_min_7cf53_6 : decode cJ9_min_7cf53 6 = .ok (.goto 4, 3) := by decide +kernel
theorem dJ9_min_7cf53_9 : decode cJ9_min_7cf53 9 = .ok (.iload_n 1, 1) := by decide +kernel
theorem dJ9_min_7cf53_10 : decode cJ9_min_7cf53 10 = .ok (.ireturn, 1) := by decide +kernel
theorem dJ0_length_8abf5_0 : decode cJ0_length_8abf5 0 = .ok (.aload_n 0, 1) := by decide +kernel
theorem dJ0_length_8abf5_1 : decode cJ0_length_8abf5 1 = .ok (.getfield 9, 3) := by decide +kernel
theorem dJ0_length_8abf5_4 : decode cJ0_length_8abf5 4 = .ok (.arraylength, 1) := by decide +kernel
theorem dJ0_length_8abf5_5 : decode cJ0_length_8abf5 5 = .ok (.aload_n 0, 1) := by decide +kernel
theorem dJ0_length_8abf5_6 : decode cJ0_length_8abf5 6 = .ok (.invokevirtual 335, 3) := by decide +kernel
theorem dJ0_length_8abf5_9 : decode cJ0_length_8abf5 9 = .ok (.ishr, 1) := by decide +kernel
theorem dJ0_length_8abf5_10 : decode cJ0_length_8abf5 10 = .ok (.ireturn, 1) := by decide +kernel
theorem dJ0_charAt_5068e_0 : decode cJ0_charAt_5068e 0 = .ok (.aload_n 0, 1) := by decide +kernel
theorem dJ0_charAt_5068e_1 : decode cJ0_charAt_5068e 1 = .ok (.invokevirtual 492, 3) := by decide +kernel
theorem dJ0_charAt_5068e_4 : decode cJ0_charAt_5068e 4 = .ok (.ifCond .eq 12, 3) := by decide +kernel
theorem dJ0_charAt_5068e_7 : decode cJ0_charAt_5068e 7 = .ok (.aload_n 0, 1) := by decide +kernel
theorem dJ0_charAt_5068e_8 : decode cJ0_charAt_5068e 8 = .ok (.getfield 9, 3) := by decide +kernel
theorem dJ0_charAt_5068e_11 : decode cJ0_charAt_5068e 11 = .ok (.iload_n 1, 1) := by decide +kernel
theorem dJ0_charAt_5068e_12 : decode cJ0_charAt_5068e 12 = .ok (.invokestatic 495, 3) := by decide +kernel
theorem dJ0_charAt_5068e_15 : decode cJ0_charAt_5068e 15 = .ok (.ireturn, 1) := by decide +kernel
theorem dJ0_charAt_5068e_16 : decode cJ0_charAt_5068e 16 = .ok (.aload_n 0, 1) := by decide +kernel
theorem dJ0_charAt_5068e_17 : decode cJ0_charAt_5068e 17 = .ok (.getfield 9, 3) := by decide +kernel
theorem dJ0_charAt_5068e_20 : decode cJ0_charAt_5068e 20 = .ok (.iload_n 1, 1) := by decide +kernel
theorem dJ0_charAt_5068e_21 : decode cJ0_charAt_5068e 21 = .ok (.invokestatic 498, 3) := by decide +kernel
theorem dJ0_charAt_5068e_24 : decode cJ0_charAt_5068e 24 = .ok (.ireturn, 1) := by decide +kernel
theorem dJ0_coder_7d493_0 : decode cJ0_coder_7d493 0 = .ok (.getstatic 38, 3) := by decide +kernel
theorem dJ0_coder_7d493_3 : decode cJ0_coder_7d493 3 = .ok (.ifCond .eq 10, 3) := by decide +kernel
theorem dJ0_coder_7d493_6 : decode cJ0_coder_7d493 6 = .ok (.aload_n 0, 1) := by decide +kernel
theorem dJ0_coder_7d493_7 : decode cJ0_coder_7d493 7 = .ok (.getfield 15, 3) := by decide +kernel
theorem dJ0_coder_7d493_10 : decode cJ0_coder_7d493 10 = .ok (.goto 4, 3) := by decide +kernel
theorem dJ0_coder_7d493_13 : decode cJ0_coder_7d493 13 = .ok (.iconst 1, 1) := by decide +kernel
theorem dJ0_coder_7d493_14 : decode cJ0_coder_7d493 14 = .ok (.ireturn, 1) := by decide +kernel
theorem dJ0_isLatin1_aae02_0 : decode cJ0_isLatin1_aae02 0 = .ok (.getstatic 38, 3) := by decide +kernel
theorem dJ0_isLatin1_aae02_3 : decode cJ0_isLatin1_aae02 3 = .ok (.ifCond .eq 14, 3) := by decide +kernel
theorem dJ0_isLatin1_aae02_6 : decode cJ0_isLatin1_aae02 6 = .ok (.aload_n 0, 1) := by decide +kernel
theorem dJ0_isLatin1_aae02_7 : decode cJ0_isLatin1_aae02 7 = .ok (.getfield 15, 3) := by decide +kernel
theorem dJ0_isLatin1_aae02_10 : decode cJ0_isLatin1_aae02 10 = .ok (.ifCond .ne 7, 3) := by decide +kernel
theorem dJ0_isLatin1_aae02_13 : decode cJ0_isLatin1_aae02 13 = .ok (.iconst 1, 1) := by decide +kernel
theorem dJ0_isLatin1_aae02_14 : decode cJ0_isLatin1_aae02 14 = .ok (.goto 4, 3) := by decide +kernel
theorem dJ0_isLatin1_aae02_17 : decode cJ0_isLatin1_aae02 17 = .ok (.iconst 0, 1) := by decide +kernel
theorem dJ0_isLatin1_aae02_18 : decode cJ0_isLatin1_aae02 18 = .ok (.ireturn, 1) := by decide +kernel
theorem dJ0_checkIndex_df160_0 : decode cJ0_checkIndex_df160 0 = .ok (.iload_n 0, 1) := by decide +kernel
theorem dJ0_checkIndex_df160_1 : decode cJ0_checkIndex_df160 1 = .ok (.iload_n 1, 1) := by decide +kernel
theorem dJ0_checkIndex_df160_2 : decode cJ0_checkIndex_df160 2 = .ok (.getstatic 1053, 3) := by decide +kernel
theorem dJ0_checkIndex_df160_5 : decode cJ0_checkIndex_df160 5 = .ok (.invokestatic 1059, 3) := by decide +kernel
theorem dJ0_checkIndex_df160_8 : decode cJ0_checkIndex_df160 8 = .ok (.pop, 1) := by decide +kernel
theorem dJ0_checkIndex_df160_9 : decode cJ0_checkIndex_df160 9 = .ok (.return_, 1) := by decide +kernel
theorem dJ1_charAt_3b067_0 : decode cJ1_charAt_3b067 0 = .ok (.iload_n 1, 1) := by decide +kernel
theorem dJ1_charAt_3b067_1 : decode cJ1_charAt_3b067 1 = .ok (.aload_n 0, 1) := by decide +kernel
theorem dJ1_charAt_3b067_2 : decode cJ1_charAt_3b067 2 = .ok (.arraylength, 1) := by decide +kernel
theorem dJ1_charAt_3b067_3 : decode cJ1_charAt_3b067 3 = .ok (.invokestatic 9, 3) := by decide +kernel
theorem dJ1_charAt_3b067_6 : decode cJ1_charAt_3b067 6 = .ok (.aload_n 0, 1) := by decide +kernel
theorem dJ1_charAt_3b067_7 : decode cJ1_charAt_3b067 7 = .ok (.iload_n 1, 1) := by decide +kernel
theorem dJ1_charAt_3b067_8 : decode cJ1_charAt_3b067 8 = .ok (.baload, 1) := by decide +kernel
theorem dJ1_charAt_3b067_9 : decode cJ1_charAt_3b067 9 = .ok (.sipush 255, 3) := by decide +kernel
theorem dJ1_charAt_3b067_12 : decode cJ1_charAt_3b067 12 = .ok (.iand, 1) := by decide +kernel
theorem dJ1_charAt_3b067_13 : decode cJ1_charAt_3b067 13 = .ok (.i2c, 1) := by decide +kernel
theorem dJ1_charAt_3b067_14 : decode cJ1_charAt_3b067 14 = .ok (.ireturn, 1) := by decide +kernel
theorem dJ2_getChar_3b067_0 : decode cJ2_getChar_3b067 0 = .ok (.getstatic 44, 3) := by decide +kernel
theorem dJ2_getChar_3b067_3 : decode cJ2_getChar_3b067 3 = .ok (.ifCond .ne 25, 3) := by decide +kernel
theorem dJ2_getChar_3b067_6 : decode cJ2_getChar_3b067 6 = .ok (.iload_n 1, 1) := by decide +kernel
theorem dJ2_getChar_3b067_7 : decode cJ2_getChar_3b067 7 = .ok (.ifCond .lt 11, 3) := by decide +kernel
theorem dJ2_getChar_3b067_10 : decode cJ2_getChar_3b067 10 = .ok (.iload_n 1, 1) := by decide +kernel
theorem dJ2_getChar_3b067_11 : decode cJ2_getChar_3b067 11 = .ok (.aload_n 0, 1) := by decide +kernel
theorem dJ2_getChar_3b067_12 : decode cJ2_getChar_3b067 12 = .ok (.invokestatic 48, 3) := by decide +kernel
theorem dJ2_getChar_3b067_15 : decode cJ2_getChar_3b067 15 = .ok (.if_icmp .lt 13, 3) := by decide +kernel
theorem dJ2_getChar_3b067_18 : decode cJ2_getChar_3b067 18 = .ok (.new 52, 3) := by decide +kernel
theorem dJ2_getChar_3b067_21 : decode cJ2_getChar_3b067 21 = .ok (.dup, 1) := by decide +kernel
theorem dJ2_getChar_3b067_22 : decode cJ2_getChar_3b067 22 = .ok (.ldc 54, 2) := by decide +kernel
theorem dJ2_getChar_3b067_24 : decode cJ2_getChar_3b067 24 = .ok (.invokespecial 56, 3) := by decide +kernel
theorem dJ2_getChar_3b067_27 : decode cJ2_getChar_3b067 27 = .ok (.athrow, 1) := by decide +kernel
theorem dJ2_getChar_3b067_28 : decode cJ2_getChar_3b067 28 = .ok (.iload_n 1, 1) := by decide +kernel
theorem dJ2_getChar_3b067_29 : decode cJ2_getChar_3b067 29 = .ok (.iconst 1, 1) := by decide +kernel
theorem dJ2_getChar_3b067_30 : decode cJ2_getChar_3b067 30 = .ok (.ishl, 1) := by decide +kernel
theorem dJ2_getChar_3b067_31 : decode cJ2_getChar_3b067 31 = .ok (.istore_n 1, 1) := by decide +kernel
theorem dJ2_getChar_3b067_32 : decode cJ2_getChar_3b067 32 = .ok (.aload_n 0, 1) := by decide +kernel
theorem dJ2_getChar_3b067_33 : decode cJ2_getChar_3b067 33 = .ok (.iload_n 1, 1) := by decide +kernel
theorem dJ2_getChar_3b067_34 : decode cJ2_getChar_3b067 34 = .ok (.iinc 1 1, 3) := by decide +kernel
theorem dJ2_getChar_3b067_37 : decode cJ2_getChar_3b067 37 = .ok (.baload, 1) := by decide +kernel
theorem dJ2_getChar_3b067_38 : decode cJ2_getChar_3b067 38 = .ok (.sipush 255, 3) := by decide +kernel
theorem dJ2_getChar_3b067_41 : decode cJ2_getChar_3b067 41 = .ok (.iand, 1) := by decide +kernel
theorem dJ2_getChar_3b067_42 : decode cJ2_getChar_3b067 42 = .ok (.getstatic 59, 3) := by decide +kernel
theorem dJ2_getChar_3b067_45 : decode cJ2_getChar_3b067 45 = .ok (.ishl, 1) := by decide +kernel
theorem dJ2_getChar_3b067_46 : decode cJ2_getChar_3b067 46 = .ok (.aload_n 0, 1) := by decide +kernel
theorem dJ2_getChar_3b067_47 : decode cJ2_getChar_3b067 47 = .ok (.iload_n 1, 1) := by decide +kernel
theorem dJ2_getChar_3b067_48 : decode cJ2_getChar_3b067 48 = .ok (.baload, 1) := by decide +kernel
theorem dJ2_getChar_3b067_49 : decode cJ2_getChar_3b067 49 = .ok (.sipush 255, 3) := by decide +kernel
theorem dJ2_getChar_3b067_52 : decode cJ2_getChar_3b067 52 = .ok (.iand, 1) := by decide +kernel
theorem dJ2_getChar_3b067_53 : decode cJ2_getChar_3b067 53 = .ok (.getstatic 63, 3) := by decide +kernel
theorem dJ2_getChar_3b067_56 : decode cJ2_getChar_3b067 56 = .ok (.ishl, 1) := by decide +kernel
theorem dJ2_getChar_3b067_57 : decode cJ2_getChar_3b067 57 = .ok (.ior, 1) := by decide +kernel
theorem dJ2_getChar_3b067_58 : decode cJ2_getChar_3b067 58 = .ok (.i2c, 1) := by decide +kernel
theorem dJ2_getChar_3b067_59 : decode cJ2_getChar_3b067 59 = .ok (.ireturn, 1) := by decide +kernel
theorem dJ2_length_9d52b_0 : decode cJ2_length_9d52b 0 = .ok (.aload_n 0, 1) := by decide +kernel
theorem dJ2_length_9d52b_1 : decode cJ2_length_9d52b 1 = .ok (.arraylength, 1) := by decide +kernel
theorem dJ2_length_9d52b_2 : decode cJ2_length_9d52b 2 = .ok (.iconst 1, 1) := by decide +kernel
theorem dJ2_length_9d52b_3 : decode cJ2_length_9d52b 3 = .ok (.ishr, 1) := by decide +kernel
theorem dJ2_length_9d52b_4 : decode cJ2_length_9d52b 4 = .ok (.ireturn, 1) := by decide +kernel
theorem dJ2_charAt_3b067_0 : decode cJ2_charAt_3b067 0 = .ok (.iload_n 1, 1) := by decide +kernel
theorem dJ2_charAt_3b067_1 : decode cJ2_charAt_3b067 1 = .ok (.aload_n 0, 1) := by decide +kernel
theorem dJ2_charAt_3b067_2 : decode cJ2_charAt_3b067 2 = .ok (.invokestatic 67, 3) := by decide +kernel
theorem dJ2_charAt_3b067_5 : decode cJ2_charAt_3b067 5 = .ok (.aload_n 0, 1) := by decide +kernel
theorem dJ2_charAt_3b067_6 : decode cJ2_charAt_3b067 6 = .ok (.iload_n 1, 1) := by decide +kernel
theorem dJ2_charAt_3b067_7 : decode cJ2_charAt_3b067 7 = .ok (.invokestatic 71, 3) := by decide +kernel
theorem dJ2_charAt_3b067_10 : decode cJ2_charAt_3b067 10 = .ok (.ireturn, 1) := by decide +kernel
theorem dJ2_checkIndex_2214a_0 : decode cJ2_checkIndex_2214a 0 = .ok (.iload_n 0, 1) := by decide +kernel
theorem dJ2_checkIndex_2214a_1 : decode cJ2_checkIndex_2214a 1 = .ok (.aload_n 1, 1) := by decide +kernel
theorem dJ2_checkIndex_2214a_2 : decode cJ2_checkIndex_2214a 2 = .ok (.invokestatic 48, 3) := by decide +kernel
theorem dJ2_checkIndex_2214a_5 : decode cJ2_checkIndex_2214a 5 = .ok (.invokestatic 414, 3) := by decide +kernel
theorem dJ2_checkIndex_2214a_8 : decode cJ2_checkIndex_2214a 8 = .ok (.return_, 1) := by decide +kernel
theorem dJ7_fill_53178_0 : decode cJ7_fill_53178 0 = .ok (.iconst 0, 1) := by decide +kernel
theorem dJ7_fill_53178_1 : decode cJ7_fill_53178 1 = .ok (.istore_n 2, 1) := by decide +kernel
theorem dJ7_fill_53178_2 : decode cJ7_fill_53178 2 = .ok (.aload_n 0, 1) := by decide +kernel
theorem dJ7_fill_53178_3 : decode cJ7_fill_53178 3 = .ok (.arraylength, 1) := by decide +kernel
theorem dJ7_fill_53178_4 : decode cJ7_fill_53178 4 = .ok (.istore_n 3, 1) := by decide +kernel
theorem dJ7_fill_53178_5 : decode cJ7_fill_53178 5 = .ok (.iload_n 2, 1) := by decide +kernel
theorem dJ7_fill_53178_6 : decode cJ7_fill_53178 6 = .ok (.iload_n 3, 1) := by decide +kernel
theorem dJ7_fill_53178_7 : decode cJ7_fill_53178 7 = .ok (.if_icmp .ge 13, 3) := by decide +kernel
theorem dJ7_fill_53178_10 : decode cJ7_fill_53178 10 = .ok (.aload_n 0, 1) := by decide +kernel
theorem dJ7_fill_53178_11 : decode cJ7_fill_53178 11 = .ok (.iload_n 2, 1) := by decide +kernel
theorem dJ7_fill_53178_12 : decode cJ7_fill_53178 12 = .ok (.iload_n 1, 1) := by decide +kernel
theorem dJ7_fill_53178_13 : decode cJ7_fill_53178 13 = .ok (.iastore, 1) := by decide +kernel
theorem dJ7_fill_53178_14 : decode cJ7_fill_53178 14 = .ok (.iinc 2 1, 3) := by decide +kernel
theorem dJ7_fill_53178_17 : decode cJ7_fill_53178 17 = .ok (.goto (-12), 3) := by decide +kernel
theorem dJ7_fill_53178_20 : decode cJ7_fill_53178 20 = .ok (.return_, 1) := by decide +kernel
theorem dJ3_checkIndex_8e157_0 : decode cJ3_checkIndex_8e157 0 = .ok (.iload_n 0, 1) := by decide +kernel
theorem dJ3_checkIndex_8e157_1 : decode cJ3_checkIndex_8e157 1 = .ok (.ifCond .lt 8, 3) := by decide +kernel
theorem dJ3_checkIndex_8e157_4 : decode cJ3_checkIndex_8e157 4 = .ok (.iload_n 0, 1) := by decide +kernel
theorem dJ3_checkIndex_8e157_5 : decode cJ3_checkIndex_8e157 5 = .ok (.iload_n 1, 1) := by decide +kernel
theorem dJ3_checkIndex_8e157_6 : decode cJ3_checkIndex_8e157 6 = .ok (.if_icmp .lt 10, 3) := by decide +kernel
theorem dJ3_checkIndex_8e157_9 : decode cJ3_checkIndex_8e157 9 = .ok (.aload_n 2, 1) := by decide +kernel
theorem dJ3_checkIndex_8e157_10 : decode cJ3_checkIndex_8e157 10 = .ok (.iload_n 0, 1) := by decide +kernel
theorem dJ3_checkIndex_8e157_11 : decode cJ3_checkIndex_8e157 11 = .ok (.iload_n 1, 1) := by decide +kernel
theorem dJ3_checkIndex_8e157_12 : decode cJ3_checkIndex_8e157 12 = .ok (.invokestatic 95, 3) := by decide +kernel
theorem dJ3_checkIndex_8e157_15 : decode cJ3_checkIndex_8e157 15 = .ok (.athrow, 1) := by decide +kernel
theorem dJ3_checkIndex_8e157_16 : decode cJ3_checkIndex_8e157 16 = .ok (.iload_n 0, 1) := by decide +kernel
theorem dJ3_checkIndex_8e157_17 : decode cJ3_checkIndex_8e157 17 = .ok (.ireturn, 1) := by decide +kernel
theorem dL_law_0 : decode cL_law 0 = .ok (.new 7, 3) := by decide +kernel
theorem dL_law_3 : decode cL_law 3 = .ok (.dup, 1) := by decide +kernel
theorem dL_law_4 : decode cL_law 4 = .ok (.invokespecial 9, 3) := by decide +kernel
theorem dL_law_7 : decode cL_law 7 = .ok (.astore_n 1, 1) := by decide +kernel
theorem dL_law_8 : decode cL_law 8 = .ok (.new 10, 3) := by decide +kernel
theorem dL_law_11 : decode cL_law 11 = .ok (.dup, 1) := by decide +kernel
theorem dL_law_12 : decode cL_law 12 = .ok (.invokespecial 12, 3) := by decide +kernel
theorem dL_law_15 : decode cL_law 15 = .ok (.astore_n 2, 1) := by decide +kernel
theorem dL_law_16 : decode cL_law 16 = .ok (.iconst 0, 1) := by decide +kernel
theorem dL_law_17 : decode cL_law 17 = .ok (.istore_n 3, 1) := by decide +kernel
theorem dL_law_18 : decode cL_law 18 = .ok (.iload_n 3, 1) := by decide +kernel
theorem dL_law_19 : decode cL_law 19 = .ok (.aload_n 0, 1) := by decide +kernel
theorem dL_law_20 : decode cL_law 20 = .ok (.arraylength, 1) := by decide +kernel
theorem dL_law_21 : decode cL_law 21 = .ok (.bipush 6, 2) := by decide +kernel
theorem dL_law_23 : decode cL_law 23 = .ok (.isub, 1) := by decide +kernel
theorem dL_law_24 : decode cL_law 24 = .ok (.if_icmp .gt 1047, 3) := by decide +kernel
theorem dL_law_27 : decode cL_law 27 = .ok (.aload_n 0, 1) := by decide +kernel
theorem dL_law_28 : decode cL_law 28 = .ok (.iload_n 3, 1) := by decide +kernel
theorem dL_law_29 : decode cL_law 29 = .ok (.iaload, 1) := by decide +kernel
theorem dL_law_30 : decode cL_law 30 = .ok (.bipush 31, 2) := by decide +kernel
theorem dL_law_32 : decode cL_law 32 = .ok (.iand, 1) := by decide +kernel
theorem dL_law_33 : decode cL_law 33 = .ok (.tableswitch 1032 0 30 #[139, 162, 175, 188, 201, 234, 267, 310, 343, 366, 399, 462, 495, 538, 601, 624, 667, 680, 713, 736, 769, 792, 815, 848, 871, 904, 927, 940, 963, 996, 1009], 139) := by decide +kernel
theorem dL_law_172 : decode cL_law 172 = .ok (.aload_n 1, 1) := by decide +kernel
theorem dL_law_173 : decode cL_law 173 = .ok (.aload_n 0, 1) := by decide +kernel
theorem dL_law_174 : decode cL_law 174 = .ok (.iload_n 3, 1) := by decide +kernel
theorem dL_law_175 : decode cL_law 175 = .ok (.iconst 1, 1) := by decide +kernel
theorem dL_law_176 : decode cL_law 176 = .ok (.iadd, 1) := by decide +kernel
theorem dL_law_177 : decode cL_law 177 = .ok (.iaload, 1) := by decide +kernel
theorem dL_law_178 : decode cL_law 178 = .ok (.invokevirtual 13, 3) := by decide +kernel
theorem dL_law_181 : decode cL_law 181 = .ok (.aload_n 2, 1) := by decide +kernel
theorem dL_law_182 : decode cL_law 182 = .ok (.aload_n 0, 1) := by decide +kernel
theorem dL_law_183 : decode cL_law 183 = .ok (.iload_n 3, 1) := by decide +kernel
theorem dL_law_184 : decode cL_law 184 = .ok (.iconst 1, 1) := by decide +kernel
theorem dL_law_185 : decode cL_law 185 = .ok (.iadd, 1) := by decide +kernel
theorem dL_law_186 : decode cL_law 186 = .ok (.iaload, 1) := by decide +kernel
theorem dL_law_187 : decode cL_law 187 = .ok (.invokevirtual 17, 3) := by decide +kernel
theorem dL_law_190 : decode cL_law 190 = .ok (.if_icmp .eq 875, 3) := by decide +kernel
theorem dL_law_193 : decode cL_law 193 = .ok (.iconst 0, 1) := by decide +kernel
theorem dL_law_194 : decode cL_law 194 = .ok (.ireturn, 1) := by decide +kernel
theorem dL_law_195 : decode cL_law 195 = .ok (.aload_n 1, 1) := by decide +kernel
theorem dL_law_196 : decode cL_law 196 = .ok (.invokevirtual 18, 3) := by decide +kernel
theorem dL_law_199 : decode cL_law 199 = .ok (.aload_n 2, 1) := by decide +kernel
theorem dL_law_200 : decode cL_law 200 = .ok (.invokevirtual 22, 3) := by decide +kernel
theorem dL_law_203 : decode cL_law 203 = .ok (.if_icmp .eq 862, 3) := by decide +kernel
theorem dL_law_206 : decode cL_law 206 = .ok (.iconst 0, 1) := by decide +kernel
theorem dL_law_207 : decode cL_law 207 = .ok (.ireturn, 1) := by decide +kernel
theorem dL_law_208 : decode cL_law 208 = .ok (.aload_n 1, 1) := by decide +kernel
theorem dL_law_209 : decode cL_law 209 = .ok (.invokevirtual 23, 3) := by decide +kernel
theorem dL_law_212 : decode cL_law 212 = .ok (.aload_n 2, 1) := by decide +kernel
theorem dL_law_213 : decode cL_law 213 = .ok (.invokevirtual 26, 3) := by decide +kernel
theorem dL_law_216 : decode cL_law 216 = .ok (.if_icmp .eq 849, 3) := by decide +kernel
theorem dL_law_219 : decode cL_law 219 = .ok (.iconst 0, 1) := by decide +kernel
theorem dL_law_220 : decode cL_law 220 = .ok (.ireturn, 1) := by decide +kernel
theorem dL_law_221 : decode cL_law 221 = .ok (.aload_n 1, 1) := by decide +kernel
theorem dL_law_222 : decode cL_law 222 = .ok (.invokevirtual 27, 3) := by decide +kernel
theorem dL_law_225 : decode cL_law 225 = .ok (.aload_n 2, 1) := by decide +kernel
theorem dL_law_226 : decode cL_law 226 = .ok (.invokevirtual 30, 3) := by decide +kernel
theorem dL_law_229 : decode cL_law 229 = .ok (.if_icmp .eq 836, 3) := by decide +kernel
theorem dL_law_232 : decode cL_law 232 = .ok (.iconst 0, 1) := by decide +kernel
theorem dL_law_233 : decode cL_law 233 = .ok (.ireturn, 1) := by decide +kernel
theorem dL_law_234 : decode cL_law 234 = .ok (.aload_n 1, 1) := by decide +kernel
theorem dL_law_235 : decode cL_law 235 = .ok (.aload_n 0, 1) := by decide +kernel
theorem dL_law_236 : decode cL_law 236 = .ok (.iload_n 3, 1) := by decide +kernel
theorem dL_law_237 : decode cL_law 237 = .ok (.iconst 1, 1) := by decide +kernel
theorem dL_law_238 : decode cL_law 238 = .ok (.iadd, 1) := by decide +kernel
theorem dL_law_239 : decode cL_law 239 = .ok (.iaload, 1) := by decide +kernel
theorem dL_law_240 : decode cL_law 240 = .ok (.aload_n 0, 1) := by decide +kernel
theorem dL_law_241 : decode cL_law 241 = .ok (.iload_n 3, 1) := by decide +kernel
theorem dL_law_242 : decode cL_law 242 = .ok (.iconst 2, 1) := by decide +kernel
theorem dL_law_243 : decode cL_law 243 = .ok (.iadd, 1) := by decide +kernel
theorem dL_law_244 : decode cL_law 244 = .ok (.iaload, 1) := by decide +kernel
theorem dL_law_245 : decode cL_law 245 = .ok (.invokevirtual 31, 3) := by decide +kernel
theorem dL_law_248 : decode cL_law 248 = .ok (.aload_n 2, 1) := by decide +kernel
theorem dL_law_249 : decode cL_law 249 = .ok (.aload_n 0, 1) := by decide +kernel
theorem dL_law_250 : decode cL_law 250 = .ok (.iload_n 3, 1) := by decide +kernel
theorem dL_law_251 : decode cL_law 251 = .ok (.iconst 1, 1) := by decide +kernel
theorem dL_law_252 : decode cL_law 252 = .ok (.iadd, 1) := by decide +kernel
theorem dL_law_253 : decode cL_law 253 = .ok (.iaload, 1) := by decide +kernel
theorem dL_law_254 : decode cL_law 254 = .ok (.aload_n 0, 1) := by decide +kernel
theorem dL_law_255 : decode cL_law 255 = .ok (.iload_n 3, 1) := by decide +kernel
theorem dL_law_256 : decode cL_law 256 = .ok (.iconst 2, 1) := by decide +kernel
theorem dL_law_257 : decode cL_law 257 = .ok (.iadd, 1) := by decide +kernel
theorem dL_law_258 : decode cL_law 258 = .ok (.iaload, 1) := by decide +kernel
theorem dL_law_259 : decode cL_law 259 = .ok (.invokevirtual 35, 3) := by decide +kernel
theorem dL_law_262 : decode cL_law 262 = .ok (.if_icmp .eq 803, 3) := by decide +kernel
theorem dL_law_265 : decode cL_law 265 = .ok (.iconst 0, 1) := by decide +kernel
theorem dL_law_266 : decode cL_law 266 = .ok (.ireturn, 1) := by decide +kernel
theorem dL_law_267 : decode cL_law 267 = .ok (.aload_n 1, 1) := by decide +kernel
theorem dL_law_268 : decode cL_law 268 = .ok (.aload_n 0, 1) := by decide +kernel
theorem dL_law_269 : decode cL_law 269 = .ok (.iload_n 3, 1) := by decide +kernel
theorem dL_law_270 : decode cL_law 270 = .ok (.iconst 1, 1) := by decide +kernel
theorem dL_law_271 : decode cL_law 271 = .ok (.iadd, 1) := by decide +kernel
theorem dL_law_272 : decode cL_law 272 = .ok (.iaload, 1) := by decide +kernel
theorem dL_law_273 : decode cL_law 273 = .ok (.aload_n 0, 1) := by decide +kernel
theorem dL_law_274 : decode cL_law 274 = .ok (.iload_n 3, 1) := by decide +kernel
theorem dL_law_275 : decode cL_law 275 = .ok (.iconst 2, 1) := by decide +kernel
theorem dL_law_276 : decode cL_law 276 = .ok (.iadd, 1) := by decide +kernel
theorem dL_law_277 : decode cL_law 277 = .ok (.iaload, 1) := by decide +kernel
theorem dL_law_278 : decode cL_law 278 = .ok (.invokevirtual 36, 3) := by decide +kernel
theorem dL_law_281 : decode cL_law 281 = .ok (.aload_n 2, 1) := by decide +kernel
theorem dL_law_282 : decode cL_law 282 = .ok (.aload_n 0, 1) := by decide +kernel
theorem dL_law_283 : decode cL_law 283 = .ok (.iload_n 3, 1) := by decide +kernel
theorem dL_law_284 : decode cL_law 284 = .ok (.iconst 1, 1) := by decide +kernel
theorem dL_law_285 : decode cL_law 285 = .ok (.iadd, 1) := by decide +kernel
theorem dL_law_286 : decode cL_law 286 = .ok (.iaload, 1) := by decide +kernel
theorem dL_law_287 : decode cL_law 287 = .ok (.aload_n 0, 1) := by decide +kernel
theorem dL_law_288 : decode cL_law 288 = .ok (.iload_n 3, 1) := by decide +kernel
theorem dL_law_289 : decode cL_law 289 = .ok (.iconst 2, 1) := by decide +kernel
theorem dL_law_290 : decode cL_law 290 = .ok (.iadd, 1) := by decide +kernel
theorem dL_law_291 : decode cL_law 291 = .ok (.iaload, 1) := by decide +kernel
theorem dL_law_292 : decode cL_law 292 = .ok (.invokevirtual 39, 3) := by decide +kernel
theorem dL_law_295 : decode cL_law 295 = .ok (.if_icmp .eq 770, 3) := by decide +kernel
theorem dL_law_298 : decode cL_law 298 = .ok (.iconst 0, 1) := by decide +kernel
theorem dL_law_299 : decode cL_law 299 = .ok (.ireturn, 1) := by decide +kernel
theorem dL_law_300 : decode cL_law 300 = .ok (.aload_n 1, 1) := by decide +kernel
theorem dL_law_301 : decode cL_law 301 = .ok (.aload_n 0, 1) := by decide +kernel
theorem dL_law_302 : decode cL_law 302 = .ok (.iload_n 3, 1) := by decide +kernel
theorem dL_law_303 : decode cL_law 303 = .ok (.iconst 1, 1) := by decide +kernel
theorem dL_law_304 : decode cL_law 304 = .ok (.iadd, 1) := by decide +kernel
theorem dL_law_305 : decode cL_law 305 = .ok (.iaload, 1) := by decide +kernel
theorem dL_law_306 : decode cL_law 306 = .ok (.aload_n 0, 1) := by decide +kernel
theorem dL_law_307 : decode cL_law 307 = .ok (.iload_n 3, 1) := by decide +kernel
theorem dL_law_308 : decode cL_law 308 = .ok (.iconst 2, 1) := by decide +kernel
theorem dL_law_309 : decode cL_law 309 = .ok (.iadd, 1) := by decide +kernel
theorem dL_law_310 : decode cL_law 310 = .ok (.iaload, 1) := by decide +kernel
theorem dL_law_311 : decode cL_law 311 = .ok (.aload_n 0, 1) := by decide +kernel
theorem dL_law_312 : decode cL_law 312 = .ok (.iload_n 3, 1) := by decide +kernel
theorem dL_law_313 : decode cL_law 313 = .ok (.iconst 3, 1) := by decide +kernel
theorem dL_law_314 : decode cL_law 314 = .ok (.iadd, 1) := by decide +kernel
theorem dL_law_315 : decode cL_law 315 = .ok (.iaload, 1) := by decide +kernel
theorem dL_law_316 : decode cL_law 316 = .ok (.invokevirtual 40, 3) := by decide +kernel
theorem dL_law_319 : decode cL_law 319 = .ok (.aload_n 2, 1) := by decide +kernel
theorem dL_law_320 : decode cL_law 320 = .ok (.aload_n 0, 1) := by decide +kernel
theorem dL_law_321 : decode cL_law 321 = .ok (.iload_n 3, 1) := by decide +kernel
theorem dL_law_322 : decode cL_law 322 = .ok (.iconst 1, 1) := by decide +kernel
theorem dL_law_323 : decode cL_law 323 = .ok (.iadd, 1) := by decide +kernel
theorem dL_law_324 : decode cL_law 324 = .ok (.iaload, 1) := by decide +kernel
theorem dL_law_325 : decode cL_law 325 = .ok (.aload_n 0, 1) := by decide +kernel
theorem dL_law_326 : decode cL_law 326 = .ok (.iload_n 3, 1) := by decide +kernel
theorem dL_law_327 : decode cL_law 327 = .ok (.iconst 2, 1) := by decide +kernel
theorem dL_law_328 : decode cL_law 328 = .ok (.iadd, 1) := by decide +kernel
theorem dL_law_329 : decode cL_law 329 = .ok (.iaload, 1) := by decide +kernel
theorem dL_law_330 : decode cL_law 330 = .ok (.aload_n 0, 1) := by decide +kernel
theorem dL_law_331 : decode cL_law 331 = .ok (.iload_n 3, 1) := by decide +kernel
theorem dL_law_332 : decode cL_law 332 = .ok (.iconst 3, 1) := by decide +kernel
theorem dL_law_333 : decode cL_law 333 = .ok (.iadd, 1) := by decide +kernel
theorem dL_law_334 : decode cL_law 334 = .ok (.iaload, 1) := by decide +kernel
theorem dL_law_335 : decode cL_law 335 = .ok (.invokevirtual 44, 3) := by decide +kernel
theorem dL_law_338 : decode cL_law 338 = .ok (.if_icmp .eq 727, 3) := by decide +kernel
theorem dL_law_341 : decode cL_law 341 = .ok (.iconst 0, 1) := by decide +kernel
theorem dL_law_342 : decode cL_law 342 = .ok (.ireturn, 1) := by decide +kernel
theorem dL_law_343 : decode cL_law 343 = .ok (.aload_n 1, 1) := by decide +kernel
theorem dL_law_344 : decode cL_law 344 = .ok (.aload_n 0, 1) := by decide +kernel
theorem dL_law_345 : decode cL_law 345 = .ok (.iload_n 3, 1) := by decide +kernel
theorem dL_law_346 : decode cL_law 346 = .ok (.iconst 1, 1) := by decide +kernel
theorem dL_law_347 : decode cL_law 347 = .ok (.iadd, 1) := by decide +kernel
theorem dL_law_348 : decode cL_law 348 = .ok (.iaload, 1) := by decide +kernel
theorem dL_law_349 : decode cL_law 349 = .ok (.aload_n 0, 1) := by decide +kernel
theorem dL_law_350 : decode cL_law 350 = .ok (.iload_n 3, 1) := by decide +kernel
theorem dL_law_351 : decode cL_law 351 = .ok (.iconst 2, 1) := by decide +kernel
theorem dL_law_352 : decode cL_law 352 = .ok (.iadd, 1) := by decide +kernel
theorem dL_law_353 : decode cL_law 353 = .ok (.iaload, 1) := by decide +kernel
theorem dL_law_354 : decode cL_law 354 = .ok (.invokevirtual 45, 3) := by decide +kernel
theorem dL_law_357 : decode cL_law 357 = .ok (.aload_n 2, 1) := by decide +kernel
theorem dL_law_358 : decode cL_law 358 = .ok (.aload_n 0, 1) := by decide +kernel
theorem dL_law_359 : decode cL_law 359 = .ok (.iload_n 3, 1) := by decide +kernel
theorem dL_law_360 : decode cL_law 360 = .ok (.iconst 1, 1) := by decide +kernel
theorem dL_law_361 : decode cL_law 361 = .ok (.iadd, 1) := by decide +kernel
theorem dL_law_362 : decode cL_law 362 = .ok (.iaload, 1) := by decide +kernel
theorem dL_law_363 : decode cL_law 363 = .ok (.aload_n 0, 1) := by decide +kernel
theorem dL_law_364 : decode cL_law 364 = .ok (.iload_n 3, 1) := by decide +kernel
theorem dL_law_365 : decode cL_law 365 = .ok (.iconst 2, 1) := by decide +kernel
theorem dL_law_366 : decode cL_law 366 = .ok (.iadd, 1) := by decide +kernel
theorem dL_law_367 : decode cL_law 367 = .ok (.iaload, 1) := by decide +kernel
theorem dL_law_368 : decode cL_law 368 = .ok (.invokevirtual 48, 3) := by decide +kernel
theorem dL_law_371 : decode cL_law 371 = .ok (.if_icmp .eq 694, 3) := by decide +kernel
theorem dL_law_374 : decode cL_law 374 = .ok (.iconst 0, 1) := by decide +kernel
theorem dL_law_375 : decode cL_law 375 = .ok (.ireturn, 1) := by decide +kernel
theorem dL_law_376 : decode cL_law 376 = .ok (.aload_n 1, 1) := by decide +kernel
theorem dL_law_377 : decode cL_law 377 = .ok (.aload_n 0, 1) := by decide +kernel
theorem dL_law_378 : decode cL_law 378 = .ok (.iload_n 3, 1) := by decide +kernel
theorem dL_law_379 : decode cL_law 379 = .ok (.iconst 1, 1) := by decide +kernel
theorem dL_law_380 : decode cL_law 380 = .ok (.iadd, 1) := by decide +kernel
theorem dL_law_381 : decode cL_law 381 = .ok (.iaload, 1) := by decide +kernel
theorem dL_law_382 : decode cL_law 382 = .ok (.invokevirtual 49, 3) := by decide +kernel
theorem dL_law_385 : decode cL_law 385 = .ok (.aload_n 2, 1) := by decide +kernel
theorem dL_law_386 : decode cL_law 386 = .ok (.aload_n 0, 1) := by decide +kernel
theorem dL_law_387 : decode cL_law 387 = .ok (.iload_n 3, 1) := by decide +kernel
theorem dL_law_388 : decode cL_law 388 = .ok (.iconst 1, 1) := by decide +kernel
theorem dL_law_389 : decode cL_law 389 = .ok (.iadd, 1) := by decide +kernel
theorem dL_law_390 : decode cL_law 390 = .ok (.iaload, 1) := by decide +kernel
theorem dL_law_391 : decode cL_law 391 = .ok (.invokevirtual 52, 3) := by decide +kernel
theorem dL_law_394 : decode cL_law 394 = .ok (.if_icmp .eq 671, 3) := by decide +kernel
theorem dL_law_397 : decode cL_law 397 = .ok (.iconst 0, 1) := by decide +kernel
theorem dL_law_398 : decode cL_law 398 = .ok (.ireturn, 1) := by decide +kernel
theorem dL_law_399 : decode cL_law 399 = .ok (.aload_n 1, 1) := by decide +kernel
theorem dL_law_400 : decode cL_law 400 = .ok (.aload_n 0, 1) := by decide +kernel
theorem dL_law_401 : decode cL_law 401 = .ok (.iload_n 3, 1) := by decide +kernel
theorem dL_law_402 : decode cL_law 402 = .ok (.iconst 1, 1) := by decide +kernel
theorem dL_law_403 : decode cL_law 403 = .ok (.iadd, 1) := by decide +kernel
theorem dL_law_404 : decode cL_law 404 = .ok (.iaload, 1) := by decide +kernel
theorem dL_law_405 : decode cL_law 405 = .ok (.aload_n 0, 1) := by decide +kernel
theorem dL_law_406 : decode cL_law 406 = .ok (.iload_n 3, 1) := by decide +kernel
theorem dL_law_407 : decode cL_law 407 = .ok (.iconst 2, 1) := by decide +kernel
theorem dL_law_408 : decode cL_law 408 = .ok (.iadd, 1) := by decide +kernel
theorem dL_law_409 : decode cL_law 409 = .ok (.iaload, 1) := by decide +kernel
theorem dL_law_410 : decode cL_law 410 = .ok (.invokevirtual 53, 3) := by decide +kernel
theorem dL_law_413 : decode cL_law 413 = .ok (.aload_n 2, 1) := by decide +kernel
theorem dL_law_414 : decode cL_law 414 = .ok (.aload_n 0, 1) := by decide +kernel
theorem dL_law_415 : decode cL_law 415 = .ok (.iload_n 3, 1) := by decide +kernel
theorem dL_law_416 : decode cL_law 416 = .ok (.iconst 1, 1) := by decide +kernel
theorem dL_law_417 : decode cL_law 417 = .ok (.iadd, 1) := by decide +kernel
theorem dL_law_418 : decode cL_law 418 = .ok (.iaload, 1) := by decide +kernel
theorem dL_law_419 : decode cL_law 419 = .ok (.aload_n 0, 1) := by decide +kernel
theorem dL_law_420 : decode cL_law 420 = .ok (.iload_n 3, 1) := by decide +kernel
theorem dL_law_421 : decode cL_law 421 = .ok (.iconst 2, 1) := by decide +kernel
theorem dL_law_422 : decode cL_law 422 = .ok (.iadd, 1) := by decide +kernel
theorem dL_law_423 : decode cL_law 423 = .ok (.iaload, 1) := by decide +kernel
theorem dL_law_424 : decode cL_law 424 = .ok (.invokevirtual 56, 3) := by decide +kernel
theorem dL_law_427 : decode cL_law 427 = .ok (.if_icmp .eq 638, 3) := by decide +kernel
theorem dL_law_430 : decode cL_law 430 = .ok (.iconst 0, 1) := by decide +kernel
theorem dL_law_431 : decode cL_law 431 = .ok (.ireturn, 1) := by decide +kernel
theorem dL_law_432 : decode cL_law 432 = .ok (.aload_n 1, 1) := by decide +kernel
theorem dL_law_433 : decode cL_law 433 = .ok (.aload_n 0, 1) := by decide +kernel
theorem dL_law_434 : decode cL_law 434 = .ok (.iload_n 3, 1) := by decide +kernel
theorem dL_law_435 : decode cL_law 435 = .ok (.iconst 1, 1) := by decide +kernel
theorem dL_law_436 : decode cL_law 436 = .ok (.iadd, 1) := by decide +kernel
theorem dL_law_437 : decode cL_law 437 = .ok (.iaload, 1) := by decide +kernel
theorem dL_law_438 : decode cL_law 438 = .ok (.aload_n 0, 1) := by decide +kernel
theorem dL_law_439 : decode cL_law 439 = .ok (.iload_n 3, 1) := by decide +kernel
theorem dL_law_440 : decode cL_law 440 = .ok (.iconst 2, 1) := by decide +kernel
theorem dL_law_441 : decode cL_law 441 = .ok (.iadd, 1) := by decide +kernel
theorem dL_law_442 : decode cL_law 442 = .ok (.iaload, 1) := by decide +kernel
theorem dL_law_443 : decode cL_law 443 = .ok (.aload_n 0, 1) := by decide +kernel
theorem dL_law_444 : decode cL_law 444 = .ok (.iload_n 3, 1) := by decide +kernel
theorem dL_law_445 : decode cL_law 445 = .ok (.iconst 3, 1) := by decide +kernel
theorem dL_law_446 : decode cL_law 446 = .ok (.iadd, 1) := by decide +kernel
theorem dL_law_447 : decode cL_law 447 = .ok (.iaload, 1) := by decide +kernel
theorem dL_law_448 : decode cL_law 448 = .ok (.aload_n 0, 1) := by decide +kernel
theorem dL_law_449 : decode cL_law 449 = .ok (.iload_n 3, 1) := by decide +kernel
theorem dL_law_450 : decode cL_law 450 = .ok (.iconst 4, 1) := by decide +kernel
theorem dL_law_451 : decode cL_law 451 = .ok (.iadd, 1) := by decide +kernel
theorem dL_law_452 : decode cL_law 452 = .ok (.iaload, 1) := by decide +kernel
theorem dL_law_453 : decode cL_law 453 = .ok (.aload_n 0, 1) := by decide +kernel
theorem dL_law_454 : decode cL_law 454 = .ok (.iload_n 3, 1) := by decide +kernel
theorem dL_law_455 : decode cL_law 455 = .ok (.iconst 5, 1) := by decide +kernel
theorem dL_law_456 : decode cL_law 456 = .ok (.iadd, 1) := by decide +kernel
theorem dL_law_457 : decode cL_law 457 = .ok (.iaload, 1) := by decide +kernel
theorem dL_law_458 : decode cL_law 458 = .ok (.invokevirtual 57, 3) := by decide +kernel
theorem dL_law_461 : decode cL_law 461 = .ok (.aload_n 2, 1) := by decide +kernel
theorem dL_law_462 : decode cL_law 462 = .ok (.aload_n 0, 1) := by decide +kernel
theorem dL_law_463 : decode cL_law 463 = .ok (.iload_n 3, 1) := by decide +kernel
theorem dL_law_464 : decode cL_law 464 = .ok (.iconst 1, 1) := by decide +kernel
theorem dL_law_465 : decode cL_law 465 = .ok (.iadd, 1) := by decide +kernel
theorem dL_law_466 : decode cL_law 466 = .ok (.iaload, 1) := by decide +kernel
theorem dL_law_467 : decode cL_law 467 = .ok (.aload_n 0, 1) := by decide +kernel
theorem dL_law_468 : decode cL_law 468 = .ok (.iload_n 3, 1) := by decide +kernel
theorem dL_law_469 : decode cL_law 469 = .ok (.iconst 2, 1) := by decide +kernel
theorem dL_law_470 : decode cL_law 470 = .ok (.iadd, 1) := by decide +kernel
theorem dL_law_471 : decode cL_law 471 = .ok (.iaload, 1) := by decide +kernel
theorem dL_law_472 : decode cL_law 472 = .ok (.aload_n 0, 1) := by decide +kernel
theorem dL_law_473 : decode cL_law 473 = .ok (.iload_n 3, 1) := by decide +kernel
theorem dL_law_474 : decode cL_law 474 = .ok (.iconst 3, 1) := by decide +kernel
theorem dL_law_475 : decode cL_law 475 = .ok (.iadd, 1) := by decide +kernel
theorem dL_law_476 : decode cL_law 476 = .ok (.iaload, 1) := by decide +kernel
theorem dL_law_477 : decode cL_law 477 = .ok (.aload_n 0, 1) := by decide +kernel
theorem dL_law_478 : decode cL_law 478 = .ok (.iload_n 3, 1) := by decide +kernel
theorem dL_law_479 : decode cL_law 479 = .ok (.iconst 4, 1) := by decide +kernel
theorem dL_law_480 : decode cL_law 480 = .ok (.iadd, 1) := by decide +kernel
theorem dL_law_481 : decode cL_law 481 = .ok (.iaload, 1) := by decide +kernel
theorem dL_law_482 : decode cL_law 482 = .ok (.aload_n 0, 1) := by decide +kernel
theorem dL_law_483 : decode cL_law 483 = .ok (.iload_n 3, 1) := by decide +kernel
theorem dL_law_484 : decode cL_law 484 = .ok (.iconst 5, 1) := by decide +kernel
theorem dL_law_485 : decode cL_law 485 = .ok (.iadd, 1) := by decide +kernel
theorem dL_law_486 : decode cL_law 486 = .ok (.iaload, 1) := by decide +kernel
theorem dL_law_487 : decode cL_law 487 = .ok (.invokevirtual 61, 3) := by decide +kernel
theorem dL_law_490 : decode cL_law 490 = .ok (.if_icmp .eq 575, 3) := by decide +kernel
theorem dL_law_493 : decode cL_law 493 = .ok (.iconst 0, 1) := by decide +kernel
theorem dL_law_494 : decode cL_law 494 = .ok (.ireturn, 1) := by decide +kernel
theorem dL_law_495 : decode cL_law 495 = .ok (.aload_n 1, 1) := by decide +kernel
theorem dL_law_496 : decode cL_law 496 = .ok (.aload_n 0, 1) := by decide +kernel
theorem dL_law_497 : decode cL_law 497 = .ok (.iload_n 3, 1) := by decide +kernel
theorem dL_law_498 : decode cL_law 498 = .ok (.iconst 1, 1) := by decide +kernel
theorem dL_law_499 : decode cL_law 499 = .ok (.iadd, 1) := by decide +kernel
theorem dL_law_500 : decode cL_law 500 = .ok (.iaload, 1) := by decide +kernel
theorem dL_law_501 : decode cL_law 501 = .ok (.aload_n 0, 1) := by decide +kernel
theorem dL_law_502 : decode cL_law 502 = .ok (.iload_n 3, 1) := by decide +kernel
theorem dL_law_503 : decode cL_law 503 = .ok (.iconst 2, 1) := by decide +kernel
theorem dL_law_504 : decode cL_law 504 = .ok (.iadd, 1) := by decide +kernel
theorem dL_law_505 : decode cL_law 505 = .ok (.iaload, 1) := by decide +kernel
theorem dL_law_506 : decode cL_law 506 = .ok (.invokevirtual 62, 3) := by decide +kernel
theorem dL_law_509 : decode cL_law 509 = .ok (.aload_n 2, 1) := by decide +kernel
theorem dL_law_510 : decode cL_law 510 = .ok (.aload_n 0, 1) := by decide +kernel
theorem dL_law_511 : decode cL_law 511 = .ok (.iload_n 3, 1) := by decide +kernel
theorem dL_law_512 : decode cL_law 512 = .ok (.iconst 1, 1) := by decide +kernel
theorem dL_law_513 : decode cL_law 513 = .ok (.iadd, 1) := by decide +kernel
theorem dL_law_514 : decode cL_law 514 = .ok (.iaload, 1) := by decide +kernel
theorem dL_law_515 : decode cL_law 515 = .ok (.aload_n 0, 1) := by decide +kernel
theorem dL_law_516 : decode cL_law 516 = .ok (.iload_n 3, 1) := by decide +kernel
theorem dL_law_517 : decode cL_law 517 = .ok (.iconst 2, 1) := by decide +kernel
theorem dL_law_518 : decode cL_law 518 = .ok (.iadd, 1) := by decide +kernel
theorem dL_law_519 : decode cL_law 519 = .ok (.iaload, 1) := by decide +kernel
theorem dL_law_520 : decode cL_law 520 = .ok (.invokevirtual 65, 3) := by decide +kernel
theorem dL_law_523 : decode cL_law 523 = .ok (.if_icmp .eq 542, 3) := by decide +kernel
theorem dL_law_526 : decode cL_law 526 = .ok (.iconst 0, 1) := by decide +kernel
theorem dL_law_527 : decode cL_law 527 = .ok (.ireturn, 1) := by decide +kernel
theorem dL_law_528 : decode cL_law 528 = .ok (.aload_n 1, 1) := by decide +kernel
theorem dL_law_529 : decode cL_law 529 = .ok (.aload_n 0, 1) := by decide +kernel
theorem dL_law_530 : decode cL_law 530 = .ok (.iload_n 3, 1) := by decide +kernel
theorem dL_law_531 : decode cL_law 531 = .ok (.iconst 1, 1) := by decide +kernel
theorem dL_law_532 : decode cL_law 532 = .ok (.iadd, 1) := by decide +kernel
theorem dL_law_533 : decode cL_law 533 = .ok (.iaload, 1) := by decide +kernel
theorem dL_law_534 : decode cL_law 534 = .ok (.aload_n 0, 1) := by decide +kernel
theorem dL_law_535 : decode cL_law 535 = .ok (.iload_n 3, 1) := by decide +kernel
theorem dL_law_536 : decode cL_law 536 = .ok (.iconst 2, 1) := by decide +kernel
theorem dL_law_537 : decode cL_law 537 = .ok (.iadd, 1) := by decide +kernel
theorem dL_law_538 : decode cL_law 538 = .ok (.iaload, 1) := by decide +kernel
theorem dL_law_539 : decode cL_law 539 = .ok (.aload_n 0, 1) := by decide +kernel
theorem dL_law_540 : decode cL_law 540 = .ok (.iload_n 3, 1) := by decide +kernel
theorem dL_law_541 : decode cL_law 541 = .ok (.iconst 3, 1) := by decide +kernel
theorem dL_law_542 : decode cL_law 542 = .ok (.iadd, 1) := by decide +kernel
theorem dL_law_543 : decode cL_law 543 = .ok (.iaload, 1) := by decide +kernel
theorem dL_law_544 : decode cL_law 544 = .ok (.invokevirtual 66, 3) := by decide +kernel
theorem dL_law_547 : decode cL_law 547 = .ok (.aload_n 2, 1) := by decide +kernel
theorem dL_law_548 : decode cL_law 548 = .ok (.aload_n 0, 1) := by decide +kernel
theorem dL_law_549 : decode cL_law 549 = .ok (.iload_n 3, 1) := by decide +kernel
theorem dL_law_550 : decode cL_law 550 = .ok (.iconst 1, 1) := by decide +kernel
theorem dL_law_551 : decode cL_law 551 = .ok (.iadd, 1) := by decide +kernel
theorem dL_law_552 : decode cL_law 552 = .ok (.iaload, 1) := by decide +kernel
theorem dL_law_553 : decode cL_law 553 = .ok (.aload_n 0, 1) := by decide +kernel
theorem dL_law_554 : decode cL_law 554 = .ok (.iload_n 3, 1) := by decide +kernel
theorem dL_law_555 : decode cL_law 555 = .ok (.iconst 2, 1) := by decide +kernel
theorem dL_law_556 : decode cL_law 556 = .ok (.iadd, 1) := by decide +kernel
theorem dL_law_557 : decode cL_law 557 = .ok (.iaload, 1) := by decide +kernel
theorem dL_law_558 : decode cL_law 558 = .ok (.aload_n 0, 1) := by decide +kernel
theorem dL_law_559 : decode cL_law 559 = .ok (.iload_n 3, 1) := by decide +kernel
theorem dL_law_560 : decode cL_law 560 = .ok (.iconst 3, 1) := by decide +kernel
theorem dL_law_561 : decode cL_law 561 = .ok (.iadd, 1) := by decide +kernel
theorem dL_law_562 : decode cL_law 562 = .ok (.iaload, 1) := by decide +kernel
theorem dL_law_563 : decode cL_law 563 = .ok (.invokevirtual 69, 3) := by decide +kernel
theorem dL_law_566 : decode cL_law 566 = .ok (.if_icmp .eq 499, 3) := by decide +kernel
theorem dL_law_569 : decode cL_law 569 = .ok (.iconst 0, 1) := by decide +kernel
theorem dL_law_570 : decode cL_law 570 = .ok (.ireturn, 1) := by decide +kernel
theorem dL_law_571 : decode cL_law 571 = .ok (.aload_n 1, 1) := by decide +kernel
theorem dL_law_572 : decode cL_law 572 = .ok (.aload_n 0, 1) := by decide +kernel
theorem dL_law_573 : decode cL_law 573 = .ok (.iload_n 3, 1) := by decide +kernel
theorem dL_law_574 : decode cL_law 574 = .ok (.iconst 1, 1) := by decide +kernel
theorem dL_law_575 : decode cL_law 575 = .ok (.iadd, 1) := by decide +kernel
theorem dL_law_576 : decode cL_law 576 = .ok (.iaload, 1) := by decide +kernel
theorem dL_law_577 : decode cL_law 577 = .ok (.aload_n 0, 1) := by decide +kernel
theorem dL_law_578 : decode cL_law 578 = .ok (.iload_n 3, 1) := by decide +kernel
theorem dL_law_579 : decode cL_law 579 = .ok (.iconst 2, 1) := by decide +kernel
theorem dL_law_580 : decode cL_law 580 = .ok (.iadd, 1) := by decide +kernel
theorem dL_law_581 : decode cL_law 581 = .ok (.iaload, 1) := by decide +kernel
theorem dL_law_582 : decode cL_law 582 = .ok (.aload_n 0, 1) := by decide +kernel
theorem dL_law_583 : decode cL_law 583 = .ok (.iload_n 3, 1) := by decide +kernel
theorem dL_law_584 : decode cL_law 584 = .ok (.iconst 3, 1) := by decide +kernel
theorem dL_law_585 : decode cL_law 585 = .ok (.iadd, 1) := by decide +kernel
theorem dL_law_586 : decode cL_law 586 = .ok (.iaload, 1) := by decide +kernel
theorem dL_law_587 : decode cL_law 587 = .ok (.aload_n 0, 1) := by decide +kernel
theorem dL_law_588 : decode cL_law 588 = .ok (.iload_n 3, 1) := by decide +kernel
theorem dL_law_589 : decode cL_law 589 = .ok (.iconst 4, 1) := by decide +kernel
theorem dL_law_590 : decode cL_law 590 = .ok (.iadd, 1) := by decide +kernel
theorem dL_law_591 : decode cL_law 591 = .ok (.iaload, 1) := by decide +kernel
theorem dL_law_592 : decode cL_law 592 = .ok (.aload_n 0, 1) := by decide +kernel
theorem dL_law_593 : decode cL_law 593 = .ok (.iload_n 3, 1) := by decide +kernel
theorem dL_law_594 : decode cL_law 594 = .ok (.iconst 5, 1) := by decide +kernel
theorem dL_law_595 : decode cL_law 595 = .ok (.iadd, 1) := by decide +kernel
theorem dL_law_596 : decode cL_law 596 = .ok (.iaload, 1) := by decide +kernel
theorem dL_law_597 : decode cL_law 597 = .ok (.invokevirtual 70, 3) := by decide +kernel
theorem dL_law_600 : decode cL_law 600 = .ok (.aload_n 2, 1) := by decide +kernel
theorem dL_law_601 : decode cL_law 601 = .ok (.aload_n 0, 1) := by decide +kernel
theorem dL_law_602 : decode cL_law 602 = .ok (.iload_n 3, 1) := by decide +kernel
theorem dL_law_603 : decode cL_law 603 = .ok (.iconst 1, 1) := by decide +kernel
theorem dL_law_604 : decode cL_law 604 = .ok (.iadd, 1) := by decide +kernel
theorem dL_law_605 : decode cL_law 605 = .ok (.iaload, 1) := by decide +kernel
theorem dL_law_606 : decode cL_law 606 = .ok (.aload_n 0, 1) := by decide +kernel
theorem dL_law_607 : decode cL_law 607 = .ok (.iload_n 3, 1) := by decide +kernel
theorem dL_law_608 : decode cL_law 608 = .ok (.iconst 2, 1) := by decide +kernel
theorem dL_law_609 : decode cL_law 609 = .ok (.iadd, 1) := by decide +kernel
theorem dL_law_610 : decode cL_law 610 = .ok (.iaload, 1) := by decide +kernel
theorem dL_law_611 : decode cL_law 611 = .ok (.aload_n 0, 1) := by decide +kernel
theorem dL_law_612 : decode cL_law 612 = .ok (.iload_n 3, 1) := by decide +kernel
theorem dL_law_613 : decode cL_law 613 = .ok (.iconst 3, 1) := by decide +kernel
theorem dL_law_614 : decode cL_law 614 = .ok (.iadd, 1) := by decide +kernel
theorem dL_law_615 : decode cL_law 615 = .ok (.iaload, 1) := by decide +kernel
theorem dL_law_616 : decode cL_law 616 = .ok (.aload_n 0, 1) := by decide +kernel
theorem dL_law_617 : decode cL_law 617 = .ok (.iload_n 3, 1) := by decide +kernel
theorem dL_law_618 : decode cL_law 618 = .ok (.iconst 4, 1) := by decide +kernel
theorem dL_law_619 : decode cL_law 619 = .ok (.iadd, 1) := by decide +kernel
theorem dL_law_620 : decode cL_law 620 = .ok (.iaload, 1) := by decide +kernel
theorem dL_law_621 : decode cL_law 621 = .ok (.aload_n 0, 1) := by decide +kernel
theorem dL_law_622 : decode cL_law 622 = .ok (.iload_n 3, 1) := by decide +kernel
theorem dL_law_623 : decode cL_law 623 = .ok (.iconst 5, 1) := by decide +kernel
theorem dL_law_624 : decode cL_law 624 = .ok (.iadd, 1) := by decide +kernel
theorem dL_law_625 : decode cL_law 625 = .ok (.iaload, 1) := by decide +kernel
theorem dL_law_626 : decode cL_law 626 = .ok (.invokevirtual 73, 3) := by decide +kernel
theorem dL_law_629 : decode cL_law 629 = .ok (.if_icmp .eq 436, 3) := by decide +kernel
theorem dL_law_632 : decode cL_law 632 = .ok (.iconst 0, 1) := by decide +kernel
theorem dL_law_633 : decode cL_law 633 = .ok (.ireturn, 1) := by decide +kernel
theorem dL_law_634 : decode cL_law 634 = .ok (.aload_n 1, 1) := by decide +kernel
theorem dL_law_635 : decode cL_law 635 = .ok (.aload_n 0, 1) := by decide +kernel
theorem dL_law_636 : decode cL_law 636 = .ok (.iload_n 3, 1) := by decide +kernel
theorem dL_law_637 : decode cL_law 637 = .ok (.iconst 1, 1) := by decide +kernel
theorem dL_law_638 : decode cL_law 638 = .ok (.iadd, 1) := by decide +kernel
theorem dL_law_639 : decode cL_law 639 = .ok (.iaload, 1) := by decide +kernel
theorem dL_law_640 : decode cL_law 640 = .ok (.invokevirtual 74, 3) := by decide +kernel
theorem dL_law_643 : decode cL_law 643 = .ok (.aload_n 2, 1) := by decide +kernel
theorem dL_law_644 : decode cL_law 644 = .ok (.aload_n 0, 1) := by decide +kernel
theorem dL_law_645 : decode cL_law 645 = .ok (.iload_n 3, 1) := by decide +kernel
theorem dL_law_646 : decode cL_law 646 = .ok (.iconst 1, 1) := by decide +kernel
theorem dL_law_647 : decode cL_law 647 = .ok (.iadd, 1) := by decide +kernel
theorem dL_law_648 : decode cL_law 648 = .ok (.iaload, 1) := by decide +kernel
theorem dL_law_649 : decode cL_law 649 = .ok (.invokevirtual 77, 3) := by decide +kernel
theorem dL_law_652 : decode cL_law 652 = .ok (.if_icmp .eq 413, 3) := by decide +kernel
theorem dL_law_655 : decode cL_law 655 = .ok (.iconst 0, 1) := by decide +kernel
theorem dL_law_656 : decode cL_law 656 = .ok (.ireturn, 1) := by decide +kernel
theorem dL_law_657 : decode cL_law 657 = .ok (.aload_n 1, 1) := by decide +kernel
theorem dL_law_658 : decode cL_law 658 = .ok (.aload_n 0, 1) := by decide +kernel
theorem dL_law_659 : decode cL_law 659 = .ok (.iload_n 3, 1) := by decide +kernel
theorem dL_law_660 : decode cL_law 660 = .ok (.iconst 1, 1) := by decide +kernel
theorem dL_law_661 : decode cL_law 661 = .ok (.iadd, 1) := by decide +kernel
theorem dL_law_662 : decode cL_law 662 = .ok (.iaload, 1) := by decide +kernel
theorem dL_law_663 : decode cL_law 663 = .ok (.aload_n 0, 1) := by decide +kernel
theorem dL_law_664 : decode cL_law 664 = .ok (.iload_n 3, 1) := by decide +kernel
theorem dL_law_665 : decode cL_law 665 = .ok (.iconst 2, 1) := by decide +kernel
theorem dL_law_666 : decode cL_law 666 = .ok (.iadd, 1) := by decide +kernel
theorem dL_law_667 : decode cL_law 667 = .ok (.iaload, 1) := by decide +kernel
theorem dL_law_668 : decode cL_law 668 = .ok (.aload_n 0, 1) := by decide +kernel
theorem dL_law_669 : decode cL_law 669 = .ok (.iload_n 3, 1) := by decide +kernel
theorem dL_law_670 : decode cL_law 670 = .ok (.iconst 3, 1) := by decide +kernel
theorem dL_law_671 : decode cL_law 671 = .ok (.iadd, 1) := by decide +kernel
theorem dL_law_672 : decode cL_law 672 = .ok (.iaload, 1) := by decide +kernel
theorem dL_law_673 : decode cL_law 673 = .ok (.invokevirtual 78, 3) := by decide +kernel
theorem dL_law_676 : decode cL_law 676 = .ok (.aload_n 2, 1) := by decide +kernel
theorem dL_law_677 : decode cL_law 677 = .ok (.aload_n 0, 1) := by decide +kernel
theorem dL_law_678 : decode cL_law 678 = .ok (.iload_n 3, 1) := by decide +kernel
theorem dL_law_679 : decode cL_law 679 = .ok (.iconst 1, 1) := by decide +kernel
theorem dL_law_680 : decode cL_law 680 = .ok (.iadd, 1) := by decide +kernel
theorem dL_law_681 : decode cL_law 681 = .ok (.iaload, 1) := by decide +kernel
theorem dL_law_682 : decode cL_law 682 = .ok (.aload_n 0, 1) := by decide +kernel
theorem dL_law_683 : decode cL_law 683 = .ok (.iload_n 3, 1) := by decide +kernel
theorem dL_law_684 : decode cL_law 684 = .ok (.iconst 2, 1) := by decide +kernel
theorem dL_law_685 : decode cL_law 685 = .ok (.iadd, 1) := by decide +kernel
theorem dL_law_686 : decode cL_law 686 = .ok (.iaload, 1) := by decide +kernel
theorem dL_law_687 : decode cL_law 687 = .ok (.aload_n 0, 1) := by decide +kernel
theorem dL_law_688 : decode cL_law 688 = .ok (.iload_n 3, 1) := by decide +kernel
theorem dL_law_689 : decode cL_law 689 = .ok (.iconst 3, 1) := by decide +kernel
theorem dL_law_690 : decode cL_law 690 = .ok (.iadd, 1) := by decide +kernel
theorem dL_law_691 : decode cL_law 691 = .ok (.iaload, 1) := by decide +kernel
theorem dL_law_692 : decode cL_law 692 = .ok (.invokevirtual 81, 3) := by decide +kernel
theorem dL_law_695 : decode cL_law 695 = .ok (.if_icmp .eq 370, 3) := by decide +kernel
theorem dL_law_698 : decode cL_law 698 = .ok (.iconst 0, 1) := by decide +kernel
theorem dL_law_699 : decode cL_law 699 = .ok (.ireturn, 1) := by decide +kernel
theorem dL_law_700 : decode cL_law 700 = .ok (.aload_n 1, 1) := by decide +kernel
theorem dL_law_701 : decode cL_law 701 = .ok (.invokevirtual 82, 3) := by decide +kernel
theorem dL_law_704 : decode cL_law 704 = .ok (.aload_n 2, 1) := by decide +kernel
theorem dL_law_705 : decode cL_law 705 = .ok (.invokevirtual 85, 3) := by decide +kernel
theorem dL_law_708 : decode cL_law 708 = .ok (.if_icmp .eq 357, 3) := by decide +kernel
theorem dL_law_711 : decode cL_law 711 = .ok (.iconst 0, 1) := by decide +kernel
theorem dL_law_712 : decode cL_law 712 = .ok (.ireturn, 1) := by decide +kernel
theorem dL_law_713 : decode cL_law 713 = .ok (.aload_n 1, 1) := by decide +kernel
theorem dL_law_714 : decode cL_law 714 = .ok (.aload_n 0, 1) := by decide +kernel
theorem dL_law_715 : decode cL_law 715 = .ok (.iload_n 3, 1) := by decide +kernel
theorem dL_law_716 : decode cL_law 716 = .ok (.iconst 1, 1) := by decide +kernel
theorem dL_law_717 : decode cL_law 717 = .ok (.iadd, 1) := by decide +kernel
theorem dL_law_718 : decode cL_law 718 = .ok (.iaload, 1) := by decide +kernel
theorem dL_law_719 : decode cL_law 719 = .ok (.aload_n 0, 1) := by decide +kernel
theorem dL_law_720 : decode cL_law 720 = .ok (.iload_n 3, 1) := by decide +kernel
theorem dL_law_721 : decode cL_law 721 = .ok (.iconst 2, 1) := by decide +kernel
theorem dL_law_722 : decode cL_law 722 = .ok (.iadd, 1) := by decide +kernel
theorem dL_law_723 : decode cL_law 723 = .ok (.iaload, 1) := by decide +kernel
theorem dL_law_724 : decode cL_law 724 = .ok (.invokevirtual 86, 3) := by decide +kernel
theorem dL_law_727 : decode cL_law 727 = .ok (.aload_n 2, 1) := by decide +kernel
theorem dL_law_728 : decode cL_law 728 = .ok (.aload_n 0, 1) := by decide +kernel
theorem dL_law_729 : decode cL_law 729 = .ok (.iload_n 3, 1) := by decide +kernel
theorem dL_law_730 : decode cL_law 730 = .ok (.iconst 1, 1) := by decide +kernel
theorem dL_law_731 : decode cL_law 731 = .ok (.iadd, 1) := by decide +kernel
theorem dL_law_732 : decode cL_law 732 = .ok (.iaload, 1) := by decide +kernel
theorem dL_law_733 : decode cL_law 733 = .ok (.aload_n 0, 1) := by decide +kernel
theorem dL_law_734 : decode cL_law 734 = .ok (.iload_n 3, 1) := by decide +kernel
theorem dL_law_735 : decode cL_law 735 = .ok (.iconst 2, 1) := by decide +kernel
theorem dL_law_736 : decode cL_law 736 = .ok (.iadd, 1) := by decide +kernel
theorem dL_law_737 : decode cL_law 737 = .ok (.iaload, 1) := by decide +kernel
theorem dL_law_738 : decode cL_law 738 = .ok (.invokevirtual 89, 3) := by decide +kernel
theorem dL_law_741 : decode cL_law 741 = .ok (.if_icmp .eq 324, 3) := by decide +kernel
theorem dL_law_744 : decode cL_law 744 = .ok (.iconst 0, 1) := by decide +kernel
theorem dL_law_745 : decode cL_law 745 = .ok (.ireturn, 1) := by decide +kernel
theorem dL_law_746 : decode cL_law 746 = .ok (.aload_n 1, 1) := by decide +kernel
theorem dL_law_747 : decode cL_law 747 = .ok (.aload_n 0, 1) := by decide +kernel
theorem dL_law_748 : decode cL_law 748 = .ok (.iload_n 3, 1) := by decide +kernel
theorem dL_law_749 : decode cL_law 749 = .ok (.iconst 1, 1) := by decide +kernel
theorem dL_law_750 : decode cL_law 750 = .ok (.iadd, 1) := by decide +kernel
theorem dL_law_751 : decode cL_law 751 = .ok (.iaload, 1) := by decide +kernel
theorem dL_law_752 : decode cL_law 752 = .ok (.invokevirtual 90, 3) := by decide +kernel
theorem dL_law_755 : decode cL_law 755 = .ok (.aload_n 2, 1) := by decide +kernel
theorem dL_law_756 : decode cL_law 756 = .ok (.aload_n 0, 1) := by decide +kernel
theorem dL_law_757 : decode cL_law 757 = .ok (.iload_n 3, 1) := by decide +kernel
theorem dL_law_758 : decode cL_law 758 = .ok (.iconst 1, 1) := by decide +kernel
theorem dL_law_759 : decode cL_law 759 = .ok (.iadd, 1) := by decide +kernel
theorem dL_law_760 : decode cL_law 760 = .ok (.iaload, 1) := by decide +kernel
theorem dL_law_761 : decode cL_law 761 = .ok (.invokevirtual 93, 3) := by decide +kernel
theorem dL_law_764 : decode cL_law 764 = .ok (.if_icmp .eq 301, 3) := by decide +kernel
theorem dL_law_767 : decode cL_law 767 = .ok (.iconst 0, 1) := by decide +kernel
theorem dL_law_768 : decode cL_law 768 = .ok (.ireturn, 1) := by decide +kernel
theorem dL_law_769 : decode cL_law 769 = .ok (.aload_n 1, 1) := by decide +kernel
theorem dL_law_770 : decode cL_law 770 = .ok (.aload_n 0, 1) := by decide +kernel
theorem dL_law_771 : decode cL_law 771 = .ok (.iload_n 3, 1) := by decide +kernel
theorem dL_law_772 : decode cL_law 772 = .ok (.iconst 1, 1) := by decide +kernel
theorem dL_law_773 : decode cL_law 773 = .ok (.iadd, 1) := by decide +kernel
theorem dL_law_774 : decode cL_law 774 = .ok (.iaload, 1) := by decide +kernel
theorem dL_law_775 : decode cL_law 775 = .ok (.aload_n 0, 1) := by decide +kernel
theorem dL_law_776 : decode cL_law 776 = .ok (.iload_n 3, 1) := by decide +kernel
theorem dL_law_777 : decode cL_law 777 = .ok (.iconst 2, 1) := by decide +kernel
theorem dL_law_778 : decode cL_law 778 = .ok (.iadd, 1) := by decide +kernel
theorem dL_law_779 : decode cL_law 779 = .ok (.iaload, 1) := by decide +kernel
theorem dL_law_780 : decode cL_law 780 = .ok (.invokevirtual 94, 3) := by decide +kernel
theorem dL_law_783 : decode cL_law 783 = .ok (.aload_n 2, 1) := by decide +kernel
theorem dL_law_784 : decode cL_law 784 = .ok (.aload_n 0, 1) := by decide +kernel
theorem dL_law_785 : decode cL_law 785 = .ok (.iload_n 3, 1) := by decide +kernel
theorem dL_law_786 : decode cL_law 786 = .ok (.iconst 1, 1) := by decide +kernel
theorem dL_law_787 : decode cL_law 787 = .ok (.iadd, 1) := by decide +kernel
theorem dL_law_788 : decode cL_law 788 = .ok (.iaload, 1) := by decide +kernel
theorem dL_law_789 : decode cL_law 789 = .ok (.aload_n 0, 1) := by decide +kernel
theorem dL_law_790 : decode cL_law 790 = .ok (.iload_n 3, 1) := by decide +kernel
theorem dL_law_791 : decode cL_law 791 = .ok (.iconst 2, 1) := by decide +kernel
theorem dL_law_792 : decode cL_law 792 = .ok (.iadd, 1) := by decide +kernel
theorem dL_law_793 : decode cL_law 793 = .ok (.iaload, 1) := by decide +kernel
theorem dL_law_794 : decode cL_law 794 = .ok (.invokevirtual 97, 3) := by decide +kernel
theorem dL_law_797 : decode cL_law 797 = .ok (.if_icmp .eq 268, 3) := by decide +kernel
theorem dL_law_800 : decode cL_law 800 = .ok (.iconst 0, 1) := by decide +kernel
theorem dL_law_801 : decode cL_law 801 = .ok (.ireturn, 1) := by decide +kernel
theorem dL_law_802 : decode cL_law 802 = .ok (.aload_n 1, 1) := by decide +kernel
theorem dL_law_803 : decode cL_law 803 = .ok (.aload_n 0, 1) := by decide +kernel
theorem dL_law_804 : decode cL_law 804 = .ok (.iload_n 3, 1) := by decide +kernel
theorem dL_law_805 : decode cL_law 805 = .ok (.iconst 1, 1) := by decide +kernel
theorem dL_law_806 : decode cL_law 806 = .ok (.iadd, 1) := by decide +kernel
theorem dL_law_807 : decode cL_law 807 = .ok (.iaload, 1) := by decide +kernel
theorem dL_law_808 : decode cL_law 808 = .ok (.invokevirtual 98, 3) := by decide +kernel
theorem dL_law_811 : decode cL_law 811 = .ok (.aload_n 2, 1) := by decide +kernel
theorem dL_law_812 : decode cL_law 812 = .ok (.aload_n 0, 1) := by decide +kernel
theorem dL_law_813 : decode cL_law 813 = .ok (.iload_n 3, 1) := by decide +kernel
theorem dL_law_814 : decode cL_law 814 = .ok (.iconst 1, 1) := by decide +kernel
theorem dL_law_815 : decode cL_law 815 = .ok (.iadd, 1) := by decide +kernel
theorem dL_law_816 : decode cL_law 816 = .ok (.iaload, 1) := by decide +kernel
theorem dL_law_817 : decode cL_law 817 = .ok (.invokevirtual 101, 3) := by decide +kernel
theorem dL_law_820 : decode cL_law 820 = .ok (.if_icmp .eq 245, 3) := by decide +kernel
theorem dL_law_823 : decode cL_law 823 = .ok (.iconst 0, 1) := by decide +kernel
theorem dL_law_824 : decode cL_law 824 = .ok (.ireturn, 1) := by decide +kernel
theorem dL_law_825 : decode cL_law 825 = .ok (.aload_n 1, 1) := by decide +kernel
theorem dL_law_826 : decode cL_law 826 = .ok (.aload_n 0, 1) := by decide +kernel
theorem dL_law_827 : decode cL_law 827 = .ok (.iload_n 3, 1) := by decide +kernel
theorem dL_law_828 : decode cL_law 828 = .ok (.iconst 1, 1) := by decide +kernel
theorem dL_law_829 : decode cL_law 829 = .ok (.iadd, 1) := by decide +kernel
theorem dL_law_830 : decode cL_law 830 = .ok (.iaload, 1) := by decide +kernel
theorem dL_law_831 : decode cL_law 831 = .ok (.invokevirtual 102, 3) := by decide +kernel
theorem dL_law_834 : decode cL_law 834 = .ok (.aload_n 2, 1) := by decide +kernel
theorem dL_law_835 : decode cL_law 835 = .ok (.aload_n 0, 1) := by decide +kernel
theorem dL_law_836 : decode cL_law 836 = .ok (.iload_n 3, 1) := by decide +kernel
theorem dL_law_837 : decode cL_law 837 = .ok (.iconst 1, 1) := by decide +kernel
theorem dL_law_838 : decode cL_law 838 = .ok (.iadd, 1) := by decide +kernel
theorem dL_law_839 : decode cL_law 839 = .ok (.iaload, 1) := by decide +kernel
theorem dL_law_840 : decode cL_law 840 = .ok (.invokevirtual 105, 3) := by decide +kernel
theorem dL_law_843 : decode cL_law 843 = .ok (.if_icmp .eq 222, 3) := by decide +kernel
theorem dL_law_846 : decode cL_law 846 = .ok (.iconst 0, 1) := by decide +kernel
theorem dL_law_847 : decode cL_law 847 = .ok (.ireturn, 1) := by decide +kernel
theorem dL_law_848 : decode cL_law 848 = .ok (.aload_n 1, 1) := by decide +kernel
theorem dL_law_849 : decode cL_law 849 = .ok (.aload_n 0, 1) := by decide +kernel
theorem dL_law_850 : decode cL_law 850 = .ok (.iload_n 3, 1) := by decide +kernel
theorem dL_law_851 : decode cL_law 851 = .ok (.iconst 1, 1) := by decide +kernel
theorem dL_law_852 : decode cL_law 852 = .ok (.iadd, 1) := by decide +kernel
theorem dL_law_853 : decode cL_law 853 = .ok (.iaload, 1) := by decide +kernel
theorem dL_law_854 : decode cL_law 854 = .ok (.aload_n 0, 1) := by decide +kernel
theorem dL_law_855 : decode cL_law 855 = .ok (.iload_n 3, 1) := by decide +kernel
theorem dL_law_856 : decode cL_law 856 = .ok (.iconst 2, 1) := by decide +kernel
theorem dL_law_857 : decode cL_law 857 = .ok (.iadd, 1) := by decide +kernel
theorem dL_law_858 : decode cL_law 858 = .ok (.iaload, 1) := by decide +kernel
theorem dL_law_859 : decode cL_law 859 = .ok (.invokevirtual 106, 3) := by decide +kernel
theorem dL_law_862 : decode cL_law 862 = .ok (.aload_n 2, 1) := by decide +kernel
theorem dL_law_863 : decode cL_law 863 = .ok (.aload_n 0, 1) := by decide +kernel
theorem dL_law_864 : decode cL_law 864 = .ok (.iload_n 3, 1) := by decide +kernel
theorem dL_law_865 : decode cL_law 865 = .ok (.iconst 1, 1) := by decide +kernel
theorem dL_law_866 : decode cL_law 866 = .ok (.iadd, 1) := by decide +kernel
theorem dL_law_867 : decode cL_law 867 = .ok (.iaload, 1) := by decide +kernel
theorem dL_law_868 : decode cL_law 868 = .ok (.aload_n 0, 1) := by decide +kernel
theorem dL_law_869 : decode cL_law 869 = .ok (.iload_n 3, 1) := by decide +kernel
theorem dL_law_870 : decode cL_law 870 = .ok (.iconst 2, 1) := by decide +kernel
theorem dL_law_871 : decode cL_law 871 = .ok (.iadd, 1) := by decide +kernel
theorem dL_law_872 : decode cL_law 872 = .ok (.iaload, 1) := by decide +kernel
theorem dL_law_873 : decode cL_law 873 = .ok (.invokevirtual 109, 3) := by decide +kernel
theorem dL_law_876 : decode cL_law 876 = .ok (.if_icmp .eq 189, 3) := by decide +kernel
theorem dL_law_879 : decode cL_law 879 = .ok (.iconst 0, 1) := by decide +kernel
theorem dL_law_880 : decode cL_law 880 = .ok (.ireturn, 1) := by decide +kernel
theorem dL_law_881 : decode cL_law 881 = .ok (.aload_n 1, 1) := by decide +kernel
theorem dL_law_882 : decode cL_law 882 = .ok (.aload_n 0, 1) := by decide +kernel
theorem dL_law_883 : decode cL_law 883 = .ok (.iload_n 3, 1) := by decide +kernel
theorem dL_law_884 : decode cL_law 884 = .ok (.iconst 1, 1) := by decide +kernel
theorem dL_law_885 : decode cL_law 885 = .ok (.iadd, 1) := by decide +kernel
theorem dL_law_886 : decode cL_law 886 = .ok (.iaload, 1) := by decide +kernel
theorem dL_law_887 : decode cL_law 887 = .ok (.invokevirtual 110, 3) := by decide +kernel
theorem dL_law_890 : decode cL_law 890 = .ok (.aload_n 2, 1) := by decide +kernel
theorem dL_law_891 : decode cL_law 891 = .ok (.aload_n 0, 1) := by decide +kernel
theorem dL_law_892 : decode cL_law 892 = .ok (.iload_n 3, 1) := by decide +kernel
theorem dL_law_893 : decode cL_law 893 = .ok (.iconst 1, 1) := by decide +kernel
theorem dL_law_894 : decode cL_law 894 = .ok (.iadd, 1) := by decide +kernel
theorem dL_law_895 : decode cL_law 895 = .ok (.iaload, 1) := by decide +kernel
theorem dL_law_896 : decode cL_law 896 = .ok (.invokevirtual 113, 3) := by decide +kernel
theorem dL_law_899 : decode cL_law 899 = .ok (.if_icmp .eq 166, 3) := by decide +kernel
theorem dL_law_902 : decode cL_law 902 = .ok (.iconst 0, 1) := by decide +kernel
theorem dL_law_903 : decode cL_law 903 = .ok (.ireturn, 1) := by decide +kernel
theorem dL_law_904 : decode cL_law 904 = .ok (.aload_n 1, 1) := by decide +kernel
theorem dL_law_905 : decode cL_law 905 = .ok (.aload_n 0, 1) := by decide +kernel
theorem dL_law_906 : decode cL_law 906 = .ok (.iload_n 3, 1) := by decide +kernel
theorem dL_law_907 : decode cL_law 907 = .ok (.iconst 1, 1) := by decide +kernel
theorem dL_law_908 : decode cL_law 908 = .ok (.iadd, 1) := by decide +kernel
theorem dL_law_909 : decode cL_law 909 = .ok (.iaload, 1) := by decide +kernel
theorem dL_law_910 : decode cL_law 910 = .ok (.aload_n 0, 1) := by decide +kernel
theorem dL_law_911 : decode cL_law 911 = .ok (.iload_n 3, 1) := by decide +kernel
theorem dL_law_912 : decode cL_law 912 = .ok (.iconst 2, 1) := by decide +kernel
theorem dL_law_913 : decode cL_law 913 = .ok (.iadd, 1) := by decide +kernel
theorem dL_law_914 : decode cL_law 914 = .ok (.iaload, 1) := by decide +kernel
theorem dL_law_915 : decode cL_law 915 = .ok (.invokevirtual 114, 3) := by decide +kernel
theorem dL_law_918 : decode cL_law 918 = .ok (.aload_n 2, 1) := by decide +kernel
theorem dL_law_919 : decode cL_law 919 = .ok (.aload_n 0, 1) := by decide +kernel
theorem dL_law_920 : decode cL_law 920 = .ok (.iload_n 3, 1) := by decide +kernel
theorem dL_law_921 : decode cL_law 921 = .ok (.iconst 1, 1) := by decide +kernel
theorem dL_law_922 : decode cL_law 922 = .ok (.iadd, 1) := by decide +kernel
theorem dL_law_923 : decode cL_law 923 = .ok (.iaload, 1) := by decide +kernel
theorem dL_law_924 : decode cL_law 924 = .ok (.aload_n 0, 1) := by decide +kernel
theorem dL_law_925 : decode cL_law 925 = .ok (.iload_n 3, 1) := by decide +kernel
theorem dL_law_926 : decode cL_law 926 = .ok (.iconst 2, 1) := by decide +kernel
theorem dL_law_927 : decode cL_law 927 = .ok (.iadd, 1) := by decide +kernel
theorem dL_law_928 : decode cL_law 928 = .ok (.iaload, 1) := by decide +kernel
theorem dL_law_929 : decode cL_law 929 = .ok (.invokevirtual 117, 3) := by decide +kernel
theorem dL_law_932 : decode cL_law 932 = .ok (.if_icmp .eq 133, 3) := by decide +kernel
theorem dL_law_935 : decode cL_law 935 = .ok (.iconst 0, 1) := by decide +kernel
theorem dL_law_936 : decode cL_law 936 = .ok (.ireturn, 1) := by decide +kernel
theorem dL_law_937 : decode cL_law 937 = .ok (.aload_n 1, 1) := by decide +kernel
theorem dL_law_938 : decode cL_law 938 = .ok (.aload_n 0, 1) := by decide +kernel
theorem dL_law_939 : decode cL_law 939 = .ok (.iload_n 3, 1) := by decide +kernel
theorem dL_law_940 : decode cL_law 940 = .ok (.iconst 1, 1) := by decide +kernel
theorem dL_law_941 : decode cL_law 941 = .ok (.iadd, 1) := by decide +kernel
theorem dL_law_942 : decode cL_law 942 = .ok (.iaload, 1) := by decide +kernel
theorem dL_law_943 : decode cL_law 943 = .ok (.invokevirtual 118, 3) := by decide +kernel
theorem dL_law_946 : decode cL_law 946 = .ok (.aload_n 2, 1) := by decide +kernel
theorem dL_law_947 : decode cL_law 947 = .ok (.aload_n 0, 1) := by decide +kernel
theorem dL_law_948 : decode cL_law 948 = .ok (.iload_n 3, 1) := by decide +kernel
theorem dL_law_949 : decode cL_law 949 = .ok (.iconst 1, 1) := by decide +kernel
theorem dL_law_950 : decode cL_law 950 = .ok (.iadd, 1) := by decide +kernel
theorem dL_law_951 : decode cL_law 951 = .ok (.iaload, 1) := by decide +kernel
theorem dL_law_952 : decode cL_law 952 = .ok (.invokevirtual 121, 3) := by decide +kernel
theorem dL_law_955 : decode cL_law 955 = .ok (.if_icmp .eq 110, 3) := by decide +kernel
theorem dL_law_958 : decode cL_law 958 = .ok (.iconst 0, 1) := by decide +kernel
theorem dL_law_959 : decode cL_law 959 = .ok (.ireturn, 1) := by decide +kernel
theorem dL_law_960 : decode cL_law 960 = .ok (.aload_n 1, 1) := by decide +kernel
theorem dL_law_961 : decode cL_law 961 = .ok (.invokevirtual 122, 3) := by decide +kernel
theorem dL_law_964 : decode cL_law 964 = .ok (.aload_n 2, 1) := by decide +kernel
theorem dL_law_965 : decode cL_law 965 = .ok (.invokevirtual 125, 3) := by decide +kernel
theorem dL_law_968 : decode cL_law 968 = .ok (.if_icmp .eq 97, 3) := by decide +kernel
theorem dL_law_971 : decode cL_law 971 = .ok (.iconst 0, 1) := by decide +kernel
theorem dL_law_972 : decode cL_law 972 = .ok (.ireturn, 1) := by decide +kernel
theorem dL_law_973 : decode cL_law 973 = .ok (.aload_n 1, 1) := by decide +kernel
theorem dL_law_974 : decode cL_law 974 = .ok (.aload_n 0, 1) := by decide +kernel
theorem dL_law_975 : decode cL_law 975 = .ok (.iload_n 3, 1) := by decide +kernel
theorem dL_law_976 : decode cL_law 976 = .ok (.iconst 1, 1) := by decide +kernel
theorem dL_law_977 : decode cL_law 977 = .ok (.iadd, 1) := by decide +kernel
theorem dL_law_978 : decode cL_law 978 = .ok (.iaload, 1) := by decide +kernel
theorem dL_law_979 : decode cL_law 979 = .ok (.invokevirtual 126, 3) := by decide +kernel
theorem dL_law_982 : decode cL_law 982 = .ok (.aload_n 2, 1) := by decide +kernel
theorem dL_law_983 : decode cL_law 983 = .ok (.aload_n 0, 1) := by decide +kernel
theorem dL_law_984 : decode cL_law 984 = .ok (.iload_n 3, 1) := by decide +kernel
theorem dL_law_985 : decode cL_law 985 = .ok (.iconst 1, 1) := by decide +kernel
theorem dL_law_986 : decode cL_law 986 = .ok (.iadd, 1) := by decide +kernel
theorem dL_law_987 : decode cL_law 987 = .ok (.iaload, 1) := by decide +kernel
theorem dL_law_988 : decode cL_law 988 = .ok (.invokevirtual 129, 3) := by decide +kernel
theorem dL_law_991 : decode cL_law 991 = .ok (.if_icmp .eq 74, 3) := by decide +kernel
theorem dL_law_994 : decode cL_law 994 = .ok (.iconst 0, 1) := by decide +kernel
theorem dL_law_995 : decode cL_law 995 = .ok (.ireturn, 1) := by decide +kernel
theorem dL_law_996 : decode cL_law 996 = .ok (.aload_n 1, 1) := by decide +kernel
theorem dL_law_997 : decode cL_law 997 = .ok (.aload_n 0, 1) := by decide +kernel
theorem dL_law_998 : decode cL_law 998 = .ok (.iload_n 3, 1) := by decide +kernel
theorem dL_law_999 : decode cL_law 999 = .ok (.iconst 1, 1) := by decide +kernel
theorem dL_law_1000 : decode cL_law 1000 = .ok (.iadd, 1) := by decide +kernel
theorem dL_law_1001 : decode cL_law 1001 = .ok (.iaload, 1) := by decide +kernel
theorem dL_law_1002 : decode cL_law 1002 = .ok (.aload_n 0, 1) := by decide +kernel
theorem dL_law_1003 : decode cL_law 1003 = .ok (.iload_n 3, 1) := by decide +kernel
theorem dL_law_1004 : decode cL_law 1004 = .ok (.iconst 2, 1) := by decide +kernel
theorem dL_law_1005 : decode cL_law 1005 = .ok (.iadd, 1) := by decide +kernel
theorem dL_law_1006 : decode cL_law 1006 = .ok (.iaload, 1) := by decide +kernel
theorem dL_law_1007 : decode cL_law 1007 = .ok (.invokevirtual 130, 3) := by decide +kernel
theorem dL_law_1010 : decode cL_law 1010 = .ok (.aload_n 2, 1) := by decide +kernel
theorem dL_law_1011 : decode cL_law 1011 = .ok (.aload_n 0, 1) := by decide +kernel
theorem dL_law_1012 : decode cL_law 1012 = .ok (.iload_n 3, 1) := by decide +kernel
theorem dL_law_1013 : decode cL_law 1013 = .ok (.iconst 1, 1) := by decide +kernel
theorem dL_law_1014 : decode cL_law 1014 = .ok (.iadd, 1) := by decide +kernel
theorem dL_law_1015 : decode cL_law 1015 = .ok (.iaload, 1) := by decide +kernel
theorem dL_law_1016 : decode cL_law 1016 = .ok (.aload_n 0, 1) := by decide +kernel
theorem dL_law_1017 : decode cL_law 1017 = .ok (.iload_n 3, 1) := by decide +kernel
theorem dL_law_1018 : decode cL_law 1018 = .ok (.iconst 2, 1) := by decide +kernel
theorem dL_law_1019 : decode cL_law 1019 = .ok (.iadd, 1) := by decide +kernel
theorem dL_law_1020 : decode cL_law 1020 = .ok (.iaload, 1) := by decide +kernel
theorem dL_law_1021 : decode cL_law 1021 = .ok (.invokevirtual 133, 3) := by decide +kernel
theorem dL_law_1024 : decode cL_law 1024 = .ok (.if_icmp .eq 41, 3) := by decide +kernel
theorem dL_law_1027 : decode cL_law 1027 = .ok (.iconst 0, 1) := by decide +kernel
theorem dL_law_1028 : decode cL_law 1028 = .ok (.ireturn, 1) := by decide +kernel
theorem dL_law_1029 : decode cL_law 1029 = .ok (.aload_n 1, 1) := by decide +kernel
theorem dL_law_1030 : decode cL_law 1030 = .ok (.invokevirtual 134, 3) := by decide +kernel
theorem dL_law_1033 : decode cL_law 1033 = .ok (.aload_n 2, 1) := by decide +kernel
theorem dL_law_1034 : decode cL_law 1034 = .ok (.invokevirtual 137, 3) := by decide +kernel
theorem dL_law_1037 : decode cL_law 1037 = .ok (.if_icmp .eq 28, 3) := by decide +kernel
theorem dL_law_1040 : decode cL_law 1040 = .ok (.iconst 0, 1) := by decide +kernel
theorem dL_law_1041 : decode cL_law 1041 = .ok (.ireturn, 1) := by decide +kernel
theorem dL_law_1042 : decode cL_law 1042 = .ok (.aload_n 1, 1) := by decide +kernel
theorem dL_law_1043 : decode cL_law 1043 = .ok (.aload_n 0, 1) := by decide +kernel
theorem dL_law_1044 : decode cL_law 1044 = .ok (.iload_n 3, 1) := by decide +kernel
theorem dL_law_1045 : decode cL_law 1045 = .ok (.iconst 1, 1) := by decide +kernel
theorem dL_law_1046 : decode cL_law 1046 = .ok (.iadd, 1) := by decide +kernel
theorem dL_law_1047 : decode cL_law 1047 = .ok (.iaload, 1) := by decide +kernel
theorem dL_law_1048 : decode cL_law 1048 = .ok (.invokevirtual 138, 3) := by decide +kernel
theorem dL_law_1051 : decode cL_law 1051 = .ok (.aload_n 2, 1) := by decide +kernel
theorem dL_law_1052 : decode cL_law 1052 = .ok (.aload_n 0, 1) := by decide +kernel
theorem dL_law_1053 : decode cL_law 1053 = .ok (.iload_n 3, 1) := by decide +kernel
theorem dL_law_1054 : decode cL_law 1054 = .ok (.iconst 1, 1) := by decide +kernel
theorem dL_law_1055 : decode cL_law 1055 = .ok (.iadd, 1) := by decide +kernel
theorem dL_law_1056 : decode cL_law 1056 = .ok (.iaload, 1) := by decide +kernel
theorem dL_law_1057 : decode cL_law 1057 = .ok (.invokevirtual 141, 3) := by decide +kernel
theorem dL_law_1060 : decode cL_law 1060 = .ok (.if_icmp .eq 5, 3) := by decide +kernel
theorem dL_law_1063 : decode cL_law 1063 = .ok (.iconst 0, 1) := by decide +kernel
theorem dL_law_1064 : decode cL_law 1064 = .ok (.ireturn, 1) := by decide +kernel
theorem dL_law_1065 : decode cL_law 1065 = .ok (.iinc 3 6, 3) := by decide +kernel
theorem dL_law_1068 : decode cL_law 1068 = .ok (.goto (-1050), 3) := by decide +kernel
theorem dL_law_1071 : decode cL_law 1071 = .ok (.iconst 1, 1) := by decide +kernel
theorem dL_law_1072 : decode cL_law 1072 = .ok (.ireturn, 1) := by decide +kernel
end
section
abbrev pf_V : Type := Int32 ⊕ Int64 ⊕ Option (Nat × Nat) ⊕ Unit
abbrev pf_M : Type := Nat → Nat → Nat → Int32
abbrev pf_I (x : Int32) : pf_V := .inl x
abbrev pf_L (x : Int64) : pf_V := .inr (.inl x)
abbrev pf_Q (k : Nat) (o : Option Nat) : pf_V := .inr (.inr (.inl (o.map fun i => (k, i))))
abbrev pf_R (k i : Nat) : pf_V := .inr (.inr (.inl (some (k, i))))
abbrev pf_N : pf_V := .inr (.inr (.inl none))
abbrev pf_U : pf_V := .inr (.inr (.inr ()))
def pf_up (M : pf_M) (k i j : Nat) (v : Int32) : pf_M := fun k' i' => if k' = k ∧ i' = i then upd (M k i) j v else M k' i'
def pf_upf (M : pf_M) (k i : Nat) (g : Nat → Int32) : pf_M := fun k' i' => if k' = k ∧ i' = i then g else M k' i'
theorem pf_up_upf (M : pf_M) (k i j : Nat) (v : Int32) : pf_up M k i j v = pf_upf M k i (upd (M k i) j v) := rfl
/-! the system: launch, tables' numbers, first address, array tables' numbers, which of both -/
abbrev pf_G : Type := Launch × va_G × Nat × (ClassId × ClassId × ClassId × ClassId) × Bool
def pf_off (k i : Nat) : Nat := match k with
  | 11 => 11 + 9 * i
  | 12 => 12 + 9 * i
  | 13 => 13 + 9 * (i / 2) + i % 2
  | 14 => 15 + 9 * i
  | 15 => 16 + 9 * (i / 2) + 2 * (i % 2)
  | 16 => 17 + 9 * (i / 2) + 2 * (i % 2)
  | 25 => 91 + 9 * i
  | 26 => 92 + 9 * i
  | 27 => 93 + 9 * (i / 2) + 3 * (i % 2)
  | 28 => 94 + 9 * (i / 2) + 3 * (i % 2)
  | 29 => 95 + 9 * (i / 2) + 3 * (i % 2)
  | 30 => 99 + 9 * i
  | k => if k < 11 then k else if k < 25 then k + 66 else k - 40
def pf_cnt (k : Nat) : Nat := match k with
  | 11 => 8 | 12 => 8 | 13 => 16 | 14 => 8 | 15 => 16 | 16 => 16
  | 25 => 4 | 26 => 4 | 27 => 8 | 28 => 8 | 29 => 8 | 30 => 4
  | k => if k < 31 then 1 else if k < 40 then 0 else if k < 78 then 1 else 0
def pf_dec (sy : Bool) (o : Nat) : Nat × Nat := if sy then
    (if o < 11 then (o, 0) else if o < 83 then (match (o - 11) % 9 with
      | 0 => (11, (o - 11) / 9) | 1 => (12, (o - 11) / 9) | 2 => (13, 2 * ((o - 11) / 9)) | 3 => (13, 2 * ((o - 11) / 9) + 1) | 4 => (14, (o - 11) / 9)
      | 5 => (15, 2 * ((o - 11) / 9)) | 6 => (16, 2 * ((o - 11) / 9)) | 7 => (15, 2 * ((o - 11) / 9) + 1) | _ => (16, 2 * ((o - 11) / 9) + 1))
    else if o < 91 then (o - 66, 0) else (match (o - 91) % 9 with
      | 0 => (25, (o - 91) / 9) | 1 => (26, (o - 91) / 9) | 2 => (27, 2 * ((o - 91) / 9)) | 3 => (28, 2 * ((o - 91) / 9)) | 4 => (29, 2 * ((o - 91) / 9))
      | 5 => (27, 2 * ((o - 91) / 9) + 1) | 6 => (28, 2 * ((o - 91) / 9) + 1) | 7 => (29, 2 * ((o - 91) / 9) + 1) | _ => (30, (o - 91) / 9)))
  else (o + 40, 0)
def pf_num (sy : Bool) : Nat := if sy then 127 else 38
def pf_sys (k : Nat) : Bool := decide (k < 40)
def pf_ok (sy : Bool) (k i : Nat) : Prop := i < pf_cnt k ∧ pf_sys k = sy
def pf_ci (k : Nat) : Option Nat := match k with
  | 0 => some 11 | 1 => some 10 | 7 => some 9 | 11 => some 3 | 13 => some 7 | 14 => some 5 | 15 => some 8 | 17 => some 1 | 20 => some 6 | 22 => some 4 | 25 => some 2 | 27 => some 0 | 40 => some 12
  | _ => none
def pf_ml : List Nat := [1, 4, 5, 6, 7, 11, 12, 13, 14, 17, 18, 19, 20, 21, 24, 25, 26, 27, 28, 29, 30, 31, 32, 33, 34, 35, 36, 37, 38, 39, 41, 42, 43, 45, 47, 48, 49]
def pf_rm (j : Nat) : Option (Nat × Nat) := match j with
  | 1 => some (41, 0) | 4 => some (42, 0) | 5 => some (43, 0) | 6 => some (44, 0) | 7 => some (45, 0) | 11 => some (46, 0) | 12 => some (47, 0) | 13 => some (48, 0) | 14 => some (49, 0)
  | 17 => some (50, 0) | 18 => some (51, 0) | 19 => some (52, 0) | 20 => some (53, 0) | 21 => some (54, 0) | 24 => some (55, 0) | 25 => some (56, 0) | 26 => some (57, 0) | 27 => some (58, 0)
  | 28 => some (59, 0) | 29 => some (60, 0) | 30 => some (61, 0) | 31 => some (62, 0) | 32 => some (63, 0) | 33 => some (64, 0) | 34 => some (65, 0) | 35 => some (66, 0) | 36 => some (67, 0)
  | 37 => some (68, 0) | 38 => some (69, 0) | 39 => some (70, 0) | 41 => some (71, 0) | 42 => some (72, 0) | 43 => some (73, 0) | 45 => some (74, 0) | 47 => some (75, 0) | 48 => some (76, 0) | 49 => some (77, 0)
  | _ => none
def pf_rs (k i j : Nat) : Option (Nat × Nat) := match k with
  | 0 => (match j with | 0 => some (1, 0) | 1 => some (7, 0) | 2 => some (17, 0) | 3 => some (20, 0) | _ => none)
  | 1 => (match j with | 0 => some (2, 0) | 1 => some (3, 0) | 2 => some (4, 0) | 3 => some (5, 0) | 4 => some (6, 0) | _ => none)
  | 7 => (match j with | 0 => some (8, 0) | 1 => some (9, 0) | 2 => some (10, 0) | _ => none)
  | 11 => (match j with | 0 => some (12, i) | 1 => some (13, 2 * i) | 2 => some (13, 2 * i + 1) | 3 => some (14, i) | _ => none)
  | 14 => (match j with | 0 => some (15, 2 * i) | 1 => some (15, 2 * i + 1) | _ => none)
  | 15 => (match j with | 0 => some (16, i) | _ => none)
  | 17 => (match j with | 0 => some (7, 0) | 1 => some (18, 0) | 2 => some (19, 0) | _ => none)
  | 20 => (match j with | 0 => some (7, 0) | 1 => some (21, 0) | 2 => some (22, 0) | _ => none)
  | 22 => (match j with | 0 => some (23, 0) | 1 => some (24, 0) | _ => none)
  | 25 => (match j with | 4 => some (26, i) | 5 => some (27, 2 * i) | 6 => some (27, 2 * i + 1) | 7 => some (30, i) | _ => none)
  | 27 => (match j with | 0 => some (28, i) | 1 => some (29, i) | _ => none)
  | 40 => pf_rm j
  | _ => none
/-- arrays of numbers: the type's place in the tables' list, the length -/
def pf_ar (k : Nat) : Option (Nat × Nat) := match k with
  | 2 => some (1, 200) | 3 => some (0, 8) | 4 => some (0, 8) | 5 => some (0, 8) | 6 => some (0, 8) | 9 => some (0, 9) | 10 => some (0, 9) | 12 => some (0, 16) | 16 => some (0, 4)
  | 18 => some (0, 8) | 19 => some (0, 8) | 23 => some (0, 6) | 24 => some (0, 6) | 26 => some (0, 8) | 28 => some (0, 8) | 29 => some (0, 8) | 30 => some (0, 8)
  | 41 => some (0, 200) | 42 => some (0, 8) | 43 => some (0, 9) | 44 => some (0, 8) | 45 => some (0, 8) | 46 => some (0, 8) | 47 => some (0, 9) | 48 => some (0, 8) | 49 => some (0, 8)
  | 50 => some (0, 9) | 51 => some (0, 8) | 52 => some (0, 128) | 53 => some (0, 8) | 54 => some (0, 8) | 55 => some (0, 16) | 56 => some (0, 16) | 57 => some (0, 16) | 58 => some (0, 64)
  | 59 => some (0, 16) | 60 => some (0, 16) | 61 => some (0, 16) | 62 => some (0, 8) | 63 => some (0, 8) | 64 => some (0, 4) | 65 => some (0, 4) | 66 => some (0, 4) | 67 => some (0, 4)
  | 68 => some (0, 32) | 69 => some (0, 64) | 70 => some (0, 8) | 71 => some (0, 4) | 72 => some (0, 4) | 73 => some (0, 32) | 74 => some (0, 30) | 75 => some (0, 8) | 76 => some (0, 8) | 77 => some (0, 8)
  | _ => none
/-- arrays of references: the type's place, the length, the kind of the elements -/
def pf_ra (k : Nat) : Option (Nat × Nat × Nat) := match k with
  | 8 => some (2, 8, 11) | 21 => some (3, 4, 25) | _ => none
def pf_nf (ci : Nat) : Nat := match ci with
  | 0 => 3 | 1 => 3 | 2 => 10 | 3 => 10 | 4 => 3 | 5 => 8 | 6 => 5 | 7 => 3 | 8 => 2 | 9 => 7 | 10 => 10 | 11 => 4 | 12 => 50 | _ => 0
def pf_ad (G : pf_G) (k i : Nat) : Nat := G.2.2.1 + pf_off k i
def pf_cv (G : pf_G) (v : pf_V) : Value := match v with
  | .inl x => .int x
  | .inr (.inl x) => .long x
  | .inr (.inr (.inl (some q))) => .ref (pf_ad G q.1 q.2)
  | .inr (.inr (.inl none)) => .null
  | .inr (.inr (.inr _)) => .null
def pf_fv (k i j : Nat) (g : Nat → Int32) : pf_V := match pf_rs k i j with
  | some q => .inr (.inr (.inl (some q)))
  | none => pf_I (g j)
def pf_ty (G : pf_G) : List (ClassId × FieldType) := [(G.2.2.2.1.1, .int), (G.2.2.2.1.2.1, .char), (G.2.2.2.1.2.2.1, .object "PassingFrames$Device"), (G.2.2.2.1.2.2.2, .object "PassingFrames$Datagram")]
def pf_ct (G : pf_G) (t : Nat) : ClassId := ((pf_ty G).getD t (0, .int)).1
def pf_cx (G : pf_G) (k i : Nat) (g : Nat → Int32) : va_E := match pf_ci k with
  | some ci => .inr (ci, (List.range (pf_nf ci)).map fun j => pf_cv G (pf_fv k i j g))
  | none => match pf_ar k with
    | some q => .inl (pf_ct G q.1, q.2, .inl g)
    | none => match pf_ra k with
      | some q => .inl (pf_ct G q.1, q.2.1, .inr (.inr (.inr (.inr fun j => some (pf_ad G q.2.2 j)))))
      | none => .inl (pf_ct G 0, 0, .inl g)
def pf_fn (G : pf_G) (M : pf_M) (a : Nat) : va_E := pf_cx G (pf_dec G.2.2.2.2 (a - G.2.2.1)).1 (pf_dec G.2.2.2.2 (a - G.2.2.1)).2 (M (pf_dec G.2.2.2.2 (a - G.2.2.1)).1 (pf_dec G.2.2.2.2 (a - G.2.2.1)).2)
def pf_LL (G : pf_G) : List Nat := (List.range (pf_num G.2.2.2.2)).map fun o => G.2.2.1 + o
def pf_W (G : pf_G) (M : pf_M) : va_W := va_pl (pf_LL G) (pf_fn G M)
def pf_A (G : pf_G) : Nat → Prop := fun q => q ∈ pf_LL G
theorem pf_dec_off : ∀ k, k < 78 → ∀ i, i < 16 → i < pf_cnt k → pf_off k i < pf_num (pf_sys k) ∧ pf_dec (pf_sys k) (pf_off k i) = (k, i) := by decide +kernel
theorem pf_cnt_lt {k i : Nat} (h : i < pf_cnt k) : k < 78 ∧ i < 16 := by
  unfold pf_cnt at h
  split at h <;> try omega
  split at h <;> try omega
  split at h <;> try omega
  split at h <;> omega
theorem pf_off_dec : ∀ sy : Bool, ∀ o, o < pf_num sy → pf_off (pf_dec sy o).1 (pf_dec sy o).2 = o := by
  intro sy
  cases sy
  · exact fun o h => by revert o; decide +kernel
  · exact fun o h => by revert o; decide +kernel
theorem pf_mem {G : pf_G} {k i : Nat} (h : pf_ok G.2.2.2.2 k i) : pf_ad G k i ∈ pf_LL G ∧ pf_dec G.2.2.2.2 (pf_ad G k i - G.2.2.1) = (k, i) := by
  obtain ⟨h1, h2⟩ := h
  obtain ⟨h3, h4⟩ := pf_cnt_lt h1
  obtain ⟨h5, h6⟩ := pf_dec_off k h3 i h4 h1
  rw [h2] at h5 h6
  refine ⟨List.mem_map.mpr ⟨_, List.mem_range.mpr h5, rfl⟩, ?_⟩
  unfold pf_ad
  rw [Nat.add_sub_cancel_left]
  exact h6
theorem pf_fn_at {G : pf_G} {M : pf_M} {k i : Nat} (h : pf_ok G.2.2.2.2 k i) : pf_fn G M (pf_ad G k i) = pf_cx G k i (M k i) := by
  unfold pf_fn
  rw [(pf_mem h).2]
theorem pf_get {G : pf_G} {M : pf_M} {k i : Nat} (h : pf_ok G.2.2.2.2 k i) : ∃ p : Nat, (pf_W G M)[p]? = some (pf_ad G k i, pf_cx G k i (M k i)) := by
  obtain ⟨p, hp⟩ := va_pl_get (X := []) (f := pf_fn G M) (pf_mem h).1
  rw [pf_fn_at h] at hp
  exact ⟨p, hp⟩
theorem pf_nodup (G : pf_G) : (pf_LL G).Nodup := by
  unfold pf_LL
  exact List.Pairwise.map _ (fun a b h hh => h (Nat.add_left_cancel hh)) List.nodup_range
theorem pf_D (G : pf_G) (M : pf_M) : va_D (pf_A G) (pf_W G M) := by
  have hn := pf_nodup G
  have hw : ∀ (i : Nat) (p : Nat × va_E), (pf_W G M)[i]? = some p → (pf_LL G)[i]? = some p.1 := by
    intro i p h
    unfold pf_W va_pl at h
    rw [List.getElem?_map] at h
    cases hq : (pf_LL G)[i]? with
    | none => rw [hq] at h; cases h
    | some a => rw [hq] at h; cases h; rfl
  refine ⟨fun i j p q hi hj he => ?_, fun k q h => List.mem_of_getElem? (hw k q h)⟩
  have h1 := hw i p hi
  have h2 := hw j q hj
  rw [← he] at h2
  exact (List.getElem?_inj (List.getElem?_eq_some_iff.mp h1).1 hn).mp (h1.trans h2.symm)
theorem pf_set {G : pf_G} {M : pf_M} {k i p : Nat} (h : pf_ok G.2.2.2.2 k i) (hp : (pf_W G M)[p]? = some (pf_ad G k i, pf_cx G k i (M k i))) (g : Nat → Int32) : (pf_W G M).set p (pf_ad G k i, pf_cx G k i g) = pf_W G (pf_upf M k i g) := by
  have e := va_pl_set (X := []) (L := pf_LL G) (f := pf_fn G M) (k := p) (e := pf_cx G k i g) (pf_D G M) (pf_mem h).1 (by rw [pf_fn_at h]; exact hp)
  refine Eq.trans e ?_
  unfold pf_W va_pl
  refine List.map_congr_left fun a ha => ?_
  congr 1
  obtain ⟨o, ho, rfl⟩ := List.mem_map.mp ha
  have ho := List.mem_range.mp ho
  have hod := pf_off_dec G.2.2.2.2 o ho
  unfold va_up
  by_cases hc : G.2.2.1 + o = pf_ad G k i
  · rw [if_pos hc, hc, pf_fn_at h]
    unfold pf_upf
    rw [if_pos ⟨rfl, rfl⟩]
  · rw [if_neg hc]
    unfold pf_fn pf_upf
    rw [Nat.add_sub_cancel_left, if_neg]
    rintro ⟨h1, h2⟩
    apply hc
    unfold pf_ad
    rw [← h1, ← h2, hod]
end
section
/-! the tables' words that go along with every call; the words of nest mates -/
def pf_tb : List Cond := lw_tbl.filter goodWord
theorem pf_tbm {i : Nat} {w : Cond} (h : lw_tbl[i]? = some w) (hg : goodWord w = true) : w ∈ pf_tb := List.mem_filter.mpr ⟨List.mem_of_getElem? h, hg⟩
theorem pf_tbg (y : MethodName) (cc : ByteArray) (nL : Nat) (ret : Option FieldType) (h : Cond.code y cc nL ret ∈ pf_tb) {ws : List Cond} (hw : pf_tb ⊆ ws) : GoodIn ws (.code y cc nL ret :: pf_tb) := by
  intro w hwm
  have hm : w ∈ pf_tb := by
    rcases List.mem_cons.mp hwm with rfl | q
    · exact h
    · exact q
  exact ⟨hw hm, good_of_word (List.mem_filter.mp hm).2⟩
def pf_nest : Cond → Bool
  | .fieldLinkNest .. => true
  | .methodLinkNest .. => true
  | _ => false
def pf_nw : List Cond := lw_tbl.filter pf_nest
theorem pf_nwm {i : Nat} {w : Cond} (h : lw_tbl[i]? = some w) (hg : pf_nest w = true) : w ∈ pf_nw := List.mem_filter.mpr ⟨List.mem_of_getElem? h, hg⟩
def pf_NW (U : State) : Prop := ∀ w ∈ pf_nw, va_Nw w U
theorem pf_NW.warm {s U : State} (hW : s.WarmedH U.vm) (h : pf_NW s) : pf_NW U := by
  intro w hw
  have h1 := (List.mem_filter.mp hw).2
  have h2 := h w hw
  cases w <;> first | exact va_Nw.warmF hW h2 | exact va_Nw.warmM hW h2 | cases h1
theorem pf_NW.same {u U : State} (hv : u.vm = U.vm) (h : pf_NW u) : pf_NW U := by
  intro w hw
  have h1 := (List.mem_filter.mp hw).2
  have h2 := h w hw
  cases w <;> first | exact va_Nw.same rfl hv h2 | cases h1
def pf_okv (G : pf_G) (v : pf_V) : Prop := match v with
  | .inr (.inr (.inl (some q))) => pf_ok G.2.2.2.2 q.1 q.2
  | _ => True
def pf_World (G : pf_G) (M : pf_M) (U : State) : Prop := va_P G.2.1 vwCl (pf_W G M) U.heap ∧ va_K G.2.1 vwCl (pf_ty G) U ∧ pf_NW U
def pf_QX (G : pf_G) (r : Option pf_V) (M' : pf_M) : Array Value → State → Outcome → State → Prop := fun _ st o t =>
  (o = .returned (r.map (pf_cv G)) ∧ (∀ v, r = some v → pf_okv G v) ∧ va_P G.2.1 vwCl (pf_W G M') t.heap) ∧ va_F (pf_A G) st t
def pf_rm0 (fr lo : Nat) : Room := { frames := fr, cells := 0, slots := 0, locals := lo }
def pf_Met (G : pf_G) (y : MethodName) (cc : ByteArray) (nL : Nat) (ret : Option FieldType) (fr lo : Nat) (avs : List pf_V) (M : pf_M) (r : Option pf_V) (M' : pf_M) : Prop :=
  (∀ v ∈ avs, pf_okv G v) → Met G.1 y (.code y cc nL ret :: pf_tb) (pf_rm0 fr lo) (va_Pc (avs.map (pf_cv G)) (pf_World G M)) (pf_QX G r M') 0 0 (pf_A G)
/-! locals -/
def pf_isL (v : pf_V) : Bool := match v with
  | .inr (.inl _) => true
  | _ => false
def pf_isU (v : pf_V) : Bool := match v with
  | .inr (.inr (.inr _)) => true
  | _ => false
def pf_cat (v : pf_V) : Nat := match v with
  | .inr (.inl _) => 2
  | _ => 1
theorem pf_cat_cv (G : pf_G) (v : pf_V) : (pf_cv G v).category = pf_cat v := by
  obtain x | x | (_ | q) | u := v <;> rfl
def pf_LR (G : pf_G) (lo : List pf_V) (nL : Nat) (ls : Array Slot) : Prop := ls.size = nL ∧ lv_wf ls ∧ ∀ (i : Nat) (v : pf_V), lo[i]? = some v → pf_isU v = false → ls[i]? = some (.val (pf_cv G v))
def pf_pr (G : pf_G) (lo : List pf_V) : List (Nat × Value) := lo.zipIdx.filterMap fun q => if pf_isU q.1 = true then none else some (q.2, pf_cv G q.1)
theorem pf_pr_mem {G : pf_G} {lo : List pf_V} {q : Nat × Value} : q ∈ pf_pr G lo ↔ ∃ v, lo[q.1]? = some v ∧ pf_isU v = false ∧ q.2 = pf_cv G v := by
  unfold pf_pr
  rw [List.mem_filterMap]
  constructor
  · rintro ⟨⟨v, i⟩, h1, h2⟩
    have h1 := List.mem_zipIdx_iff_getElem?.mp h1
    dsimp only at h1 h2
    by_cases hu : pf_isU v = true
    · rw [if_pos hu] at h2; cases h2
    · rw [if_neg hu] at h2
      cases h2
      exact ⟨v, h1, by simpa using hu, rfl⟩
  · rintro ⟨v, h1, h2, h3⟩
    refine ⟨(v, q.1), List.mem_zipIdx_iff_getElem?.mpr h1, ?_⟩
    dsimp only
    rw [h2, if_neg (by decide), ← h3]
theorem pf_LR.has {G : pf_G} {lo : List pf_V} {nL : Nat} {ls : Array Slot} (h : pf_LR G lo nL ls) : lv_has ls nL (pf_pr G lo) := by
  refine ⟨h.1, h.2.1, fun q hq => ?_⟩
  obtain ⟨v, h1, h2, h3⟩ := pf_pr_mem.mp hq
  rw [h3]
  exact h.2.2 _ _ h1 h2
def pf_st1 : List pf_V → Nat → pf_V → List pf_V
  | [], _, _ => []
  | _ :: r, 0, v => v :: r
  | a :: r, 1, v => (if pf_isL a = true then pf_U else a) :: pf_st1 r 0 v
  | a :: r, n + 2, v => a :: pf_st1 r (n + 1) v
def pf_hd : List pf_V → List pf_V
  | [] => []
  | _ :: r => pf_U :: r
def pf_st2 : List pf_V → Nat → pf_V → List pf_V
  | [], _, _ => []
  | _ :: r, 0, v => v :: pf_hd r
  | a :: r, 1, v => (if pf_isL a = true then pf_U else a) :: pf_st2 r 0 v
  | a :: r, n + 2, v => a :: pf_st2 r (n + 1) v
theorem pf_st1_get : ∀ (lo : List pf_V) (i : Nat) (v : pf_V) (j : Nat) (w : pf_V), (pf_st1 lo i v)[j]? = some w → pf_isU w = false → (j = i ∧ w = v) ∨ (lo[j]? = some w ∧ j ≠ i ∧ ¬ (j + 1 = i ∧ pf_isL w = true))
  | [], i, v, j, w => fun h => by simp [pf_st1] at h
  | a :: r, 0, v, j, w => fun h hu => by
    cases j with
    | zero => simp [pf_st1] at h; exact Or.inl ⟨rfl, h.symm⟩
    | succ j => simp [pf_st1] at h; exact Or.inr ⟨by simpa using h, by omega, by omega⟩
  | a :: r, 1, v, j, w => fun h hu => by
    cases j with
    | zero =>
      simp only [pf_st1, List.getElem?_cons_zero, Option.some.injEq] at h
      by_cases ha : pf_isL a = true
      · rw [if_pos ha] at h; subst h; cases hu
      · rw [if_neg ha] at h; subst h
        exact Or.inr ⟨rfl, by omega, fun q => ha q.2⟩
    | succ j =>
      simp only [pf_st1, List.getElem?_cons_succ] at h
      rcases pf_st1_get r 0 v j w h hu with q | q
      · exact Or.inl ⟨by omega, q.2⟩
      · exact Or.inr ⟨by simpa using q.1, by omega, by omega⟩
  | a :: r, n + 2, v, j, w => fun h hu => by
    cases j with
    | zero => simp [pf_st1] at h; exact Or.inr ⟨by simp [h], by omega, by omega⟩
    | succ j =>
      simp only [pf_st1, List.getElem?_cons_succ] at h
      rcases pf_st1_get r (n + 1) v j w h hu with q | q
      · exact Or.inl ⟨by omega, q.2⟩
      · exact Or.inr ⟨by simpa using q.1, by omega, fun z => q.2.2 ⟨by omega, z.2⟩⟩
theorem pf_st2_get : ∀ (lo : List pf_V) (i : Nat) (v : pf_V) (j : Nat) (w : pf_V), (pf_st2 lo i v)[j]? = some w → pf_isU w = false → (j = i ∧ w = v) ∨ (lo[j]? = some w ∧ j ≠ i ∧ j ≠ i + 1 ∧ ¬ (j + 1 = i ∧ pf_isL w = true))
  | [], i, v, j, w => fun h => by simp [pf_st2] at h
  | a :: r, 0, v, j, w => fun h hu => by
    match j, r, h with
    | 0, _, h => simp [pf_st2] at h; exact Or.inl ⟨rfl, h.symm⟩
    | 1, [], h => simp [pf_st2, pf_hd] at h
    | 1, b :: r, h => simp [pf_st2, pf_hd] at h; subst h; cases hu
    | j + 2, [], h => simp [pf_st2, pf_hd] at h
    | j + 2, b :: r, h => simp [pf_st2, pf_hd] at h; exact Or.inr ⟨by simpa using h, by omega, by omega, by omega⟩
  | a :: r, 1, v, j, w => fun h hu => by
    cases j with
    | zero =>
      simp only [pf_st2, List.getElem?_cons_zero, Option.some.injEq] at h
      by_cases ha : pf_isL a = true
      · rw [if_pos ha] at h; subst h; cases hu
      · rw [if_neg ha] at h; subst h
        exact Or.inr ⟨rfl, by omega, by omega, fun q => ha q.2⟩
    | succ j =>
      simp only [pf_st2, List.getElem?_cons_succ] at h
      rcases pf_st2_get r 0 v j w h hu with q | q
      · exact Or.inl ⟨by omega, q.2⟩
      · exact Or.inr ⟨by simpa using q.1, by omega, by omega, by omega⟩
  | a :: r, n + 2, v, j, w => fun h hu => by
    cases j with
    | zero => simp [pf_st2] at h; exact Or.inr ⟨by simp [h], by omega, by omega, by omega⟩
    | succ j =>
      simp only [pf_st2, List.getElem?_cons_succ] at h
      rcases pf_st2_get r (n + 1) v j w h hu with q | q
      · exact Or.inl ⟨by omega, q.2⟩
      · exact Or.inr ⟨by simpa using q.1, by omega, by omega, fun z => q.2.2.2 ⟨by omega, z.2⟩⟩
theorem pf_isL_cat {G : pf_G} {v : pf_V} : (pf_cv G v).category = 2 ↔ pf_isL v = true := by
  rw [pf_cat_cv]
  obtain x | x | (_ | q) | u := v <;> simp [pf_cat, pf_isL]
theorem pf_LR.st1 {G : pf_G} {lo : List pf_V} {nL i : Nat} {ls' : Array Slot} {v : pf_V} (h : lv_has ls' nL ((i, pf_cv G v) :: (pf_pr G lo).filter (fun q => !(q.1 == i) && !(q.1 + 1 == i && q.2.category == 2)))) : pf_LR G (pf_st1 lo i v) nL ls' := by
  refine ⟨h.1, h.2.1, fun j w hj hu => ?_⟩
  rcases pf_st1_get lo i v j w hj hu with ⟨rfl, rfl⟩ | ⟨h1, h2, h3⟩
  · exact h.2.2 _ List.mem_cons_self
  · refine h.2.2 (j, pf_cv G w) (List.mem_cons_of_mem _ (List.mem_filter.mpr ⟨pf_pr_mem.mpr ⟨w, h1, hu, rfl⟩, ?_⟩))
    simp only [Bool.and_eq_true, Bool.not_eq_true', beq_eq_false_iff_ne, Bool.and_eq_false_iff, ne_eq]
    refine ⟨h2, ?_⟩
    by_cases hc : j + 1 = i
    · refine Or.inr fun q => h3 ⟨hc, pf_isL_cat.mp q⟩
    · exact Or.inl hc
theorem pf_LR.st2 {G : pf_G} {lo : List pf_V} {nL i : Nat} {ls' : Array Slot} {v : pf_V} (h : lv_has ls' nL ((i, pf_cv G v) :: (pf_pr G lo).filter (fun q => !(q.1 == i) && (!(q.1 == i + 1) && !(q.1 + 1 == i && q.2.category == 2))))) : pf_LR G (pf_st2 lo i v) nL ls' := by
  refine ⟨h.1, h.2.1, fun j w hj hu => ?_⟩
  rcases pf_st2_get lo i v j w hj hu with ⟨rfl, rfl⟩ | ⟨h1, h2, h4, h3⟩
  · exact h.2.2 _ List.mem_cons_self
  · refine h.2.2 (j, pf_cv G w) (List.mem_cons_of_mem _ (List.mem_filter.mpr ⟨pf_pr_mem.mpr ⟨w, h1, hu, rfl⟩, ?_⟩))
    simp only [Bool.and_eq_true, Bool.not_eq_true', beq_eq_false_iff_ne, Bool.and_eq_false_iff, ne_eq]
    refine ⟨h2, h4, ?_⟩
    by_cases hc : j + 1 = i
    · refine Or.inr fun q => h3 ⟨hc, pf_isL_cat.mp q⟩
    · exact Or.inl hc
def pf_en : List pf_V → List pf_V
  | [] => []
  | v :: r => if pf_isL v = true then v :: pf_U :: pf_en r else v :: pf_en r
theorem pf_en_mem (G : pf_G) : ∀ (vs : List pf_V) (o j : Nat) (w : pf_V), (pf_en vs)[j]? = some w → pf_isU w = false → (o + j, pf_cv G w) ∈ lv_args o (vs.map (pf_cv G))
  | [], o, j, w => fun h => by simp [pf_en] at h
  | v :: r, o, j, w => fun h hu => by
    simp only [List.map_cons, lv_args]
    by_cases hv : pf_isL v = true
    · have hc := (pf_isL_cat (G := G)).mpr hv
      rw [if_pos hc]
      simp only [pf_en, if_pos hv] at h
      match j, h with
      | 0, h => simp at h; subst h; exact List.mem_cons_self
      | 1, h => simp at h; subst h; cases hu
      | j + 2, h =>
        simp only [List.getElem?_cons_succ] at h
        have := pf_en_mem G r (o + 2) j w h hu
        rw [show o + (j + 2) = o + 2 + j by omega]
        exact List.mem_cons_of_mem _ this
    · have hc : ¬ (pf_cv G v).category = 2 := fun q => hv (pf_isL_cat.mp q)
      rw [if_neg hc]
      simp only [pf_en, if_neg hv] at h
      match j, h with
      | 0, h => simp at h; subst h; exact List.mem_cons_self
      | j + 1, h =>
        simp only [List.getElem?_cons_succ] at h
        have := pf_en_mem G r (o + 1) j w h hu
        rw [show o + (j + 1) = o + 1 + j by omega]
        exact List.mem_cons_of_mem _ this
def pf_ent (vs : List pf_V) (nL : Nat) : List pf_V := pf_en vs ++ List.replicate (nL - (pf_en vs).length) pf_U
theorem pf_en_len (G : pf_G) (vs : List pf_V) : (lg_sl (vs.map (pf_cv G))).length = (pf_en vs).length := by
  induction vs with
  | nil => rfl
  | cons v r ih =>
    unfold lg_sl at ih ⊢
    rw [List.map_cons, List.flatMap_cons, List.length_append, ih]
    by_cases hv : pf_isL v = true
    · rw [if_pos (pf_isL_cat.mpr hv)]
      simp only [pf_en, if_pos hv, List.length_cons, List.length_nil]
      omega
    · rw [if_neg (fun q => hv (pf_isL_cat.mp q))]
      simp only [pf_en, if_neg hv, List.length_cons, List.length_nil]
      omega
theorem pf_LR.ent (G : pf_G) (vs : List pf_V) {nL : Nat} (h : (pf_en vs).length ≤ nL) : pf_LR G (pf_ent vs nL) nL ((lg_sl (vs.map (pf_cv G)) ++ List.replicate (nL - (lg_sl (vs.map (pf_cv G))).length) Slot.unset).toArray) := by
  have hl := lv_entry (vs.map (pf_cv G)) (n := nL) (by rw [pf_en_len]; exact h)
  refine ⟨hl.1, hl.2.1, fun j w hj hu => ?_⟩
  unfold pf_ent at hj
  by_cases hj2 : j < (pf_en vs).length
  · rw [List.getElem?_append_left hj2] at hj
    have := pf_en_mem G vs 0 j w hj hu
    rw [Nat.zero_add] at this
    exact hl.2.2 _ this
  · rw [List.getElem?_append_right (by omega)] at hj
    have := List.mem_of_getElem? hj
    rw [List.mem_replicate] at this
    rw [this.2] at hu
    cases hu
theorem pf_ent_ok {G : pf_G} {vs : List pf_V} {nL : Nat} (h : ∀ v ∈ vs, pf_okv G v) : ∀ v ∈ pf_ent vs nL, pf_okv G v := by
  have hen : ∀ (vs : List pf_V), (∀ v ∈ vs, pf_okv G v) → ∀ v ∈ pf_en vs, pf_okv G v := by
    intro vs
    induction vs with
    | nil => intro _ v hv; cases hv
    | cons a r ih =>
      intro h v hv
      have hr := ih (fun v q => h v (List.mem_cons_of_mem _ q))
      unfold pf_en at hv
      split at hv
      · rcases List.mem_cons.mp hv with rfl | hv
        · exact h _ List.mem_cons_self
        · rcases List.mem_cons.mp hv with rfl | hv
          · trivial
          · exact hr v hv
      · rcases List.mem_cons.mp hv with rfl | hv
        · exact h _ List.mem_cons_self
        · exact hr v hv
  intro v hv
  rcases List.mem_append.mp hv with q | q
  · exact hen vs h v q
  · rw [(List.mem_replicate.mp q).2]; trivial
end
section
def pf_Fl (own : String) (idx ci k : Nat) (ty : FieldType) (fin : Bool) : Prop := ∃ (C : String) (T : u_T) (N : Nat) (ty0 : Nat → FieldType), vwCl[ci]? = some (C, T, N) ∧ pf_nf ci = N ∧ k < N ∧ (∀ w ∈ u_ws C T N, w ∈ pf_tb) ∧ (∀ k, k < N → parseFieldDescriptor (T k).2.2.1 = some (ty0 k)) ∧ (∀ a, a < N → ∀ b, b < N → a ≠ b → (T a).2.1 ≠ (T b).2.1) ∧ parseFieldDescriptor (T k).2.2.1 = some ty ∧ (T k).2.2.2 = fin ∧
  (Cond.fieldLink own idx (T k).1 (T k).2.1 (T k).2.2.1 ∈ pf_tb ∨ ∃ host, Cond.fieldLinkNest own idx (T k).1 (T k).2.1 (T k).2.2.1 host ∈ pf_nw)
def pf_LkB (y : MethodName) (cc : ByteArray) (nL : Nat) (ret : Option FieldType) (n : Nat) : Prop :=
  Cond.initialized y.cls ∈ pf_tb ∧ Cond.code y cc nL ret ∈ pf_tb ∧ (y.cls ≠ "java/lang/invoke/MethodHandle" ∧ y.cls ≠ "java/lang/invoke/VarHandle") ∧ (parseMethodDescriptor y.desc).map (fun d => d.parameters.length) = some n
def pf_LkV (own : String) (idx ci : Nat) (y : MethodName) (cc : ByteArray) (nL : Nat) (ret : Option FieldType) (n : Nat) : Prop :=
  pf_LkB y cc nL ret n ∧ (∃ (T : u_T) (N : Nat), vwCl[ci]? = some (y.cls, T, N)) ∧ Cond.instanceMethod y ∈ pf_tb ∧ Cond.selects y.cls y y ∈ pf_tb ∧ (Cond.methodLink own idx y ∈ pf_tb ∨ ∃ host, Cond.methodLinkNest own idx y host ∈ pf_nw)
def pf_LkS (own : String) (idx : Nat) (y : MethodName) (cc : ByteArray) (nL : Nat) (ret : Option FieldType) (n : Nat) : Prop :=
  pf_LkB y cc nL ret n ∧ Cond.static y ∈ pf_tb ∧ (Cond.methodLink own idx y ∈ pf_tb ∨ ∃ host, Cond.methodLinkNest own idx y host ∈ pf_nw)
def pf_LkA (own : String) (idx : Nat) : Prop := Cond.methodLink own idx arraycopyName ∈ pf_tb ∧ Cond.native arraycopyName ∈ pf_tb ∧ Cond.static arraycopyName ∈ pf_tb ∧ Cond.initialized "java/lang/System" ∈ pf_tb
def pf_cmp (c : ClassFile.Cond) (x y : Int32) : Prop := match c with
  | .eq => x = y
  | .ne => ¬ x = y
  | .lt => x < y
  | .ge => y ≤ x
  | .gt => y < x
  | .le => x ≤ y
def pf_intK (kd n : Nat) : Prop := pf_ci kd = none ∧ pf_ar kd = some (0, n)
def pf_wd (r : List pf_V) : Nat := (r.map pf_cat).sum
/-- what an instruction asks of the states behind it -/
def pf_step (G : pf_G) (own : String) (FR LO : Nat) (ret : Option FieldType) (r0 : Option pf_V) (M0 : pf_M) (K : Nat → List pf_V → List pf_V → pf_M → Prop) (pc len : Nat) (lo st : List pf_V) (M : pf_M) (ins : Instr) : Prop := match ins with
  | .aconst_null => len = 1 ∧ K (pc + 1) lo (pf_N :: st) M
  | .iconst n => len = 1 ∧ K (pc + 1) lo (pf_I (Int32.ofInt n) :: st) M
  | .bipush n => len = 2 ∧ K (pc + 2) lo (pf_I (Int8.ofInt n).toInt32 :: st) M
  | .sipush n => len = 3 ∧ K (pc + 3) lo (pf_I (Int16.ofInt n).toInt32 :: st) M
  | .lconst n => len = 1 ∧ K (pc + 1) lo (pf_L (Int64.ofNat (n : Nat)) :: st) M
  | .ldc idx => ∃ v, len = 2 ∧ Cond.constant own idx v ∈ pf_tb ∧ K (pc + 2) lo (pf_I v :: st) M
  | .ldc_w idx => ∃ v, len = 3 ∧ Cond.constant own idx v ∈ pf_tb ∧ K (pc + 3) lo (pf_I v :: st) M
  | .ldc2_w idx => ∃ v, len = 3 ∧ Cond.constantLong own idx v ∈ pf_tb ∧ K (pc + 3) lo (pf_L v :: st) M
  | .iload_n n => ∃ x, len = 1 ∧ lo[(n : Nat)]? = some (pf_I x) ∧ K (pc + 1) lo (pf_I x :: st) M
  | .iload i => ∃ x, len = 2 ∧ lo[i]? = some (pf_I x) ∧ K (pc + 2) lo (pf_I x :: st) M
  | .lload_n n => ∃ x, len = 1 ∧ lo[(n : Nat)]? = some (pf_L x) ∧ K (pc + 1) lo (pf_L x :: st) M
  | .lload i => ∃ x, len = 2 ∧ lo[i]? = some (pf_L x) ∧ K (pc + 2) lo (pf_L x :: st) M
  | .aload_n n => ∃ q, len = 1 ∧ lo[(n : Nat)]? = some (.inr (.inr (.inl q))) ∧ K (pc + 1) lo (.inr (.inr (.inl q)) :: st) M
  | .aload i => ∃ q, len = 2 ∧ lo[i]? = some (.inr (.inr (.inl q))) ∧ K (pc + 2) lo (.inr (.inr (.inl q)) :: st) M
  | .istore_n n => ∃ x r, len = 1 ∧ st = pf_I x :: r ∧ (n : Nat) < lo.length ∧ K (pc + 1) (pf_st1 lo (n : Nat) (pf_I x)) r M
  | .istore i => ∃ x r, len = 2 ∧ st = pf_I x :: r ∧ i < lo.length ∧ K (pc + 2) (pf_st1 lo i (pf_I x)) r M
  | .astore_n n => ∃ q r, len = 1 ∧ st = .inr (.inr (.inl q)) :: r ∧ (n : Nat) < lo.length ∧ K (pc + 1) (pf_st1 lo (n : Nat) (.inr (.inr (.inl q)))) r M
  | .astore i => ∃ q r, len = 2 ∧ st = .inr (.inr (.inl q)) :: r ∧ i < lo.length ∧ K (pc + 2) (pf_st1 lo i (.inr (.inr (.inl q)))) r M
  | .lstore_n n => ∃ x r, len = 1 ∧ st = pf_L x :: r ∧ (n : Nat) + 1 < lo.length ∧ K (pc + 1) (pf_st2 lo (n : Nat) (pf_L x)) r M
  | .lstore i => ∃ x r, len = 2 ∧ st = pf_L x :: r ∧ i + 1 < lo.length ∧ K (pc + 2) (pf_st2 lo i (pf_L x)) r M
  | .iinc i n => ∃ x, len = 3 ∧ lo[i]? = some (pf_I x) ∧ K (pc + 3) (pf_st1 lo i (pf_I (x + Int32.ofInt n))) st M
  | .iadd => ∃ x y r, len = 1 ∧ st = pf_I y :: pf_I x :: r ∧ K (pc + 1) lo (pf_I (x + y) :: r) M
  | .isub => ∃ x y r, len = 1 ∧ st = pf_I y :: pf_I x :: r ∧ K (pc + 1) lo (pf_I (x - y) :: r) M
  | .imul => ∃ x y r, len = 1 ∧ st = pf_I y :: pf_I x :: r ∧ K (pc + 1) lo (pf_I (x * y) :: r) M
  | .ior => ∃ x y r, len = 1 ∧ st = pf_I y :: pf_I x :: r ∧ K (pc + 1) lo (pf_I (x ||| y) :: r) M
  | .iand => ∃ x y r, len = 1 ∧ st = pf_I y :: pf_I x :: r ∧ K (pc + 1) lo (pf_I (x &&& y) :: r) M
  | .ixor => ∃ x y r, len = 1 ∧ st = pf_I y :: pf_I x :: r ∧ K (pc + 1) lo (pf_I (x ^^^ y) :: r) M
  | .idiv => ∃ x y r, len = 1 ∧ st = pf_I y :: pf_I x :: r ∧ ¬ y = 0 ∧ K (pc + 1) lo (pf_I (x / y) :: r) M
  | .irem => ∃ x y r, len = 1 ∧ st = pf_I y :: pf_I x :: r ∧ ¬ y = 0 ∧ K (pc + 1) lo (pf_I (x - x / y * y) :: r) M
  | .ineg => ∃ x r, len = 1 ∧ st = pf_I x :: r ∧ K (pc + 1) lo (pf_I (-x) :: r) M
  | .ladd => ∃ x y r, len = 1 ∧ st = pf_L y :: pf_L x :: r ∧ K (pc + 1) lo (pf_L (x + y) :: r) M
  | .lsub => ∃ x y r, len = 1 ∧ st = pf_L y :: pf_L x :: r ∧ K (pc + 1) lo (pf_L (x - y) :: r) M
  | .lmul => ∃ x y r, len = 1 ∧ st = pf_L y :: pf_L x :: r ∧ K (pc + 1) lo (pf_L (x * y) :: r) M
  | .ldiv => ∃ x y r, len = 1 ∧ st = pf_L y :: pf_L x :: r ∧ ¬ y = 0 ∧ K (pc + 1) lo (pf_L (x / y) :: r) M
  | .lrem => ∃ x y r, len = 1 ∧ st = pf_L y :: pf_L x :: r ∧ ¬ y = 0 ∧ K (pc + 1) lo (pf_L (x - x / y * y) :: r) M
  | .lneg => ∃ x r, len = 1 ∧ st = pf_L x :: r ∧ K (pc + 1) lo (pf_L (-x) :: r) M
  | .lcmp => ∃ x y r, len = 1 ∧ st = pf_L y :: pf_L x :: r ∧ K (pc + 1) lo (pf_I (lg_cmp x y) :: r) M
  | .i2l => ∃ x r, len = 1 ∧ st = pf_I x :: r ∧ K (pc + 1) lo (pf_L x.toInt64 :: r) M
  | .l2i => ∃ x r, len = 1 ∧ st = pf_L x :: r ∧ K (pc + 1) lo (pf_I x.toInt32 :: r) M
  | .i2c => ∃ x r, len = 1 ∧ st = pf_I x :: r ∧ K (pc + 1) lo (pf_I (x.toUInt32 % 65536).toInt32 :: r) M
  | .dup => ∃ v r, len = 1 ∧ st = v :: r ∧ pf_cat v = 1 ∧ K (pc + 1) lo (v :: v :: r) M
  | .dup2 => ∃ v w r, len = 1 ∧ st = v :: w :: r ∧ pf_cat v = 1 ∧ pf_cat w = 1 ∧ K (pc + 1) lo (v :: w :: v :: w :: r) M
  | .pop => ∃ v r, len = 1 ∧ st = v :: r ∧ pf_cat v = 1 ∧ K (pc + 1) lo r M
  | .goto off => ∃ tgt : Nat, len = 3 ∧ (pc : Int) + off = (tgt : Int) ∧ K tgt lo st M
  | .if_icmp c off => ∃ (x y : Int32) (r : List pf_V) (tgt : Nat), len = 3 ∧ st = pf_I y :: pf_I x :: r ∧ (pc : Int) + off = (tgt : Int) ∧ (pf_cmp c x y → K tgt lo r M) ∧ (¬ pf_cmp c x y → K (pc + 3) lo r M)
  | .ifCond c off => ∃ (x : Int32) (r : List pf_V) (tgt : Nat), len = 3 ∧ st = pf_I x :: r ∧ (pc : Int) + off = (tgt : Int) ∧ (pf_cmp c x 0 → K tgt lo r M) ∧ (¬ pf_cmp c x 0 → K (pc + 3) lo r M)
  | .ifnull off => ∃ (q : Option (Nat × Nat)) (r : List pf_V) (tgt : Nat), len = 3 ∧ st = .inr (.inr (.inl q)) :: r ∧ (pc : Int) + off = (tgt : Int) ∧ (q = none → K tgt lo r M) ∧ (¬ q = none → K (pc + 3) lo r M)
  | .ifnonnull off => ∃ (q : Option (Nat × Nat)) (r : List pf_V) (tgt : Nat), len = 3 ∧ st = .inr (.inr (.inl q)) :: r ∧ (pc : Int) + off = (tgt : Int) ∧ (q = none → K (pc + 3) lo r M) ∧ (¬ q = none → K tgt lo r M)
  | .tableswitch dflt low high offs => ∃ (x : Int32) (r : List pf_V) (tgt : Nat), st = pf_I x :: r ∧ (((x.toInt < low ∨ high < x.toInt) ∧ (pc : Int) + dflt = (tgt : Int)) ∨ ∃ off, ¬ x.toInt < low ∧ ¬ high < x.toInt ∧ offs[(x.toInt - low).toNat]? = some off ∧ (pc : Int) + off = (tgt : Int)) ∧ K tgt lo r M
  | .getfield idx => ∃ (kd i k ci : Nat) (ty : FieldType) (fin : Bool) (r : List pf_V), len = 3 ∧ st = pf_R kd i :: r ∧ pf_ci kd = some ci ∧ pf_Fl own idx ci k ty fin ∧ K (pc + 3) lo (pf_fv kd i k (M kd i) :: r) M
  | .putfield idx => ∃ (kd i k ci : Nat) (ty : FieldType) (x : Int32) (r : List pf_V), len = 3 ∧ st = pf_I x :: pf_R kd i :: r ∧ pf_ci kd = some ci ∧ pf_rs kd i k = none ∧ pf_Fl own idx ci k ty false ∧ narrow ty (.int x) = .int x ∧ fits ty (.int x) = true ∧ K (pc + 3) lo r (pf_up M kd i k x)
  | .iaload => ∃ (kd i n : Nat) (j : Int32) (r : List pf_V), len = 1 ∧ st = pf_I j :: pf_R kd i :: r ∧ pf_intK kd n ∧ vp_in j n ∧ K (pc + 1) lo (pf_I (M kd i j.toNatClampNeg) :: r) M
  | .iastore => ∃ (kd i n : Nat) (j x : Int32) (r : List pf_V), len = 1 ∧ st = pf_I x :: pf_I j :: pf_R kd i :: r ∧ pf_intK kd n ∧ vp_in j n ∧ K (pc + 1) lo r (pf_up M kd i j.toNatClampNeg x)
  | .caload => ∃ (kd i n : Nat) (j : Int32) (r : List pf_V), len = 1 ∧ st = pf_I j :: pf_R kd i :: r ∧ pf_ci kd = none ∧ pf_ar kd = some (1, n) ∧ vp_in j n ∧ K (pc + 1) lo (pf_I (M kd i j.toNatClampNeg) :: r) M
  | .castore => ∃ (kd i n : Nat) (j x : Int32) (r : List pf_V), len = 1 ∧ st = pf_I x :: pf_I j :: pf_R kd i :: r ∧ pf_ci kd = none ∧ pf_ar kd = some (1, n) ∧ vp_in j n ∧ K (pc + 1) lo r (pf_up M kd i j.toNatClampNeg (vp_nar .char x))
  | .aaload => ∃ (kd i n t e : Nat) (j : Int32) (r : List pf_V), len = 1 ∧ st = pf_I j :: pf_R kd i :: r ∧ pf_ci kd = none ∧ pf_ar kd = none ∧ pf_ra kd = some (t, n, e) ∧ vp_in j n ∧ K (pc + 1) lo (pf_R e j.toNatClampNeg :: r) M
  | .arraylength => ∃ (kd i n : Nat) (r : List pf_V), len = 1 ∧ st = pf_R kd i :: r ∧ pf_intK kd n ∧ K (pc + 1) lo (pf_I (Int32.ofNat n) :: r) M
  | .ireturn => ∃ (x : Int32) (ty : FieldType), len = 1 ∧ st = [pf_I x] ∧ ret = some ty ∧ narrow ty (.int x) = .int x ∧ r0 = some (pf_I x) ∧ M = M0
  | .lreturn => ∃ (x : Int64), len = 1 ∧ st = [pf_L x] ∧ ret = some .long ∧ r0 = some (pf_L x) ∧ M = M0
  | .areturn => ∃ (q : Option (Nat × Nat)) (n : String), len = 1 ∧ st = [.inr (.inr (.inl q))] ∧ ret = some (.object n) ∧ r0 = some (.inr (.inr (.inl q))) ∧ M = M0
  | .return_ => len = 1 ∧ st = [] ∧ ret = none ∧ r0 = none ∧ M = M0
  | .invokevirtual idx => ∃ (y : MethodName) (cc : ByteArray) (nL : Nat) (rt : Option FieldType) (fr lo' : Nat) (as : List pf_V) (kd i ci : Nat) (r : List pf_V) (v : Option pf_V) (M' : pf_M), len = 3 ∧ st = as.reverse ++ pf_R kd i :: r ∧ pf_wd r ≤ 8 ∧ pf_ci kd = some ci ∧ pf_LkV own idx ci y cc nL rt as.length ∧ fr + 1 ≤ FR ∧ 8 + (nL + 11) + lo' ≤ LO ∧ pf_Met G y cc nL rt fr lo' (pf_R kd i :: as) M v M' ∧ K (pc + 3) lo (v.toList ++ r) M'
  | .invokestatic idx => (∃ (y : MethodName) (cc : ByteArray) (nL : Nat) (rt : Option FieldType) (fr lo' : Nat) (as : List pf_V) (r : List pf_V) (v : Option pf_V) (M' : pf_M), len = 3 ∧ st = as.reverse ++ r ∧ pf_wd r ≤ 8 ∧ pf_LkS own idx y cc nL rt as.length ∧ fr + 1 ≤ FR ∧ 8 + (nL + 11) + lo' ≤ LO ∧ pf_Met G y cc nL rt fr lo' as M v M' ∧ K (pc + 3) lo (v.toList ++ r) M') ∨
      (∃ (n dp sp : Int32) (k1 i1 k0 i0 n0 n1 : Nat) (r : List pf_V), len = 3 ∧ st = pf_I n :: pf_I dp :: pf_R k1 i1 :: pf_I sp :: pf_R k0 i0 :: r ∧ pf_LkA own idx ∧ pf_intK k0 n0 ∧ pf_intK k1 n1 ∧ ¬ sp < 0 ∧ ¬ dp < 0 ∧ ¬ n < 0 ∧ sp.toNatClampNeg + n.toNatClampNeg ≤ n0 ∧ dp.toNatClampNeg + n.toNatClampNeg ≤ n1 ∧ 1 ≤ FR ∧ pf_wd r + (nativeFrameWords "java/lang/System" "arraycopy" 5 + 11) ≤ LO ∧ K (pc + 3) lo r (pf_upf M k1 i1 (va_cpy (M k0 i0) (M k1 i1) sp.toNatClampNeg dp.toNatClampNeg n.toNatClampNeg)))
  | _ => False
def pf_fg : List Bool → List pf_V → List pf_V
  | _, [] => []
  | [], v :: r => v :: r
  | true :: m, v :: r => v :: pf_fg m r
  | false :: m, _ :: r => pf_U :: pf_fg m r
def pf_RU (G : pf_G) (cc : ByteArray) (own : String) (FR LO : Nat) (ret : Option FieldType) (r0 : Option pf_V) (M0 : pf_M) (K : Nat → List pf_V → List pf_V → pf_M → Prop) : Prop :=
  (∀ (pc len : Nat) (ins : Instr), decode cc pc = .ok (ins, len) → ∀ (lo st : List pf_V) (M : pf_M), pf_step G own FR LO ret r0 M0 K pc len lo st M ins → K pc lo st M) ∧ ∀ (pc : Nat) (mask : List Bool) (lo st : List pf_V) (M : pf_M), K pc (pf_fg mask lo) st M → K pc lo st M
theorem pf_fg_len : ∀ (mask : List Bool) (lo : List pf_V), (pf_fg mask lo).length = lo.length
  | _, [] => by simp [pf_fg]
  | [], v :: r => rfl
  | true :: m, v :: r => by simp [pf_fg, pf_fg_len m r]
  | false :: m, v :: r => by simp [pf_fg, pf_fg_len m r]
theorem pf_fg_get : ∀ (mask : List Bool) (lo : List pf_V) (i : Nat) (w : pf_V), (pf_fg mask lo)[i]? = some w → w = pf_U ∨ lo[i]? = some w
  | _, [], i, w => fun h => by simp [pf_fg] at h
  | [], v :: r, i, w => fun h => Or.inr h
  | true :: m, v :: r, i, w => fun h => by
    cases i with
    | zero => simp [pf_fg] at h; exact Or.inr (by simp [h])
    | succ i => simp [pf_fg] at h; simpa using pf_fg_get m r i w h
  | false :: m, v :: r, i, w => fun h => by
    cases i with
    | zero => simp [pf_fg] at h; exact Or.inl h.symm
    | succ i => simp [pf_fg] at h; simpa using pf_fg_get m r i w h
def pf_rb (k : Nat) (o : Option (Nat × Nat)) : Bool := match o with
  | some q => decide (q.2 < pf_cnt q.1) && (pf_sys q.1 == pf_sys k)
  | none => true
theorem pf_rs_ok0 : ∀ k, k < 78 → ∀ i, i < 16 → i < pf_cnt k → ∀ j, j < 50 → pf_rb k (pf_rs k i j) = true := by decide +kernel
theorem pf_rs_ok {sy : Bool} {k i j : Nat} (h : pf_ok sy k i) (hj : j < 50) {q : Nat × Nat} (hq : pf_rs k i j = some q) : pf_ok sy q.1 q.2 := by
  obtain ⟨h1, h2⟩ := h
  obtain ⟨h3, h4⟩ := pf_cnt_lt h1
  have := pf_rs_ok0 k h3 i h4 h1 j hj
  rw [hq] at this
  simp only [pf_rb, Bool.and_eq_true, decide_eq_true_eq, beq_iff_eq] at this
  exact ⟨this.1, this.2.trans h2⟩
theorem pf_fv_ok {G : pf_G} {k i j : Nat} {g : Nat → Int32} (h : pf_ok G.2.2.2.2 k i) (hj : j < 50) : pf_okv G (pf_fv k i j g) := by
  unfold pf_fv
  cases hq : pf_rs k i j with
  | none => trivial
  | some q => exact pf_rs_ok h hj hq
theorem pf_nf_le (ci : Nat) : pf_nf ci ≤ 50 := by
  unfold pf_nf
  split <;> decide
theorem pf_cx_obj {G : pf_G} {k i ci : Nat} {g : Nat → Int32} (h : pf_ci k = some ci) : pf_cx G k i g = .inr (ci, (List.range (pf_nf ci)).map fun j => pf_cv G (pf_fv k i j g)) := by
  unfold pf_cx
  rw [h]
theorem pf_cx_int {G : pf_G} {k i n : Nat} {g : Nat → Int32} (h : pf_intK k n) : pf_cx G k i g = .inl (G.2.2.2.1.1, n, .inl g) := by
  unfold pf_cx
  rw [h.1, h.2]
  rfl
theorem pf_cx_chr {G : pf_G} {k i n : Nat} {g : Nat → Int32} (h1 : pf_ci k = none) (h2 : pf_ar k = some (1, n)) : pf_cx G k i g = .inl (G.2.2.2.1.2.1, n, .inl g) := by
  unfold pf_cx
  rw [h1, h2]
  rfl
end
section
def pf_Fix (G : pf_G) (p : Program) (s : State) (m : MethodId) (args : Array Value) (c : Code) (cc : ByteArray) (own : String) (nL : Nat) : Prop :=
  p.tables.exec = Jvm.exec ∧ c.code = cc ∧ c.maxLocals = nL ∧ s.vm.findClass own = some m.cls ∧ (∀ w ∈ pf_tb, w.before args s = true) ∧ va_K G.2.1 vwCl (pf_ty G) s ∧ pf_NW s
def pf_AW (G : pf_G) (p : Program) (e : Env) (R : Room) (s : State) (m : MethodId) (args : Array Value) (below : List Frame) (meth : Method) (c : Code) (nL : Nat) (Q : State → Prop) (pc : Nat) (lo st : List pf_V) (M : pf_M) : Prop :=
  lo.length = nL → (∀ v ∈ lo, pf_okv G v) → (∀ v ∈ st, pf_okv G v) → ∀ (H : Heap) (locs : List Loc) (ls : Array Slot), va_P G.2.1 vwCl (pf_W G M) H → va_S (pf_A G) s.heap H locs → pf_LR G lo nL ls → W p G.1 e R s m args below meth c H locs 0 0 Q (F0 m pc ls (st.map (pf_cv G)))
theorem pf_mem_get {G : pf_G} {lo : List pf_V} {i : Nat} {v : pf_V} (h : ∀ v ∈ lo, pf_okv G v) (hi : lo[i]? = some v) : pf_okv G v := h v (List.mem_of_getElem? hi)
theorem pf_st1_len : ∀ (lo : List pf_V) (i : Nat) (v : pf_V), (pf_st1 lo i v).length = lo.length
  | [], i, v => rfl
  | a :: r, 0, v => rfl
  | a :: r, 1, v => by simp [pf_st1, pf_st1_len r 0 v]
  | a :: r, n + 2, v => by simp [pf_st1, pf_st1_len r (n + 1) v]
theorem pf_st2_len : ∀ (lo : List pf_V) (i : Nat) (v : pf_V), (pf_st2 lo i v).length = lo.length
  | [], i, v => rfl
  | a :: r, 0, v => by cases r <;> simp [pf_st2, pf_hd]
  | a :: r, 1, v => by simp [pf_st2, pf_st2_len r 0 v]
  | a :: r, n + 2, v => by simp [pf_st2, pf_st2_len r (n + 1) v]
theorem pf_okv_U {G : pf_G} {w : pf_V} (h : pf_isU w = true) : pf_okv G w := by
  obtain x | x | (_ | q) | u := w <;> first | trivial | cases h
theorem pf_st1_ok {G : pf_G} {lo : List pf_V} {i : Nat} {v : pf_V} (h : ∀ v ∈ lo, pf_okv G v) (hv : pf_okv G v) : ∀ w ∈ pf_st1 lo i v, pf_okv G w := by
  intro w hw
  obtain ⟨j, hj⟩ := List.getElem?_of_mem hw
  by_cases hu : pf_isU w = true
  · exact pf_okv_U hu
  · rcases pf_st1_get lo i v j w hj (by simpa using hu) with q | q
    · rw [q.2]; exact hv
    · exact pf_mem_get h q.1
theorem pf_st2_ok {G : pf_G} {lo : List pf_V} {i : Nat} {v : pf_V} (h : ∀ v ∈ lo, pf_okv G v) (hv : pf_okv G v) : ∀ w ∈ pf_st2 lo i v, pf_okv G w := by
  intro w hw
  obtain ⟨j, hj⟩ := List.getElem?_of_mem hw
  by_cases hu : pf_isU w = true
  · exact pf_okv_U hu
  · rcases pf_st2_get lo i v j w hj (by simpa using hu) with q | q
    · rw [q.2]; exact hv
    · exact pf_mem_get h q.1
theorem pf_oks {G : pf_G} {v : pf_V} {r : List pf_V} (hv : pf_okv G v) (hr : ∀ v ∈ r, pf_okv G v) : ∀ w ∈ v :: r, pf_okv G w := by
  intro w hw
  rcases List.mem_cons.mp hw with rfl | q
  · exact hv
  · exact hr w q
theorem pf_okt {G : pf_G} {v : pf_V} {r : List pf_V} (h : ∀ w ∈ v :: r, pf_okv G w) : ∀ v ∈ r, pf_okv G v := fun w hw => h w (List.mem_cons_of_mem _ hw)
theorem pf_okh {G : pf_G} {v : pf_V} {r : List pf_V} (h : ∀ w ∈ v :: r, pf_okv G w) : pf_okv G v := h v List.mem_cons_self
section
variable {G : pf_G} {p : Program} {e : Env} {R : Room} {s : State} {m : MethodId} {args : Array Value} {below : List Frame} {meth : Method} {c : Code} {cc : ByteArray} {own : String} {nL : Nat} {Q : State → Prop} {lo st r : List pf_V} {M : pf_M} {pc : Nat}
theorem pf_wdc (r : List pf_V) : ((r.map (pf_cv G)).map fun v => v.category).sum = pf_wd r := by
  unfold pf_wd
  rw [List.map_map]
  congr 1
  exact List.map_congr_left fun v _ => pf_cat_cv G v
/-- behind a call -/
theorem pf_back {v : Option pf_V} {M' : pf_M} {H : Heap} {locs : List Loc} {ls : Array Slot} {restV st0 : List Value} {a : Array Value} (hr : va_Run p G.1 e R s m args below meth c H locs 0 0 0 0 (F0 m pc ls st0) restV (pf_QX G v M' a) (pf_A G)) (hS : va_S (pf_A G) s.heap H locs)
    (kk : ∀ (H1 : Heap) (locs1 : List Loc), (∀ w, v = some w → pf_okv G w) → va_P G.2.1 vwCl (pf_W G M') H1 → va_S (pf_A G) s.heap H1 locs1 → W p G.1 e R s m args below meth c H1 locs1 0 0 Q (F0 m (pc + 3) ls ((v.map (pf_cv G)).toList ++ restV))) : W p G.1 e R s m args below meth c H locs 0 0 Q (F0 m pc ls st0) := by
  intro T hT X
  obtain ⟨v1, st₀, t, T', L, h0, X', hL, e1, e2, ⟨⟨hv, hok, hP⟩, hz, hk⟩, st⟩ := hr T hT X
  cases hv
  rw [h0] at hz hk
  obtain ⟨t2, a1, b1⟩ := kk T'.heap (locs ++ L) hok (by rw [e1]; exact hP)
    ⟨Nat.le_trans hS.1 (by rw [e1]; exact hz), fun q h1 h2 => by rw [e1, hk q (Nat.lt_of_lt_of_le h1 hS.1) h2]; exact hS.2.1 q h1 h2, fun q hq => by
      rcases List.mem_append.mp hq with h | h
      · exact hS.2.2 q h
      · exact hL q h⟩ T' rfl X'
  exact ⟨t2, st t2 a1, b1⟩
theorem pf_blind (av : List Value) : FrameBlind (va_Pc av (pf_World G M)) := by
  intro a U g mk h
  exact ⟨h.1, h.2.1, va_K.moved (u := U) (U := U.calling g mk a) (Vm.Alike.refl U.vm) h.2.2.1, pf_NW.same (u := U) (U := U.calling g mk a) rfl h.2.2.2⟩
end
end
section
section
variable {G : pf_G} {p : Program} {e : Env} {R : Room} {s : State} {m : MethodId} {args : Array Value} {below : List Frame} {meth : Method} {c : Code} {cc : ByteArray} {own : String} {nL : Nat} {Q : State → Prop} {lo st r : List pf_V} {M : pf_M} {pc : Nat} {H : Heap} {locs : List Loc} {ls : Array Slot} {rest : List Value}
theorem pf_u_get {kd i k ci idx : Nat} {ty : FieldType} {fin : Bool} (F : pf_Fix G p s m args c cc own nL) (hci : pf_ci kd = some ci) (hF : pf_Fl own idx ci k ty fin) (hok : pf_ok G.2.2.2.2 kd i) (hP : va_P G.2.1 vwCl (pf_W G M) H) (hd : decode cc pc = .ok (.getfield idx, 3))
    (kk : W p G.1 e R s m args below meth c H locs 0 0 Q (F0 m (pc + 3) ls (pf_cv G (pf_fv kd i k (M kd i)) :: rest))) : W p G.1 e R s m args below meth c H locs 0 0 Q (F0 m pc ls (.ref (pf_ad G kd i) :: rest)) := by
  obtain ⟨hx, hb, hml, hown, hts, hK, hN⟩ := F
  obtain ⟨C, T, N, ty0, h1, h2, h3, h4, h5, h6, h7, h8, h9⟩ := hF
  obtain ⟨q0, hq⟩ := pf_get (M := M) hok
  rw [pf_cx_obj hci] at hq
  have hv : ((List.range (pf_nf ci)).map fun j => pf_cv G (pf_fv kd i j (M kd i)))[k]? = some (pf_cv G (pf_fv kd i k (M kd i))) := by
    rw [List.getElem?_map, List.getElem?_range (by rw [h2]; exact h3)]
    rfl
  rcases h9 with h9 | ⟨host, h9⟩
  · exact va_get hx hb hts h4 hown hK hP q0 hq h1 k h3 (hts _ h9) (fun _ h => h) hv hd kk
  · exact va_getN (host := host) hx hb hts h4 hown hK hP q0 hq h1 k h3 (va_Nw.use (by rfl) (hN _ h9)) (fun _ h => h) hv hd kk
theorem pf_fs_set {ci kd i k : Nat} {g : Nat → Int32} {x : Int32} (hk : k < pf_nf ci) (hr : pf_rs kd i k = none) : ((List.range (pf_nf ci)).map fun j => pf_cv G (pf_fv kd i j g)).set k (.int x) = (List.range (pf_nf ci)).map fun j => pf_cv G (pf_fv kd i j (upd g k x)) := by
  apply List.ext_getElem?
  intro j
  rw [List.getElem?_set]
  by_cases hj : k = j
  · subst hj
    rw [if_pos rfl, if_pos (by simpa using hk), List.getElem?_map, List.getElem?_range hk]
    simp [pf_fv, hr, upd, pf_cv]
  · rw [if_neg hj, List.getElem?_map, List.getElem?_map]
    by_cases hl : j < pf_nf ci
    · rw [List.getElem?_range hl]
      simp [pf_fv, upd, Ne.symm hj]
    · rw [List.getElem?_eq_none (by simpa using hl)]
      rfl
theorem pf_u_put {kd i k ci idx : Nat} {ty : FieldType} {x : Int32} (F : pf_Fix G p s m args c cc own nL) (hci : pf_ci kd = some ci) (hrs : pf_rs kd i k = none) (hF : pf_Fl own idx ci k ty false) (hn : narrow ty (.int x) = .int x) (hf : fits ty (.int x) = true) (hok : pf_ok G.2.2.2.2 kd i) (hP : va_P G.2.1 vwCl (pf_W G M) H) (hS : va_S (pf_A G) s.heap H locs) (hd : decode cc pc = .ok (.putfield idx, 3))
    (kk : ∀ (H1 : Heap) (locs1 : List Loc), va_P G.2.1 vwCl (pf_W G (pf_up M kd i k x)) H1 → va_S (pf_A G) s.heap H1 locs1 → W p G.1 e R s m args below meth c H1 locs1 0 0 Q (F0 m (pc + 3) ls rest)) : W p G.1 e R s m args below meth c H locs 0 0 Q (F0 m pc ls (.int x :: .ref (pf_ad G kd i) :: rest)) := by
  obtain ⟨hx, hb, hml, hown, hts, hK, hN⟩ := F
  obtain ⟨C, T, N, ty0, h1, h2, h3, h4, h5, h6, h7, h8, h9⟩ := hF
  obtain ⟨q0, hq⟩ := pf_get (M := M) hok
  have hq0 := hq
  rw [pf_cx_obj hci] at hq
  have hlen : k < ((List.range (pf_nf ci)).map fun j => pf_cv G (pf_fv kd i j (M kd i))).length := by
    rw [List.length_map, List.length_range, h2]; exact h3
  have hset : (pf_W G M).set q0 (pf_ad G kd i, .inr (ci, ((List.range (pf_nf ci)).map fun j => pf_cv G (pf_fv kd i j (M kd i))).set k (.int x))) = pf_W G (pf_up M kd i k x) := by
    rw [pf_fs_set (by rw [h2]; exact h3) hrs, ← pf_cx_obj (G := G) (i := i) hci, pf_set hok hq0]
    rfl
  rcases h9 with h9 | ⟨host, h9⟩
  · refine va_put hx hb hts h4 ty0 h5 h6 hown hK hP (pf_D G M) hS q0 hq h1 k h3 (hts _ h9) (fun _ h => h) h8 h7 hn hf hlen hd (fun H1 locs1 hP1 _ hS1 => ?_)
    rw [hset] at hP1
    exact kk H1 locs1 hP1 hS1
  · refine va_putN (host := host) hx hb hts h4 ty0 h5 h6 hown hK hP (pf_D G M) hS q0 hq h1 k h3 (va_Nw.use (by rfl) (hN _ h9)) (fun _ h => h) h8 h7 hn hf hlen hd (fun H1 locs1 hP1 _ hS1 => ?_)
    rw [hset] at hP1
    exact kk H1 locs1 hP1 hS1
theorem pf_u_iald {kd i n : Nat} {j : Int32} (F : pf_Fix G p s m args c cc own nL) (hk : pf_intK kd n) (hok : pf_ok G.2.2.2.2 kd i) (hin : vp_in j n) (hP : va_P G.2.1 vwCl (pf_W G M) H) (hd : decode cc pc = .ok (.iaload, 1))
    (kk : W p G.1 e R s m args below meth c H locs 0 0 Q (F0 m (pc + 1) ls (.int (M kd i j.toNatClampNeg) :: rest))) : W p G.1 e R s m args below meth c H locs 0 0 Q (F0 m pc ls (.int j :: .ref (pf_ad G kd i) :: rest)) := by
  obtain ⟨hx, hb, hml, hown, hts, hK, hN⟩ := F
  obtain ⟨q0, hq⟩ := pf_get (M := M) hok
  rw [pf_cx_int hk] at hq
  exact va_iald hx hb hK hP q0 0 hq rfl hin hd kk
theorem pf_u_cald {kd i n : Nat} {j : Int32} (F : pf_Fix G p s m args c cc own nL) (hk : pf_ci kd = none) (hk2 : pf_ar kd = some (1, n)) (hok : pf_ok G.2.2.2.2 kd i) (hin : vp_in j n) (hP : va_P G.2.1 vwCl (pf_W G M) H) (hd : decode cc pc = .ok (.caload, 1))
    (kk : W p G.1 e R s m args below meth c H locs 0 0 Q (F0 m (pc + 1) ls (.int (M kd i j.toNatClampNeg) :: rest))) : W p G.1 e R s m args below meth c H locs 0 0 Q (F0 m pc ls (.int j :: .ref (pf_ad G kd i) :: rest)) := by
  obtain ⟨hx, hb, hml, hown, hts, hK, hN⟩ := F
  obtain ⟨q0, hq⟩ := pf_get (M := M) hok
  rw [pf_cx_chr hk hk2] at hq
  exact va_cald hx hb hK hP q0 1 hq rfl hin hd kk
theorem pf_u_alen {kd i n : Nat} (F : pf_Fix G p s m args c cc own nL) (hk : pf_intK kd n) (hok : pf_ok G.2.2.2.2 kd i) (hP : va_P G.2.1 vwCl (pf_W G M) H) (hd : decode cc pc = .ok (.arraylength, 1))
    (kk : W p G.1 e R s m args below meth c H locs 0 0 Q (F0 m (pc + 1) ls (.int (Int32.ofNat n) :: rest))) : W p G.1 e R s m args below meth c H locs 0 0 Q (F0 m pc ls (.ref (pf_ad G kd i) :: rest)) := by
  obtain ⟨hx, hb, hml, hown, hts, hK, hN⟩ := F
  obtain ⟨q0, hq⟩ := pf_get (M := M) hok
  rw [pf_cx_int hk] at hq
  exact va_alen hx hb hK hP q0 0 hq (ty := .int) rfl rfl hd kk
theorem pf_u_iast {kd i n : Nat} {j x : Int32} (F : pf_Fix G p s m args c cc own nL) (hk : pf_intK kd n) (hok : pf_ok G.2.2.2.2 kd i) (hin : vp_in j n) (hP : va_P G.2.1 vwCl (pf_W G M) H) (hS : va_S (pf_A G) s.heap H locs) (hd : decode cc pc = .ok (.iastore, 1))
    (kk : ∀ (H1 : Heap) (locs1 : List Loc), va_P G.2.1 vwCl (pf_W G (pf_up M kd i j.toNatClampNeg x)) H1 → va_S (pf_A G) s.heap H1 locs1 → W p G.1 e R s m args below meth c H1 locs1 0 0 Q (F0 m (pc + 1) ls rest)) : W p G.1 e R s m args below meth c H locs 0 0 Q (F0 m pc ls (.int x :: .int j :: .ref (pf_ad G kd i) :: rest)) := by
  obtain ⟨hx, hb, hml, hown, hts, hK, hN⟩ := F
  obtain ⟨q0, hq⟩ := pf_get (M := M) hok
  have hq0 := hq
  rw [pf_cx_int hk] at hq
  refine va_iast hx hb hK hP (pf_D G M) hS q0 0 hq rfl hin hd (fun H1 locs1 hP1 _ hS1 => ?_)
  rw [← pf_cx_int (G := G) (i := i) hk, pf_set hok hq0] at hP1
  exact kk H1 locs1 hP1 hS1
theorem pf_u_cast {kd i n : Nat} {j x : Int32} (F : pf_Fix G p s m args c cc own nL) (hk : pf_ci kd = none) (hk2 : pf_ar kd = some (1, n)) (hok : pf_ok G.2.2.2.2 kd i) (hin : vp_in j n) (hP : va_P G.2.1 vwCl (pf_W G M) H) (hS : va_S (pf_A G) s.heap H locs) (hd : decode cc pc = .ok (.castore, 1))
    (kk : ∀ (H1 : Heap) (locs1 : List Loc), va_P G.2.1 vwCl (pf_W G (pf_up M kd i j.toNatClampNeg (vp_nar .char x))) H1 → va_S (pf_A G) s.heap H1 locs1 → W p G.1 e R s m args below meth c H1 locs1 0 0 Q (F0 m (pc + 1) ls rest)) : W p G.1 e R s m args below meth c H locs 0 0 Q (F0 m pc ls (.int x :: .int j :: .ref (pf_ad G kd i) :: rest)) := by
  obtain ⟨hx, hb, hml, hown, hts, hK, hN⟩ := F
  obtain ⟨q0, hq⟩ := pf_get (M := M) hok
  have hq0 := hq
  rw [pf_cx_chr hk hk2] at hq
  refine va_cast hx hb hK hP (pf_D G M) hS q0 1 hq rfl hin hd (fun H1 locs1 hP1 _ hS1 => ?_)
  rw [← pf_cx_chr (G := G) (i := i) hk hk2, pf_set hok hq0] at hP1
  exact kk H1 locs1 hP1 hS1
theorem pf_u_aald {kd i n t el : Nat} {j : Int32} (F : pf_Fix G p s m args c cc own nL) (hk : pf_ci kd = none) (hk2 : pf_ar kd = none) (hk3 : pf_ra kd = some (t, n, el)) (hok : pf_ok G.2.2.2.2 kd i) (hin : vp_in j n) (hP : va_P G.2.1 vwCl (pf_W G M) H) (hd : decode cc pc = .ok (.aaload, 1))
    (kk : W p G.1 e R s m args below meth c H locs 0 0 Q (F0 m (pc + 1) ls (.ref (pf_ad G el j.toNatClampNeg) :: rest))) : W p G.1 e R s m args below meth c H locs 0 0 Q (F0 m pc ls (.int j :: .ref (pf_ad G kd i) :: rest)) := by
  obtain ⟨hx, hb, hml, hown, hts, hK, hN⟩ := F
  obtain ⟨q0, hq⟩ := pf_get (M := M) hok
  unfold pf_cx at hq
  rw [hk, hk2, hk3] at hq
  have ht : (t = 2 ∧ kd = 8) ∨ (t = 3 ∧ kd = 21) := by
    unfold pf_ra at hk3
    split at hk3 <;> simp at hk3
    · exact Or.inl ⟨hk3.1.symm, rfl⟩
    · exact Or.inr ⟨hk3.1.symm, rfl⟩
  rcases ht with ⟨rfl, -⟩ | ⟨rfl, -⟩
  · exact va_aldq hx hb hK hP q0 2 hq (C := "PassingFrames$Device") rfl hin hd kk
  · exact va_aldq hx hb hK hP q0 3 hq (C := "PassingFrames$Datagram") rfl hin hd kk
theorem pf_ra_ok {sy : Bool} {kd i n t el : Nat} {j : Int32} (hok : pf_ok sy kd i) (hk3 : pf_ra kd = some (t, n, el)) (hin : vp_in j n) : pf_ok sy el j.toNatClampNeg := by
  have hj : j.toNatClampNeg < n := Nat.not_le.mp fun q => hin (Or.inr q)
  unfold pf_ra at hk3
  split at hk3 <;> simp at hk3
  · obtain ⟨-, rfl, rfl⟩ := hk3
    exact ⟨hj, hok.2⟩
  · obtain ⟨-, rfl, rfl⟩ := hk3
    exact ⟨hj, hok.2⟩
theorem pf_u_copy {n dp sp : Int32} {k1 i1 k0 i0 n0 n1 idx : Nat} (F : pf_Fix G p s m args c cc own nL) (hls : ls.size = nL) (hA : pf_LkA own idx) (h0 : pf_intK k0 n0) (h1 : pf_intK k1 n1) (hok0 : pf_ok G.2.2.2.2 k0 i0) (hok1 : pf_ok G.2.2.2.2 k1 i1) (a1 : ¬ sp < 0) (a2 : ¬ dp < 0) (a3 : ¬ n < 0) (a4 : sp.toNatClampNeg + n.toNatClampNeg ≤ n0) (a5 : dp.toNatClampNeg + n.toNatClampNeg ≤ n1) (hfr : 1 ≤ R.frames) (hlo : (rest.map fun v => v.category).sum + (nativeFrameWords "java/lang/System" "arraycopy" 5 + 11) ≤ R.locals) (hP : va_P G.2.1 vwCl (pf_W G M) H) (hS : va_S (pf_A G) s.heap H locs) (hd : decode cc pc = .ok (.invokestatic idx, 3))
    (kk : ∀ (H1 : Heap) (locs1 : List Loc), va_P G.2.1 vwCl (pf_W G (pf_upf M k1 i1 (va_cpy (M k0 i0) (M k1 i1) sp.toNatClampNeg dp.toNatClampNeg n.toNatClampNeg))) H1 → va_S (pf_A G) s.heap H1 locs1 → W p G.1 e R s m args below meth c H1 locs1 0 0 Q (F0 m (pc + 3) ls rest)) : W p G.1 e R s m args below meth c H locs 0 0 Q (F0 m pc ls (.int n :: .int dp :: .ref (pf_ad G k1 i1) :: .int sp :: .ref (pf_ad G k0 i0) :: rest)) := by
  obtain ⟨hx, hb, hml, hown, hts, hK, hN⟩ := F
  obtain ⟨q0, hq0⟩ := pf_get (M := M) hok0
  obtain ⟨q1, hq1⟩ := pf_get (M := M) hok1
  have hq2 := hq1
  rw [pf_cx_int h0] at hq0
  rw [pf_cx_int h1] at hq1
  refine va_copyi hx hb (hml.trans hls.symm) hown (hts _ hA.1) (hts _ hA.2.1) (hts _ hA.2.2.1) (hts _ hA.2.2.2) hK hP (pf_D G M) hS q0 q1 0 0 hq0 hq1 (ty := .int) rfl rfl rfl a1 a2 a3 a4 a5 (fun _ _ => rfl) hfr hlo hd (fun H1 locs1 hP1 _ hS1 => ?_)
  rw [← pf_cx_int (G := G) (i := i1) h1, pf_set hok1 hq2] at hP1
  exact kk H1 locs1 hP1 hS1
end
end
section
section
variable {G : pf_G} {p : Program} {e : Env} {R : Room} {s : State} {m : MethodId} {args : Array Value} {below : List Frame} {meth : Method} {c : Code} {cc : ByteArray} {own : String} {nL : Nat} {Q : State → Prop} {lo st r : List pf_V} {M : pf_M} {pc : Nat} {H : Heap} {locs : List Loc} {ls : Array Slot} {rest : List Value} {FR LO : Nat} {ret : Option FieldType} {r0 : Option pf_V} {M0 : pf_M}
theorem pf_ret_ok {v : Option pf_V} {r : List pf_V} (hv : ∀ w, v = some w → pf_okv G w) (hr : ∀ w ∈ r, pf_okv G w) : ∀ w ∈ v.toList ++ r, pf_okv G w := by
  intro w hw
  rcases List.mem_append.mp hw with q | q
  · cases v with
    | none => cases q
    | some z => rw [List.mem_singleton.mp q]; exact hv z rfl
  · exact hr w q
theorem pf_map_ret {v : Option pf_V} {r : List pf_V} : (v.toList ++ r).map (pf_cv G) = (v.map (pf_cv G)).toList ++ r.map (pf_cv G) := by
  cases v <;> rfl
theorem pf_callV {y : MethodName} {cc2 : ByteArray} {nL2 fr lo2 kd i ci idx : Nat} {rt : Option FieldType} {as : List pf_V} {v : Option pf_V} {M' : pf_M} (F : pf_Fix G p s m args c cc own nL) (hR1 : R.frames = FR) (hR2 : R.locals = LO) (hci : pf_ci kd = some ci) (hL : pf_LkV own idx ci y cc2 nL2 rt as.length) (hfr : fr + 1 ≤ FR) (hlo2 : 8 + (nL2 + 11) + lo2 ≤ LO) (hM : pf_Met G y cc2 nL2 rt fr lo2 (pf_R kd i :: as) M v M') (hwd : pf_wd r ≤ 8) (hlen : lo.length = nL) (hl : pf_LR G lo nL ls) (hst : ∀ w ∈ as.reverse ++ pf_R kd i :: r, pf_okv G w) (hP : va_P G.2.1 vwCl (pf_W G M) H) (hS : va_S (pf_A G) s.heap H locs) (hd : decode cc pc = .ok (.invokevirtual idx, 3))
    (kk : ∀ (H1 : Heap) (locs1 : List Loc), (∀ w, v = some w → pf_okv G w) → va_P G.2.1 vwCl (pf_W G M') H1 → va_S (pf_A G) s.heap H1 locs1 → W p G.1 e R s m args below meth c H1 locs1 0 0 Q (F0 m (pc + 3) ls ((v.toList ++ r).map (pf_cv G)))) : W p G.1 e R s m args below meth c H locs 0 0 Q (F0 m pc ls ((as.reverse ++ pf_R kd i :: r).map (pf_cv G))) := by
  obtain ⟨hx, hb, hml, hown, hts, hK, hN⟩ := F
  obtain ⟨⟨l1, l2, l3, l4⟩, ⟨T, N, l5⟩, l6, l7, l8⟩ := hL
  have hok : pf_ok G.2.2.2.2 kd i := hst (pf_R kd i) (List.mem_append_right _ List.mem_cons_self)
  have hM := hM (fun w hw => by
    rcases List.mem_cons.mp hw with rfl | q
    · exact hok
    · exact hst w (List.mem_append_left _ (List.mem_reverse.mpr q)))
  obtain ⟨q0, hq⟩ := pf_get (M := M) hok
  rw [pf_cx_obj hci] at hq
  have hG := pf_tbg y cc2 nL2 rt l2 (ws := pf_tb) (fun _ h => h)
  have hpre : PreV s H y.cls (pf_ad G kd i) (va_Pc ((pf_R kd i :: as).map (pf_cv G)) (pf_World G M)) (as.map (pf_cv G)) := ⟨pf_blind _, va_recv hK hP l5 hq, fun U hU hW => ⟨rfl, by rw [hU]; exact hP, va_K.moved hW.alike hK, pf_NW.warm hW hN⟩⟩
  have hstk : (as.reverse ++ pf_R kd i :: r).map (pf_cv G) = (as.map (pf_cv G)).reverse ++ .ref (pf_ad G kd i) :: r.map (pf_cv G) := by
    rw [List.map_append, List.map_reverse]; rfl
  have hroom : 2 * (F0 m pc ls ((as.reverse ++ pf_R kd i :: r).map (pf_cv G))).monitorRoom + ((r.map (pf_cv G)).map fun v => v.category).sum ≤ 8 := lv_room (by rw [pf_wdc]; exact hwd)
  have hlen2 : ∀ sig, parseMethodDescriptor y.desc = some sig → as.length = sig.parameters.length := fun sig h => by
    rw [h] at l4
    exact (Option.some.inj l4).symm
  have hk : ∀ (H1 : Heap) (locs1 : List Loc), (∀ w, v = some w → pf_okv G w) → va_P G.2.1 vwCl (pf_W G M') H1 → va_S (pf_A G) s.heap H1 locs1 → W p G.1 e R s m args below meth c H1 locs1 0 0 Q (F0 m (pc + 3) ls ((v.map (pf_cv G)).toList ++ r.map (pf_cv G))) := fun H1 locs1 a b d => by
    rw [← pf_map_ret]; exact kk H1 locs1 a b d
  have cb : (pf_rm0 fr lo2).cells = 0 ∧ (pf_rm0 fr lo2).slots = 0 ∧ (pf_rm0 fr lo2).frames + 1 ≤ R.frames ∧ 8 + (nL2 + 11) + (pf_rm0 fr lo2).locals ≤ R.locals ∧ (∀ w ∈ Cond.code y cc2 nL2 rt :: pf_tb, ∀ (a' : Array Value) (U : State), s.WarmedH U.vm → w.before a' U = true) ∧ Cond.code y cc2 nL2 rt ∈ Cond.code y cc2 nL2 rt :: pf_tb := ⟨rfl, rfl, by rw [hR1]; exact hfr, by rw [hR2]; exact hlo2, pay_in hts hG, List.mem_cons_self⟩
  rcases l8 with l8 | ⟨host, l8⟩
  · exact pf_back (va_runV (Ts := pf_tb) (own := own) (C := y.cls) (n := as.length) ⟨hx, hb, hml, hown, hts⟩ hM ⟨⟨cb.1, cb.2.1, cb.2.2.1, cb.2.2.2.1, cb.2.2.2.2.1, cb.2.2.2.2.2, hts _ l2, hts _ l1, l3, hlen2, hts _ l8⟩, hts _ l6, hts _ l7⟩ hpre rfl (List.length_map _) hl.1 hstk hroom hd ⟨Nat.zero_le _, Nat.zero_le _⟩) hS hk
  · exact pf_back (va_runVN (Ts := pf_tb) (own := own) (C := y.cls) (host := host) (n := as.length) ⟨hx, hb, hml, hown, hts⟩ hM ⟨⟨cb, hts _ l2, hts _ l1, l3, hlen2, va_Nw.use (by rfl) (hN _ l8)⟩, hts _ l6, hts _ l7⟩ hpre rfl (List.length_map _) hl.1 hstk hroom hd ⟨Nat.zero_le _, Nat.zero_le _⟩) hS hk
theorem pf_callS {y : MethodName} {cc2 : ByteArray} {nL2 fr lo2 idx : Nat} {rt : Option FieldType} {as : List pf_V} {v : Option pf_V} {M' : pf_M} (F : pf_Fix G p s m args c cc own nL) (hR1 : R.frames = FR) (hR2 : R.locals = LO) (hL : pf_LkS own idx y cc2 nL2 rt as.length) (hfr : fr + 1 ≤ FR) (hlo2 : 8 + (nL2 + 11) + lo2 ≤ LO) (hM : pf_Met G y cc2 nL2 rt fr lo2 as M v M') (hwd : pf_wd r ≤ 8) (hlen : lo.length = nL) (hl : pf_LR G lo nL ls) (hst : ∀ w ∈ as.reverse ++ r, pf_okv G w) (hP : va_P G.2.1 vwCl (pf_W G M) H) (hS : va_S (pf_A G) s.heap H locs) (hd : decode cc pc = .ok (.invokestatic idx, 3))
    (kk : ∀ (H1 : Heap) (locs1 : List Loc), (∀ w, v = some w → pf_okv G w) → va_P G.2.1 vwCl (pf_W G M') H1 → va_S (pf_A G) s.heap H1 locs1 → W p G.1 e R s m args below meth c H1 locs1 0 0 Q (F0 m (pc + 3) ls ((v.toList ++ r).map (pf_cv G)))) : W p G.1 e R s m args below meth c H locs 0 0 Q (F0 m pc ls ((as.reverse ++ r).map (pf_cv G))) := by
  obtain ⟨hx, hb, hml, hown, hts, hK, hN⟩ := F
  obtain ⟨⟨l1, l2, l3, l4⟩, l6, l8⟩ := hL
  have hM := hM (fun w hw => hst w (List.mem_append_left _ (List.mem_reverse.mpr hw)))
  have hG := pf_tbg y cc2 nL2 rt l2 (ws := pf_tb) (fun _ h => h)
  have hpre : PreS s H (va_Pc (as.map (pf_cv G)) (pf_World G M)) (as.map (pf_cv G)) := ⟨pf_blind _, fun U hU hW => ⟨rfl, by rw [hU]; exact hP, va_K.moved hW.alike hK, pf_NW.warm hW hN⟩⟩
  have hstk : (as.reverse ++ r).map (pf_cv G) = (as.map (pf_cv G)).reverse ++ r.map (pf_cv G) := by
    rw [List.map_append, List.map_reverse]
  have hroom : 2 * (F0 m pc ls ((as.reverse ++ r).map (pf_cv G))).monitorRoom + ((r.map (pf_cv G)).map fun v => v.category).sum ≤ 8 := lv_room (by rw [pf_wdc]; exact hwd)
  have hlen2 : ∀ sig, parseMethodDescriptor y.desc = some sig → as.length = sig.parameters.length := fun sig h => by
    rw [h] at l4
    exact (Option.some.inj l4).symm
  have hk : ∀ (H1 : Heap) (locs1 : List Loc), (∀ w, v = some w → pf_okv G w) → va_P G.2.1 vwCl (pf_W G M') H1 → va_S (pf_A G) s.heap H1 locs1 → W p G.1 e R s m args below meth c H1 locs1 0 0 Q (F0 m (pc + 3) ls ((v.map (pf_cv G)).toList ++ r.map (pf_cv G))) := fun H1 locs1 a b d => by
    rw [← pf_map_ret]; exact kk H1 locs1 a b d
  have cb : (pf_rm0 fr lo2).cells = 0 ∧ (pf_rm0 fr lo2).slots = 0 ∧ (pf_rm0 fr lo2).frames + 1 ≤ R.frames ∧ 8 + (nL2 + 11) + (pf_rm0 fr lo2).locals ≤ R.locals ∧ (∀ w ∈ Cond.code y cc2 nL2 rt :: pf_tb, ∀ (a' : Array Value) (U : State), s.WarmedH U.vm → w.before a' U = true) ∧ Cond.code y cc2 nL2 rt ∈ Cond.code y cc2 nL2 rt :: pf_tb := ⟨rfl, rfl, by rw [hR1]; exact hfr, by rw [hR2]; exact hlo2, pay_in hts hG, List.mem_cons_self⟩
  rcases l8 with l8 | ⟨host, l8⟩
  · exact pf_back (va_runS (Ts := pf_tb) (own := own) (n := as.length) ⟨hx, hb, hml, hown, hts⟩ hM ⟨⟨cb.1, cb.2.1, cb.2.2.1, cb.2.2.2.1, cb.2.2.2.2.1, cb.2.2.2.2.2, hts _ l2, hts _ l1, l3, hlen2, hts _ l8⟩, hts _ l6⟩ hpre rfl (List.length_map _) hl.1 hstk hroom hd ⟨Nat.zero_le _, Nat.zero_le _⟩) hS hk
  · exact pf_back (va_runSN (Ts := pf_tb) (own := own) (host := host) (n := as.length) ⟨hx, hb, hml, hown, hts⟩ hM ⟨⟨cb, hts _ l2, hts _ l1, l3, hlen2, va_Nw.use (by rfl) (hN _ l8)⟩, hts _ l6, trivial⟩ hpre rfl (List.length_map _) hl.1 hstk hroom hd ⟨Nat.zero_le _, Nat.zero_le _⟩) hS hk
set_option maxHeartbeats 4000000 in
theorem pf_sound (F : pf_Fix G p s m args c cc own nL) (hR1 : R.frames = FR) (hR2 : R.locals = LO) (hret : meth.sig.returnType = ret) (hlocks : meth.locks = false) : pf_RU G cc own FR LO ret r0 M0 (pf_AW G p e R s m args below meth c nL (MQ below (pf_QX G r0 M0) args s 0 0 (pf_A G))) := by
  obtain ⟨hx, hb, hml, hown, hts, hK, hN⟩ := id F
  refine ⟨?_, fun pc mask lo st M k hlen hlo hst H locs ls hP hS hl => k (by rw [pf_fg_len]; exact hlen) (fun w hw => ?_) hst H locs ls hP hS ⟨hl.1, hl.2.1, fun i w hw hu => ?_⟩⟩
  rotate_left
  · obtain ⟨j, hj⟩ := List.getElem?_of_mem hw
    rcases pf_fg_get mask lo j w hj with rfl | q
    · trivial
    · exact pf_mem_get hlo q
  · rcases pf_fg_get mask lo i w hw with rfl | q
    · cases hu
    · exact hl.2.2 i w q hu
  intro pc len ins hd lo st M h
  cases ins
  case aconst_null =>
    obtain ⟨rfl, k⟩ := h
    intro hlen hlo hst H locs ls hP hS hl
    exact lv_null hx hb hd (k hlen hlo (pf_oks trivial hst) H locs ls hP hS hl)
  case iconst n =>
    obtain ⟨rfl, k⟩ := h
    intro hlen hlo hst H locs ls hP hS hl
    exact lv_iconst hx hb hd rfl (k hlen hlo (pf_oks trivial hst) H locs ls hP hS hl)
  case bipush n =>
    obtain ⟨rfl, k⟩ := h
    intro hlen hlo hst H locs ls hP hS hl
    exact lv_bipush hx hb hd rfl (k hlen hlo (pf_oks trivial hst) H locs ls hP hS hl)
  case sipush n =>
    obtain ⟨rfl, k⟩ := h
    intro hlen hlo hst H locs ls hP hS hl
    exact lv_sipush hx hb hd rfl (k hlen hlo (pf_oks trivial hst) H locs ls hP hS hl)
  case lconst n =>
    obtain ⟨rfl, k⟩ := h
    intro hlen hlo hst H locs ls hP hS hl
    exact lv_lconst hx hb hd rfl (k hlen hlo (pf_oks trivial hst) H locs ls hP hS hl)
  case ldc idx =>
    obtain ⟨v, rfl, hc, k⟩ := h
    intro hlen hlo hst H locs ls hP hS hl
    exact lv_ldc hx hb hown (hts _ hc) hd (k hlen hlo (pf_oks trivial hst) H locs ls hP hS hl)
  case ldc_w idx =>
    obtain ⟨v, rfl, hc, k⟩ := h
    intro hlen hlo hst H locs ls hP hS hl
    exact lv_ldcw hx hb hown (hts _ hc) hd (k hlen hlo (pf_oks trivial hst) H locs ls hP hS hl)
  case ldc2_w idx =>
    obtain ⟨v, rfl, hc, k⟩ := h
    intro hlen hlo hst H locs ls hP hS hl
    exact lv_ldc2 hx hb hown (hts _ hc) hd (k hlen hlo (pf_oks trivial hst) H locs ls hP hS hl)
  case iload_n n =>
    obtain ⟨x, rfl, hg, k⟩ := h
    intro hlen hlo hst H locs ls hP hS hl
    exact lv_iload_n hx hb hd rfl (hl.2.2 _ _ hg rfl) (k hlen hlo (pf_oks trivial hst) H locs ls hP hS hl)
  case iload i =>
    obtain ⟨x, rfl, hg, k⟩ := h
    intro hlen hlo hst H locs ls hP hS hl
    exact lv_iload hx hb hd (hl.2.2 _ _ hg rfl) (k hlen hlo (pf_oks trivial hst) H locs ls hP hS hl)
  case lload_n n =>
    obtain ⟨x, rfl, hg, k⟩ := h
    intro hlen hlo hst H locs ls hP hS hl
    exact lv_lload_n hx hb hd rfl (hl.2.2 _ _ hg rfl) (k hlen hlo (pf_oks trivial hst) H locs ls hP hS hl)
  case lload i =>
    obtain ⟨x, rfl, hg, k⟩ := h
    intro hlen hlo hst H locs ls hP hS hl
    exact lv_lload hx hb hd (hl.2.2 _ _ hg rfl) (k hlen hlo (pf_oks trivial hst) H locs ls hP hS hl)
  case aload_n n =>
    obtain ⟨q, rfl, hg, k⟩ := h
    intro hlen hlo hst H locs ls hP hS hl
    have k := k hlen hlo (pf_oks (pf_mem_get hlo hg) hst) H locs ls hP hS hl
    cases q with
    | none => exact lv_aload_nN hx hb hd rfl (hl.2.2 _ _ hg rfl) k
    | some q => exact lv_aload_n hx hb hd rfl (hl.2.2 _ _ hg rfl) k
  case aload i =>
    obtain ⟨q, rfl, hg, k⟩ := h
    intro hlen hlo hst H locs ls hP hS hl
    have k := k hlen hlo (pf_oks (pf_mem_get hlo hg) hst) H locs ls hP hS hl
    cases q with
    | none => exact lv_aloadN hx hb hd (hl.2.2 _ _ hg rfl) k
    | some q => exact lv_aload hx hb hd (hl.2.2 _ _ hg rfl) k
  case istore_n n =>
    obtain ⟨x, r, rfl, rfl, hi, k⟩ := h
    intro hlen hlo hst H locs ls hP hS hl
    exact lv_istore_n hx hb hd rfl hl.has (by omega) rfl (fun ls' hl' => k (by rw [pf_st1_len]; exact hlen) (pf_st1_ok hlo trivial) (pf_okt hst) H locs ls' hP hS (pf_LR.st1 (v := pf_I x) hl'))
  case istore i =>
    obtain ⟨x, r, rfl, rfl, hi, k⟩ := h
    intro hlen hlo hst H locs ls hP hS hl
    exact lv_istore hx hb hd hl.has (by omega) rfl (fun ls' hl' => k (by rw [pf_st1_len]; exact hlen) (pf_st1_ok hlo trivial) (pf_okt hst) H locs ls' hP hS (pf_LR.st1 (v := pf_I x) hl'))
  case astore_n n =>
    obtain ⟨q, r, rfl, rfl, hi, k⟩ := h
    intro hlen hlo hst H locs ls hP hS hl
    cases q with
    | none => exact lv_astore_nN hx hb hd rfl hl.has (by omega) rfl (fun ls' hl' => k (by rw [pf_st1_len]; exact hlen) (pf_st1_ok hlo (pf_okh hst)) (pf_okt hst) H locs ls' hP hS (pf_LR.st1 (v := pf_N) hl'))
    | some q => exact lv_astore_n hx hb hd rfl hl.has (by omega) rfl (fun ls' hl' => k (by rw [pf_st1_len]; exact hlen) (pf_st1_ok hlo (pf_okh hst)) (pf_okt hst) H locs ls' hP hS (pf_LR.st1 (v := pf_R q.1 q.2) hl'))
  case astore i =>
    obtain ⟨q, r, rfl, rfl, hi, k⟩ := h
    intro hlen hlo hst H locs ls hP hS hl
    cases q with
    | none => exact lv_astoreN hx hb hd hl.has (by omega) rfl (fun ls' hl' => k (by rw [pf_st1_len]; exact hlen) (pf_st1_ok hlo (pf_okh hst)) (pf_okt hst) H locs ls' hP hS (pf_LR.st1 (v := pf_N) hl'))
    | some q => exact lv_astore hx hb hd hl.has (by omega) rfl (fun ls' hl' => k (by rw [pf_st1_len]; exact hlen) (pf_st1_ok hlo (pf_okh hst)) (pf_okt hst) H locs ls' hP hS (pf_LR.st1 (v := pf_R q.1 q.2) hl'))
  case lstore_n n =>
    obtain ⟨x, r, rfl, rfl, hi, k⟩ := h
    intro hlen hlo hst H locs ls hP hS hl
    exact lv_lstore_n hx hb hd rfl hl.has (by omega) rfl (fun ls' hl' => k (by rw [pf_st2_len]; exact hlen) (pf_st2_ok hlo trivial) (pf_okt hst) H locs ls' hP hS (pf_LR.st2 (v := pf_L x) hl'))
  case lstore i =>
    obtain ⟨x, r, rfl, rfl, hi, k⟩ := h
    intro hlen hlo hst H locs ls hP hS hl
    exact lv_lstore hx hb hd hl.has (by omega) rfl (fun ls' hl' => k (by rw [pf_st2_len]; exact hlen) (pf_st2_ok hlo trivial) (pf_okt hst) H locs ls' hP hS (pf_LR.st2 (v := pf_L x) hl'))
  case iinc i n =>
    obtain ⟨x, rfl, hg, k⟩ := h
    intro hlen hlo hst H locs ls hP hS hl
    obtain ⟨z, hz⟩ := List.getElem?_of_mem (pf_pr_mem (G := G).mpr (show ∃ v, lo[(i, Value.int x).1]? = some v ∧ pf_isU v = false ∧ (i, Value.int x).2 = pf_cv G v from ⟨pf_I x, hg, rfl, rfl⟩))
    have hi := (List.getElem?_eq_some_iff.mp hg).1
    exact lv_iinc hx hb hd hl.has hz rfl (by omega) rfl (fun ls' hl' => k (by rw [pf_st1_len]; exact hlen) (pf_st1_ok hlo trivial) hst H locs ls' hP hS (pf_LR.st1 (v := pf_I (x + Int32.ofInt n)) hl'))
  case iadd =>
    obtain ⟨x, y, r, rfl, rfl, k⟩ := h
    intro hlen hlo hst H locs ls hP hS hl
    exact lv_iadd hx hb hd (k hlen hlo (pf_oks trivial (pf_okt (pf_okt hst))) H locs ls hP hS hl)
  case isub =>
    obtain ⟨x, y, r, rfl, rfl, k⟩ := h
    intro hlen hlo hst H locs ls hP hS hl
    exact lv_isub hx hb hd (k hlen hlo (pf_oks trivial (pf_okt (pf_okt hst))) H locs ls hP hS hl)
  case imul =>
    obtain ⟨x, y, r, rfl, rfl, k⟩ := h
    intro hlen hlo hst H locs ls hP hS hl
    exact lv_imul hx hb hd (k hlen hlo (pf_oks trivial (pf_okt (pf_okt hst))) H locs ls hP hS hl)
  case ior =>
    obtain ⟨x, y, r, rfl, rfl, k⟩ := h
    intro hlen hlo hst H locs ls hP hS hl
    exact lv_ior hx hb hd (k hlen hlo (pf_oks trivial (pf_okt (pf_okt hst))) H locs ls hP hS hl)
  case iand =>
    obtain ⟨x, y, r, rfl, rfl, k⟩ := h
    intro hlen hlo hst H locs ls hP hS hl
    exact lv_iand hx hb hd (k hlen hlo (pf_oks trivial (pf_okt (pf_okt hst))) H locs ls hP hS hl)
  case ixor =>
    obtain ⟨x, y, r, rfl, rfl, k⟩ := h
    intro hlen hlo hst H locs ls hP hS hl
    exact lv_ixor hx hb hd (k hlen hlo (pf_oks trivial (pf_okt (pf_okt hst))) H locs ls hP hS hl)
  case ladd =>
    obtain ⟨x, y, r, rfl, rfl, k⟩ := h
    intro hlen hlo hst H locs ls hP hS hl
    exact lv_ladd hx hb hd (k hlen hlo (pf_oks trivial (pf_okt (pf_okt hst))) H locs ls hP hS hl)
  case lsub =>
    obtain ⟨x, y, r, rfl, rfl, k⟩ := h
    intro hlen hlo hst H locs ls hP hS hl
    exact lv_lsub hx hb hd (k hlen hlo (pf_oks trivial (pf_okt (pf_okt hst))) H locs ls hP hS hl)
  case lmul =>
    obtain ⟨x, y, r, rfl, rfl, k⟩ := h
    intro hlen hlo hst H locs ls hP hS hl
    exact lv_lmul hx hb hd (k hlen hlo (pf_oks trivial (pf_okt (pf_okt hst))) H locs ls hP hS hl)
  case idiv =>
    obtain ⟨x, y, r, rfl, rfl, hne, k⟩ := h
    intro hlen hlo hst H locs ls hP hS hl
    exact lv_idiv hx hb hd hne (k hlen hlo (pf_oks trivial (pf_okt (pf_okt hst))) H locs ls hP hS hl)
  case irem =>
    obtain ⟨x, y, r, rfl, rfl, hne, k⟩ := h
    intro hlen hlo hst H locs ls hP hS hl
    exact lv_irem hx hb hd hne (k hlen hlo (pf_oks trivial (pf_okt (pf_okt hst))) H locs ls hP hS hl)
  case ldiv =>
    obtain ⟨x, y, r, rfl, rfl, hne, k⟩ := h
    intro hlen hlo hst H locs ls hP hS hl
    exact lv_ldiv hx hb hd hne (k hlen hlo (pf_oks trivial (pf_okt (pf_okt hst))) H locs ls hP hS hl)
  case lrem =>
    obtain ⟨x, y, r, rfl, rfl, hne, k⟩ := h
    intro hlen hlo hst H locs ls hP hS hl
    exact lv_lrem hx hb hd hne (k hlen hlo (pf_oks trivial (pf_okt (pf_okt hst))) H locs ls hP hS hl)
  case ineg =>
    obtain ⟨x, r, rfl, rfl, k⟩ := h
    intro hlen hlo hst H locs ls hP hS hl
    exact lv_ineg hx hb hd (k hlen hlo (pf_oks trivial (pf_okt hst)) H locs ls hP hS hl)
  case lneg =>
    obtain ⟨x, r, rfl, rfl, k⟩ := h
    intro hlen hlo hst H locs ls hP hS hl
    exact lv_lneg hx hb hd (k hlen hlo (pf_oks trivial (pf_okt hst)) H locs ls hP hS hl)
  case i2l =>
    obtain ⟨x, r, rfl, rfl, k⟩ := h
    intro hlen hlo hst H locs ls hP hS hl
    exact lv_i2l hx hb hd rfl (k hlen hlo (pf_oks trivial (pf_okt hst)) H locs ls hP hS hl)
  case l2i =>
    obtain ⟨x, r, rfl, rfl, k⟩ := h
    intro hlen hlo hst H locs ls hP hS hl
    exact lv_l2i hx hb hd rfl (k hlen hlo (pf_oks trivial (pf_okt hst)) H locs ls hP hS hl)
  case i2c =>
    obtain ⟨x, r, rfl, rfl, k⟩ := h
    intro hlen hlo hst H locs ls hP hS hl
    exact lv_i2c hx hb hd rfl (k hlen hlo (pf_oks trivial (pf_okt hst)) H locs ls hP hS hl)
  case lcmp =>
    obtain ⟨x, y, r, rfl, rfl, k⟩ := h
    intro hlen hlo hst H locs ls hP hS hl
    exact W.lcmp hx hb hd (k hlen hlo (pf_oks trivial (pf_okt (pf_okt hst))) H locs ls hP hS hl)
  case dup =>
    obtain ⟨v, r, rfl, rfl, hc, k⟩ := h
    intro hlen hlo hst H locs ls hP hS hl
    exact lv_dup hx hb hd ((pf_cat_cv G v).trans hc) (k hlen hlo (pf_oks (pf_okh hst) hst) H locs ls hP hS hl)
  case dup2 =>
    obtain ⟨v, w, r, rfl, rfl, hc, hc2, k⟩ := h
    intro hlen hlo hst H locs ls hP hS hl
    exact lv_dup2_11 hx hb hd ((pf_cat_cv G v).trans hc) ((pf_cat_cv G w).trans hc2) (k hlen hlo (pf_oks (pf_okh hst) (pf_oks (pf_okh (pf_okt hst)) hst)) H locs ls hP hS hl)
  case pop =>
    obtain ⟨v, r, rfl, rfl, hc, k⟩ := h
    intro hlen hlo hst H locs ls hP hS hl
    exact lv_pop hx hb hd ((pf_cat_cv G v).trans hc) (k hlen hlo (pf_okt hst) H locs ls hP hS hl)
  case goto off =>
    obtain ⟨tgt, rfl, ht, k⟩ := h
    intro hlen hlo hst H locs ls hP hS hl
    exact lv_goto hx hb hd ht (k hlen hlo hst H locs ls hP hS hl)
  case if_icmp cnd off =>
    obtain ⟨x, y, r, tgt, rfl, rfl, ht, k1, k2⟩ := h
    intro hlen hlo hst H locs ls hP hS hl
    have k1 := fun hc => k1 hc hlen hlo (pf_okt (pf_okt hst)) H locs ls hP hS hl
    have k2 := fun hc => k2 hc hlen hlo (pf_okt (pf_okt hst)) H locs ls hP hS hl
    cases cnd with
    | eq => exact lv_icmp_eq hx hb hd ht k1 k2
    | ne => exact lv_icmp_ne hx hb hd ht k1 (fun hc => k2 (fun q => q hc))
    | lt => exact lv_icmp_lt hx hb hd ht k1 k2
    | ge => exact lv_icmp_ge hx hb hd ht k1 k2
    | gt => exact lv_icmp_gt hx hb hd ht k1 k2
    | le => exact lv_icmp_le hx hb hd ht k1 k2
  case ifCond cnd off =>
    obtain ⟨x, r, tgt, rfl, rfl, ht, k1, k2⟩ := h
    intro hlen hlo hst H locs ls hP hS hl
    have k1 := fun hc => k1 hc hlen hlo (pf_okt hst) H locs ls hP hS hl
    have k2 := fun hc => k2 hc hlen hlo (pf_okt hst) H locs ls hP hS hl
    cases cnd with
    | eq => exact lv_if_eq hx hb hd ht k1 k2
    | ne => exact lv_if_ne hx hb hd ht k1 (fun hc => k2 (fun q => q hc))
    | lt => exact lv_if_lt hx hb hd ht k1 k2
    | ge => exact lv_if_ge hx hb hd ht k1 k2
    | gt => exact lv_if_gt hx hb hd ht k1 k2
    | le => exact lv_if_le hx hb hd ht k1 k2
  case ifnull off =>
    obtain ⟨q, r, tgt, rfl, rfl, ht, k1, k2⟩ := h
    intro hlen hlo hst H locs ls hP hS hl
    cases q with
    | none => exact lv_ifnullN hx hb hd ht (k1 rfl hlen hlo (pf_okt hst) H locs ls hP hS hl)
    | some q => exact lv_ifnull hx hb hd (k2 (by simp) hlen hlo (pf_okt hst) H locs ls hP hS hl)
  case ifnonnull off =>
    obtain ⟨q, r, tgt, rfl, rfl, ht, k1, k2⟩ := h
    intro hlen hlo hst H locs ls hP hS hl
    cases q with
    | none => exact lv_ifnonnullN hx hb hd (k1 rfl hlen hlo (pf_okt hst) H locs ls hP hS hl)
    | some q => exact lv_ifnonnull hx hb hd ht (k2 (by simp) hlen hlo (pf_okt hst) H locs ls hP hS hl)
  case tableswitch dflt low high offs =>
    obtain ⟨x, r, tgt, rfl, hsw, k⟩ := h
    intro hlen hlo hst H locs ls hP hS hl
    have k := k hlen hlo (pf_okt hst) H locs ls hP hS hl
    rcases hsw with ⟨h1, h2⟩ | ⟨off, h1, h2, h3, h4⟩
    · exact lv_tableOut hx hb hd h1 h2 k
    · exact lv_tableIn hx hb hd h1 h2 h3 h4 k
  case getfield idx =>
    obtain ⟨kd, i, k, ci, ty, fin, r, rfl, rfl, hci, hF, kk⟩ := h
    intro hlen hlo hst H locs ls hP hS hl
    have hok := pf_okh hst
    have hk : k < 50 := by
      obtain ⟨C, T, N, ty0, h1, h2, h3, h4⟩ := hF
      have := pf_nf_le ci
      omega
    exact pf_u_get F hci hF hok hP hd (kk hlen hlo (pf_oks (pf_fv_ok hok hk) (pf_okt hst)) H locs ls hP hS hl)
  case putfield idx =>
    obtain ⟨kd, i, k, ci, ty, x, r, rfl, rfl, hci, hrs, hF, hn, hf, kk⟩ := h
    intro hlen hlo hst H locs ls hP hS hl
    exact pf_u_put F hci hrs hF hn hf (pf_okh (pf_okt hst)) hP hS hd (fun H1 locs1 hP1 hS1 => kk hlen hlo (pf_okt (pf_okt hst)) H1 locs1 ls hP1 hS1 hl)
  case iaload =>
    obtain ⟨kd, i, n, j, r, rfl, rfl, hk, hin, kk⟩ := h
    intro hlen hlo hst H locs ls hP hS hl
    exact pf_u_iald F hk (pf_okh (pf_okt hst)) hin hP hd (kk hlen hlo (pf_oks trivial (pf_okt (pf_okt hst))) H locs ls hP hS hl)
  case iastore =>
    obtain ⟨kd, i, n, j, x, r, rfl, rfl, hk, hin, kk⟩ := h
    intro hlen hlo hst H locs ls hP hS hl
    exact pf_u_iast F hk (pf_okh (pf_okt (pf_okt hst))) hin hP hS hd (fun H1 locs1 hP1 hS1 => kk hlen hlo (pf_okt (pf_okt (pf_okt hst))) H1 locs1 ls hP1 hS1 hl)
  case caload =>
    obtain ⟨kd, i, n, j, r, rfl, rfl, hk, hk2, hin, kk⟩ := h
    intro hlen hlo hst H locs ls hP hS hl
    exact pf_u_cald F hk hk2 (pf_okh (pf_okt hst)) hin hP hd (kk hlen hlo (pf_oks trivial (pf_okt (pf_okt hst))) H locs ls hP hS hl)
  case castore =>
    obtain ⟨kd, i, n, j, x, r, rfl, rfl, hk, hk2, hin, kk⟩ := h
    intro hlen hlo hst H locs ls hP hS hl
    exact pf_u_cast F hk hk2 (pf_okh (pf_okt (pf_okt hst))) hin hP hS hd (fun H1 locs1 hP1 hS1 => kk hlen hlo (pf_okt (pf_okt (pf_okt hst))) H1 locs1 ls hP1 hS1 hl)
  case aaload =>
    obtain ⟨kd, i, n, t, el, j, r, rfl, rfl, hk, hk2, hk3, hin, kk⟩ := h
    intro hlen hlo hst H locs ls hP hS hl
    exact pf_u_aald F hk hk2 hk3 (pf_okh (pf_okt hst)) hin hP hd (kk hlen hlo (pf_oks (pf_ra_ok (pf_okh (pf_okt hst)) hk3 hin) (pf_okt (pf_okt hst))) H locs ls hP hS hl)
  case arraylength =>
    obtain ⟨kd, i, n, r, rfl, rfl, hk, kk⟩ := h
    intro hlen hlo hst H locs ls hP hS hl
    exact pf_u_alen F hk (pf_okh hst) hP hd (kk hlen hlo (pf_oks trivial (pf_okt hst)) H locs ls hP hS hl)
  case ireturn =>
    obtain ⟨x, ty, rfl, rfl, hrt, hn, rfl, rfl⟩ := h
    intro hlen hlo hst H locs ls hP hS hl
    exact W.zret hx hb (hret.trans hrt) hn (fun t ht hW => ⟨⟨rfl, fun v hv => (by cases hv; trivial), by rw [ht]; exact hP⟩, hS.F ht⟩) hS.2.2 hd hlocks
  case lreturn =>
    obtain ⟨x, rfl, rfl, hrt, rfl, rfl⟩ := h
    intro hlen hlo hst H locs ls hP hS hl
    exact W.lret hx hb (hret.trans hrt) (fun t ht hW => ⟨⟨rfl, fun v hv => (by cases hv; trivial), by rw [ht]; exact hP⟩, hS.F ht⟩) hS.2.2 hd hlocks
  case areturn =>
    obtain ⟨q, n, rfl, rfl, hrt, rfl, rfl⟩ := h
    intro hlen hlo hst H locs ls hP hS hl
    have hok := pf_okh hst
    cases q with
    | none => exact W.aret hx hb (hret.trans hrt) (Or.inl ⟨n, rfl⟩) (Or.inl rfl) (fun t ht hW => ⟨⟨rfl, fun v hv => (by cases hv; trivial), by rw [ht]; exact hP⟩, hS.F ht⟩) hS.2.2 hd hlocks
    | some q => exact W.aret hx hb (hret.trans hrt) (Or.inl ⟨n, rfl⟩) (Or.inr ⟨_, rfl⟩) (fun t ht hW => ⟨⟨rfl, fun v hv => (by cases hv; exact hok), by rw [ht]; exact hP⟩, hS.F ht⟩) hS.2.2 hd hlocks
  case return_ =>
    obtain ⟨rfl, rfl, hrt, rfl, rfl⟩ := h
    intro hlen hlo hst H locs ls hP hS hl
    exact W.vret hx hb (hret.trans hrt) (fun t ht hW => ⟨⟨rfl, fun v hv => (by cases hv), by rw [ht]; exact hP⟩, hS.F ht⟩) hS.2.2 hd hlocks
  case invokevirtual idx =>
    obtain ⟨y, cc2, nL2, rt, fr, lo2, as, kd, i, ci, r, v, M', rfl, rfl, hwd, hci, hL, hfr, hlo2, hM, kk⟩ := h
    intro hlen hlo hst H locs ls hP hS hl
    exact pf_callV F hR1 hR2 hci hL hfr hlo2 hM hwd hlen hl hst hP hS hd (fun H1 locs1 hv hP1 hS1 => kk hlen hlo (pf_ret_ok hv (fun w hw => hst w (List.mem_append_right _ (List.mem_cons_of_mem _ hw)))) H1 locs1 ls hP1 hS1 hl)
  case invokestatic idx =>
    rcases h with ⟨y, cc2, nL2, rt, fr, lo2, as, r, v, M', rfl, rfl, hwd, hL, hfr, hlo2, hM, kk⟩ | ⟨n, dp, sp, k1, i1, k0, i0, n0, n1, r, rfl, rfl, hA, hk0, hk1, a1, a2, a3, a4, a5, hfr, hlo2, kk⟩
    · intro hlen hlo hst H locs ls hP hS hl
      exact pf_callS F hR1 hR2 hL hfr hlo2 hM hwd hlen hl hst hP hS hd (fun H1 locs1 hv hP1 hS1 => kk hlen hlo (pf_ret_ok hv (fun w hw => hst w (List.mem_append_right _ hw))) H1 locs1 ls hP1 hS1 hl)
    · intro hlen hlo hst H locs ls hP hS hl
      exact pf_u_copy F hl.1 hA hk0 hk1 (pf_okh (pf_okt (pf_okt (pf_okt (pf_okt hst))))) (pf_okh (pf_okt (pf_okt hst))) a1 a2 a3 a4 a5 (by rw [hR1]; exact hfr) (by rw [hR2, pf_wdc]; exact hlo2) hP hS hd (fun H1 locs1 hP1 hS1 => kk hlen hlo (pf_okt (pf_okt (pf_okt (pf_okt (pf_okt hst))))) H1 locs1 ls hP1 hS1 hl)
  all_goals exact False.elim h
/-- a method's contract out of its rows -/
theorem pf_Met.of {y : MethodName} {cc : ByteArray} {nL fr lo : Nat} {ret : Option FieldType} {avs : List pf_V} {M : pf_M} {v : Option pf_V} {M' : pf_M} (hy : plainName y.cls = true) (hen : (pf_en avs).length ≤ nL)
    (h : ∀ K : Nat → List pf_V → List pf_V → pf_M → Prop, pf_RU G cc y.cls fr lo ret v M' K → K 0 (pf_ent avs nL) [] M) : pf_Met G y cc nL ret fr lo avs M v M' := by
  intro hav
  refine Met.ofW (cc := cc) (maxL := nL) (ret := ret) hy rfl ?_
  intro p e s m args below meth c s₁ B hml hv
  obtain ⟨rfl, hP, hK, hN⟩ := hv
  have hown : s.vm.findClass y.cls = some m.cls := findClass_of_methodNamed B.named
  have hts0 := atoms_spec (ws := Cond.code y cc nL ret :: pf_tb) B.pre
  have F : pf_Fix G p s m ((avs.map (pf_cv G)).toArray) c cc y.cls nL := ⟨B.exec, B.bytes, hml, hown, fun w hw => hts0 w (List.mem_cons_of_mem _ hw), hK, hN⟩
  have k := h _ (pf_sound (e := e) (below := below) (R := (headSpec (Cond.code y cc nL ret :: pf_tb) (pf_rm0 fr lo)).room) F rfl rfl B.returns B.notSynchronized)
  rw [lg_entry_eq]
  refine k ?_ (pf_ent_ok hav) (fun v hv => by cases hv) s.heap [] _ hP va_S.rf (pf_LR.ent G avs hen)
  unfold pf_ent
  rw [List.length_append, List.length_replicate]
  omega
end
end
section
section
variable {G : pf_G} {cc : ByteArray} {own : String} {FR LO : Nat} {ret : Option FieldType} {r0 : Option pf_V} {M0 : pf_M} {K : Nat → List pf_V → List pf_V → pf_M → Prop} {lo lo' st r : List pf_V} {M : pf_M} {pc : Nat}

theorem r_aconst_null (R : pf_RU G cc own FR LO ret r0 M0 K) (pc' : Nat) (d : decode cc pc = .ok (.aconst_null, 1)) (hp : pc + 1 = pc') (k : K pc' lo (pf_N :: st) M) : K pc lo (st) M := by
  subst hp
  exact R.1 _ _ _ d _ _ _ ⟨rfl, k⟩
theorem r_iconst (R : pf_RU G cc own FR LO ret r0 M0 K) (pc' : Nat) {n : Int} {v : Int32} (d : decode cc pc = .ok (.iconst n, 1)) (hp : pc + 1 = pc') (hv : Int32.ofInt n = v) (k : K pc' lo (pf_I v :: st) M) : K pc lo (st) M := by
  subst hp
  exact R.1 _ _ _ d _ _ _ ⟨rfl, hv ▸ k⟩
theorem r_bipush (R : pf_RU G cc own FR LO ret r0 M0 K) (pc' : Nat) {n : Int} {v : Int32} (d : decode cc pc = .ok (.bipush n, 2)) (hp : pc + 2 = pc') (hv : (Int8.ofInt n).toInt32 = v) (k : K pc' lo (pf_I v :: st) M) : K pc lo (st) M := by
  subst hp
  exact R.1 _ _ _ d _ _ _ ⟨rfl, hv ▸ k⟩
theorem r_sipush (R : pf_RU G cc own FR LO ret r0 M0 K) (pc' : Nat) {n : Int} {v : Int32} (d : decode cc pc = .ok (.sipush n, 3)) (hp : pc + 3 = pc') (hv : (Int16.ofInt n).toInt32 = v) (k : K pc' lo (pf_I v :: st) M) : K pc lo (st) M := by
  subst hp
  exact R.1 _ _ _ d _ _ _ ⟨rfl, hv ▸ k⟩
theorem r_lconst (R : pf_RU G cc own FR LO ret r0 M0 K) (pc' : Nat) {n : Fin 2} {v : Int64} (d : decode cc pc = .ok (.lconst n, 1)) (hp : pc + 1 = pc') (hv : Int64.ofNat (n : Nat) = v) (k : K pc' lo (pf_L v :: st) M) : K pc lo (st) M := by
  subst hp
  exact R.1 _ _ _ d _ _ _ ⟨rfl, hv ▸ k⟩
theorem r_ldc (R : pf_RU G cc own FR LO ret r0 M0 K) (pc' : Nat) {idx : Nat} {v : Int32} (d : decode cc pc = .ok (.ldc idx, 2)) (hp : pc + 2 = pc') (hv : Cond.constant own idx v ∈ pf_tb) (k : K pc' lo (pf_I v :: st) M) : K pc lo (st) M := by
  subst hp
  exact R.1 _ _ _ d _ _ _ ⟨v, rfl, hv, k⟩
theorem r_ldc_w (R : pf_RU G cc own FR LO ret r0 M0 K) (pc' : Nat) {idx : Nat} {v : Int32} (d : decode cc pc = .ok (.ldc_w idx, 3)) (hp : pc + 3 = pc') (hv : Cond.constant own idx v ∈ pf_tb) (k : K pc' lo (pf_I v :: st) M) : K pc lo (st) M := by
  subst hp
  exact R.1 _ _ _ d _ _ _ ⟨v, rfl, hv, k⟩
theorem r_ldc2_w (R : pf_RU G cc own FR LO ret r0 M0 K) (pc' : Nat) {idx : Nat} {v : Int64} (d : decode cc pc = .ok (.ldc2_w idx, 3)) (hp : pc + 3 = pc') (hv : Cond.constantLong own idx v ∈ pf_tb) (k : K pc' lo (pf_L v :: st) M) : K pc lo (st) M := by
  subst hp
  exact R.1 _ _ _ d _ _ _ ⟨v, rfl, hv, k⟩
theorem r_iload_n (R : pf_RU G cc own FR LO ret r0 M0 K) (pc' : Nat) {n : Fin 4} {x : Int32} (d : decode cc pc = .ok (.iload_n n, 1)) (hp : pc + 1 = pc') (hg : lo[(n : Nat)]? = some (pf_I x)) (k : K pc' lo (pf_I x :: st) M) : K pc lo (st) M := by
  subst hp
  exact R.1 _ _ _ d _ _ _ ⟨x, rfl, hg, k⟩
theorem r_iload (R : pf_RU G cc own FR LO ret r0 M0 K) (pc' : Nat) {n : Nat} {x : Int32} (d : decode cc pc = .ok (.iload n, 2)) (hp : pc + 2 = pc') (hg : lo[n]? = some (pf_I x)) (k : K pc' lo (pf_I x :: st) M) : K pc lo (st) M := by
  subst hp
  exact R.1 _ _ _ d _ _ _ ⟨x, rfl, hg, k⟩
theorem r_lload_n (R : pf_RU G cc own FR LO ret r0 M0 K) (pc' : Nat) {n : Fin 4} {x : Int64} (d : decode cc pc = .ok (.lload_n n, 1)) (hp : pc + 1 = pc') (hg : lo[(n : Nat)]? = some (pf_L x)) (k : K pc' lo (pf_L x :: st) M) : K pc lo (st) M := by
  subst hp
  exact R.1 _ _ _ d _ _ _ ⟨x, rfl, hg, k⟩
theorem r_lload (R : pf_RU G cc own FR LO ret r0 M0 K) (pc' : Nat) {n : Nat} {x : Int64} (d : decode cc pc = .ok (.lload n, 2)) (hp : pc + 2 = pc') (hg : lo[n]? = some (pf_L x)) (k : K pc' lo (pf_L x :: st) M) : K pc lo (st) M := by
  subst hp
  exact R.1 _ _ _ d _ _ _ ⟨x, rfl, hg, k⟩
theorem r_aload_n (R : pf_RU G cc own FR LO ret r0 M0 K) (pc' : Nat) {n : Fin 4} {q : Option (Nat × Nat)} (d : decode cc pc = .ok (.aload_n n, 1)) (hp : pc + 1 = pc') (hg : lo[(n : Nat)]? = some (.inr (.inr (.inl q)))) (k : K pc' lo (.inr (.inr (.inl q)) :: st) M) : K pc lo (st) M := by
  subst hp
  exact R.1 _ _ _ d _ _ _ ⟨q, rfl, hg, k⟩
theorem r_aload (R : pf_RU G cc own FR LO ret r0 M0 K) (pc' : Nat) {n : Nat} {q : Option (Nat × Nat)} (d : decode cc pc = .ok (.aload n, 2)) (hp : pc + 2 = pc') (hg : lo[n]? = some (.inr (.inr (.inl q)))) (k : K pc' lo (.inr (.inr (.inl q)) :: st) M) : K pc lo (st) M := by
  subst hp
  exact R.1 _ _ _ d _ _ _ ⟨q, rfl, hg, k⟩
theorem r_istore_n (R : pf_RU G cc own FR LO ret r0 M0 K) (pc' : Nat) {n : Fin 4} {x : Int32} (d : decode cc pc = .ok (.istore_n n, 1)) (hp : pc + 1 = pc') (hi : Nat.ble ((n : Nat) + 1) lo.length = true) (hs : pf_st1 lo (n : Nat) (pf_I x) = lo') (k : K pc' lo' (st) M) : K pc lo (pf_I x :: st) M := by
  subst hp
  exact R.1 _ _ _ d _ _ _ ⟨x, st, rfl, rfl, Nat.le_of_ble_eq_true hi, hs ▸ k⟩
theorem r_istore (R : pf_RU G cc own FR LO ret r0 M0 K) (pc' : Nat) {n : Nat} {x : Int32} (d : decode cc pc = .ok (.istore n, 2)) (hp : pc + 2 = pc') (hi : Nat.ble (n + 1) lo.length = true) (hs : pf_st1 lo n (pf_I x) = lo') (k : K pc' lo' (st) M) : K pc lo (pf_I x :: st) M := by
  subst hp
  exact R.1 _ _ _ d _ _ _ ⟨x, st, rfl, rfl, Nat.le_of_ble_eq_true hi, hs ▸ k⟩
theorem r_astore_n (R : pf_RU G cc own FR LO ret r0 M0 K) (pc' : Nat) {n : Fin 4} {q : Option (Nat × Nat)} (d : decode cc pc = .ok (.astore_n n, 1)) (hp : pc + 1 = pc') (hi : Nat.ble ((n : Nat) + 1) lo.length = true) (hs : pf_st1 lo (n : Nat) (.inr (.inr (.inl q))) = lo') (k : K pc' lo' (st) M) : K pc lo (.inr (.inr (.inl q)) :: st) M := by
  subst hp
  exact R.1 _ _ _ d _ _ _ ⟨q, st, rfl, rfl, Nat.le_of_ble_eq_true hi, hs ▸ k⟩
theorem r_astore (R : pf_RU G cc own FR LO ret r0 M0 K) (pc' : Nat) {n : Nat} {q : Option (Nat × Nat)} (d : decode cc pc = .ok (.astore n, 2)) (hp : pc + 2 = pc') (hi : Nat.ble (n + 1) lo.length = true) (hs : pf_st1 lo n (.inr (.inr (.inl q))) = lo') (k : K pc' lo' (st) M) : K pc lo (.inr (.inr (.inl q)) :: st) M := by
  subst hp
  exact R.1 _ _ _ d _ _ _ ⟨q, st, rfl, rfl, Nat.le_of_ble_eq_true hi, hs ▸ k⟩
theorem r_lstore_n (R : pf_RU G cc own FR LO ret r0 M0 K) (pc' : Nat) {n : Fin 4} {x : Int64} (d : decode cc pc = .ok (.lstore_n n, 1)) (hp : pc + 1 = pc') (hi : Nat.ble ((n : Nat) + 2) lo.length = true) (hs : pf_st2 lo (n : Nat) (pf_L x) = lo') (k : K pc' lo' (st) M) : K pc lo (pf_L x :: st) M := by
  subst hp
  exact R.1 _ _ _ d _ _ _ ⟨x, st, rfl, rfl, Nat.le_of_ble_eq_true hi, hs ▸ k⟩
theorem r_lstore (R : pf_RU G cc own FR LO ret r0 M0 K) (pc' : Nat) {n : Nat} {x : Int64} (d : decode cc pc = .ok (.lstore n, 2)) (hp : pc + 2 = pc') (hi : Nat.ble (n + 2) lo.length = true) (hs : pf_st2 lo n (pf_L x) = lo') (k : K pc' lo' (st) M) : K pc lo (pf_L x :: st) M := by
  subst hp
  exact R.1 _ _ _ d _ _ _ ⟨x, st, rfl, rfl, Nat.le_of_ble_eq_true hi, hs ▸ k⟩
theorem r_iinc (R : pf_RU G cc own FR LO ret r0 M0 K) (pc' : Nat) {i : Nat} {n : Int} {x v : Int32} (d : decode cc pc = .ok (.iinc i n, 3)) (hp : pc + 3 = pc') (hg : lo[i]? = some (pf_I x)) (hv : Int32.ofInt n = v) (hs : pf_st1 lo i (pf_I (x + v)) = lo') (k : K pc' lo' (st) M) : K pc lo (st) M := by
  subst hp
  exact R.1 _ _ _ d _ _ _ ⟨x, rfl, hg, by rw [hv, hs]; exact k⟩
theorem r_iadd (R : pf_RU G cc own FR LO ret r0 M0 K) (pc' : Nat) {x y : Int32} (d : decode cc pc = .ok (.iadd, 1)) (hp : pc + 1 = pc') (k : K pc' lo (pf_I (x + y) :: st) M) : K pc lo (pf_I y :: pf_I x :: st) M := by
  subst hp
  exact R.1 _ _ _ d _ _ _ ⟨x, y, st, rfl, rfl, k⟩
theorem r_isub (R : pf_RU G cc own FR LO ret r0 M0 K) (pc' : Nat) {x y : Int32} (d : decode cc pc = .ok (.isub, 1)) (hp : pc + 1 = pc') (k : K pc' lo (pf_I (x - y) :: st) M) : K pc lo (pf_I y :: pf_I x :: st) M := by
  subst hp
  exact R.1 _ _ _ d _ _ _ ⟨x, y, st, rfl, rfl, k⟩
theorem r_imul (R : pf_RU G cc own FR LO ret r0 M0 K) (pc' : Nat) {x y : Int32} (d : decode cc pc = .ok (.imul, 1)) (hp : pc + 1 = pc') (k : K pc' lo (pf_I (x * y) :: st) M) : K pc lo (pf_I y :: pf_I x :: st) M := by
  subst hp
  exact R.1 _ _ _ d _ _ _ ⟨x, y, st, rfl, rfl, k⟩
theorem r_ior (R : pf_RU G cc own FR LO ret r0 M0 K) (pc' : Nat) {x y : Int32} (d : decode cc pc = .ok (.ior, 1)) (hp : pc + 1 = pc') (k : K pc' lo (pf_I (x ||| y) :: st) M) : K pc lo (pf_I y :: pf_I x :: st) M := by
  subst hp
  exact R.1 _ _ _ d _ _ _ ⟨x, y, st, rfl, rfl, k⟩
theorem r_iand (R : pf_RU G cc own FR LO ret r0 M0 K) (pc' : Nat) {x y : Int32} (d : decode cc pc = .ok (.iand, 1)) (hp : pc + 1 = pc') (k : K pc' lo (pf_I (x &&& y) :: st) M) : K pc lo (pf_I y :: pf_I x :: st) M := by
  subst hp
  exact R.1 _ _ _ d _ _ _ ⟨x, y, st, rfl, rfl, k⟩
theorem r_ixor (R : pf_RU G cc own FR LO ret r0 M0 K) (pc' : Nat) {x y : Int32} (d : decode cc pc = .ok (.ixor, 1)) (hp : pc + 1 = pc') (k : K pc' lo (pf_I (x ^^^ y) :: st) M) : K pc lo (pf_I y :: pf_I x :: st) M := by
  subst hp
  exact R.1 _ _ _ d _ _ _ ⟨x, y, st, rfl, rfl, k⟩
theorem r_ladd (R : pf_RU G cc own FR LO ret r0 M0 K) (pc' : Nat) {x y : Int64} (d : decode cc pc = .ok (.ladd, 1)) (hp : pc + 1 = pc') (k : K pc' lo (pf_L (x + y) :: st) M) : K pc lo (pf_L y :: pf_L x :: st) M := by
  subst hp
  exact R.1 _ _ _ d _ _ _ ⟨x, y, st, rfl, rfl, k⟩
theorem r_lsub (R : pf_RU G cc own FR LO ret r0 M0 K) (pc' : Nat) {x y : Int64} (d : decode cc pc = .ok (.lsub, 1)) (hp : pc + 1 = pc') (k : K pc' lo (pf_L (x - y) :: st) M) : K pc lo (pf_L y :: pf_L x :: st) M := by
  subst hp
  exact R.1 _ _ _ d _ _ _ ⟨x, y, st, rfl, rfl, k⟩
theorem r_lmul (R : pf_RU G cc own FR LO ret r0 M0 K) (pc' : Nat) {x y : Int64} (d : decode cc pc = .ok (.lmul, 1)) (hp : pc + 1 = pc') (k : K pc' lo (pf_L (x * y) :: st) M) : K pc lo (pf_L y :: pf_L x :: st) M := by
  subst hp
  exact R.1 _ _ _ d _ _ _ ⟨x, y, st, rfl, rfl, k⟩
theorem r_idiv (R : pf_RU G cc own FR LO ret r0 M0 K) (pc' : Nat) {x y : Int32} (d : decode cc pc = .ok (.idiv, 1)) (hp : pc + 1 = pc') (hne : ¬ y = 0) (k : K pc' lo (pf_I (x / y) :: st) M) : K pc lo (pf_I y :: pf_I x :: st) M := by
  subst hp
  exact R.1 _ _ _ d _ _ _ ⟨x, y, st, rfl, rfl, hne, k⟩
theorem r_irem (R : pf_RU G cc own FR LO ret r0 M0 K) (pc' : Nat) {x y : Int32} (d : decode cc pc = .ok (.irem, 1)) (hp : pc + 1 = pc') (hne : ¬ y = 0) (k : K pc' lo (pf_I (x - x / y * y) :: st) M) : K pc lo (pf_I y :: pf_I x :: st) M := by
  subst hp
  exact R.1 _ _ _ d _ _ _ ⟨x, y, st, rfl, rfl, hne, k⟩
theorem r_ldiv (R : pf_RU G cc own FR LO ret r0 M0 K) (pc' : Nat) {x y : Int64} (d : decode cc pc = .ok (.ldiv, 1)) (hp : pc + 1 = pc') (hne : ¬ y = 0) (k : K pc' lo (pf_L (x / y) :: st) M) : K pc lo (pf_L y :: pf_L x :: st) M := by
  subst hp
  exact R.1 _ _ _ d _ _ _ ⟨x, y, st, rfl, rfl, hne, k⟩
theorem r_lrem (R : pf_RU G cc own FR LO ret r0 M0 K) (pc' : Nat) {x y : Int64} (d : decode cc pc = .ok (.lrem, 1)) (hp : pc + 1 = pc') (hne : ¬ y = 0) (k : K pc' lo (pf_L (x - x / y * y) :: st) M) : K pc lo (pf_L y :: pf_L x :: st) M := by
  subst hp
  exact R.1 _ _ _ d _ _ _ ⟨x, y, st, rfl, rfl, hne, k⟩
theorem r_ineg (R : pf_RU G cc own FR LO ret r0 M0 K) (pc' : Nat) {x : Int32} (d : decode cc pc = .ok (.ineg, 1)) (hp : pc + 1 = pc') (k : K pc' lo (pf_I (-x) :: st) M) : K pc lo (pf_I x :: st) M := by
  subst hp
  exact R.1 _ _ _ d _ _ _ ⟨x, st, rfl, rfl, k⟩
theorem r_lneg (R : pf_RU G cc own FR LO ret r0 M0 K) (pc' : Nat) {x : Int64} (d : decode cc pc = .ok (.lneg, 1)) (hp : pc + 1 = pc') (k : K pc' lo (pf_L (-x) :: st) M) : K pc lo (pf_L x :: st) M := by
  subst hp
  exact R.1 _ _ _ d _ _ _ ⟨x, st, rfl, rfl, k⟩
theorem r_lcmp (R : pf_RU G cc own FR LO ret r0 M0 K) (pc' : Nat) {x y : Int64} (d : decode cc pc = .ok (.lcmp, 1)) (hp : pc + 1 = pc') (k : K pc' lo (pf_I (lg_cmp x y) :: st) M) : K pc lo (pf_L y :: pf_L x :: st) M := by
  subst hp
  exact R.1 _ _ _ d _ _ _ ⟨x, y, st, rfl, rfl, k⟩
theorem r_i2l (R : pf_RU G cc own FR LO ret r0 M0 K) (pc' : Nat) {x : Int32} (d : decode cc pc = .ok (.i2l, 1)) (hp : pc + 1 = pc') (k : K pc' lo (pf_L x.toInt64 :: st) M) : K pc lo (pf_I x :: st) M := by
  subst hp
  exact R.1 _ _ _ d _ _ _ ⟨x, st, rfl, rfl, k⟩
theorem r_l2i (R : pf_RU G cc own FR LO ret r0 M0 K) (pc' : Nat) {x : Int64} (d : decode cc pc = .ok (.l2i, 1)) (hp : pc + 1 = pc') (k : K pc' lo (pf_I x.toInt32 :: st) M) : K pc lo (pf_L x :: st) M := by
  subst hp
  exact R.1 _ _ _ d _ _ _ ⟨x, st, rfl, rfl, k⟩
theorem r_i2c (R : pf_RU G cc own FR LO ret r0 M0 K) (pc' : Nat) {x : Int32} (d : decode cc pc = .ok (.i2c, 1)) (hp : pc + 1 = pc') (k : K pc' lo (pf_I (x.toUInt32 % 65536).toInt32 :: st) M) : K pc lo (pf_I x :: st) M := by
  subst hp
  exact R.1 _ _ _ d _ _ _ ⟨x, st, rfl, rfl, k⟩
theorem r_dup (R : pf_RU G cc own FR LO ret r0 M0 K) (pc' : Nat) {v : pf_V} (d : decode cc pc = .ok (.dup, 1)) (hp : pc + 1 = pc') (hc : pf_cat v = 1) (k : K pc' lo (v :: v :: st) M) : K pc lo (v :: st) M := by
  subst hp
  exact R.1 _ _ _ d _ _ _ ⟨v, st, rfl, rfl, hc, k⟩
theorem r_dup2 (R : pf_RU G cc own FR LO ret r0 M0 K) (pc' : Nat) {v w : pf_V} (d : decode cc pc = .ok (.dup2, 1)) (hp : pc + 1 = pc') (hc : pf_cat v = 1) (hc2 : pf_cat w = 1) (k : K pc' lo (v :: w :: v :: w :: st) M) : K pc lo (v :: w :: st) M := by
  subst hp
  exact R.1 _ _ _ d _ _ _ ⟨v, w, st, rfl, rfl, hc, hc2, k⟩
theorem r_pop (R : pf_RU G cc own FR LO ret r0 M0 K) (pc' : Nat) {v : pf_V} (d : decode cc pc = .ok (.pop, 1)) (hp : pc + 1 = pc') (hc : pf_cat v = 1) (k : K pc' lo (st) M) : K pc lo (v :: st) M := by
  subst hp
  exact R.1 _ _ _ d _ _ _ ⟨v, st, rfl, rfl, hc, k⟩
theorem r_goto (R : pf_RU G cc own FR LO ret r0 M0 K) (tgt : Nat) {off : Int} (d : decode cc pc = .ok (.goto off, 3)) (ht : (pc : Int) + off = (tgt : Int)) (k : K tgt lo st M) : K pc lo st M := R.1 _ _ _ d _ _ _ ⟨tgt, rfl, ht, k⟩
theorem r_icmp_eq (R : pf_RU G cc own FR LO ret r0 M0 K) (pc' tgt : Nat) {off : Int} {x y : Int32} (d : decode cc pc = .ok (.if_icmp .eq off, 3)) (hp : pc + 3 = pc') (ht : (pc : Int) + off = (tgt : Int)) (k1 : x = y → K tgt lo st M) (k2 : ¬ x = y → K pc' lo st M) : K pc lo (pf_I y :: pf_I x :: st) M := by
  subst hp
  exact R.1 _ _ _ d _ _ _ ⟨x, y, st, tgt, rfl, rfl, ht, k1, k2⟩
theorem r_if_eq (R : pf_RU G cc own FR LO ret r0 M0 K) (pc' tgt : Nat) {off : Int} {x : Int32} (d : decode cc pc = .ok (.ifCond .eq off, 3)) (hp : pc + 3 = pc') (ht : (pc : Int) + off = (tgt : Int)) (k1 : x = 0 → K tgt lo st M) (k2 : ¬ x = 0 → K pc' lo st M) : K pc lo (pf_I x :: st) M := by
  subst hp
  exact R.1 _ _ _ d _ _ _ ⟨x, st, tgt, rfl, rfl, ht, k1, k2⟩
theorem r_icmp_ne (R : pf_RU G cc own FR LO ret r0 M0 K) (pc' tgt : Nat) {off : Int} {x y : Int32} (d : decode cc pc = .ok (.if_icmp .ne off, 3)) (hp : pc + 3 = pc') (ht : (pc : Int) + off = (tgt : Int)) (k2 : x = y → K pc' lo st M) (k1 : ¬ x = y → K tgt lo st M) : K pc lo (pf_I y :: pf_I x :: st) M := by
  subst hp
  exact R.1 _ _ _ d _ _ _ ⟨x, y, st, tgt, rfl, rfl, ht, k1, fun h => k2 (Decidable.not_not.mp h)⟩
theorem r_if_ne (R : pf_RU G cc own FR LO ret r0 M0 K) (pc' tgt : Nat) {off : Int} {x : Int32} (d : decode cc pc = .ok (.ifCond .ne off, 3)) (hp : pc + 3 = pc') (ht : (pc : Int) + off = (tgt : Int)) (k2 : x = 0 → K pc' lo st M) (k1 : ¬ x = 0 → K tgt lo st M) : K pc lo (pf_I x :: st) M := by
  subst hp
  exact R.1 _ _ _ d _ _ _ ⟨x, st, tgt, rfl, rfl, ht, k1, fun h => k2 (Decidable.not_not.mp h)⟩
theorem r_icmp_lt (R : pf_RU G cc own FR LO ret r0 M0 K) (pc' tgt : Nat) {off : Int} {x y : Int32} (d : decode cc pc = .ok (.if_icmp .lt off, 3)) (hp : pc + 3 = pc') (ht : (pc : Int) + off = (tgt : Int)) (k1 : x < y → K tgt lo st M) (k2 : ¬ x < y → K pc' lo st M) : K pc lo (pf_I y :: pf_I x :: st) M := by
  subst hp
  exact R.1 _ _ _ d _ _ _ ⟨x, y, st, tgt, rfl, rfl, ht, k1, k2⟩
theorem r_if_lt (R : pf_RU G cc own FR LO ret r0 M0 K) (pc' tgt : Nat) {off : Int} {x : Int32} (d : decode cc pc = .ok (.ifCond .lt off, 3)) (hp : pc + 3 = pc') (ht : (pc : Int) + off = (tgt : Int)) (k1 : x < 0 → K tgt lo st M) (k2 : ¬ x < 0 → K pc' lo st M) : K pc lo (pf_I x :: st) M := by
  subst hp
  exact R.1 _ _ _ d _ _ _ ⟨x, st, tgt, rfl, rfl, ht, k1, k2⟩
theorem r_icmp_ge (R : pf_RU G cc own FR LO ret r0 M0 K) (pc' tgt : Nat) {off : Int} {x y : Int32} (d : decode cc pc = .ok (.if_icmp .ge off, 3)) (hp : pc + 3 = pc') (ht : (pc : Int) + off = (tgt : Int)) (k1 : y ≤ x → K tgt lo st M) (k2 : ¬ y ≤ x → K pc' lo st M) : K pc lo (pf_I y :: pf_I x :: st) M := by
  subst hp
  exact R.1 _ _ _ d _ _ _ ⟨x, y, st, tgt, rfl, rfl, ht, k1, k2⟩
theorem r_if_ge (R : pf_RU G cc own FR LO ret r0 M0 K) (pc' tgt : Nat) {off : Int} {x : Int32} (d : decode cc pc = .ok (.ifCond .ge off, 3)) (hp : pc + 3 = pc') (ht : (pc : Int) + off = (tgt : Int)) (k1 : 0 ≤ x → K tgt lo st M) (k2 : ¬ 0 ≤ x → K pc' lo st M) : K pc lo (pf_I x :: st) M := by
  subst hp
  exact R.1 _ _ _ d _ _ _ ⟨x, st, tgt, rfl, rfl, ht, k1, k2⟩
theorem r_icmp_gt (R : pf_RU G cc own FR LO ret r0 M0 K) (pc' tgt : Nat) {off : Int} {x y : Int32} (d : decode cc pc = .ok (.if_icmp .gt off, 3)) (hp : pc + 3 = pc') (ht : (pc : Int) + off = (tgt : Int)) (k1 : y < x → K tgt lo st M) (k2 : ¬ y < x → K pc' lo st M) : K pc lo (pf_I y :: pf_I x :: st) M := by
  subst hp
  exact R.1 _ _ _ d _ _ _ ⟨x, y, st, tgt, rfl, rfl, ht, k1, k2⟩
theorem r_if_gt (R : pf_RU G cc own FR LO ret r0 M0 K) (pc' tgt : Nat) {off : Int} {x : Int32} (d : decode cc pc = .ok (.ifCond .gt off, 3)) (hp : pc + 3 = pc') (ht : (pc : Int) + off = (tgt : Int)) (k1 : 0 < x → K tgt lo st M) (k2 : ¬ 0 < x → K pc' lo st M) : K pc lo (pf_I x :: st) M := by
  subst hp
  exact R.1 _ _ _ d _ _ _ ⟨x, st, tgt, rfl, rfl, ht, k1, k2⟩
theorem r_icmp_le (R : pf_RU G cc own FR LO ret r0 M0 K) (pc' tgt : Nat) {off : Int} {x y : Int32} (d : decode cc pc = .ok (.if_icmp .le off, 3)) (hp : pc + 3 = pc') (ht : (pc : Int) + off = (tgt : Int)) (k1 : x ≤ y → K tgt lo st M) (k2 : ¬ x ≤ y → K pc' lo st M) : K pc lo (pf_I y :: pf_I x :: st) M := by
  subst hp
  exact R.1 _ _ _ d _ _ _ ⟨x, y, st, tgt, rfl, rfl, ht, k1, k2⟩
theorem r_if_le (R : pf_RU G cc own FR LO ret r0 M0 K) (pc' tgt : Nat) {off : Int} {x : Int32} (d : decode cc pc = .ok (.ifCond .le off, 3)) (hp : pc + 3 = pc') (ht : (pc : Int) + off = (tgt : Int)) (k1 : x ≤ 0 → K tgt lo st M) (k2 : ¬ x ≤ 0 → K pc' lo st M) : K pc lo (pf_I x :: st) M := by
  subst hp
  exact R.1 _ _ _ d _ _ _ ⟨x, st, tgt, rfl, rfl, ht, k1, k2⟩
theorem r_ifnull_t (R : pf_RU G cc own FR LO ret r0 M0 K) (tgt : Nat) {off : Int} (d : decode cc pc = .ok (.ifnull off, 3)) (ht : (pc : Int) + off = (tgt : Int)) (k : K tgt lo st M) : K pc lo (pf_N :: st) M := R.1 _ _ _ d _ _ _ ⟨none, st, tgt, rfl, rfl, ht, fun _ => k, fun h => absurd rfl h⟩
theorem r_ifnull_f (R : pf_RU G cc own FR LO ret r0 M0 K) (pc' tgt : Nat) {off : Int} {kd i : Nat} (d : decode cc pc = .ok (.ifnull off, 3)) (hp : pc + 3 = pc') (ht : (pc : Int) + off = (tgt : Int)) (k : K pc' lo st M) : K pc lo (pf_R kd i :: st) M := by
  subst hp
  exact R.1 _ _ _ d _ _ _ ⟨some (kd, i), st, tgt, rfl, rfl, ht, fun h => (by cases h), fun _ => k⟩
theorem r_ifnonnull_f (R : pf_RU G cc own FR LO ret r0 M0 K) (pc' tgt : Nat) {off : Int} (d : decode cc pc = .ok (.ifnonnull off, 3)) (hp : pc + 3 = pc') (ht : (pc : Int) + off = (tgt : Int)) (k : K pc' lo st M) : K pc lo (pf_N :: st) M := by
  subst hp
  exact R.1 _ _ _ d _ _ _ ⟨none, st, tgt, rfl, rfl, ht, fun _ => k, fun h => absurd rfl h⟩
theorem r_ifnonnull_t (R : pf_RU G cc own FR LO ret r0 M0 K) (tgt : Nat) {off : Int} {kd i : Nat} (d : decode cc pc = .ok (.ifnonnull off, 3)) (ht : (pc : Int) + off = (tgt : Int)) (k : K tgt lo st M) : K pc lo (pf_R kd i :: st) M := R.1 _ _ _ d _ _ _ ⟨some (kd, i), st, tgt, rfl, rfl, ht, fun h => (by cases h), fun _ => k⟩
theorem r_swIn (R : pf_RU G cc own FR LO ret r0 M0 K) (tgt : Nat) {dflt low high : Int} {offs : Array Int} {len : Nat} {x : Int32} (off : Int) (d : decode cc pc = .ok (.tableswitch dflt low high offs, len)) (h1 : ¬ x.toInt < low) (h2 : ¬ high < x.toInt) (ho : offs[(x.toInt - low).toNat]? = some off) (ht : (pc : Int) + off = (tgt : Int)) (k : K tgt lo st M) : K pc lo (pf_I x :: st) M := R.1 _ _ _ d _ _ _ ⟨x, st, tgt, rfl, Or.inr ⟨off, h1, h2, ho, ht⟩, k⟩
theorem r_swOut (R : pf_RU G cc own FR LO ret r0 M0 K) (tgt : Nat) {dflt low high : Int} {offs : Array Int} {len : Nat} {x : Int32} (d : decode cc pc = .ok (.tableswitch dflt low high offs, len)) (h1 : x.toInt < low ∨ high < x.toInt) (ht : (pc : Int) + dflt = (tgt : Int)) (k : K tgt lo st M) : K pc lo (pf_I x :: st) M := R.1 _ _ _ d _ _ _ ⟨x, st, tgt, rfl, Or.inl ⟨h1, ht⟩, k⟩
theorem pf_swo {x : Int32} (n : Nat) (hn : n < 1000) (h : ∀ k : Nat, k < n → ¬ x = Int32.ofNat k) : x.toInt < 0 ∨ (n : Int) - 1 < x.toInt := by
  rcases Int.lt_or_le x.toInt 0 with q | q
  · exact Or.inl q
  · refine Or.inr ?_
    rcases Int.lt_or_le ((n : Int) - 1) x.toInt with z | z
    · exact z
    · exfalso
      refine h x.toInt.toNat (by omega) ?_
      apply Int32.toInt_inj.mp
      rw [Int32.toInt_ofNat_small (by omega)]
      omega
theorem r_getfield (R : pf_RU G cc own FR LO ret r0 M0 K) (pc' : Nat) {kd i k0 ci idx : Nat} {ty : FieldType} {fin : Bool} {v : pf_V} (d : decode cc pc = .ok (.getfield idx, 3)) (hp : pc + 3 = pc') (hF : pf_Fl own idx ci k0 ty fin) (hci : pf_ci kd = some ci) (hv : pf_fv kd i k0 (M kd i) = v) (k : K pc' lo (v :: st) M) : K pc lo (pf_R kd i :: st) M := by
  subst hp
  exact R.1 _ _ _ d _ _ _ ⟨kd, i, k0, ci, ty, fin, st, rfl, rfl, hci, hF, hv ▸ k⟩
theorem r_putfield (R : pf_RU G cc own FR LO ret r0 M0 K) (pc' : Nat) {kd i k0 ci idx : Nat} {ty : FieldType} {x : Int32} (d : decode cc pc = .ok (.putfield idx, 3)) (hp : pc + 3 = pc') (hF : pf_Fl own idx ci k0 ty false) (hci : pf_ci kd = some ci) (hr : pf_rs kd i k0 = none) (hn : narrow ty (.int x) = .int x) (hf : fits ty (.int x) = true) (k : K pc' lo (st) (pf_up M kd i k0 x)) : K pc lo (pf_I x :: pf_R kd i :: st) M := by
  subst hp
  exact R.1 _ _ _ d _ _ _ ⟨kd, i, k0, ci, ty, x, st, rfl, rfl, hci, hr, hF, hn, hf, k⟩
theorem r_iaload (R : pf_RU G cc own FR LO ret r0 M0 K) (pc' : Nat) {kd i n : Nat} {j : Int32} (d : decode cc pc = .ok (.iaload, 1)) (hp : pc + 1 = pc') (hk : pf_intK kd n) (hin : vp_in j n) (k : K pc' lo (pf_I (M kd i j.toNatClampNeg) :: st) M) : K pc lo (pf_I j :: pf_R kd i :: st) M := by
  subst hp
  exact R.1 _ _ _ d _ _ _ ⟨kd, i, n, j, st, rfl, rfl, hk, hin, k⟩
theorem r_iastore (R : pf_RU G cc own FR LO ret r0 M0 K) (pc' : Nat) {kd i n : Nat} {j x : Int32} (d : decode cc pc = .ok (.iastore, 1)) (hp : pc + 1 = pc') (hk : pf_intK kd n) (hin : vp_in j n) (k : K pc' lo (st) (pf_up M kd i j.toNatClampNeg x)) : K pc lo (pf_I x :: pf_I j :: pf_R kd i :: st) M := by
  subst hp
  exact R.1 _ _ _ d _ _ _ ⟨kd, i, n, j, x, st, rfl, rfl, hk, hin, k⟩
theorem r_caload (R : pf_RU G cc own FR LO ret r0 M0 K) (pc' : Nat) {kd i n : Nat} {j : Int32} (d : decode cc pc = .ok (.caload, 1)) (hp : pc + 1 = pc') (hk : pf_ci kd = none) (hk2 : pf_ar kd = some (1, n)) (hin : vp_in j n) (k : K pc' lo (pf_I (M kd i j.toNatClampNeg) :: st) M) : K pc lo (pf_I j :: pf_R kd i :: st) M := by
  subst hp
  exact R.1 _ _ _ d _ _ _ ⟨kd, i, n, j, st, rfl, rfl, hk, hk2, hin, k⟩
theorem r_castore (R : pf_RU G cc own FR LO ret r0 M0 K) (pc' : Nat) {kd i n : Nat} {j x : Int32} (d : decode cc pc = .ok (.castore, 1)) (hp : pc + 1 = pc') (hk : pf_ci kd = none) (hk2 : pf_ar kd = some (1, n)) (hin : vp_in j n) (k : K pc' lo (st) (pf_up M kd i j.toNatClampNeg (vp_nar .char x))) : K pc lo (pf_I x :: pf_I j :: pf_R kd i :: st) M := by
  subst hp
  exact R.1 _ _ _ d _ _ _ ⟨kd, i, n, j, x, st, rfl, rfl, hk, hk2, hin, k⟩
theorem r_aaload (R : pf_RU G cc own FR LO ret r0 M0 K) (pc' : Nat) {kd i n t el : Nat} {j : Int32} (d : decode cc pc = .ok (.aaload, 1)) (hp : pc + 1 = pc') (hk : pf_ci kd = none) (hk2 : pf_ar kd = none) (hk3 : pf_ra kd = some (t, n, el)) (hin : vp_in j n) (k : K pc' lo (pf_R el j.toNatClampNeg :: st) M) : K pc lo (pf_I j :: pf_R kd i :: st) M := by
  subst hp
  exact R.1 _ _ _ d _ _ _ ⟨kd, i, n, t, el, j, st, rfl, rfl, hk, hk2, hk3, hin, k⟩
theorem r_arraylength (R : pf_RU G cc own FR LO ret r0 M0 K) (pc' : Nat) {kd i n : Nat} (d : decode cc pc = .ok (.arraylength, 1)) (hp : pc + 1 = pc') (hk : pf_intK kd n) (k : K pc' lo (pf_I (Int32.ofNat n) :: st) M) : K pc lo (pf_R kd i :: st) M := by
  subst hp
  exact R.1 _ _ _ d _ _ _ ⟨kd, i, n, st, rfl, rfl, hk, k⟩
theorem r_ireturn (R : pf_RU G cc own FR LO ret r0 M0 K) {x : Int32} {ty : FieldType} (d : decode cc pc = .ok (.ireturn, 1)) (hr : ret = some ty) (hn : narrow ty (.int x) = .int x) (h0 : r0 = some (pf_I x)) (hM : M = M0) : K pc lo [pf_I x] M := R.1 _ _ _ d _ _ _ ⟨x, ty, rfl, rfl, hr, hn, h0, hM⟩
theorem r_lreturn (R : pf_RU G cc own FR LO ret r0 M0 K) {x : Int64} (d : decode cc pc = .ok (.lreturn, 1)) (hr : ret = some .long) (h0 : r0 = some (pf_L x)) (hM : M = M0) : K pc lo [pf_L x] M := R.1 _ _ _ d _ _ _ ⟨x, rfl, rfl, hr, h0, hM⟩
theorem r_areturn (R : pf_RU G cc own FR LO ret r0 M0 K) {q : Option (Nat × Nat)} {n : String} (d : decode cc pc = .ok (.areturn, 1)) (hr : ret = some (.object n)) (h0 : r0 = some (.inr (.inr (.inl q)))) (hM : M = M0) : K pc lo [.inr (.inr (.inl q))] M := R.1 _ _ _ d _ _ _ ⟨q, n, rfl, rfl, hr, h0, hM⟩
theorem r_return_ (R : pf_RU G cc own FR LO ret r0 M0 K) (d : decode cc pc = .ok (.return_, 1)) (hr : ret = none) (h0 : r0 = none) (hM : M = M0) : K pc lo [] M := R.1 _ _ _ d _ _ _ ⟨rfl, rfl, hr, h0, hM⟩
theorem r_fg (R : pf_RU G cc own FR LO ret r0 M0 K) (mask : List Bool) (h : pf_fg mask lo = lo') (k : K pc lo' st M) : K pc lo st M := R.2 pc mask lo st M (h ▸ k)
theorem r_cvI0 (R : pf_RU G cc own FR LO ret r0 M0 K) (pc' : Nat) {idx nL fr lo2 kd i ci : Nat} {y : MethodName} {c2 : ByteArray} {rt : Option FieldType} {M' : pf_M} {x : Int32} (d : decode cc pc = .ok (.invokevirtual idx, 3)) (hp : pc + 3 = pc') (hL : pf_LkV own idx ci y c2 nL rt 0) (hci : pf_ci kd = some ci) (hM : pf_Met G y c2 nL rt fr lo2 (pf_R kd i :: []) M (some (pf_I x)) M') (hw : Nat.ble (pf_wd st) 8 = true) (h1 : Nat.ble (fr + 1) FR = true) (h2 : Nat.ble (8 + (nL + 11) + lo2) LO = true) (k : K pc' lo (pf_I x :: st) M') : K pc lo (pf_R kd i :: st) M := by
  subst hp
  exact R.1 _ _ _ d _ _ _ ⟨y, c2, nL, rt, fr, lo2, [], kd, i, ci, st, _, M', rfl, rfl, Nat.le_of_ble_eq_true hw, hci, hL, Nat.le_of_ble_eq_true h1, Nat.le_of_ble_eq_true h2, hM, k⟩
theorem r_cvL0 (R : pf_RU G cc own FR LO ret r0 M0 K) (pc' : Nat) {idx nL fr lo2 kd i ci : Nat} {y : MethodName} {c2 : ByteArray} {rt : Option FieldType} {M' : pf_M} {x : Int64} (d : decode cc pc = .ok (.invokevirtual idx, 3)) (hp : pc + 3 = pc') (hL : pf_LkV own idx ci y c2 nL rt 0) (hci : pf_ci kd = some ci) (hM : pf_Met G y c2 nL rt fr lo2 (pf_R kd i :: []) M (some (pf_L x)) M') (hw : Nat.ble (pf_wd st) 8 = true) (h1 : Nat.ble (fr + 1) FR = true) (h2 : Nat.ble (8 + (nL + 11) + lo2) LO = true) (k : K pc' lo (pf_L x :: st) M') : K pc lo (pf_R kd i :: st) M := by
  subst hp
  exact R.1 _ _ _ d _ _ _ ⟨y, c2, nL, rt, fr, lo2, [], kd, i, ci, st, _, M', rfl, rfl, Nat.le_of_ble_eq_true hw, hci, hL, Nat.le_of_ble_eq_true h1, Nat.le_of_ble_eq_true h2, hM, k⟩
theorem r_cvQ0 (R : pf_RU G cc own FR LO ret r0 M0 K) (pc' : Nat) {idx nL fr lo2 kd i ci : Nat} {y : MethodName} {c2 : ByteArray} {rt : Option FieldType} {M' : pf_M} {x : Option (Nat × Nat)} (d : decode cc pc = .ok (.invokevirtual idx, 3)) (hp : pc + 3 = pc') (hL : pf_LkV own idx ci y c2 nL rt 0) (hci : pf_ci kd = some ci) (hM : pf_Met G y c2 nL rt fr lo2 (pf_R kd i :: []) M (some (.inr (.inr (.inl x)))) M') (hw : Nat.ble (pf_wd st) 8 = true) (h1 : Nat.ble (fr + 1) FR = true) (h2 : Nat.ble (8 + (nL + 11) + lo2) LO = true) (k : K pc' lo (.inr (.inr (.inl x)) :: st) M') : K pc lo (pf_R kd i :: st) M := by
  subst hp
  exact R.1 _ _ _ d _ _ _ ⟨y, c2, nL, rt, fr, lo2, [], kd, i, ci, st, _, M', rfl, rfl, Nat.le_of_ble_eq_true hw, hci, hL, Nat.le_of_ble_eq_true h1, Nat.le_of_ble_eq_true h2, hM, k⟩
theorem r_cvV0 (R : pf_RU G cc own FR LO ret r0 M0 K) (pc' : Nat) {idx nL fr lo2 kd i ci : Nat} {y : MethodName} {c2 : ByteArray} {rt : Option FieldType} {M' : pf_M} (d : decode cc pc = .ok (.invokevirtual idx, 3)) (hp : pc + 3 = pc') (hL : pf_LkV own idx ci y c2 nL rt 0) (hci : pf_ci kd = some ci) (hM : pf_Met G y c2 nL rt fr lo2 (pf_R kd i :: []) M (none) M') (hw : Nat.ble (pf_wd st) 8 = true) (h1 : Nat.ble (fr + 1) FR = true) (h2 : Nat.ble (8 + (nL + 11) + lo2) LO = true) (k : K pc' lo (st) M') : K pc lo (pf_R kd i :: st) M := by
  subst hp
  exact R.1 _ _ _ d _ _ _ ⟨y, c2, nL, rt, fr, lo2, [], kd, i, ci, st, _, M', rfl, rfl, Nat.le_of_ble_eq_true hw, hci, hL, Nat.le_of_ble_eq_true h1, Nat.le_of_ble_eq_true h2, hM, k⟩
theorem r_cvI1 (R : pf_RU G cc own FR LO ret r0 M0 K) (pc' : Nat) {idx nL fr lo2 kd i ci : Nat} {y : MethodName} {c2 : ByteArray} {rt : Option FieldType} {M' : pf_M} {a0 : pf_V} {x : Int32} (d : decode cc pc = .ok (.invokevirtual idx, 3)) (hp : pc + 3 = pc') (hL : pf_LkV own idx ci y c2 nL rt 1) (hci : pf_ci kd = some ci) (hM : pf_Met G y c2 nL rt fr lo2 (pf_R kd i :: [a0]) M (some (pf_I x)) M') (hw : Nat.ble (pf_wd st) 8 = true) (h1 : Nat.ble (fr + 1) FR = true) (h2 : Nat.ble (8 + (nL + 11) + lo2) LO = true) (k : K pc' lo (pf_I x :: st) M') : K pc lo (a0 :: pf_R kd i :: st) M := by
  subst hp
  exact R.1 _ _ _ d _ _ _ ⟨y, c2, nL, rt, fr, lo2, [a0], kd, i, ci, st, _, M', rfl, rfl, Nat.le_of_ble_eq_true hw, hci, hL, Nat.le_of_ble_eq_true h1, Nat.le_of_ble_eq_true h2, hM, k⟩
theorem r_cvL1 (R : pf_RU G cc own FR LO ret r0 M0 K) (pc' : Nat) {idx nL fr lo2 kd i ci : Nat} {y : MethodName} {c2 : ByteArray} {rt : Option FieldType} {M' : pf_M} {a0 : pf_V} {x : Int64} (d : decode cc pc = .ok (.invokevirtual idx, 3)) (hp : pc + 3 = pc') (hL : pf_LkV own idx ci y c2 nL rt 1) (hci : pf_ci kd = some ci) (hM : pf_Met G y c2 nL rt fr lo2 (pf_R kd i :: [a0]) M (some (pf_L x)) M') (hw : Nat.ble (pf_wd st) 8 = true) (h1 : Nat.ble (fr + 1) FR = true) (h2 : Nat.ble (8 + (nL + 11) + lo2) LO = true) (k : K pc' lo (pf_L x :: st) M') : K pc lo (a0 :: pf_R kd i :: st) M := by
  subst hp
  exact R.1 _ _ _ d _ _ _ ⟨y, c2, nL, rt, fr, lo2, [a0], kd, i, ci, st, _, M', rfl, rfl, Nat.le_of_ble_eq_true hw, hci, hL, Nat.le_of_ble_eq_true h1, Nat.le_of_ble_eq_true h2, hM, k⟩
theorem r_cvQ1 (R : pf_RU G cc own FR LO ret r0 M0 K) (pc' : Nat) {idx nL fr lo2 kd i ci : Nat} {y : MethodName} {c2 : ByteArray} {rt : Option FieldType} {M' : pf_M} {a0 : pf_V} {x : Option (Nat × Nat)} (d : decode cc pc = .ok (.invokevirtual idx, 3)) (hp : pc + 3 = pc') (hL : pf_LkV own idx ci y c2 nL rt 1) (hci : pf_ci kd = some ci) (hM : pf_Met G y c2 nL rt fr lo2 (pf_R kd i :: [a0]) M (some (.inr (.inr (.inl x)))) M') (hw : Nat.ble (pf_wd st) 8 = true) (h1 : Nat.ble (fr + 1) FR = true) (h2 : Nat.ble (8 + (nL + 11) + lo2) LO = true) (k : K pc' lo (.inr (.inr (.inl x)) :: st) M') : K pc lo (a0 :: pf_R kd i :: st) M := by
  subst hp
  exact R.1 _ _ _ d _ _ _ ⟨y, c2, nL, rt, fr, lo2, [a0], kd, i, ci, st, _, M', rfl, rfl, Nat.le_of_ble_eq_true hw, hci, hL, Nat.le_of_ble_eq_true h1, Nat.le_of_ble_eq_true h2, hM, k⟩
theorem r_cvV1 (R : pf_RU G cc own FR LO ret r0 M0 K) (pc' : Nat) {idx nL fr lo2 kd i ci : Nat} {y : MethodName} {c2 : ByteArray} {rt : Option FieldType} {M' : pf_M} {a0 : pf_V} (d : decode cc pc = .ok (.invokevirtual idx, 3)) (hp : pc + 3 = pc') (hL : pf_LkV own idx ci y c2 nL rt 1) (hci : pf_ci kd = some ci) (hM : pf_Met G y c2 nL rt fr lo2 (pf_R kd i :: [a0]) M (none) M') (hw : Nat.ble (pf_wd st) 8 = true) (h1 : Nat.ble (fr + 1) FR = true) (h2 : Nat.ble (8 + (nL + 11) + lo2) LO = true) (k : K pc' lo (st) M') : K pc lo (a0 :: pf_R kd i :: st) M := by
  subst hp
  exact R.1 _ _ _ d _ _ _ ⟨y, c2, nL, rt, fr, lo2, [a0], kd, i, ci, st, _, M', rfl, rfl, Nat.le_of_ble_eq_true hw, hci, hL, Nat.le_of_ble_eq_true h1, Nat.le_of_ble_eq_true h2, hM, k⟩
theorem r_cvI2 (R : pf_RU G cc own FR LO ret r0 M0 K) (pc' : Nat) {idx nL fr lo2 kd i ci : Nat} {y : MethodName} {c2 : ByteArray} {rt : Option FieldType} {M' : pf_M} {a0 a1 : pf_V} {x : Int32} (d : decode cc pc = .ok (.invokevirtual idx, 3)) (hp : pc + 3 = pc') (hL : pf_LkV own idx ci y c2 nL rt 2) (hci : pf_ci kd = some ci) (hM : pf_Met G y c2 nL rt fr lo2 (pf_R kd i :: [a0, a1]) M (some (pf_I x)) M') (hw : Nat.ble (pf_wd st) 8 = true) (h1 : Nat.ble (fr + 1) FR = true) (h2 : Nat.ble (8 + (nL + 11) + lo2) LO = true) (k : K pc' lo (pf_I x :: st) M') : K pc lo (a1 :: a0 :: pf_R kd i :: st) M := by
  subst hp
  exact R.1 _ _ _ d _ _ _ ⟨y, c2, nL, rt, fr, lo2, [a0, a1], kd, i, ci, st, _, M', rfl, rfl, Nat.le_of_ble_eq_true hw, hci, hL, Nat.le_of_ble_eq_true h1, Nat.le_of_ble_eq_true h2, hM, k⟩
theorem r_cvL2 (R : pf_RU G cc own FR LO ret r0 M0 K) (pc' : Nat) {idx nL fr lo2 kd i ci : Nat} {y : MethodName} {c2 : ByteArray} {rt : Option FieldType} {M' : pf_M} {a0 a1 : pf_V} {x : Int64} (d : decode cc pc = .ok (.invokevirtual idx, 3)) (hp : pc + 3 = pc') (hL : pf_LkV own idx ci y c2 nL rt 2) (hci : pf_ci kd = some ci) (hM : pf_Met G y c2 nL rt fr lo2 (pf_R kd i :: [a0, a1]) M (some (pf_L x)) M') (hw : Nat.ble (pf_wd st) 8 = true) (h1 : Nat.ble (fr + 1) FR = true) (h2 : Nat.ble (8 + (nL + 11) + lo2) LO = true) (k : K pc' lo (pf_L x :: st) M') : K pc lo (a1 :: a0 :: pf_R kd i :: st) M := by
  subst hp
  exact R.1 _ _ _ d _ _ _ ⟨y, c2, nL, rt, fr, lo2, [a0, a1], kd, i, ci, st, _, M', rfl, rfl, Nat.le_of_ble_eq_true hw, hci, hL, Nat.le_of_ble_eq_true h1, Nat.le_of_ble_eq_true h2, hM, k⟩
theorem r_cvQ2 (R : pf_RU G cc own FR LO ret r0 M0 K) (pc' : Nat) {idx nL fr lo2 kd i ci : Nat} {y : MethodName} {c2 : ByteArray} {rt : Option FieldType} {M' : pf_M} {a0 a1 : pf_V} {x : Option (Nat × Nat)} (d : decode cc pc = .ok (.invokevirtual idx, 3)) (hp : pc + 3 = pc') (hL : pf_LkV own idx ci y c2 nL rt 2) (hci : pf_ci kd = some ci) (hM : pf_Met G y c2 nL rt fr lo2 (pf_R kd i :: [a0, a1]) M (some (.inr (.inr (.inl x)))) M') (hw : Nat.ble (pf_wd st) 8 = true) (h1 : Nat.ble (fr + 1) FR = true) (h2 : Nat.ble (8 + (nL + 11) + lo2) LO = true) (k : K pc' lo (.inr (.inr (.inl x)) :: st) M') : K pc lo (a1 :: a0 :: pf_R kd i :: st) M := by
  subst hp
  exact R.1 _ _ _ d _ _ _ ⟨y, c2, nL, rt, fr, lo2, [a0, a1], kd, i, ci, st, _, M', rfl, rfl, Nat.le_of_ble_eq_true hw, hci, hL, Nat.le_of_ble_eq_true h1, Nat.le_of_ble_eq_true h2, hM, k⟩
theorem r_cvV2 (R : pf_RU G cc own FR LO ret r0 M0 K) (pc' : Nat) {idx nL fr lo2 kd i ci : Nat} {y : MethodName} {c2 : ByteArray} {rt : Option FieldType} {M' : pf_M} {a0 a1 : pf_V} (d : decode cc pc = .ok (.invokevirtual idx, 3)) (hp : pc + 3 = pc') (hL : pf_LkV own idx ci y c2 nL rt 2) (hci : pf_ci kd = some ci) (hM : pf_Met G y c2 nL rt fr lo2 (pf_R kd i :: [a0, a1]) M (none) M') (hw : Nat.ble (pf_wd st) 8 = true) (h1 : Nat.ble (fr + 1) FR = true) (h2 : Nat.ble (8 + (nL + 11) + lo2) LO = true) (k : K pc' lo (st) M') : K pc lo (a1 :: a0 :: pf_R kd i :: st) M := by
  subst hp
  exact R.1 _ _ _ d _ _ _ ⟨y, c2, nL, rt, fr, lo2, [a0, a1], kd, i, ci, st, _, M', rfl, rfl, Nat.le_of_ble_eq_true hw, hci, hL, Nat.le_of_ble_eq_true h1, Nat.le_of_ble_eq_true h2, hM, k⟩
theorem r_cvI3 (R : pf_RU G cc own FR LO ret r0 M0 K) (pc' : Nat) {idx nL fr lo2 kd i ci : Nat} {y : MethodName} {c2 : ByteArray} {rt : Option FieldType} {M' : pf_M} {a0 a1 a2 : pf_V} {x : Int32} (d : decode cc pc = .ok (.invokevirtual idx, 3)) (hp : pc + 3 = pc') (hL : pf_LkV own idx ci y c2 nL rt 3) (hci : pf_ci kd = some ci) (hM : pf_Met G y c2 nL rt fr lo2 (pf_R kd i :: [a0, a1, a2]) M (some (pf_I x)) M') (hw : Nat.ble (pf_wd st) 8 = true) (h1 : Nat.ble (fr + 1) FR = true) (h2 : Nat.ble (8 + (nL + 11) + lo2) LO = true) (k : K pc' lo (pf_I x :: st) M') : K pc lo (a2 :: a1 :: a0 :: pf_R kd i :: st) M := by
  subst hp
  exact R.1 _ _ _ d _ _ _ ⟨y, c2, nL, rt, fr, lo2, [a0, a1, a2], kd, i, ci, st, _, M', rfl, rfl, Nat.le_of_ble_eq_true hw, hci, hL, Nat.le_of_ble_eq_true h1, Nat.le_of_ble_eq_true h2, hM, k⟩
theorem r_cvL3 (R : pf_RU G cc own FR LO ret r0 M0 K) (pc' : Nat) {idx nL fr lo2 kd i ci : Nat} {y : MethodName} {c2 : ByteArray} {rt : Option FieldType} {M' : pf_M} {a0 a1 a2 : pf_V} {x : Int64} (d : decode cc pc = .ok (.invokevirtual idx, 3)) (hp : pc + 3 = pc') (hL : pf_LkV own idx ci y c2 nL rt 3) (hci : pf_ci kd = some ci) (hM : pf_Met G y c2 nL rt fr lo2 (pf_R kd i :: [a0, a1, a2]) M (some (pf_L x)) M') (hw : Nat.ble (pf_wd st) 8 = true) (h1 : Nat.ble (fr + 1) FR = true) (h2 : Nat.ble (8 + (nL + 11) + lo2) LO = true) (k : K pc' lo (pf_L x :: st) M') : K pc lo (a2 :: a1 :: a0 :: pf_R kd i :: st) M := by
  subst hp
  exact R.1 _ _ _ d _ _ _ ⟨y, c2, nL, rt, fr, lo2, [a0, a1, a2], kd, i, ci, st, _, M', rfl, rfl, Nat.le_of_ble_eq_true hw, hci, hL, Nat.le_of_ble_eq_true h1, Nat.le_of_ble_eq_true h2, hM, k⟩
theorem r_cvQ3 (R : pf_RU G cc own FR LO ret r0 M0 K) (pc' : Nat) {idx nL fr lo2 kd i ci : Nat} {y : MethodName} {c2 : ByteArray} {rt : Option FieldType} {M' : pf_M} {a0 a1 a2 : pf_V} {x : Option (Nat × Nat)} (d : decode cc pc = .ok (.invokevirtual idx, 3)) (hp : pc + 3 = pc') (hL : pf_LkV own idx ci y c2 nL rt 3) (hci : pf_ci kd = some ci) (hM : pf_Met G y c2 nL rt fr lo2 (pf_R kd i :: [a0, a1, a2]) M (some (.inr (.inr (.inl x)))) M') (hw : Nat.ble (pf_wd st) 8 = true) (h1 : Nat.ble (fr + 1) FR = true) (h2 : Nat.ble (8 + (nL + 11) + lo2) LO = true) (k : K pc' lo (.inr (.inr (.inl x)) :: st) M') : K pc lo (a2 :: a1 :: a0 :: pf_R kd i :: st) M := by
  subst hp
  exact R.1 _ _ _ d _ _ _ ⟨y, c2, nL, rt, fr, lo2, [a0, a1, a2], kd, i, ci, st, _, M', rfl, rfl, Nat.le_of_ble_eq_true hw, hci, hL, Nat.le_of_ble_eq_true h1, Nat.le_of_ble_eq_true h2, hM, k⟩
theorem r_cvV3 (R : pf_RU G cc own FR LO ret r0 M0 K) (pc' : Nat) {idx nL fr lo2 kd i ci : Nat} {y : MethodName} {c2 : ByteArray} {rt : Option FieldType} {M' : pf_M} {a0 a1 a2 : pf_V} (d : decode cc pc = .ok (.invokevirtual idx, 3)) (hp : pc + 3 = pc') (hL : pf_LkV own idx ci y c2 nL rt 3) (hci : pf_ci kd = some ci) (hM : pf_Met G y c2 nL rt fr lo2 (pf_R kd i :: [a0, a1, a2]) M (none) M') (hw : Nat.ble (pf_wd st) 8 = true) (h1 : Nat.ble (fr + 1) FR = true) (h2 : Nat.ble (8 + (nL + 11) + lo2) LO = true) (k : K pc' lo (st) M') : K pc lo (a2 :: a1 :: a0 :: pf_R kd i :: st) M := by
  subst hp
  exact R.1 _ _ _ d _ _ _ ⟨y, c2, nL, rt, fr, lo2, [a0, a1, a2], kd, i, ci, st, _, M', rfl, rfl, Nat.le_of_ble_eq_true hw, hci, hL, Nat.le_of_ble_eq_true h1, Nat.le_of_ble_eq_true h2, hM, k⟩
theorem r_cvI4 (R : pf_RU G cc own FR LO ret r0 M0 K) (pc' : Nat) {idx nL fr lo2 kd i ci : Nat} {y : MethodName} {c2 : ByteArray} {rt : Option FieldType} {M' : pf_M} {a0 a1 a2 a3 : pf_V} {x : Int32} (d : decode cc pc = .ok (.invokevirtual idx, 3)) (hp : pc + 3 = pc') (hL : pf_LkV own idx ci y c2 nL rt 4) (hci : pf_ci kd = some ci) (hM : pf_Met G y c2 nL rt fr lo2 (pf_R kd i :: [a0, a1, a2, a3]) M (some (pf_I x)) M') (hw : Nat.ble (pf_wd st) 8 = true) (h1 : Nat.ble (fr + 1) FR = true) (h2 : Nat.ble (8 + (nL + 11) + lo2) LO = true) (k : K pc' lo (pf_I x :: st) M') : K pc lo (a3 :: a2 :: a1 :: a0 :: pf_R kd i :: st) M := by
  subst hp
  exact R.1 _ _ _ d _ _ _ ⟨y, c2, nL, rt, fr, lo2, [a0, a1, a2, a3], kd, i, ci, st, _, M', rfl, rfl, Nat.le_of_ble_eq_true hw, hci, hL, Nat.le_of_ble_eq_true h1, Nat.le_of_ble_eq_true h2, hM, k⟩
theorem r_cvL4 (R : pf_RU G cc own FR LO ret r0 M0 K) (pc' : Nat) {idx nL fr lo2 kd i ci : Nat} {y : MethodName} {c2 : ByteArray} {rt : Option FieldType} {M' : pf_M} {a0 a1 a2 a3 : pf_V} {x : Int64} (d : decode cc pc = .ok (.invokevirtual idx, 3)) (hp : pc + 3 = pc') (hL : pf_LkV own idx ci y c2 nL rt 4) (hci : pf_ci kd = some ci) (hM : pf_Met G y c2 nL rt fr lo2 (pf_R kd i :: [a0, a1, a2, a3]) M (some (pf_L x)) M') (hw : Nat.ble (pf_wd st) 8 = true) (h1 : Nat.ble (fr + 1) FR = true) (h2 : Nat.ble (8 + (nL + 11) + lo2) LO = true) (k : K pc' lo (pf_L x :: st) M') : K pc lo (a3 :: a2 :: a1 :: a0 :: pf_R kd i :: st) M := by
  subst hp
  exact R.1 _ _ _ d _ _ _ ⟨y, c2, nL, rt, fr, lo2, [a0, a1, a2, a3], kd, i, ci, st, _, M', rfl, rfl, Nat.le_of_ble_eq_true hw, hci, hL, Nat.le_of_ble_eq_true h1, Nat.le_of_ble_eq_true h2, hM, k⟩
theorem r_cvQ4 (R : pf_RU G cc own FR LO ret r0 M0 K) (pc' : Nat) {idx nL fr lo2 kd i ci : Nat} {y : MethodName} {c2 : ByteArray} {rt : Option FieldType} {M' : pf_M} {a0 a1 a2 a3 : pf_V} {x : Option (Nat × Nat)} (d : decode cc pc = .ok (.invokevirtual idx, 3)) (hp : pc + 3 = pc') (hL : pf_LkV own idx ci y c2 nL rt 4) (hci : pf_ci kd = some ci) (hM : pf_Met G y c2 nL rt fr lo2 (pf_R kd i :: [a0, a1, a2, a3]) M (some (.inr (.inr (.inl x)))) M') (hw : Nat.ble (pf_wd st) 8 = true) (h1 : Nat.ble (fr + 1) FR = true) (h2 : Nat.ble (8 + (nL + 11) + lo2) LO = true) (k : K pc' lo (.inr (.inr (.inl x)) :: st) M') : K pc lo (a3 :: a2 :: a1 :: a0 :: pf_R kd i :: st) M := by
  subst hp
  exact R.1 _ _ _ d _ _ _ ⟨y, c2, nL, rt, fr, lo2, [a0, a1, a2, a3], kd, i, ci, st, _, M', rfl, rfl, Nat.le_of_ble_eq_true hw, hci, hL, Nat.le_of_ble_eq_true h1, Nat.le_of_ble_eq_true h2, hM, k⟩
theorem r_cvV4 (R : pf_RU G cc own FR LO ret r0 M0 K) (pc' : Nat) {idx nL fr lo2 kd i ci : Nat} {y : MethodName} {c2 : ByteArray} {rt : Option FieldType} {M' : pf_M} {a0 a1 a2 a3 : pf_V} (d : decode cc pc = .ok (.invokevirtual idx, 3)) (hp : pc + 3 = pc') (hL : pf_LkV own idx ci y c2 nL rt 4) (hci : pf_ci kd = some ci) (hM : pf_Met G y c2 nL rt fr lo2 (pf_R kd i :: [a0, a1, a2, a3]) M (none) M') (hw : Nat.ble (pf_wd st) 8 = true) (h1 : Nat.ble (fr + 1) FR = true) (h2 : Nat.ble (8 + (nL + 11) + lo2) LO = true) (k : K pc' lo (st) M') : K pc lo (a3 :: a2 :: a1 :: a0 :: pf_R kd i :: st) M := by
  subst hp
  exact R.1 _ _ _ d _ _ _ ⟨y, c2, nL, rt, fr, lo2, [a0, a1, a2, a3], kd, i, ci, st, _, M', rfl, rfl, Nat.le_of_ble_eq_true hw, hci, hL, Nat.le_of_ble_eq_true h1, Nat.le_of_ble_eq_true h2, hM, k⟩
theorem r_cvI5 (R : pf_RU G cc own FR LO ret r0 M0 K) (pc' : Nat) {idx nL fr lo2 kd i ci : Nat} {y : MethodName} {c2 : ByteArray} {rt : Option FieldType} {M' : pf_M} {a0 a1 a2 a3 a4 : pf_V} {x : Int32} (d : decode cc pc = .ok (.invokevirtual idx, 3)) (hp : pc + 3 = pc') (hL : pf_LkV own idx ci y c2 nL rt 5) (hci : pf_ci kd = some ci) (hM : pf_Met G y c2 nL rt fr lo2 (pf_R kd i :: [a0, a1, a2, a3, a4]) M (some (pf_I x)) M') (hw : Nat.ble (pf_wd st) 8 = true) (h1 : Nat.ble (fr + 1) FR = true) (h2 : Nat.ble (8 + (nL + 11) + lo2) LO = true) (k : K pc' lo (pf_I x :: st) M') : K pc lo (a4 :: a3 :: a2 :: a1 :: a0 :: pf_R kd i :: st) M := by
  subst hp
  exact R.1 _ _ _ d _ _ _ ⟨y, c2, nL, rt, fr, lo2, [a0, a1, a2, a3, a4], kd, i, ci, st, _, M', rfl, rfl, Nat.le_of_ble_eq_true hw, hci, hL, Nat.le_of_ble_eq_true h1, Nat.le_of_ble_eq_true h2, hM, k⟩
theorem r_cvL5 (R : pf_RU G cc own FR LO ret r0 M0 K) (pc' : Nat) {idx nL fr lo2 kd i ci : Nat} {y : MethodName} {c2 : ByteArray} {rt : Option FieldType} {M' : pf_M} {a0 a1 a2 a3 a4 : pf_V} {x : Int64} (d : decode cc pc = .ok (.invokevirtual idx, 3)) (hp : pc + 3 = pc') (hL : pf_LkV own idx ci y c2 nL rt 5) (hci : pf_ci kd = some ci) (hM : pf_Met G y c2 nL rt fr lo2 (pf_R kd i :: [a0, a1, a2, a3, a4]) M (some (pf_L x)) M') (hw : Nat.ble (pf_wd st) 8 = true) (h1 : Nat.ble (fr + 1) FR = true) (h2 : Nat.ble (8 + (nL + 11) + lo2) LO = true) (k : K pc' lo (pf_L x :: st) M') : K pc lo (a4 :: a3 :: a2 :: a1 :: a0 :: pf_R kd i :: st) M := by
  subst hp
  exact R.1 _ _ _ d _ _ _ ⟨y, c2, nL, rt, fr, lo2, [a0, a1, a2, a3, a4], kd, i, ci, st, _, M', rfl, rfl, Nat.le_of_ble_eq_true hw, hci, hL, Nat.le_of_ble_eq_true h1, Nat.le_of_ble_eq_true h2, hM, k⟩
theorem r_cvQ5 (R : pf_RU G cc own FR LO ret r0 M0 K) (pc' : Nat) {idx nL fr lo2 kd i ci : Nat} {y : MethodName} {c2 : ByteArray} {rt : Option FieldType} {M' : pf_M} {a0 a1 a2 a3 a4 : pf_V} {x : Option (Nat × Nat)} (d : decode cc pc = .ok (.invokevirtual idx, 3)) (hp : pc + 3 = pc') (hL : pf_LkV own idx ci y c2 nL rt 5) (hci : pf_ci kd = some ci) (hM : pf_Met G y c2 nL rt fr lo2 (pf_R kd i :: [a0, a1, a2, a3, a4]) M (some (.inr (.inr (.inl x)))) M') (hw : Nat.ble (pf_wd st) 8 = true) (h1 : Nat.ble (fr + 1) FR = true) (h2 : Nat.ble (8 + (nL + 11) + lo2) LO = true) (k : K pc' lo (.inr (.inr (.inl x)) :: st) M') : K pc lo (a4 :: a3 :: a2 :: a1 :: a0 :: pf_R kd i :: st) M := by
  subst hp
  exact R.1 _ _ _ d _ _ _ ⟨y, c2, nL, rt, fr, lo2, [a0, a1, a2, a3, a4], kd, i, ci, st, _, M', rfl, rfl, Nat.le_of_ble_eq_true hw, hci, hL, Nat.le_of_ble_eq_true h1, Nat.le_of_ble_eq_true h2, hM, k⟩
theorem r_cvV5 (R : pf_RU G cc own FR LO ret r0 M0 K) (pc' : Nat) {idx nL fr lo2 kd i ci : Nat} {y : MethodName} {c2 : ByteArray} {rt : Option FieldType} {M' : pf_M} {a0 a1 a2 a3 a4 : pf_V} (d : decode cc pc = .ok (.invokevirtual idx, 3)) (hp : pc + 3 = pc') (hL : pf_LkV own idx ci y c2 nL rt 5) (hci : pf_ci kd = some ci) (hM : pf_Met G y c2 nL rt fr lo2 (pf_R kd i :: [a0, a1, a2, a3, a4]) M (none) M') (hw : Nat.ble (pf_wd st) 8 = true) (h1 : Nat.ble (fr + 1) FR = true) (h2 : Nat.ble (8 + (nL + 11) + lo2) LO = true) (k : K pc' lo (st) M') : K pc lo (a4 :: a3 :: a2 :: a1 :: a0 :: pf_R kd i :: st) M := by
  subst hp
  exact R.1 _ _ _ d _ _ _ ⟨y, c2, nL, rt, fr, lo2, [a0, a1, a2, a3, a4], kd, i, ci, st, _, M', rfl, rfl, Nat.le_of_ble_eq_true hw, hci, hL, Nat.le_of_ble_eq_true h1, Nat.le_of_ble_eq_true h2, hM, k⟩
theorem r_csI0 (R : pf_RU G cc own FR LO ret r0 M0 K) (pc' : Nat) {idx nL fr lo2 : Nat} {y : MethodName} {c2 : ByteArray} {rt : Option FieldType} {M' : pf_M} {x : Int32} (d : decode cc pc = .ok (.invokestatic idx, 3)) (hp : pc + 3 = pc') (hL : pf_LkS own idx y c2 nL rt 0) (hM : pf_Met G y c2 nL rt fr lo2 [] M (some (pf_I x)) M') (hw : Nat.ble (pf_wd st) 8 = true) (h1 : Nat.ble (fr + 1) FR = true) (h2 : Nat.ble (8 + (nL + 11) + lo2) LO = true) (k : K pc' lo (pf_I x :: st) M') : K pc lo (st) M := by
  subst hp
  exact R.1 _ _ _ d _ _ _ (Or.inl ⟨y, c2, nL, rt, fr, lo2, [], st, _, M', rfl, rfl, Nat.le_of_ble_eq_true hw, hL, Nat.le_of_ble_eq_true h1, Nat.le_of_ble_eq_true h2, hM, k⟩)
theorem r_csL0 (R : pf_RU G cc own FR LO ret r0 M0 K) (pc' : Nat) {idx nL fr lo2 : Nat} {y : MethodName} {c2 : ByteArray} {rt : Option FieldType} {M' : pf_M} {x : Int64} (d : decode cc pc = .ok (.invokestatic idx, 3)) (hp : pc + 3 = pc') (hL : pf_LkS own idx y c2 nL rt 0) (hM : pf_Met G y c2 nL rt fr lo2 [] M (some (pf_L x)) M') (hw : Nat.ble (pf_wd st) 8 = true) (h1 : Nat.ble (fr + 1) FR = true) (h2 : Nat.ble (8 + (nL + 11) + lo2) LO = true) (k : K pc' lo (pf_L x :: st) M') : K pc lo (st) M := by
  subst hp
  exact R.1 _ _ _ d _ _ _ (Or.inl ⟨y, c2, nL, rt, fr, lo2, [], st, _, M', rfl, rfl, Nat.le_of_ble_eq_true hw, hL, Nat.le_of_ble_eq_true h1, Nat.le_of_ble_eq_true h2, hM, k⟩)
theorem r_csQ0 (R : pf_RU G cc own FR LO ret r0 M0 K) (pc' : Nat) {idx nL fr lo2 : Nat} {y : MethodName} {c2 : ByteArray} {rt : Option FieldType} {M' : pf_M} {x : Option (Nat × Nat)} (d : decode cc pc = .ok (.invokestatic idx, 3)) (hp : pc + 3 = pc') (hL : pf_LkS own idx y c2 nL rt 0) (hM : pf_Met G y c2 nL rt fr lo2 [] M (some (.inr (.inr (.inl x)))) M') (hw : Nat.ble (pf_wd st) 8 = true) (h1 : Nat.ble (fr + 1) FR = true) (h2 : Nat.ble (8 + (nL + 11) + lo2) LO = true) (k : K pc' lo (.inr (.inr (.inl x)) :: st) M') : K pc lo (st) M := by
  subst hp
  exact R.1 _ _ _ d _ _ _ (Or.inl ⟨y, c2, nL, rt, fr, lo2, [], st, _, M', rfl, rfl, Nat.le_of_ble_eq_true hw, hL, Nat.le_of_ble_eq_true h1, Nat.le_of_ble_eq_true h2, hM, k⟩)
theorem r_csV0 (R : pf_RU G cc own FR LO ret r0 M0 K) (pc' : Nat) {idx nL fr lo2 : Nat} {y : MethodName} {c2 : ByteArray} {rt : Option FieldType} {M' : pf_M} (d : decode cc pc = .ok (.invokestatic idx, 3)) (hp : pc + 3 = pc') (hL : pf_LkS own idx y c2 nL rt 0) (hM : pf_Met G y c2 nL rt fr lo2 [] M (none) M') (hw : Nat.ble (pf_wd st) 8 = true) (h1 : Nat.ble (fr + 1) FR = true) (h2 : Nat.ble (8 + (nL + 11) + lo2) LO = true) (k : K pc' lo (st) M') : K pc lo (st) M := by
  subst hp
  exact R.1 _ _ _ d _ _ _ (Or.inl ⟨y, c2, nL, rt, fr, lo2, [], st, _, M', rfl, rfl, Nat.le_of_ble_eq_true hw, hL, Nat.le_of_ble_eq_true h1, Nat.le_of_ble_eq_true h2, hM, k⟩)
theorem r_csI1 (R : pf_RU G cc own FR LO ret r0 M0 K) (pc' : Nat) {idx nL fr lo2 : Nat} {y : MethodName} {c2 : ByteArray} {rt : Option FieldType} {M' : pf_M} {a0 : pf_V} {x : Int32} (d : decode cc pc = .ok (.invokestatic idx, 3)) (hp : pc + 3 = pc') (hL : pf_LkS own idx y c2 nL rt 1) (hM : pf_Met G y c2 nL rt fr lo2 [a0] M (some (pf_I x)) M') (hw : Nat.ble (pf_wd st) 8 = true) (h1 : Nat.ble (fr + 1) FR = true) (h2 : Nat.ble (8 + (nL + 11) + lo2) LO = true) (k : K pc' lo (pf_I x :: st) M') : K pc lo (a0 :: st) M := by
  subst hp
  exact R.1 _ _ _ d _ _ _ (Or.inl ⟨y, c2, nL, rt, fr, lo2, [a0], st, _, M', rfl, rfl, Nat.le_of_ble_eq_true hw, hL, Nat.le_of_ble_eq_true h1, Nat.le_of_ble_eq_true h2, hM, k⟩)
theorem r_csL1 (R : pf_RU G cc own FR LO ret r0 M0 K) (pc' : Nat) {idx nL fr lo2 : Nat} {y : MethodName} {c2 : ByteArray} {rt : Option FieldType} {M' : pf_M} {a0 : pf_V} {x : Int64} (d : decode cc pc = .ok (.invokestatic idx, 3)) (hp : pc + 3 = pc') (hL : pf_LkS own idx y c2 nL rt 1) (hM : pf_Met G y c2 nL rt fr lo2 [a0] M (some (pf_L x)) M') (hw : Nat.ble (pf_wd st) 8 = true) (h1 : Nat.ble (fr + 1) FR = true) (h2 : Nat.ble (8 + (nL + 11) + lo2) LO = true) (k : K pc' lo (pf_L x :: st) M') : K pc lo (a0 :: st) M := by
  subst hp
  exact R.1 _ _ _ d _ _ _ (Or.inl ⟨y, c2, nL, rt, fr, lo2, [a0], st, _, M', rfl, rfl, Nat.le_of_ble_eq_true hw, hL, Nat.le_of_ble_eq_true h1, Nat.le_of_ble_eq_true h2, hM, k⟩)
theorem r_csQ1 (R : pf_RU G cc own FR LO ret r0 M0 K) (pc' : Nat) {idx nL fr lo2 : Nat} {y : MethodName} {c2 : ByteArray} {rt : Option FieldType} {M' : pf_M} {a0 : pf_V} {x : Option (Nat × Nat)} (d : decode cc pc = .ok (.invokestatic idx, 3)) (hp : pc + 3 = pc') (hL : pf_LkS own idx y c2 nL rt 1) (hM : pf_Met G y c2 nL rt fr lo2 [a0] M (some (.inr (.inr (.inl x)))) M') (hw : Nat.ble (pf_wd st) 8 = true) (h1 : Nat.ble (fr + 1) FR = true) (h2 : Nat.ble (8 + (nL + 11) + lo2) LO = true) (k : K pc' lo (.inr (.inr (.inl x)) :: st) M') : K pc lo (a0 :: st) M := by
  subst hp
  exact R.1 _ _ _ d _ _ _ (Or.inl ⟨y, c2, nL, rt, fr, lo2, [a0], st, _, M', rfl, rfl, Nat.le_of_ble_eq_true hw, hL, Nat.le_of_ble_eq_true h1, Nat.le_of_ble_eq_true h2, hM, k⟩)
theorem r_csV1 (R : pf_RU G cc own FR LO ret r0 M0 K) (pc' : Nat) {idx nL fr lo2 : Nat} {y : MethodName} {c2 : ByteArray} {rt : Option FieldType} {M' : pf_M} {a0 : pf_V} (d : decode cc pc = .ok (.invokestatic idx, 3)) (hp : pc + 3 = pc') (hL : pf_LkS own idx y c2 nL rt 1) (hM : pf_Met G y c2 nL rt fr lo2 [a0] M (none) M') (hw : Nat.ble (pf_wd st) 8 = true) (h1 : Nat.ble (fr + 1) FR = true) (h2 : Nat.ble (8 + (nL + 11) + lo2) LO = true) (k : K pc' lo (st) M') : K pc lo (a0 :: st) M := by
  subst hp
  exact R.1 _ _ _ d _ _ _ (Or.inl ⟨y, c2, nL, rt, fr, lo2, [a0], st, _, M', rfl, rfl, Nat.le_of_ble_eq_true hw, hL, Nat.le_of_ble_eq_true h1, Nat.le_of_ble_eq_true h2, hM, k⟩)
theorem r_csI2 (R : pf_RU G cc own FR LO ret r0 M0 K) (pc' : Nat) {idx nL fr lo2 : Nat} {y : MethodName} {c2 : ByteArray} {rt : Option FieldType} {M' : pf_M} {a0 a1 : pf_V} {x : Int32} (d : decode cc pc = .ok (.invokestatic idx, 3)) (hp : pc + 3 = pc') (hL : pf_LkS own idx y c2 nL rt 2) (hM : pf_Met G y c2 nL rt fr lo2 [a0, a1] M (some (pf_I x)) M') (hw : Nat.ble (pf_wd st) 8 = true) (h1 : Nat.ble (fr + 1) FR = true) (h2 : Nat.ble (8 + (nL + 11) + lo2) LO = true) (k : K pc' lo (pf_I x :: st) M') : K pc lo (a1 :: a0 :: st) M := by
  subst hp
  exact R.1 _ _ _ d _ _ _ (Or.inl ⟨y, c2, nL, rt, fr, lo2, [a0, a1], st, _, M', rfl, rfl, Nat.le_of_ble_eq_true hw, hL, Nat.le_of_ble_eq_true h1, Nat.le_of_ble_eq_true h2, hM, k⟩)
theorem r_csL2 (R : pf_RU G cc own FR LO ret r0 M0 K) (pc' : Nat) {idx nL fr lo2 : Nat} {y : MethodName} {c2 : ByteArray} {rt : Option FieldType} {M' : pf_M} {a0 a1 : pf_V} {x : Int64} (d : decode cc pc = .ok (.invokestatic idx, 3)) (hp : pc + 3 = pc') (hL : pf_LkS own idx y c2 nL rt 2) (hM : pf_Met G y c2 nL rt fr lo2 [a0, a1] M (some (pf_L x)) M') (hw : Nat.ble (pf_wd st) 8 = true) (h1 : Nat.ble (fr + 1) FR = true) (h2 : Nat.ble (8 + (nL + 11) + lo2) LO = true) (k : K pc' lo (pf_L x :: st) M') : K pc lo (a1 :: a0 :: st) M := by
  subst hp
  exact R.1 _ _ _ d _ _ _ (Or.inl ⟨y, c2, nL, rt, fr, lo2, [a0, a1], st, _, M', rfl, rfl, Nat.le_of_ble_eq_true hw, hL, Nat.le_of_ble_eq_true h1, Nat.le_of_ble_eq_true h2, hM, k⟩)
theorem r_csQ2 (R : pf_RU G cc own FR LO ret r0 M0 K) (pc' : Nat) {idx nL fr lo2 : Nat} {y : MethodName} {c2 : ByteArray} {rt : Option FieldType} {M' : pf_M} {a0 a1 : pf_V} {x : Option (Nat × Nat)} (d : decode cc pc = .ok (.invokestatic idx, 3)) (hp : pc + 3 = pc') (hL : pf_LkS own idx y c2 nL rt 2) (hM : pf_Met G y c2 nL rt fr lo2 [a0, a1] M (some (.inr (.inr (.inl x)))) M') (hw : Nat.ble (pf_wd st) 8 = true) (h1 : Nat.ble (fr + 1) FR = true) (h2 : Nat.ble (8 + (nL + 11) + lo2) LO = true) (k : K pc' lo (.inr (.inr (.inl x)) :: st) M') : K pc lo (a1 :: a0 :: st) M := by
  subst hp
  exact R.1 _ _ _ d _ _ _ (Or.inl ⟨y, c2, nL, rt, fr, lo2, [a0, a1], st, _, M', rfl, rfl, Nat.le_of_ble_eq_true hw, hL, Nat.le_of_ble_eq_true h1, Nat.le_of_ble_eq_true h2, hM, k⟩)
theorem r_csV2 (R : pf_RU G cc own FR LO ret r0 M0 K) (pc' : Nat) {idx nL fr lo2 : Nat} {y : MethodName} {c2 : ByteArray} {rt : Option FieldType} {M' : pf_M} {a0 a1 : pf_V} (d : decode cc pc = .ok (.invokestatic idx, 3)) (hp : pc + 3 = pc') (hL : pf_LkS own idx y c2 nL rt 2) (hM : pf_Met G y c2 nL rt fr lo2 [a0, a1] M (none) M') (hw : Nat.ble (pf_wd st) 8 = true) (h1 : Nat.ble (fr + 1) FR = true) (h2 : Nat.ble (8 + (nL + 11) + lo2) LO = true) (k : K pc' lo (st) M') : K pc lo (a1 :: a0 :: st) M := by
  subst hp
  exact R.1 _ _ _ d _ _ _ (Or.inl ⟨y, c2, nL, rt, fr, lo2, [a0, a1], st, _, M', rfl, rfl, Nat.le_of_ble_eq_true hw, hL, Nat.le_of_ble_eq_true h1, Nat.le_of_ble_eq_true h2, hM, k⟩)
theorem r_csI3 (R : pf_RU G cc own FR LO ret r0 M0 K) (pc' : Nat) {idx nL fr lo2 : Nat} {y : MethodName} {c2 : ByteArray} {rt : Option FieldType} {M' : pf_M} {a0 a1 a2 : pf_V} {x : Int32} (d : decode cc pc = .ok (.invokestatic idx, 3)) (hp : pc + 3 = pc') (hL : pf_LkS own idx y c2 nL rt 3) (hM : pf_Met G y c2 nL rt fr lo2 [a0, a1, a2] M (some (pf_I x)) M') (hw : Nat.ble (pf_wd st) 8 = true) (h1 : Nat.ble (fr + 1) FR = true) (h2 : Nat.ble (8 + (nL + 11) + lo2) LO = true) (k : K pc' lo (pf_I x :: st) M') : K pc lo (a2 :: a1 :: a0 :: st) M := by
  subst hp
  exact R.1 _ _ _ d _ _ _ (Or.inl ⟨y, c2, nL, rt, fr, lo2, [a0, a1, a2], st, _, M', rfl, rfl, Nat.le_of_ble_eq_true hw, hL, Nat.le_of_ble_eq_true h1, Nat.le_of_ble_eq_true h2, hM, k⟩)
theorem r_csL3 (R : pf_RU G cc own FR LO ret r0 M0 K) (pc' : Nat) {idx nL fr lo2 : Nat} {y : MethodName} {c2 : ByteArray} {rt : Option FieldType} {M' : pf_M} {a0 a1 a2 : pf_V} {x : Int64} (d : decode cc pc = .ok (.invokestatic idx, 3)) (hp : pc + 3 = pc') (hL : pf_LkS own idx y c2 nL rt 3) (hM : pf_Met G y c2 nL rt fr lo2 [a0, a1, a2] M (some (pf_L x)) M') (hw : Nat.ble (pf_wd st) 8 = true) (h1 : Nat.ble (fr + 1) FR = true) (h2 : Nat.ble (8 + (nL + 11) + lo2) LO = true) (k : K pc' lo (pf_L x :: st) M') : K pc lo (a2 :: a1 :: a0 :: st) M := by
  subst hp
  exact R.1 _ _ _ d _ _ _ (Or.inl ⟨y, c2, nL, rt, fr, lo2, [a0, a1, a2], st, _, M', rfl, rfl, Nat.le_of_ble_eq_true hw, hL, Nat.le_of_ble_eq_true h1, Nat.le_of_ble_eq_true h2, hM, k⟩)
theorem r_csQ3 (R : pf_RU G cc own FR LO ret r0 M0 K) (pc' : Nat) {idx nL fr lo2 : Nat} {y : MethodName} {c2 : ByteArray} {rt : Option FieldType} {M' : pf_M} {a0 a1 a2 : pf_V} {x : Option (Nat × Nat)} (d : decode cc pc = .ok (.invokestatic idx, 3)) (hp : pc + 3 = pc') (hL : pf_LkS own idx y c2 nL rt 3) (hM : pf_Met G y c2 nL rt fr lo2 [a0, a1, a2] M (some (.inr (.inr (.inl x)))) M') (hw : Nat.ble (pf_wd st) 8 = true) (h1 : Nat.ble (fr + 1) FR = true) (h2 : Nat.ble (8 + (nL + 11) + lo2) LO = true) (k : K pc' lo (.inr (.inr (.inl x)) :: st) M') : K pc lo (a2 :: a1 :: a0 :: st) M := by
  subst hp
  exact R.1 _ _ _ d _ _ _ (Or.inl ⟨y, c2, nL, rt, fr, lo2, [a0, a1, a2], st, _, M', rfl, rfl, Nat.le_of_ble_eq_true hw, hL, Nat.le_of_ble_eq_true h1, Nat.le_of_ble_eq_true h2, hM, k⟩)
theorem r_csV3 (R : pf_RU G cc own FR LO ret r0 M0 K) (pc' : Nat) {idx nL fr lo2 : Nat} {y : MethodName} {c2 : ByteArray} {rt : Option FieldType} {M' : pf_M} {a0 a1 a2 : pf_V} (d : decode cc pc = .ok (.invokestatic idx, 3)) (hp : pc + 3 = pc') (hL : pf_LkS own idx y c2 nL rt 3) (hM : pf_Met G y c2 nL rt fr lo2 [a0, a1, a2] M (none) M') (hw : Nat.ble (pf_wd st) 8 = true) (h1 : Nat.ble (fr + 1) FR = true) (h2 : Nat.ble (8 + (nL + 11) + lo2) LO = true) (k : K pc' lo (st) M') : K pc lo (a2 :: a1 :: a0 :: st) M := by
  subst hp
  exact R.1 _ _ _ d _ _ _ (Or.inl ⟨y, c2, nL, rt, fr, lo2, [a0, a1, a2], st, _, M', rfl, rfl, Nat.le_of_ble_eq_true hw, hL, Nat.le_of_ble_eq_true h1, Nat.le_of_ble_eq_true h2, hM, k⟩)
theorem r_csI4 (R : pf_RU G cc own FR LO ret r0 M0 K) (pc' : Nat) {idx nL fr lo2 : Nat} {y : MethodName} {c2 : ByteArray} {rt : Option FieldType} {M' : pf_M} {a0 a1 a2 a3 : pf_V} {x : Int32} (d : decode cc pc = .ok (.invokestatic idx, 3)) (hp : pc + 3 = pc') (hL : pf_LkS own idx y c2 nL rt 4) (hM : pf_Met G y c2 nL rt fr lo2 [a0, a1, a2, a3] M (some (pf_I x)) M') (hw : Nat.ble (pf_wd st) 8 = true) (h1 : Nat.ble (fr + 1) FR = true) (h2 : Nat.ble (8 + (nL + 11) + lo2) LO = true) (k : K pc' lo (pf_I x :: st) M') : K pc lo (a3 :: a2 :: a1 :: a0 :: st) M := by
  subst hp
  exact R.1 _ _ _ d _ _ _ (Or.inl ⟨y, c2, nL, rt, fr, lo2, [a0, a1, a2, a3], st, _, M', rfl, rfl, Nat.le_of_ble_eq_true hw, hL, Nat.le_of_ble_eq_true h1, Nat.le_of_ble_eq_true h2, hM, k⟩)
theorem r_csL4 (R : pf_RU G cc own FR LO ret r0 M0 K) (pc' : Nat) {idx nL fr lo2 : Nat} {y : MethodName} {c2 : ByteArray} {rt : Option FieldType} {M' : pf_M} {a0 a1 a2 a3 : pf_V} {x : Int64} (d : decode cc pc = .ok (.invokestatic idx, 3)) (hp : pc + 3 = pc') (hL : pf_LkS own idx y c2 nL rt 4) (hM : pf_Met G y c2 nL rt fr lo2 [a0, a1, a2, a3] M (some (pf_L x)) M') (hw : Nat.ble (pf_wd st) 8 = true) (h1 : Nat.ble (fr + 1) FR = true) (h2 : Nat.ble (8 + (nL + 11) + lo2) LO = true) (k : K pc' lo (pf_L x :: st) M') : K pc lo (a3 :: a2 :: a1 :: a0 :: st) M := by
  subst hp
  exact R.1 _ _ _ d _ _ _ (Or.inl ⟨y, c2, nL, rt, fr, lo2, [a0, a1, a2, a3], st, _, M', rfl, rfl, Nat.le_of_ble_eq_true hw, hL, Nat.le_of_ble_eq_true h1, Nat.le_of_ble_eq_true h2, hM, k⟩)
theorem r_csQ4 (R : pf_RU G cc own FR LO ret r0 M0 K) (pc' : Nat) {idx nL fr lo2 : Nat} {y : MethodName} {c2 : ByteArray} {rt : Option FieldType} {M' : pf_M} {a0 a1 a2 a3 : pf_V} {x : Option (Nat × Nat)} (d : decode cc pc = .ok (.invokestatic idx, 3)) (hp : pc + 3 = pc') (hL : pf_LkS own idx y c2 nL rt 4) (hM : pf_Met G y c2 nL rt fr lo2 [a0, a1, a2, a3] M (some (.inr (.inr (.inl x)))) M') (hw : Nat.ble (pf_wd st) 8 = true) (h1 : Nat.ble (fr + 1) FR = true) (h2 : Nat.ble (8 + (nL + 11) + lo2) LO = true) (k : K pc' lo (.inr (.inr (.inl x)) :: st) M') : K pc lo (a3 :: a2 :: a1 :: a0 :: st) M := by
  subst hp
  exact R.1 _ _ _ d _ _ _ (Or.inl ⟨y, c2, nL, rt, fr, lo2, [a0, a1, a2, a3], st, _, M', rfl, rfl, Nat.le_of_ble_eq_true hw, hL, Nat.le_of_ble_eq_true h1, Nat.le_of_ble_eq_true h2, hM, k⟩)
theorem r_csV4 (R : pf_RU G cc own FR LO ret r0 M0 K) (pc' : Nat) {idx nL fr lo2 : Nat} {y : MethodName} {c2 : ByteArray} {rt : Option FieldType} {M' : pf_M} {a0 a1 a2 a3 : pf_V} (d : decode cc pc = .ok (.invokestatic idx, 3)) (hp : pc + 3 = pc') (hL : pf_LkS own idx y c2 nL rt 4) (hM : pf_Met G y c2 nL rt fr lo2 [a0, a1, a2, a3] M (none) M') (hw : Nat.ble (pf_wd st) 8 = true) (h1 : Nat.ble (fr + 1) FR = true) (h2 : Nat.ble (8 + (nL + 11) + lo2) LO = true) (k : K pc' lo (st) M') : K pc lo (a3 :: a2 :: a1 :: a0 :: st) M := by
  subst hp
  exact R.1 _ _ _ d _ _ _ (Or.inl ⟨y, c2, nL, rt, fr, lo2, [a0, a1, a2, a3], st, _, M', rfl, rfl, Nat.le_of_ble_eq_true hw, hL, Nat.le_of_ble_eq_true h1, Nat.le_of_ble_eq_true h2, hM, k⟩)
theorem r_csI5 (R : pf_RU G cc own FR LO ret r0 M0 K) (pc' : Nat) {idx nL fr lo2 : Nat} {y : MethodName} {c2 : ByteArray} {rt : Option FieldType} {M' : pf_M} {a0 a1 a2 a3 a4 : pf_V} {x : Int32} (d : decode cc pc = .ok (.invokestatic idx, 3)) (hp : pc + 3 = pc') (hL : pf_LkS own idx y c2 nL rt 5) (hM : pf_Met G y c2 nL rt fr lo2 [a0, a1, a2, a3, a4] M (some (pf_I x)) M') (hw : Nat.ble (pf_wd st) 8 = true) (h1 : Nat.ble (fr + 1) FR = true) (h2 : Nat.ble (8 + (nL + 11) + lo2) LO = true) (k : K pc' lo (pf_I x :: st) M') : K pc lo (a4 :: a3 :: a2 :: a1 :: a0 :: st) M := by
  subst hp
  exact R.1 _ _ _ d _ _ _ (Or.inl ⟨y, c2, nL, rt, fr, lo2, [a0, a1, a2, a3, a4], st, _, M', rfl, rfl, Nat.le_of_ble_eq_true hw, hL, Nat.le_of_ble_eq_true h1, Nat.le_of_ble_eq_true h2, hM, k⟩)
theorem r_csL5 (R : pf_RU G cc own FR LO ret r0 M0 K) (pc' : Nat) {idx nL fr lo2 : Nat} {y : MethodName} {c2 : ByteArray} {rt : Option FieldType} {M' : pf_M} {a0 a1 a2 a3 a4 : pf_V} {x : Int64} (d : decode cc pc = .ok (.invokestatic idx, 3)) (hp : pc + 3 = pc') (hL : pf_LkS own idx y c2 nL rt 5) (hM : pf_Met G y c2 nL rt fr lo2 [a0, a1, a2, a3, a4] M (some (pf_L x)) M') (hw : Nat.ble (pf_wd st) 8 = true) (h1 : Nat.ble (fr + 1) FR = true) (h2 : Nat.ble (8 + (nL + 11) + lo2) LO = true) (k : K pc' lo (pf_L x :: st) M') : K pc lo (a4 :: a3 :: a2 :: a1 :: a0 :: st) M := by
  subst hp
  exact R.1 _ _ _ d _ _ _ (Or.inl ⟨y, c2, nL, rt, fr, lo2, [a0, a1, a2, a3, a4], st, _, M', rfl, rfl, Nat.le_of_ble_eq_true hw, hL, Nat.le_of_ble_eq_true h1, Nat.le_of_ble_eq_true h2, hM, k⟩)
theorem r_csQ5 (R : pf_RU G cc own FR LO ret r0 M0 K) (pc' : Nat) {idx nL fr lo2 : Nat} {y : MethodName} {c2 : ByteArray} {rt : Option FieldType} {M' : pf_M} {a0 a1 a2 a3 a4 : pf_V} {x : Option (Nat × Nat)} (d : decode cc pc = .ok (.invokestatic idx, 3)) (hp : pc + 3 = pc') (hL : pf_LkS own idx y c2 nL rt 5) (hM : pf_Met G y c2 nL rt fr lo2 [a0, a1, a2, a3, a4] M (some (.inr (.inr (.inl x)))) M') (hw : Nat.ble (pf_wd st) 8 = true) (h1 : Nat.ble (fr + 1) FR = true) (h2 : Nat.ble (8 + (nL + 11) + lo2) LO = true) (k : K pc' lo (.inr (.inr (.inl x)) :: st) M') : K pc lo (a4 :: a3 :: a2 :: a1 :: a0 :: st) M := by
  subst hp
  exact R.1 _ _ _ d _ _ _ (Or.inl ⟨y, c2, nL, rt, fr, lo2, [a0, a1, a2, a3, a4], st, _, M', rfl, rfl, Nat.le_of_ble_eq_true hw, hL, Nat.le_of_ble_eq_true h1, Nat.le_of_ble_eq_true h2, hM, k⟩)
theorem r_csV5 (R : pf_RU G cc own FR LO ret r0 M0 K) (pc' : Nat) {idx nL fr lo2 : Nat} {y : MethodName} {c2 : ByteArray} {rt : Option FieldType} {M' : pf_M} {a0 a1 a2 a3 a4 : pf_V} (d : decode cc pc = .ok (.invokestatic idx, 3)) (hp : pc + 3 = pc') (hL : pf_LkS own idx y c2 nL rt 5) (hM : pf_Met G y c2 nL rt fr lo2 [a0, a1, a2, a3, a4] M (none) M') (hw : Nat.ble (pf_wd st) 8 = true) (h1 : Nat.ble (fr + 1) FR = true) (h2 : Nat.ble (8 + (nL + 11) + lo2) LO = true) (k : K pc' lo (st) M') : K pc lo (a4 :: a3 :: a2 :: a1 :: a0 :: st) M := by
  subst hp
  exact R.1 _ _ _ d _ _ _ (Or.inl ⟨y, c2, nL, rt, fr, lo2, [a0, a1, a2, a3, a4], st, _, M', rfl, rfl, Nat.le_of_ble_eq_true hw, hL, Nat.le_of_ble_eq_true h1, Nat.le_of_ble_eq_true h2, hM, k⟩)
theorem r_copy (R : pf_RU G cc own FR LO ret r0 M0 K) (pc' : Nat) {idx k1 i1 k0 i0 n0 n1 : Nat} {n dp sp : Int32} (d : decode cc pc = .ok (.invokestatic idx, 3)) (hp : pc + 3 = pc') (hA : pf_LkA own idx) (h0 : pf_intK k0 n0) (h1 : pf_intK k1 n1) (hc : (¬ sp < 0 ∧ ¬ dp < 0 ∧ ¬ n < 0) ∧ sp.toNatClampNeg + n.toNatClampNeg ≤ n0 ∧ dp.toNatClampNeg + n.toNatClampNeg ≤ n1) (hf : Nat.ble 1 FR = true) (hl : Nat.ble (pf_wd st + (nativeFrameWords "java/lang/System" "arraycopy" 5 + 11)) LO = true) (k : K pc' lo st (pf_upf M k1 i1 (va_cpy (M k0 i0) (M k1 i1) sp.toNatClampNeg dp.toNatClampNeg n.toNatClampNeg))) : K pc lo (pf_I n :: pf_I dp :: pf_R k1 i1 :: pf_I sp :: pf_R k0 i0 :: st) M := by
  subst hp
  exact R.1 _ _ _ d _ _ _ (Or.inr ⟨n, dp, sp, k1, i1, k0, i0, n0, n1, st, rfl, rfl, hA, h0, h1, hc.1.1, hc.1.2.1, hc.1.2.2, hc.2.1, hc.2.2, Nat.le_of_ble_eq_true hf, Nat.le_of_ble_eq_true hl, k⟩)
end
theorem pf_ifp {α : Type} {c : Prop} {d : Decidable c} {a b r : α} (hc : c) (h : @ite α c d a b = r) : a = r := (if_pos hc).symm.trans h
theorem pf_ifn {α : Type} {c : Prop} {d : Decidable c} {a b r : α} (hc : ¬ c) (h : @ite α c d a b = r) : b = r := (if_neg hc).symm.trans h
def pf_in (j : Int32) (n : Nat) : Bool := decide (¬ (j < 0 ∨ n ≤ j.toNatClampNeg))
theorem pf_in_iff {j : Int32} {n : Nat} : pf_in j n = true ↔ vp_in j n := by
  unfold pf_in vp_in
  exact decide_eq_true_iff
theorem pf_gd {α : Type} {c : Bool} {a : Option α} {q : α} (h : (if c = true then a else none) = some q) : c = true ∧ a = some q := by
  by_cases hc : c = true
  · exact ⟨hc, (if_pos hc).symm.trans h⟩
  · rw [if_neg hc] at h; cases h
theorem pf_bd {α β : Type} {o : Option α} {f : α → Option β} {q : β} (h : o.bind f = some q) : ∃ a, o = some a ∧ f a = some q := by
  cases o with
  | none => cases h
  | some a => exact ⟨a, rfl, h⟩
theorem pf_bool {x : Int32} (h : x = 0 ∨ x = 1) : narrow .boolean (.int x) = .int x := by
  rcases h with rfl | rfl <;> rfl
end
