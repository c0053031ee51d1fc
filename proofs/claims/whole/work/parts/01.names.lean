-- ===== PART A: goes FIRST, ahead of the names: the tables' words, and 'selects' of the private methods out of them =====
/-- a private method of a class that the tables say can be made, by its rows of tables_1 -/
def lw_okq (q : MethodName × Nat) : Prop := (q.1.cls ≠ "java/lang/invoke/MethodHandle" ∧ q.1.cls ≠ "java/lang/invoke/VarHandle") ∧ Cond.instantiable q.1.cls q.2 ∈ tables_1 ∧ Cond.privateMethod q.1 ∈ tables_1 ∧ Cond.instanceMethod q.1 ∈ tables_1
theorem lw_p0 : lw_okq (⟨"HungStreams", "refuse", "(I)I"⟩, 9) := ⟨⟨by decide +kernel, by decide +kernel⟩, List.mem_of_getElem? (i := 12) (by decide +kernel), List.mem_of_getElem? (i := 264) (by decide +kernel), List.mem_of_getElem? (i := 265) (by decide +kernel)⟩
theorem lw_p1 : lw_okq (⟨"HungStreams", "leaveState", "()V"⟩, 9) := ⟨⟨by decide +kernel, by decide +kernel⟩, List.mem_of_getElem? (i := 12) (by decide +kernel), List.mem_of_getElem? (i := 269) (by decide +kernel), List.mem_of_getElem? (i := 270) (by decide +kernel)⟩
theorem lw_p2 : lw_okq (⟨"HungStreams$TreeWriter", "writeChildren", "(LHungStreams$Tree;II)V"⟩, 2) := ⟨⟨by decide +kernel, by decide +kernel⟩, List.mem_of_getElem? (i := 202) (by decide +kernel), List.mem_of_getElem? (i := 578) (by decide +kernel), List.mem_of_getElem? (i := 579) (by decide +kernel)⟩
theorem lw_p3 : lw_okq (⟨"HungStreams$TreeWriter", "put", "(I)V"⟩, 2) := ⟨⟨by decide +kernel, by decide +kernel⟩, List.mem_of_getElem? (i := 202) (by decide +kernel), List.mem_of_getElem? (i := 583) (by decide +kernel), List.mem_of_getElem? (i := 584) (by decide +kernel)⟩
theorem lw_p4 : lw_okq (⟨"HungStreams$TreeWriter", "putNumber", "(I)V"⟩, 2) := ⟨⟨by decide +kernel, by decide +kernel⟩, List.mem_of_getElem? (i := 202) (by decide +kernel), List.mem_of_getElem? (i := 587) (by decide +kernel), List.mem_of_getElem? (i := 588) (by decide +kernel)⟩
theorem lw_p5 : lw_okq (⟨"HungStreams", "digestStream", "(JI)J"⟩, 9) := ⟨⟨by decide +kernel, by decide +kernel⟩, List.mem_of_getElem? (i := 12) (by decide +kernel), List.mem_of_getElem? (i := 608) (by decide +kernel), List.mem_of_getElem? (i := 609) (by decide +kernel)⟩
theorem lw_p6 : lw_okq (⟨"HungStreamsModel", "isPlace", "(I)Z"⟩, 17) := ⟨⟨by decide +kernel, by decide +kernel⟩, List.mem_of_getElem? (i := 615) (by decide +kernel), List.mem_of_getElem? (i := 686) (by decide +kernel), List.mem_of_getElem? (i := 687) (by decide +kernel)⟩
theorem lw_p7 : lw_okq (⟨"HungStreamsModel", "isStream", "(I)Z"⟩, 17) := ⟨⟨by decide +kernel, by decide +kernel⟩, List.mem_of_getElem? (i := 615) (by decide +kernel), List.mem_of_getElem? (i := 690) (by decide +kernel), List.mem_of_getElem? (i := 691) (by decide +kernel)⟩
theorem lw_p8 : lw_okq (⟨"HungStreamsModel", "its", "(II)J"⟩, 17) := ⟨⟨by decide +kernel, by decide +kernel⟩, List.mem_of_getElem? (i := 615) (by decide +kernel), List.mem_of_getElem? (i := 694) (by decide +kernel), List.mem_of_getElem? (i := 695) (by decide +kernel)⟩
theorem lw_p9 : lw_okq (⟨"HungStreamsModel", "refuses", "(I)I"⟩, 17) := ⟨⟨by decide +kernel, by decide +kernel⟩, List.mem_of_getElem? (i := 615) (by decide +kernel), List.mem_of_getElem? (i := 699) (by decide +kernel), List.mem_of_getElem? (i := 700) (by decide +kernel)⟩
theorem lw_p10 : lw_okq (⟨"HungStreamsModel", "keep", "()V"⟩, 17) := ⟨⟨by decide +kernel, by decide +kernel⟩, List.mem_of_getElem? (i := 615) (by decide +kernel), List.mem_of_getElem? (i := 703) (by decide +kernel), List.mem_of_getElem? (i := 704) (by decide +kernel)⟩
theorem lw_p11 : lw_okq (⟨"HungStreamsModel", "begins", "(II)V"⟩, 17) := ⟨⟨by decide +kernel, by decide +kernel⟩, List.mem_of_getElem? (i := 615) (by decide +kernel), List.mem_of_getElem? (i := 707) (by decide +kernel), List.mem_of_getElem? (i := 708) (by decide +kernel)⟩
theorem lw_p12 : lw_okq (⟨"HungStreamsModel", "puts", "(IIJ)V"⟩, 17) := ⟨⟨by decide +kernel, by decide +kernel⟩, List.mem_of_getElem? (i := 615) (by decide +kernel), List.mem_of_getElem? (i := 711) (by decide +kernel), List.mem_of_getElem? (i := 712) (by decide +kernel)⟩
theorem lw_p13 : lw_okq (⟨"HungStreamsModel", "comesTo", "(IIZ)V"⟩, 17) := ⟨⟨by decide +kernel, by decide +kernel⟩, List.mem_of_getElem? (i := 615) (by decide +kernel), List.mem_of_getElem? (i := 717) (by decide +kernel), List.mem_of_getElem? (i := 718) (by decide +kernel)⟩
theorem lw_p14 : lw_okq (⟨"HungStreamsModel", "isChild", "(II)Z"⟩, 17) := ⟨⟨by decide +kernel, by decide +kernel⟩, List.mem_of_getElem? (i := 615) (by decide +kernel), List.mem_of_getElem? (i := 721) (by decide +kernel), List.mem_of_getElem? (i := 722) (by decide +kernel)⟩
theorem lw_p15 : lw_okq (⟨"HungStreamsModel", "parent", "(I)I"⟩, 17) := ⟨⟨by decide +kernel, by decide +kernel⟩, List.mem_of_getElem? (i := 615) (by decide +kernel), List.mem_of_getElem? (i := 725) (by decide +kernel), List.mem_of_getElem? (i := 726) (by decide +kernel)⟩
def lw_privs_1 : List (MethodName × Nat) := [(⟨"HungStreams", "refuse", "(I)I"⟩, 9), (⟨"HungStreams", "leaveState", "()V"⟩, 9), (⟨"HungStreams$TreeWriter", "writeChildren", "(LHungStreams$Tree;II)V"⟩, 2), (⟨"HungStreams$TreeWriter", "put", "(I)V"⟩, 2), (⟨"HungStreams$TreeWriter", "putNumber", "(I)V"⟩, 2), (⟨"HungStreams", "digestStream", "(JI)J"⟩, 9), (⟨"HungStreamsModel", "isPlace", "(I)Z"⟩, 17), (⟨"HungStreamsModel", "isStream", "(I)Z"⟩, 17), (⟨"HungStreamsModel", "its", "(II)J"⟩, 17), (⟨"HungStreamsModel", "refuses", "(I)I"⟩, 17), (⟨"HungStreamsModel", "keep", "()V"⟩, 17), (⟨"HungStreamsModel", "begins", "(II)V"⟩, 17), (⟨"HungStreamsModel", "puts", "(IIJ)V"⟩, 17), (⟨"HungStreamsModel", "comesTo", "(IIZ)V"⟩, 17), (⟨"HungStreamsModel", "isChild", "(II)Z"⟩, 17), (⟨"HungStreamsModel", "parent", "(I)I"⟩, 17)]
theorem lw_r1 : ∀ q ∈ lw_privs_1, lw_okq q := List.forall_mem_cons.mpr ⟨lw_p0, List.forall_mem_cons.mpr ⟨lw_p1, List.forall_mem_cons.mpr ⟨lw_p2, List.forall_mem_cons.mpr ⟨lw_p3, List.forall_mem_cons.mpr ⟨lw_p4, List.forall_mem_cons.mpr ⟨lw_p5, List.forall_mem_cons.mpr ⟨lw_p6, List.forall_mem_cons.mpr ⟨lw_p7, List.forall_mem_cons.mpr ⟨lw_p8, List.forall_mem_cons.mpr ⟨lw_p9, List.forall_mem_cons.mpr ⟨lw_p10, List.forall_mem_cons.mpr ⟨lw_p11, List.forall_mem_cons.mpr ⟨lw_p12, List.forall_mem_cons.mpr ⟨lw_p13, List.forall_mem_cons.mpr ⟨lw_p14, List.forall_mem_cons.mpr ⟨lw_p15, fun _ h => absurd h List.not_mem_nil⟩⟩⟩⟩⟩⟩⟩⟩⟩⟩⟩⟩⟩⟩⟩⟩
theorem lw_p16 : lw_okq (⟨"HungStreamsModel", "hangs", "(II)V"⟩, 17) := ⟨⟨by decide +kernel, by decide +kernel⟩, List.mem_of_getElem? (i := 615) (by decide +kernel), List.mem_of_getElem? (i := 729) (by decide +kernel), List.mem_of_getElem? (i := 730) (by decide +kernel)⟩
theorem lw_p17 : lw_okq (⟨"HungStreamsModel", "children", "(I)I"⟩, 17) := ⟨⟨by decide +kernel, by decide +kernel⟩, List.mem_of_getElem? (i := 615) (by decide +kernel), List.mem_of_getElem? (i := 733) (by decide +kernel), List.mem_of_getElem? (i := 734) (by decide +kernel)⟩
theorem lw_p18 : lw_okq (⟨"HungStreamsModel", "isBelow", "(II)Z"⟩, 17) := ⟨⟨by decide +kernel, by decide +kernel⟩, List.mem_of_getElem? (i := 615) (by decide +kernel), List.mem_of_getElem? (i := 741) (by decide +kernel), List.mem_of_getElem? (i := 742) (by decide +kernel)⟩
theorem lw_p19 : lw_okq (⟨"HungStreamsModel", "goesAll", "()V"⟩, 17) := ⟨⟨by decide +kernel, by decide +kernel⟩, List.mem_of_getElem? (i := 615) (by decide +kernel), List.mem_of_getElem? (i := 760) (by decide +kernel), List.mem_of_getElem? (i := 761) (by decide +kernel)⟩
theorem lw_p20 : lw_okq (⟨"HungStreamsModel", "goes", "(I)V"⟩, 17) := ⟨⟨by decide +kernel, by decide +kernel⟩, List.mem_of_getElem? (i := 615) (by decide +kernel), List.mem_of_getElem? (i := 764) (by decide +kernel), List.mem_of_getElem? (i := 765) (by decide +kernel)⟩
theorem lw_p21 : lw_okq (⟨"HungStreamsModel", "there", "()I"⟩, 17) := ⟨⟨by decide +kernel, by decide +kernel⟩, List.mem_of_getElem? (i := 615) (by decide +kernel), List.mem_of_getElem? (i := 768) (by decide +kernel), List.mem_of_getElem? (i := 769) (by decide +kernel)⟩
theorem lw_p22 : lw_okq (⟨"HungStreamsModel", "ofNow", "(II)I"⟩, 17) := ⟨⟨by decide +kernel, by decide +kernel⟩, List.mem_of_getElem? (i := 615) (by decide +kernel), List.mem_of_getElem? (i := 780) (by decide +kernel), List.mem_of_getElem? (i := 781) (by decide +kernel)⟩
theorem lw_p23 : lw_okq (⟨"HungStreamsModel", "below", "(I)I"⟩, 17) := ⟨⟨by decide +kernel, by decide +kernel⟩, List.mem_of_getElem? (i := 615) (by decide +kernel), List.mem_of_getElem? (i := 784) (by decide +kernel), List.mem_of_getElem? (i := 785) (by decide +kernel)⟩
theorem lw_p24 : lw_okq (⟨"HungStreamsModel", "can", "(I)Z"⟩, 17) := ⟨⟨by decide +kernel, by decide +kernel⟩, List.mem_of_getElem? (i := 615) (by decide +kernel), List.mem_of_getElem? (i := 788) (by decide +kernel), List.mem_of_getElem? (i := 789) (by decide +kernel)⟩
theorem lw_p25 : lw_okq (⟨"HungStreamsModel", "isLive", "(I)Z"⟩, 17) := ⟨⟨by decide +kernel, by decide +kernel⟩, List.mem_of_getElem? (i := 615) (by decide +kernel), List.mem_of_getElem? (i := 792) (by decide +kernel), List.mem_of_getElem? (i := 793) (by decide +kernel)⟩
theorem lw_p26 : lw_okq (⟨"HungStreamsModel", "nextNow", "()I"⟩, 17) := ⟨⟨by decide +kernel, by decide +kernel⟩, List.mem_of_getElem? (i := 615) (by decide +kernel), List.mem_of_getElem? (i := 828) (by decide +kernel), List.mem_of_getElem? (i := 829) (by decide +kernel)⟩
theorem lw_p27 : lw_okq (⟨"HungStreamsModel", "byTree", "()I"⟩, 17) := ⟨⟨by decide +kernel, by decide +kernel⟩, List.mem_of_getElem? (i := 615) (by decide +kernel), List.mem_of_getElem? (i := 832) (by decide +kernel), List.mem_of_getElem? (i := 833) (by decide +kernel)⟩
theorem lw_p28 : lw_okq (⟨"HungStreamsModel", "liveSet", "()I"⟩, 17) := ⟨⟨by decide +kernel, by decide +kernel⟩, List.mem_of_getElem? (i := 615) (by decide +kernel), List.mem_of_getElem? (i := 836) (by decide +kernel), List.mem_of_getElem? (i := 837) (by decide +kernel)⟩
theorem lw_p29 : lw_okq (⟨"HungStreamsModel", "first", "(II)I"⟩, 17) := ⟨⟨by decide +kernel, by decide +kernel⟩, List.mem_of_getElem? (i := 615) (by decide +kernel), List.mem_of_getElem? (i := 840) (by decide +kernel), List.mem_of_getElem? (i := 841) (by decide +kernel)⟩
theorem lw_p30 : lw_okq (⟨"HungStreamsModel", "turnThen", "(II)J"⟩, 17) := ⟨⟨by decide +kernel, by decide +kernel⟩, List.mem_of_getElem? (i := 615) (by decide +kernel), List.mem_of_getElem? (i := 844) (by decide +kernel), List.mem_of_getElem? (i := 845) (by decide +kernel)⟩
theorem lw_p31 : lw_okq (⟨"HungStreamsModel", "byUrgency", "()I"⟩, 17) := ⟨⟨by decide +kernel, by decide +kernel⟩, List.mem_of_getElem? (i := 615) (by decide +kernel), List.mem_of_getElem? (i := 848) (by decide +kernel), List.mem_of_getElem? (i := 849) (by decide +kernel)⟩
def lw_privs_2 : List (MethodName × Nat) := [(⟨"HungStreamsModel", "hangs", "(II)V"⟩, 17), (⟨"HungStreamsModel", "children", "(I)I"⟩, 17), (⟨"HungStreamsModel", "isBelow", "(II)Z"⟩, 17), (⟨"HungStreamsModel", "goesAll", "()V"⟩, 17), (⟨"HungStreamsModel", "goes", "(I)V"⟩, 17), (⟨"HungStreamsModel", "there", "()I"⟩, 17), (⟨"HungStreamsModel", "ofNow", "(II)I"⟩, 17), (⟨"HungStreamsModel", "below", "(I)I"⟩, 17), (⟨"HungStreamsModel", "can", "(I)Z"⟩, 17), (⟨"HungStreamsModel", "isLive", "(I)Z"⟩, 17), (⟨"HungStreamsModel", "nextNow", "()I"⟩, 17), (⟨"HungStreamsModel", "byTree", "()I"⟩, 17), (⟨"HungStreamsModel", "liveSet", "()I"⟩, 17), (⟨"HungStreamsModel", "first", "(II)I"⟩, 17), (⟨"HungStreamsModel", "turnThen", "(II)J"⟩, 17), (⟨"HungStreamsModel", "byUrgency", "()I"⟩, 17)]
theorem lw_r2 : ∀ q ∈ lw_privs_2, lw_okq q := List.forall_mem_cons.mpr ⟨lw_p16, List.forall_mem_cons.mpr ⟨lw_p17, List.forall_mem_cons.mpr ⟨lw_p18, List.forall_mem_cons.mpr ⟨lw_p19, List.forall_mem_cons.mpr ⟨lw_p20, List.forall_mem_cons.mpr ⟨lw_p21, List.forall_mem_cons.mpr ⟨lw_p22, List.forall_mem_cons.mpr ⟨lw_p23, List.forall_mem_cons.mpr ⟨lw_p24, List.forall_mem_cons.mpr ⟨lw_p25, List.forall_mem_cons.mpr ⟨lw_p26, List.forall_mem_cons.mpr ⟨lw_p27, List.forall_mem_cons.mpr ⟨lw_p28, List.forall_mem_cons.mpr ⟨lw_p29, List.forall_mem_cons.mpr ⟨lw_p30, List.forall_mem_cons.mpr ⟨lw_p31, fun _ h => absurd h List.not_mem_nil⟩⟩⟩⟩⟩⟩⟩⟩⟩⟩⟩⟩⟩⟩⟩⟩
theorem lw_p32 : lw_okq (⟨"HungStreamsModel", "isAhead", "(II)Z"⟩, 17) := ⟨⟨by decide +kernel, by decide +kernel⟩, List.mem_of_getElem? (i := 615) (by decide +kernel), List.mem_of_getElem? (i := 852) (by decide +kernel), List.mem_of_getElem? (i := 853) (by decide +kernel)⟩
theorem lw_p33 : lw_okq (⟨"HungStreamsModel", "isSent", "()Z"⟩, 17) := ⟨⟨by decide +kernel, by decide +kernel⟩, List.mem_of_getElem? (i := 615) (by decide +kernel), List.mem_of_getElem? (i := 860) (by decide +kernel), List.mem_of_getElem? (i := 861) (by decide +kernel)⟩
theorem lw_p34 : lw_okq (⟨"HungStreamsModel", "looks", "()V"⟩, 17) := ⟨⟨by decide +kernel, by decide +kernel⟩, List.mem_of_getElem? (i := 615) (by decide +kernel), List.mem_of_getElem? (i := 864) (by decide +kernel), List.mem_of_getElem? (i := 865) (by decide +kernel)⟩
theorem lw_p35 : lw_okq (⟨"HungStreamsModel", "canSet", "()I"⟩, 17) := ⟨⟨by decide +kernel, by decide +kernel⟩, List.mem_of_getElem? (i := 615) (by decide +kernel), List.mem_of_getElem? (i := 868) (by decide +kernel), List.mem_of_getElem? (i := 869) (by decide +kernel)⟩
theorem lw_p36 : lw_okq (⟨"HungStreamsModel", "bytesOf", "(I)J"⟩, 17) := ⟨⟨by decide +kernel, by decide +kernel⟩, List.mem_of_getElem? (i := 615) (by decide +kernel), List.mem_of_getElem? (i := 872) (by decide +kernel), List.mem_of_getElem? (i := 873) (by decide +kernel)⟩
theorem lw_p37 : lw_okq (⟨"HungStreamsModel", "turns", "(IJ)V"⟩, 17) := ⟨⟨by decide +kernel, by decide +kernel⟩, List.mem_of_getElem? (i := 615) (by decide +kernel), List.mem_of_getElem? (i := 876) (by decide +kernel), List.mem_of_getElem? (i := 877) (by decide +kernel)⟩
theorem lw_p38 : lw_okq (⟨"HungStreamsModel", "shares", "(I)V"⟩, 17) := ⟨⟨by decide +kernel, by decide +kernel⟩, List.mem_of_getElem? (i := 615) (by decide +kernel), List.mem_of_getElem? (i := 885) (by decide +kernel), List.mem_of_getElem? (i := 886) (by decide +kernel)⟩
theorem lw_p39 : lw_okq (⟨"HungStreamsModel", "allNow", "(I)I"⟩, 17) := ⟨⟨by decide +kernel, by decide +kernel⟩, List.mem_of_getElem? (i := 615) (by decide +kernel), List.mem_of_getElem? (i := 897) (by decide +kernel), List.mem_of_getElem? (i := 898) (by decide +kernel)⟩
theorem lw_p40 : lw_okq (⟨"HungStreamsModel", "isRead", "()Z"⟩, 17) := ⟨⟨by decide +kernel, by decide +kernel⟩, List.mem_of_getElem? (i := 615) (by decide +kernel), List.mem_of_getElem? (i := 914) (by decide +kernel), List.mem_of_getElem? (i := 915) (by decide +kernel)⟩
theorem lw_p41 : lw_okq (⟨"HungStreamsModel", "here", "()I"⟩, 17) := ⟨⟨by decide +kernel, by decide +kernel⟩, List.mem_of_getElem? (i := 615) (by decide +kernel), List.mem_of_getElem? (i := 918) (by decide +kernel), List.mem_of_getElem? (i := 919) (by decide +kernel)⟩
theorem lw_p42 : lw_okq (⟨"HungStreamsModel", "standsIn", "(I)I"⟩, 17) := ⟨⟨by decide +kernel, by decide +kernel⟩, List.mem_of_getElem? (i := 615) (by decide +kernel), List.mem_of_getElem? (i := 922) (by decide +kernel), List.mem_of_getElem? (i := 923) (by decide +kernel)⟩
theorem lw_p43 : lw_okq (⟨"HungStreamsModel", "takesStream", "(I)Z"⟩, 17) := ⟨⟨by decide +kernel, by decide +kernel⟩, List.mem_of_getElem? (i := 615) (by decide +kernel), List.mem_of_getElem? (i := 926) (by decide +kernel), List.mem_of_getElem? (i := 927) (by decide +kernel)⟩
theorem lw_p44 : lw_okq (⟨"HungStreamsModel", "takes", "(I)Z"⟩, 17) := ⟨⟨by decide +kernel, by decide +kernel⟩, List.mem_of_getElem? (i := 615) (by decide +kernel), List.mem_of_getElem? (i := 930) (by decide +kernel), List.mem_of_getElem? (i := 931) (by decide +kernel)⟩
theorem lw_p45 : lw_okq (⟨"HungStreamsModel", "isFigure", "(I)Z"⟩, 17) := ⟨⟨by decide +kernel, by decide +kernel⟩, List.mem_of_getElem? (i := 615) (by decide +kernel), List.mem_of_getElem? (i := 934) (by decide +kernel), List.mem_of_getElem? (i := 935) (by decide +kernel)⟩
theorem lw_p46 : lw_okq (⟨"HungStreamsModel", "showsAll", "()V"⟩, 17) := ⟨⟨by decide +kernel, by decide +kernel⟩, List.mem_of_getElem? (i := 615) (by decide +kernel), List.mem_of_getElem? (i := 944) (by decide +kernel), List.mem_of_getElem? (i := 945) (by decide +kernel)⟩
theorem lw_p47 : lw_okq (⟨"HungStreamsModel", "nextChild", "(II)I"⟩, 17) := ⟨⟨by decide +kernel, by decide +kernel⟩, List.mem_of_getElem? (i := 615) (by decide +kernel), List.mem_of_getElem? (i := 948) (by decide +kernel), List.mem_of_getElem? (i := 949) (by decide +kernel)⟩
def lw_privs_3 : List (MethodName × Nat) := [(⟨"HungStreamsModel", "isAhead", "(II)Z"⟩, 17), (⟨"HungStreamsModel", "isSent", "()Z"⟩, 17), (⟨"HungStreamsModel", "looks", "()V"⟩, 17), (⟨"HungStreamsModel", "canSet", "()I"⟩, 17), (⟨"HungStreamsModel", "bytesOf", "(I)J"⟩, 17), (⟨"HungStreamsModel", "turns", "(IJ)V"⟩, 17), (⟨"HungStreamsModel", "shares", "(I)V"⟩, 17), (⟨"HungStreamsModel", "allNow", "(I)I"⟩, 17), (⟨"HungStreamsModel", "isRead", "()Z"⟩, 17), (⟨"HungStreamsModel", "here", "()I"⟩, 17), (⟨"HungStreamsModel", "standsIn", "(I)I"⟩, 17), (⟨"HungStreamsModel", "takesStream", "(I)Z"⟩, 17), (⟨"HungStreamsModel", "takes", "(I)Z"⟩, 17), (⟨"HungStreamsModel", "isFigure", "(I)Z"⟩, 17), (⟨"HungStreamsModel", "showsAll", "()V"⟩, 17), (⟨"HungStreamsModel", "nextChild", "(II)I"⟩, 17)]
theorem lw_r3 : ∀ q ∈ lw_privs_3, lw_okq q := List.forall_mem_cons.mpr ⟨lw_p32, List.forall_mem_cons.mpr ⟨lw_p33, List.forall_mem_cons.mpr ⟨lw_p34, List.forall_mem_cons.mpr ⟨lw_p35, List.forall_mem_cons.mpr ⟨lw_p36, List.forall_mem_cons.mpr ⟨lw_p37, List.forall_mem_cons.mpr ⟨lw_p38, List.forall_mem_cons.mpr ⟨lw_p39, List.forall_mem_cons.mpr ⟨lw_p40, List.forall_mem_cons.mpr ⟨lw_p41, List.forall_mem_cons.mpr ⟨lw_p42, List.forall_mem_cons.mpr ⟨lw_p43, List.forall_mem_cons.mpr ⟨lw_p44, List.forall_mem_cons.mpr ⟨lw_p45, List.forall_mem_cons.mpr ⟨lw_p46, List.forall_mem_cons.mpr ⟨lw_p47, fun _ h => absurd h List.not_mem_nil⟩⟩⟩⟩⟩⟩⟩⟩⟩⟩⟩⟩⟩⟩⟩⟩
theorem lw_p48 : lw_okq (⟨"HungStreamsModel", "showsNumber", "(I)V"⟩, 17) := ⟨⟨by decide +kernel, by decide +kernel⟩, List.mem_of_getElem? (i := 615) (by decide +kernel), List.mem_of_getElem? (i := 952) (by decide +kernel), List.mem_of_getElem? (i := 953) (by decide +kernel)⟩
theorem lw_p49 : lw_okq (⟨"HungStreamsModel", "shows", "(I)V"⟩, 17) := ⟨⟨by decide +kernel, by decide +kernel⟩, List.mem_of_getElem? (i := 615) (by decide +kernel), List.mem_of_getElem? (i := 956) (by decide +kernel), List.mem_of_getElem? (i := 957) (by decide +kernel)⟩
theorem lw_p50 : lw_okq (⟨"HungStreamsModel", "toldOf", "(I)I"⟩, 17) := ⟨⟨by decide +kernel, by decide +kernel⟩, List.mem_of_getElem? (i := 615) (by decide +kernel), List.mem_of_getElem? (i := 969) (by decide +kernel), List.mem_of_getElem? (i := 970) (by decide +kernel)⟩
def lw_privs_4 : List (MethodName × Nat) := [(⟨"HungStreamsModel", "showsNumber", "(I)V"⟩, 17), (⟨"HungStreamsModel", "shows", "(I)V"⟩, 17), (⟨"HungStreamsModel", "toldOf", "(I)I"⟩, 17)]
theorem lw_r4 : ∀ q ∈ lw_privs_4, lw_okq q := List.forall_mem_cons.mpr ⟨lw_p48, List.forall_mem_cons.mpr ⟨lw_p49, List.forall_mem_cons.mpr ⟨lw_p50, fun _ h => absurd h List.not_mem_nil⟩⟩⟩
def lw_privs : List (MethodName × Nat) := lw_privs_1 ++ (lw_privs_2 ++ (lw_privs_3 ++ (lw_privs_4)))
def lw_tbl : List Cond := k2_sels lw_privs ++ tables_1
theorem lw_privs_ok : ∀ q ∈ lw_privs, lw_okq q := by
  show ∀ q ∈ lw_privs_1 ++ (lw_privs_2 ++ (lw_privs_3 ++ (lw_privs_4))), lw_okq q
  exact List.forall_mem_append.mpr ⟨lw_r1, List.forall_mem_append.mpr ⟨lw_r2, List.forall_mem_append.mpr ⟨lw_r3, lw_r4⟩⟩⟩
def RX0 : String := "HungStreams$Frames"
def TX0 : u_T := fun k => match k with
  | _ => ("", "", "", false)
def tyX0 : Nat → FieldType := fun k => match k with
  | _ => .int
abbrev wsX00 : List Cond := u_ws RX0 TX0 0
theorem nmX0 : ∀ a, a < 0 → ∀ b, b < 0 → a ≠ b → (TX0 a).2.1 ≠ (TX0 b).2.1 := by decide +kernel
theorem tyX0_ok : ∀ k, k < 0 → parseFieldDescriptor (TX0 k).2.2.1 = some (tyX0 k) := by decide +kernel
abbrev cX0_tryOne : ByteArray := prog_2_method_2_code
def yX0_tryOne : MethodName := ⟨RX0, "tryOne", "(LHungStreams$Tree;)Z"⟩
abbrev cX0_look : ByteArray := prog_2_method_3_code
def yX0_look : MethodName := ⟨RX0, "look", "(LHungStreams$Tree;I)V"⟩
abbrev cX0_turnOnLook : ByteArray := prog_2_method_4_code
def yX0_turnOnLook : MethodName := ⟨RX0, "turnOnLook", "(LHungStreams$Tree;I)J"⟩
abbrev cX0_sender : ByteArray := prog_2_method_5_code
def yX0_sender : MethodName := ⟨RX0, "sender", "(LHungStreams$Tree;II)I"⟩
abbrev cX0_byTree : ByteArray := prog_2_method_6_code
def yX0_byTree : MethodName := ⟨RX0, "byTree", "(LHungStreams$Tree;II)I"⟩
abbrev cX0_leastTurn : ByteArray := prog_2_method_7_code
def yX0_leastTurn : MethodName := ⟨RX0, "leastTurn", "(LHungStreams$Tree;II)I"⟩
abbrev cX0_byUrgency : ByteArray := prog_2_method_8_code
def yX0_byUrgency : MethodName := ⟨RX0, "byUrgency", "(LHungStreams$Tree;I)I"⟩
abbrev cX0_isAhead : ByteArray := prog_2_method_9_code
def yX0_isAhead : MethodName := ⟨RX0, "isAhead", "(LHungStreams$Stream;LHungStreams$Stream;)Z"⟩
abbrev cX0_send : ByteArray := prog_2_method_10_code
def yX0_send : MethodName := ⟨RX0, "send", "(LHungStreams$Tree;I)V"⟩
abbrev cX0_chargeLine : ByteArray := prog_2_method_11_code
def yX0_chargeLine : MethodName := ⟨RX0, "chargeLine", "(LHungStreams$Tree;II)V"⟩
abbrev cX0_countWaits : ByteArray := prog_2_method_12_code
def yX0_countWaits : MethodName := ⟨RX0, "countWaits", "(LHungStreams$Tree;II)V"⟩
abbrev cX0_growOld : ByteArray := prog_2_method_13_code
def yX0_growOld : MethodName := ⟨RX0, "growOld", "(LHungStreams$Tree;)V"⟩
def RX1 : String := "HungStreams$Shares"
def TX1 : u_T := fun k => match k with
  | _ => ("", "", "", false)
def tyX1 : Nat → FieldType := fun k => match k with
  | _ => .int
abbrev wsX10 : List Cond := u_ws RX1 TX1 0
theorem nmX1 : ∀ a, a < 0 → ∀ b, b < 0 → a ≠ b → (TX1 a).2.1 ≠ (TX1 b).2.1 := by decide +kernel
theorem tyX1_ok : ∀ k, k < 0 → parseFieldDescriptor (TX1 k).2.2.1 = some (tyX1 k) := by decide +kernel
abbrev cX1_term : ByteArray := prog_3_method_2_code
def yX1_term : MethodName := ⟨RX1, "term", "(LHungStreams$Tree;IZ)J"⟩
abbrev cX1_gcd : ByteArray := prog_3_method_3_code
def yX1_gcd : MethodName := ⟨RX1, "gcd", "(JJ)J"⟩
def RX2 : String := "HungStreams$Stream"
def TX2 : u_T := fun k => match k with
  | 0 => ("HungStreams$Stream", "parent", "I", false)
  | 1 => ("HungStreams$Stream", "weight", "I", false)
  | 2 => ("HungStreams$Stream", "ready", "I", false)
  | 3 => ("HungStreams$Stream", "window", "I", false)
  | 4 => ("HungStreams$Stream", "urgency", "I", false)
  | 5 => ("HungStreams$Stream", "stepwise", "I", false)
  | 6 => ("HungStreams$Stream", "open", "Z", false)
  | 7 => ("HungStreams$Stream", "age", "I", false)
  | 8 => ("HungStreams$Stream", "sent", "I", false)
  | 9 => ("HungStreams$Stream", "waited", "I", false)
  | 10 => ("HungStreams$Stream", "longest", "I", false)
  | 11 => ("HungStreams$Stream", "last", "I", false)
  | 12 => ("HungStreams$Stream", "turn", "J", false)
  | _ => ("HungStreams$Stream", "floor", "J", false)
def tyX2 : Nat → FieldType := fun k => match k with
  | 0 => .int
  | 1 => .int
  | 2 => .int
  | 3 => .int
  | 4 => .int
  | 5 => .int
  | 6 => .boolean
  | 7 => .int
  | 8 => .int
  | 9 => .int
  | 10 => .int
  | 11 => .int
  | 12 => .long
  | _ => .long
abbrev wsX20 : List Cond := u_ws RX2 TX2 14
theorem nmX2 : ∀ a, a < 14 → ∀ b, b < 14 → a ≠ b → (TX2 a).2.1 ≠ (TX2 b).2.1 := by decide +kernel
theorem tyX2_ok : ∀ k, k < 14 → parseFieldDescriptor (TX2 k).2.2.1 = some (tyX2 k) := by decide +kernel
abbrev cX2_init : ByteArray := prog_4_method_1_code
def yX2_init : MethodName := ⟨RX2, "<init>", "()V"⟩
abbrev cX2_begin : ByteArray := prog_4_method_2_code
def yX2_begin : MethodName := ⟨RX2, "begin", "(I)V"⟩
abbrev cX2_copyFrom : ByteArray := prog_4_method_3_code
def yX2_copyFrom : MethodName := ⟨RX2, "copyFrom", "(LHungStreams$Stream;)V"⟩
abbrev cX2_can : ByteArray := prog_4_method_4_code
def yX2_can : MethodName := ⟨RX2, "can", "()Z"⟩
abbrev cX2_held : ByteArray := prog_4_method_5_code
def yX2_held : MethodName := ⟨RX2, "held", "(I)I"⟩
abbrev cX2_change : ByteArray := prog_4_method_6_code
def yX2_change : MethodName := ⟨RX2, "change", "(II)I"⟩
abbrev cX2_waitOnce : ByteArray := prog_4_method_7_code
def yX2_waitOnce : MethodName := ⟨RX2, "waitOnce", "()V"⟩
def RX3 : String := "HungStreams$Tree"
def TX3 : u_T := fun k => match k with
  | 0 => ("HungStreams$Tree", "streams", "[LHungStreams$Stream;", true)
  | 1 => ("HungStreams$Tree", "there", "I", false)
  | 2 => ("HungStreams$Tree", "lived", "I", false)
  | 3 => ("HungStreams$Tree", "pool", "I", false)
  | 4 => ("HungStreams$Tree", "size", "I", false)
  | 5 => ("HungStreams$Tree", "keep", "I", false)
  | 6 => ("HungStreams$Tree", "scheme", "I", false)
  | 7 => ("HungStreams$Tree", "frames", "I", false)
  | 8 => ("HungStreams$Tree", "lastBytes", "I", false)
  | _ => ("HungStreams$Tree", "lastStream", "I", false)
def tyX3 : Nat → FieldType := fun k => match k with
  | 0 => .array (.object "HungStreams$Stream")
  | 1 => .int
  | 2 => .int
  | 3 => .int
  | 4 => .int
  | 5 => .int
  | 6 => .int
  | 7 => .int
  | 8 => .int
  | _ => .int
abbrev wsX30 : List Cond := u_ws RX3 TX3 10
theorem nmX3 : ∀ a, a < 10 → ∀ b, b < 10 → a ≠ b → (TX3 a).2.1 ≠ (TX3 b).2.1 := by decide +kernel
theorem tyX3_ok : ∀ k, k < 10 → parseFieldDescriptor (TX3 k).2.2.1 = some (tyX3 k) := by decide +kernel
abbrev cX3_init : ByteArray := prog_5_method_1_code
def yX3_init : MethodName := ⟨RX3, "<init>", "()V"⟩
abbrev cX3_copyFrom : ByteArray := prog_5_method_2_code
def yX3_copyFrom : MethodName := ⟨RX3, "copyFrom", "(LHungStreams$Tree;)V"⟩
abbrev cX3_isThere : ByteArray := prog_5_method_3_code
def yX3_isThere : MethodName := ⟨RX3, "isThere", "(I)Z"⟩
abbrev cX3_isNode : ByteArray := prog_5_method_4_code
def yX3_isNode : MethodName := ⟨RX3, "isNode", "(I)Z"⟩
abbrev cX3_isChild : ByteArray := prog_5_method_5_code
def yX3_isChild : MethodName := ⟨RX3, "isChild", "(II)Z"⟩
abbrev cX3_childCount : ByteArray := prog_5_method_6_code
def yX3_childCount : MethodName := ⟨RX3, "childCount", "(I)I"⟩
abbrev cX3_childAt : ByteArray := prog_5_method_7_code
def yX3_childAt : MethodName := ⟨RX3, "childAt", "(II)I"⟩
abbrev cX3_childWeights : ByteArray := prog_5_method_8_code
def yX3_childWeights : MethodName := ⟨RX3, "childWeights", "(II)I"⟩
abbrev cX3_lineBits : ByteArray := prog_5_method_9_code
def yX3_lineBits : MethodName := ⟨RX3, "lineBits", "(I)I"⟩
abbrev cX3_isBelow : ByteArray := prog_5_method_10_code
def yX3_isBelow : MethodName := ⟨RX3, "isBelow", "(II)Z"⟩
abbrev cX3_belowCount : ByteArray := prog_5_method_11_code
def yX3_belowCount : MethodName := ⟨RX3, "belowCount", "(I)I"⟩
abbrev cX3_deepestShared : ByteArray := prog_5_method_12_code
def yX3_deepestShared : MethodName := ⟨RX3, "deepestShared", "(II)I"⟩
abbrev cX3_canBits : ByteArray := prog_5_method_13_code
def yX3_canBits : MethodName := ⟨RX3, "canBits", "()I"⟩
abbrev cX3_liveBits : ByteArray := prog_5_method_14_code
def yX3_liveBits : MethodName := ⟨RX3, "liveBits", "(I)I"⟩
abbrev cX3_sentTogether : ByteArray := prog_5_method_15_code
def yX3_sentTogether : MethodName := ⟨RX3, "sentTogether", "()I"⟩
abbrev cX3_greatestLongest : ByteArray := prog_5_method_16_code
def yX3_greatestLongest : MethodName := ⟨RX3, "greatestLongest", "()I"⟩
abbrev cX3_enter : ByteArray := prog_5_method_17_code
def yX3_enter : MethodName := ⟨RX3, "enter", "(II)V"⟩
abbrev cX3_hang : ByteArray := prog_5_method_18_code
def yX3_hang : MethodName := ⟨RX3, "hang", "(II)V"⟩
abbrev cX3_attach : ByteArray := prog_5_method_19_code
def yX3_attach : MethodName := ⟨RX3, "attach", "(IIZ)V"⟩
abbrev cX3_hangChildren : ByteArray := prog_5_method_20_code
def yX3_hangChildren : MethodName := ⟨RX3, "hangChildren", "(II)V"⟩
abbrev cX3_changeSetting : ByteArray := prog_5_method_21_code
def yX3_changeSetting : MethodName := ⟨RX3, "changeSetting", "(II)I"⟩
abbrev cX3_letGo : ByteArray := prog_5_method_22_code
def yX3_letGo : MethodName := ⟨RX3, "letGo", "()V"⟩
abbrev cX3_leave : ByteArray := prog_5_method_23_code
def yX3_leave : MethodName := ⟨RX3, "leave", "(I)V"⟩
abbrev cX3_empty : ByteArray := prog_5_method_24_code
def yX3_empty : MethodName := ⟨RX3, "empty", "()V"⟩
def RX4 : String := "HungStreams$TreeWriter"
def TX4 : u_T := fun k => match k with
  | 0 => ("HungStreams$TreeWriter", "bytes", "[I", true)
  | _ => ("HungStreams$TreeWriter", "length", "I", false)
def tyX4 : Nat → FieldType := fun k => match k with
  | 0 => .array .int
  | _ => .int
abbrev wsX40 : List Cond := u_ws RX4 TX4 2
theorem nmX4 : ∀ a, a < 2 → ∀ b, b < 2 → a ≠ b → (TX4 a).2.1 ≠ (TX4 b).2.1 := by decide +kernel
theorem tyX4_ok : ∀ k, k < 2 → parseFieldDescriptor (TX4 k).2.2.1 = some (tyX4 k) := by decide +kernel
abbrev cX4_init : ByteArray := prog_6_method_1_code
def yX4_init : MethodName := ⟨RX4, "<init>", "()V"⟩
abbrev cX4_write : ByteArray := prog_6_method_2_code
def yX4_write : MethodName := ⟨RX4, "write", "(LHungStreams$Tree;)V"⟩
abbrev cX4_writeChildren : ByteArray := prog_6_method_3_code
def yX4_writeChildren : MethodName := ⟨RX4, "writeChildren", "(LHungStreams$Tree;II)V"⟩
abbrev cX4_putNumber : ByteArray := prog_6_method_4_code
def yX4_putNumber : MethodName := ⟨RX4, "putNumber", "(I)V"⟩
abbrev cX4_put : ByteArray := prog_6_method_5_code
def yX4_put : MethodName := ⟨RX4, "put", "(I)V"⟩
def RX5 : String := "HungStreams$TypedText"
def TX5 : u_T := fun k => match k with
  | 0 => ("HungStreams$TypedText", "bytes", "[I", true)
  | 1 => ("HungStreams$TypedText", "length", "I", false)
  | 2 => ("HungStreams$TypedText", "numbers", "[I", true)
  | 3 => ("HungStreams$TypedText", "weights", "[I", true)
  | 4 => ("HungStreams$TypedText", "parents", "[I", true)
  | 5 => ("HungStreams$TypedText", "count", "I", false)
  | 6 => ("HungStreams$TypedText", "standsIn", "[I", true)
  | 7 => ("HungStreams$TypedText", "toldBits", "I", false)
  | 8 => ("HungStreams$TypedText", "place", "I", false)
  | _ => ("HungStreams$TypedText", "fault", "I", false)
def tyX5 : Nat → FieldType := fun k => match k with
  | 0 => .array .int
  | 1 => .int
  | 2 => .array .int
  | 3 => .array .int
  | 4 => .array .int
  | 5 => .int
  | 6 => .array .int
  | 7 => .int
  | 8 => .int
  | _ => .int
abbrev wsX50 : List Cond := u_ws RX5 TX5 10
theorem nmX5 : ∀ a, a < 10 → ∀ b, b < 10 → a ≠ b → (TX5 a).2.1 ≠ (TX5 b).2.1 := by decide +kernel
theorem tyX5_ok : ∀ k, k < 10 → parseFieldDescriptor (TX5 k).2.2.1 = some (tyX5 k) := by decide +kernel
abbrev cX5_init : ByteArray := prog_7_method_1_code
def yX5_init : MethodName := ⟨RX5, "<init>", "()V"⟩
abbrev cX5_append : ByteArray := prog_7_method_2_code
def yX5_append : MethodName := ⟨RX5, "append", "(I)V"⟩
abbrev cX5_read : ByteArray := prog_7_method_3_code
def yX5_read : MethodName := ⟨RX5, "read", "()I"⟩
abbrev cX5_readStream : ByteArray := prog_7_method_4_code
def yX5_readStream : MethodName := ⟨RX5, "readStream", "(I)I"⟩
abbrev cX5_keepStream : ByteArray := prog_7_method_5_code
def yX5_keepStream : MethodName := ⟨RX5, "keepStream", "(III)V"⟩
abbrev cX5_readNumber : ByteArray := prog_7_method_6_code
def yX5_readNumber : MethodName := ⟨RX5, "readNumber", "(I)I"⟩
abbrev cX5_byteBehindBlanks : ByteArray := prog_7_method_7_code
def yX5_byteBehindBlanks : MethodName := ⟨RX5, "byteBehindBlanks", "()I"⟩
abbrev cX5_byteHere : ByteArray := prog_7_method_8_code
def yX5_byteHere : MethodName := ⟨RX5, "byteHere", "()I"⟩
abbrev cX5_isFigure : ByteArray := prog_7_method_9_code
def yX5_isFigure : MethodName := ⟨RX5, "isFigure", "(I)Z"⟩
def RX6 : String := "HungStreams"
def TX6 : u_T := fun k => match k with
  | 0 => ("HungStreams", "tree", "LHungStreams$Tree;", true)
  | 1 => ("HungStreams", "states", "[LHungStreams$Tree;", true)
  | 2 => ("HungStreams", "oldestState", "I", false)
  | 3 => ("HungStreams", "stateCount", "I", false)
  | 4 => ("HungStreams", "text", "LHungStreams$TypedText;", true)
  | 5 => ("HungStreams", "writer", "LHungStreams$TreeWriter;", true)
  | 6 => ("HungStreams", "badTimes", "I", false)
  | 7 => ("HungStreams", "noTimes", "I", false)
  | _ => ("HungStreams", "fullTimes", "I", false)
def tyX6 : Nat → FieldType := fun k => match k with
  | 0 => .object "HungStreams$Tree"
  | 1 => .array (.object "HungStreams$Tree")
  | 2 => .int
  | 3 => .int
  | 4 => .object "HungStreams$TypedText"
  | 5 => .object "HungStreams$TreeWriter"
  | 6 => .int
  | 7 => .int
  | _ => .int
abbrev wsX60 : List Cond := u_ws RX6 TX6 9
theorem nmX6 : ∀ a, a < 9 → ∀ b, b < 9 → a ≠ b → (TX6 a).2.1 ≠ (TX6 b).2.1 := by decide +kernel
theorem tyX6_ok : ∀ k, k < 9 → parseFieldDescriptor (TX6 k).2.2.1 = some (tyX6 k) := by decide +kernel
abbrev cX6_init : ByteArray := prog_1_method_1_code
def yX6_init : MethodName := ⟨RX6, "<init>", "()V"⟩
abbrev cX6_comes : ByteArray := prog_1_method_2_code
def yX6_comes : MethodName := ⟨RX6, "comes", "(IIII)I"⟩
abbrev cX6_moves : ByteArray := prog_1_method_3_code
def yX6_moves : MethodName := ⟨RX6, "moves", "(IIII)I"⟩
abbrev cX6_sets : ByteArray := prog_1_method_4_code
def yX6_sets : MethodName := ⟨RX6, "sets", "(III)I"⟩
abbrev cX6_closes : ByteArray := prog_1_method_5_code
def yX6_closes : MethodName := ⟨RX6, "closes", "(I)I"⟩
abbrev cX6_of : ByteArray := prog_1_method_6_code
def yX6_of : MethodName := ⟨RX6, "of", "(II)I"⟩
abbrev cX6_turn : ByteArray := prog_1_method_7_code
def yX6_turn : MethodName := ⟨RX6, "turn", "(II)J"⟩
abbrev cX6_child : ByteArray := prog_1_method_8_code
def yX6_child : MethodName := ⟨RX6, "child", "(II)I"⟩
abbrev cX6_common : ByteArray := prog_1_method_9_code
def yX6_common : MethodName := ⟨RX6, "common", "(II)I"⟩
abbrev cX6_readies : ByteArray := prog_1_method_10_code
def yX6_readies : MethodName := ⟨RX6, "readies", "(II)I"⟩
abbrev cX6_window : ByteArray := prog_1_method_11_code
def yX6_window : MethodName := ⟨RX6, "window", "(II)I"⟩
abbrev cX6_settings : ByteArray := prog_1_method_12_code
def yX6_settings : MethodName := ⟨RX6, "settings", "(II)I"⟩
abbrev cX6_sends : ByteArray := prog_1_method_13_code
def yX6_sends : MethodName := ⟨RX6, "sends", "(I)I"⟩
abbrev cX6_next : ByteArray := prog_1_method_14_code
def yX6_next : MethodName := ⟨RX6, "next", "()I"⟩
abbrev cX6_share : ByteArray := prog_1_method_15_code
def yX6_share : MethodName := ⟨RX6, "share", "(II)J"⟩
abbrev cX6_all : ByteArray := prog_1_method_16_code
def yX6_all : MethodName := ⟨RX6, "all", "(I)I"⟩
abbrev cX6_type : ByteArray := prog_1_method_17_code
def yX6_type : MethodName := ⟨RX6, "type", "(I)I"⟩
abbrev cX6_clear : ByteArray := prog_1_method_18_code
def yX6_clear : MethodName := ⟨RX6, "clear", "()I"⟩
abbrev cX6_builds : ByteArray := prog_1_method_19_code
def yX6_builds : MethodName := ⟨RX6, "builds", "()I"⟩
abbrev cX6_shown : ByteArray := prog_1_method_20_code
def yX6_shown : MethodName := ⟨RX6, "shown", "(I)I"⟩
abbrev cX6_back : ByteArray := prog_1_method_21_code
def yX6_back : MethodName := ⟨RX6, "back", "()I"⟩
abbrev cX6_told : ByteArray := prog_1_method_22_code
def yX6_told : MethodName := ⟨RX6, "told", "(I)I"⟩
abbrev cX6_digest : ByteArray := prog_1_method_23_code
def yX6_digest : MethodName := ⟨RX6, "digest", "()J"⟩
abbrev cX6_digestStream : ByteArray := prog_1_method_24_code
def yX6_digestStream : MethodName := ⟨RX6, "digestStream", "(JI)J"⟩
abbrev cX6_refuse : ByteArray := prog_1_method_25_code
def yX6_refuse : MethodName := ⟨RX6, "refuse", "(I)I"⟩
abbrev cX6_leaveState : ByteArray := prog_1_method_26_code
def yX6_leaveState : MethodName := ⟨RX6, "leaveState", "()V"⟩
abbrev cX6_within : ByteArray := prog_1_method_27_code
def yX6_within : MethodName := ⟨RX6, "within", "(III)Z"⟩
abbrev cX6_has : ByteArray := prog_1_method_28_code
def yX6_has : MethodName := ⟨RX6, "has", "(II)Z"⟩
abbrev cX6_cut : ByteArray := prog_1_method_29_code
def yX6_cut : MethodName := ⟨RX6, "cut", "(JJ)J"⟩
def RX7 : String := "HungStreamsModel"
def TX7 : u_T := fun k => match k with
  | 0 => ("HungStreamsModel", "all", "[J", true)
  | 1 => ("HungStreamsModel", "past", "[J", true)
  | 2 => ("HungStreamsModel", "states", "I", false)
  | 3 => ("HungStreamsModel", "refused", "[I", true)
  | 4 => ("HungStreamsModel", "above", "J", false)
  | 5 => ("HungStreamsModel", "below", "J", false)
  | 6 => ("HungStreamsModel", "text", "[I", true)
  | 7 => ("HungStreamsModel", "textLong", "I", false)
  | 8 => ("HungStreamsModel", "place", "I", false)
  | 9 => ("HungStreamsModel", "value", "I", false)
  | 10 => ("HungStreamsModel", "told", "I", false)
  | 11 => ("HungStreamsModel", "tells", "[I", true)
  | 12 => ("HungStreamsModel", "weighs", "[I", true)
  | 13 => ("HungStreamsModel", "stands", "[I", true)
  | 14 => ("HungStreamsModel", "shownAt", "I", false)
  | 15 => ("HungStreamsModel", "shownIs", "I", false)
  | _ => ("HungStreamsModel", "shownWanted", "I", false)
def tyX7 : Nat → FieldType := fun k => match k with
  | 0 => .array .long
  | 1 => .array .long
  | 2 => .int
  | 3 => .array .int
  | 4 => .long
  | 5 => .long
  | 6 => .array .int
  | 7 => .int
  | 8 => .int
  | 9 => .int
  | 10 => .int
  | 11 => .array .int
  | 12 => .array .int
  | 13 => .array .int
  | 14 => .int
  | 15 => .int
  | _ => .int
abbrev wsX70 : List Cond := u_ws RX7 TX7 17
theorem nmX7 : ∀ a, a < 17 → ∀ b, b < 17 → a ≠ b → (TX7 a).2.1 ≠ (TX7 b).2.1 := by decide +kernel
theorem tyX7_ok : ∀ k, k < 17 → parseFieldDescriptor (TX7 k).2.2.1 = some (tyX7 k) := by decide +kernel
abbrev cX7_init : ByteArray := prog_9_method_1_code
def yX7_init : MethodName := ⟨RX7, "<init>", "()V"⟩
abbrev cX7_in : ByteArray := prog_9_method_3_code
def yX7_in : MethodName := ⟨RX7, "in", "(JJJ)Z"⟩
abbrev cX7_refuses : ByteArray := prog_9_method_4_code
def yX7_refuses : MethodName := ⟨RX7, "refuses", "(I)I"⟩
abbrev cX7_keep : ByteArray := prog_9_method_5_code
def yX7_keep : MethodName := ⟨RX7, "keep", "()V"⟩
abbrev cX7_its : ByteArray := prog_9_method_6_code
def yX7_its : MethodName := ⟨RX7, "its", "(II)J"⟩
abbrev cX7_puts : ByteArray := prog_9_method_7_code
def yX7_puts : MethodName := ⟨RX7, "puts", "(IIJ)V"⟩
abbrev cX7_isStream : ByteArray := prog_9_method_8_code
def yX7_isStream : MethodName := ⟨RX7, "isStream", "(I)Z"⟩
abbrev cX7_isPlace : ByteArray := prog_9_method_9_code
def yX7_isPlace : MethodName := ⟨RX7, "isPlace", "(I)Z"⟩
abbrev cX7_parent : ByteArray := prog_9_method_10_code
def yX7_parent : MethodName := ⟨RX7, "parent", "(I)I"⟩
abbrev cX7_isChild : ByteArray := prog_9_method_11_code
def yX7_isChild : MethodName := ⟨RX7, "isChild", "(II)Z"⟩
abbrev cX7_isBelow : ByteArray := prog_9_method_12_code
def yX7_isBelow : MethodName := ⟨RX7, "isBelow", "(II)Z"⟩
abbrev cX7_children : ByteArray := prog_9_method_13_code
def yX7_children : MethodName := ⟨RX7, "children", "(I)I"⟩
abbrev cX7_hangs : ByteArray := prog_9_method_14_code
def yX7_hangs : MethodName := ⟨RX7, "hangs", "(II)V"⟩
abbrev cX7_comesTo : ByteArray := prog_9_method_15_code
def yX7_comesTo : MethodName := ⟨RX7, "comesTo", "(IIZ)V"⟩
abbrev cX7_begins : ByteArray := prog_9_method_16_code
def yX7_begins : MethodName := ⟨RX7, "begins", "(II)V"⟩
abbrev cX7_comes : ByteArray := prog_9_method_17_code
def yX7_comes : MethodName := ⟨RX7, "comes", "(IIII)I"⟩
abbrev cX7_moves : ByteArray := prog_9_method_18_code
def yX7_moves : MethodName := ⟨RX7, "moves", "(IIII)I"⟩
abbrev cX7_isSetting : ByteArray := prog_9_method_19_code
def yX7_isSetting : MethodName := ⟨RX7, "isSetting", "(II)Z"⟩
abbrev cX7_placeOf : ByteArray := prog_9_method_20_code
def yX7_placeOf : MethodName := ⟨RX7, "placeOf", "(I)I"⟩
abbrev cX7_sets : ByteArray := prog_9_method_21_code
def yX7_sets : MethodName := ⟨RX7, "sets", "(III)I"⟩
abbrev cX7_there : ByteArray := prog_9_method_22_code
def yX7_there : MethodName := ⟨RX7, "there", "()I"⟩
abbrev cX7_size : ByteArray := prog_9_method_23_code
def yX7_size : MethodName := ⟨RX7, "size", "(I)I"⟩
abbrev cX7_goes : ByteArray := prog_9_method_24_code
def yX7_goes : MethodName := ⟨RX7, "goes", "(I)V"⟩
abbrev cX7_goesAll : ByteArray := prog_9_method_25_code
def yX7_goesAll : MethodName := ⟨RX7, "goesAll", "()V"⟩
abbrev cX7_closes : ByteArray := prog_9_method_26_code
def yX7_closes : MethodName := ⟨RX7, "closes", "(I)I"⟩
abbrev cX7_can : ByteArray := prog_9_method_27_code
def yX7_can : MethodName := ⟨RX7, "can", "(I)Z"⟩
abbrev cX7_canSet : ByteArray := prog_9_method_28_code
def yX7_canSet : MethodName := ⟨RX7, "canSet", "()I"⟩
abbrev cX7_isLive : ByteArray := prog_9_method_29_code
def yX7_isLive : MethodName := ⟨RX7, "isLive", "(I)Z"⟩
abbrev cX7_liveSet : ByteArray := prog_9_method_30_code
def yX7_liveSet : MethodName := ⟨RX7, "liveSet", "()I"⟩
abbrev cX7_below : ByteArray := prog_9_method_31_code
def yX7_below : MethodName := ⟨RX7, "below", "(I)I"⟩
abbrev cX7_ofNow : ByteArray := prog_9_method_32_code
def yX7_ofNow : MethodName := ⟨RX7, "ofNow", "(II)I"⟩
abbrev cX7_of : ByteArray := prog_9_method_33_code
def yX7_of : MethodName := ⟨RX7, "of", "(II)I"⟩
abbrev cX7_turn : ByteArray := prog_9_method_34_code
def yX7_turn : MethodName := ⟨RX7, "turn", "(II)J"⟩
abbrev cX7_child : ByteArray := prog_9_method_35_code
def yX7_child : MethodName := ⟨RX7, "child", "(II)I"⟩
abbrev cX7_common : ByteArray := prog_9_method_36_code
def yX7_common : MethodName := ⟨RX7, "common", "(II)I"⟩
abbrev cX7_readies : ByteArray := prog_9_method_37_code
def yX7_readies : MethodName := ⟨RX7, "readies", "(II)I"⟩
abbrev cX7_window : ByteArray := prog_9_method_38_code
def yX7_window : MethodName := ⟨RX7, "window", "(II)I"⟩
abbrev cX7_settings : ByteArray := prog_9_method_39_code
def yX7_settings : MethodName := ⟨RX7, "settings", "(II)I"⟩
abbrev cX7_turnThen : ByteArray := prog_9_method_40_code
def yX7_turnThen : MethodName := ⟨RX7, "turnThen", "(II)J"⟩
abbrev cX7_first : ByteArray := prog_9_method_41_code
def yX7_first : MethodName := ⟨RX7, "first", "(II)I"⟩
abbrev cX7_byTree : ByteArray := prog_9_method_42_code
def yX7_byTree : MethodName := ⟨RX7, "byTree", "()I"⟩
abbrev cX7_isAhead : ByteArray := prog_9_method_43_code
def yX7_isAhead : MethodName := ⟨RX7, "isAhead", "(II)Z"⟩
abbrev cX7_byUrgency : ByteArray := prog_9_method_44_code
def yX7_byUrgency : MethodName := ⟨RX7, "byUrgency", "()I"⟩
abbrev cX7_nextNow : ByteArray := prog_9_method_45_code
def yX7_nextNow : MethodName := ⟨RX7, "nextNow", "()I"⟩
abbrev cX7_next : ByteArray := prog_9_method_46_code
def yX7_next : MethodName := ⟨RX7, "next", "()I"⟩
abbrev cX7_looks : ByteArray := prog_9_method_47_code
def yX7_looks : MethodName := ⟨RX7, "looks", "()V"⟩
abbrev cX7_bytesOf : ByteArray := prog_9_method_48_code
def yX7_bytesOf : MethodName := ⟨RX7, "bytesOf", "(I)J"⟩
abbrev cX7_turns : ByteArray := prog_9_method_49_code
def yX7_turns : MethodName := ⟨RX7, "turns", "(IJ)V"⟩
abbrev cX7_isSent : ByteArray := prog_9_method_50_code
def yX7_isSent : MethodName := ⟨RX7, "isSent", "()Z"⟩
abbrev cX7_sends : ByteArray := prog_9_method_51_code
def yX7_sends : MethodName := ⟨RX7, "sends", "(I)I"⟩
abbrev cX7_divisor : ByteArray := prog_9_method_52_code
def yX7_divisor : MethodName := ⟨RX7, "divisor", "(JJ)J"⟩
abbrev cX7_shares : ByteArray := prog_9_method_53_code
def yX7_shares : MethodName := ⟨RX7, "shares", "(I)V"⟩
abbrev cX7_share : ByteArray := prog_9_method_54_code
def yX7_share : MethodName := ⟨RX7, "share", "(II)J"⟩
abbrev cX7_allNow : ByteArray := prog_9_method_55_code
def yX7_allNow : MethodName := ⟨RX7, "allNow", "(I)I"⟩
abbrev cX7_all : ByteArray := prog_9_method_56_code
def yX7_all : MethodName := ⟨RX7, "all", "(I)I"⟩
abbrev cX7_type : ByteArray := prog_9_method_57_code
def yX7_type : MethodName := ⟨RX7, "type", "(I)I"⟩
abbrev cX7_clear : ByteArray := prog_9_method_58_code
def yX7_clear : MethodName := ⟨RX7, "clear", "()I"⟩
abbrev cX7_here : ByteArray := prog_9_method_59_code
def yX7_here : MethodName := ⟨RX7, "here", "()I"⟩
abbrev cX7_isFigure : ByteArray := prog_9_method_60_code
def yX7_isFigure : MethodName := ⟨RX7, "isFigure", "(I)Z"⟩
abbrev cX7_takes : ByteArray := prog_9_method_61_code
def yX7_takes : MethodName := ⟨RX7, "takes", "(I)Z"⟩
abbrev cX7_takesStream : ByteArray := prog_9_method_62_code
def yX7_takesStream : MethodName := ⟨RX7, "takesStream", "(I)Z"⟩
abbrev cX7_standsIn : ByteArray := prog_9_method_63_code
def yX7_standsIn : MethodName := ⟨RX7, "standsIn", "(I)I"⟩
abbrev cX7_isRead : ByteArray := prog_9_method_64_code
def yX7_isRead : MethodName := ⟨RX7, "isRead", "()Z"⟩
abbrev cX7_builds : ByteArray := prog_9_method_65_code
def yX7_builds : MethodName := ⟨RX7, "builds", "()I"⟩
abbrev cX7_shows : ByteArray := prog_9_method_66_code
def yX7_shows : MethodName := ⟨RX7, "shows", "(I)V"⟩
abbrev cX7_showsNumber : ByteArray := prog_9_method_67_code
def yX7_showsNumber : MethodName := ⟨RX7, "showsNumber", "(I)V"⟩
abbrev cX7_nextChild : ByteArray := prog_9_method_68_code
def yX7_nextChild : MethodName := ⟨RX7, "nextChild", "(II)I"⟩
abbrev cX7_showsAll : ByteArray := prog_9_method_69_code
def yX7_showsAll : MethodName := ⟨RX7, "showsAll", "()V"⟩
abbrev cX7_shown : ByteArray := prog_9_method_70_code
def yX7_shown : MethodName := ⟨RX7, "shown", "(I)I"⟩
abbrev cX7_back : ByteArray := prog_9_method_71_code
def yX7_back : MethodName := ⟨RX7, "back", "()I"⟩
abbrev cX7_toldOf : ByteArray := prog_9_method_72_code
def yX7_toldOf : MethodName := ⟨RX7, "toldOf", "(I)I"⟩
abbrev cX7_told : ByteArray := prog_9_method_73_code
def yX7_told : MethodName := ⟨RX7, "told", "(I)I"⟩
abbrev cX7_digest : ByteArray := prog_9_method_74_code
def yX7_digest : MethodName := ⟨RX7, "digest", "()J"⟩
def RL : String := "HungStreamsLaw"
abbrev cL_law : ByteArray := code
def yL_law : MethodName := ⟨RL, "law", "([I)Z"⟩
abbrev vwCl : List vw_C := [(RX2, TX2, 14), (RX3, TX3, 10), (RX4, TX4, 2), (RX5, TX5, 10), (RX6, TX6, 9), (RX7, TX7, 17)]
