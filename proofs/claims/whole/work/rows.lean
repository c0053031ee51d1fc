section
-- ===== PART A: goes FIRST, ahead of the names: the tables' words, and 'selects' of the private methods out of them =====
/-- a private method of a class that the tables say can be made, by its rows of tables_1 -/
def lw_okq (q : MethodName × Nat) : Prop := (q.1.cls ≠ "java/lang/invoke/MethodHandle" ∧ q.1.cls ≠ "java/lang/invoke/VarHandle") ∧ Cond.instantiable q.1.cls q.2 ∈ tables_1 ∧ Cond.privateMethod q.1 ∈ tables_1 ∧ Cond.instanceMethod q.1 ∈ tables_1
theorem lw_p0 : lw_okq (⟨"HungStreams", "refuse", "(I)I"⟩, 9) := ⟨⟨by decide +kernel, by decide +kernel⟩, List.mem_of_getElem? (i := 12) (by decide +kernel), List.mem_of_getElem? (i := 264) (by decide +kernel), List.mem_of_getElem? (i := 265) (by decide +kernel)⟩
theorem lw_p1 : lw_okq (⟨"HungStreams", "leaveState", "()V"⟩, 9) := ⟨⟨by decide +kernel, by decide +kernel⟩, List.mem_of_getElem? (i := 12) (by decide +kernel), List.mem_of_getElem? (i := 269) (by decide +kernel), List.mem_of_getElem? (i := 270) (by decide +kernel)⟩
theorem lw_p2 : lw_okq (⟨"HungStreams$TreeWriter", "writeChildren", "(LHungStreams$Tree;II)V"⟩, 2) := ⟨⟨by decide +kernel, by decide +kernel⟩, List.mem_of_getElem? (i := 202) (by decide +kernel), List.mem_of_getElem? (i := 578) (by decide +kernel), List.mem_of_getElem? (i := 579) (by decide +kernel)⟩
theorem lw_p3 : lw_okq (⟨"HungStreams$TreeWriter", "put", "(I)V"⟩, 2) := ⟨⟨by decide +kernel, by decide +kernel⟩, List.mem_of_getElem? (i := 202) (by decide +kernel), List.mem_of_getElem? (i := 583) (by decide +kernel), List.mem_of_getElem? (i := 584) (by decide +kernel)⟩
theorem lw_p4 : lw_okq (⟨"HungStreams$TreeWriter", "putNumber", "(I)V"⟩, 2) := ⟨⟨by decide +kernel, by decide +kernel⟩, List.mem_of_getElem? (i := 202) (by decide +kernel), List.mem_of_getElem? (i := 587) (by decide +kernel), List.mem_of_getElem? (i := 588) (by decide +kernel)⟩
theorem lw_p5 : lw_okq (⟨"HungStreams", "digestStream", "(JI)J"⟩, 9) := ⟨⟨by decide +kernel, by decide +kernel⟩, List.mem_of_getElem? (i := 12) (by decide +kernel), List.mem_of_getElem? (i := 608) (by decide +kernel), List.mem_of_getElem? (i := 609) (by decide +kernel)⟩
theorem lw_p6 : lw_okq (⟨"HungStreamsModel", "isPlace", "(I)Z"⟩, 17) := ⟨⟨by decide +kernel, by decide +kernel⟩, List.mem_of_getElem? (i := 615) (by decide +kernel), List.mem_of_getElem? (i := 686) (by decide +kernel), List.mem_of_getElem? (i := 687) (by decide +kernel)⟩
theorem lw_p7 : lw_okq (⟨"HungStreamsModel", "isStream", "(I)Z"⟩, 17) := ⟨⟨by decide +kernel, by decide +kernel⟩, List.mem_of_getElem? (i := 615) (by decide +kernel), List.mem_of_getElem? (i := 690) (by decide +kernel), List.mem_of_getElem? (i := 691) (by decide +kernel)⟩
theorem lw_p8 : lw_okq (⟨"HungStreamsModel", "its", "(II)J"⟩, 17) := ⟨⟨by decide +kernel, by decide +kernel⟩, List.mem_of_getElem? (i := 615) (by decide +kernel), List.mem_of_getElem? (i := 694) (by decide +kernel), List.mem_of_getElem? (i := 695) (by decide +kernel)⟩
theorem lw_p9 : lw_okq (⟨"HungStreamsModel", "refuses", "(I)I"⟩, 17) := ⟨⟨by decide +kernel, by decide +kernel⟩, List.mem_of_getElem? (i := 615) (by decide +kernel), List.mem_of_getElem? (i := 699) (by decide +kernel), List.mem_of_getElem? (i := 700) (by decide +kernel)⟩
theorem lw_p10 : lw_okq (⟨"HungStreamsModel", "keep", "()V"⟩, 17) := ⟨⟨by decide +kernel, by decide +kernel⟩, List.mem_of_getElem? (i := 615) (by decide +kernel), List.mem_of_getElem? (i := 703) (by decide +kernel), List.mem_of_getElem? (i := 704) (by decide +kernel)⟩
theorem lw_p11 : lw_okq (⟨"HungStreamsModel", "begins", "(II)V"⟩, 17) := ⟨⟨by decide +kernel, by decide +kernel⟩, List.mem_of_getElem? (i := 615) (by decide +kernel), List.mem_of_getElem? (i := 707) (by decide +kernel), List.mem_of_getElem? (i := 708) (by decide +kernel)⟩
theorem lw_p12 : lw_okq (⟨"HungStreamsModel", "puts", "(IIJ)V"⟩, 17) := ⟨⟨by decide +kernel, by decide +kernel⟩, List.mem_of_getElem? (i := 615) (by decide +kernel), List.mem_of_getElem? (i := 711) (by decide +kernel), List.mem_of_getElem? (i := 712) (by decide +kernel)⟩
theorem lw_p13 : lw_okq (⟨"HungStreamsModel", "comesTo", "(IIZ)V"⟩, 17) := ⟨⟨by decide +kernel, by decide +kernel⟩, List.mem_of_getElem? (i := 615) (by decide +kernel), List.mem_of_getElem? (i := 717) (by decide +kernel), List.mem_of_getElem? (i := 718) (by decide +kernel)⟩
theorem lw_p14 : lw_okq (⟨"HungStreamsModel", "isChild", "(II)Z"⟩, 17) := ⟨⟨by decide +kernel, by decide +kernel⟩, List.mem_of_getElem? (i := 615) (by decide +kernel), List.mem_of_getElem? (i := 721) (by decide +kernel), List.mem_of_getElem? (i := 722) (by decide +kernel)⟩
theorem lw_p15 : lw_okq (⟨"HungStreamsModel", "parent", "(I)I"⟩, 17) := ⟨⟨by decide +kernel, by decide +kernel⟩, List.mem_of_getElem? (i := 615) (by decide +kernel), List.mem_of_getElem? (i := 725) (by decide +kernel), List.mem_of_getElem? (i := 726) (by decide +kernel)⟩
def lw_privs_1 : List (MethodName × Nat) := [(⟨"HungStreams", "refuse", "(I)I"⟩, 9), (⟨"HungStreams", "leaveState", "()V"⟩, 9), (⟨"HungStreams$TreeWriter", "writeChildren", "(LHungStreams$Tree;II)V"⟩, 2), (⟨"HungStreams$TreeWriter", "put", "(I)V"⟩, 2), (⟨"HungStreams$TreeWriter", "putNumber", "(I)V"⟩, 2), (⟨"HungStreams", "digestStream", "(JI)J"⟩, 9), (⟨"HungStreamsModel", "isPlace", "(I)Z"⟩, 17), (⟨"HungStreamsModel", "isStream", "(I)Z"⟩, 17), (⟨"HungStreamsModel", "its", "(II)J"⟩, 17), (⟨"HungStreamsModel", "refuses", "(I)I"⟩, 17), (⟨"HungStreamsModel", "keep", "()V"⟩, 17), (⟨"HungStreamsModel", "begins", "(II)V"⟩, 17), (⟨"HungStreamsModel", "puts", "(IIJ)V"⟩, 17), (⟨"HungStreamsModel", "comesTo", "(IIZ)V"⟩, 17), (⟨"HungStreamsModel", "isChild", "(II)Z"⟩, 17), (⟨"HungStreamsModel", "parent", "(I)I"⟩, 17)]
theorem lw_r1 : ∀ q ∈ lw_privs_1, lw_okq q := List.forall_mem_cons.mpr ⟨lw_p0, List.forall_mem_cons.mpr ⟨lw_p1, List.forall_mem_cons.mpr ⟨lw_p2, List.forall_mem_cons.mpr ⟨lw_p3, List.forall_mem_cons.mpr ⟨lw_p4, List.forall_mem_cons.mpr ⟨lw_p5, List.forall_mem_cons.mpr ⟨lw_p6, List.forall_mem_cons.mpr ⟨lw_p7, List.forall_mem_cons.mpr ⟨lw_p8, List.forall_mem_cons.mpr ⟨lw_p9, List.forall_mem_cons.mpr ⟨lw_p10, List.forall_mem_cons.mpr ⟨lw_p11, List.forall_mem_cons.mpr ⟨lw_p12, List.forall_mem_cons.mpr ⟨lw_p13, List.forall_mem_cons.mpr ⟨lw_p14, List.forall_mem_cons.mpr ⟨lw_p15, fun _ h => absurd h List.not_mem_nil⟩⟩⟩⟩⟩⟩⟩⟩⟩⟩⟩⟩⟩⟩⟩⟩
theorem lw_p16 : lw_okq (⟨"HungStreamsModel", "hangs", "(II)V"⟩, 17) := ⟨⟨by decide +kernel, by decide +kernel⟩, List.mem_of_getElem? (i := 615) (by decide +kernel), List.mem_of_getElem? (i := 729) (by decide +kernel), List.mem_of_getElem? (i := 730) (by decide +kernel)⟩
theorem lw_p17 : lw_okq (⟨"HungStreamsModel", "children", "(I)I"⟩, 17) := ⟨⟨by decide +kernel, by decide +kernel⟩, List.mem_of_getElem? (i := 615) (by decide +kernel), List.mem_of_getElem? (i := 733) (by decide +kernel), List.mem_of_getElem? (i := 734) (by decide +kernel)⟩
theorem lw_p18 : lw_okq (⟨"HungStreamsModel", "isBelow", "(II)Z"⟩, 17) := ⟨⟨by decide +kernel, by decide +kernel⟩, List.mem_of_getElem? (i := 615) (by decide +kernel), List.mem_of_getElem? (i := 741) (by decide +kernel), List.mem_of_getElem? (i := 742) (by decide +kernel)⟩
theorem lw_p19 : lw_okq (⟨"HungStreamsModel", "goesAll", "()V"⟩, 17) := ⟨⟨by decide +kernel, by decide +kernel⟩, List.mem_of_getElem? (i := 615) (by decide +kernel), List.mem_of_getElem? (i := 760) (by decide +kernel), List.mem_of_getElem? (i := 761) (by decide +kernel)⟩
theorem lw_p20 : lw_okq (⟨"HungStreamsModel", "goes", "(I)V"⟩, 17) := ⟨⟨by decide +kernel, by decide +kernel⟩, List.mem_of_getElem? (i := 615) (by decide +kernel), List.mem_of_getElem? (i := 764) (by decide +kernel), List.mem_of_getElem? (i := 765) (by decide +kernel)⟩
theorem lw_p21 : lw_okq (⟨"HungStreamsModel", "there", "()I"⟩, 17) := ⟨⟨by decide +kernel, by decide +kernel⟩, List.mem_of_getElem? (i := 615) (by decide +kernel), List.mem_of_getElem? (i := 768) (by decide +kernel), List.mem_of_getElem? (i := 769) (by decide +kernel)⟩
theorem lw_p22 : lw_okq (⟨"HungStreamsModel", "ofNow", "(II)I"⟩, 17) := ⟨⟨by decide +kernel, by decide +kernel⟩, List.mem_of_getElem? (i := 615) (by decide +kernel), List.mem_of_getElem? (i := 780) (by decide +kernel), List.mem_of_getElem? (i := 781) (by decide +kernel)⟩
theorem lw_p23 : lw_okq (⟨"HungStreamsModel", "below", "(I)I"⟩, 17) := ⟨⟨by decide +kernel, by decide +kernel⟩, List.mem_of_getElem? (i := 615) (by decide +kernel), List.mem_of_getElem? (i := 784) (by decide +kernel), List.mem_of_getElem? (i := 785) (by decide +kernel)⟩
theorem lw_p24 : lw_okq (⟨"HungStreamsModel", "can", "(I)Z"⟩, 17) := ⟨⟨by decide +kernel, by decide +kernel⟩, List.mem_of_getElem? (i := 615) (by decide +kernel), List.mem_of_getElem? (i := 788) (by decide +kernel), List.mem_of_getElem? (i := 789) (by decide +kernel)⟩
theorem lw_p25 : lw_okq (⟨"HungStreamsModel", "isLive", "(I)Z"⟩, 17) := ⟨⟨by decide +kernel, by decide +kernel⟩, List.mem_of_getElem? (i := 615) (by decide +kernel), List.mem_of_getElem? (i := 792) (by decide +kernel), List.mem_of_getElem? (i := 793) (by decide +kernel)⟩
theorem lw_p26 : lw_okq (⟨"HungStreamsModel", "nextNow", "()I"⟩, 17) := ⟨⟨by decide +kernel, by decide +kernel⟩, List.mem_of_getElem? (i := 615) (by decide +kernel), List.mem_of_getElem? (i := 828) (by decide +kernel), List.mem_of_getElem? (i := 829) (by decide +kernel)⟩
theorem lw_p27 : lw_okq (⟨"HungStreamsModel", "byTree", "()I"⟩, 17) := ⟨⟨by decide +kernel, by decide +kernel⟩, List.mem_of_getElem? (i := 615) (by decide +kernel), List.mem_of_getElem? (i := 832) (by decide +kernel), List.mem_of_getElem? (i := 833) (by decide +kernel)⟩
theorem lw_p28 : lw_okq (⟨"HungStreamsModel", "liveSet", "()I"⟩, 17) := ⟨⟨by decide +kernel, by decide +kernel⟩, List.mem_of_getElem? (i := 615) (by decide +kernel), List.mem_of_getElem? (i := 836) (by decide +kernel), List.mem_of_getElem? (i := 837) (by decide +kernel)⟩
theorem lw_p29 : lw_okq (⟨"HungStreamsModel", "first", "(II)I"⟩, 17) := ⟨⟨by decide +kernel, by decide +kernel⟩, List.mem_of_getElem? (i := 615) (by decide +kernel), List.mem_of_getElem? (i := 840) (by decide +kernel), List.mem_of_getElem? (i := 841) (by decide +kernel)⟩
theorem lw_p30 : lw_okq (⟨"HungStreamsModel", "turnThen", "(II)J"⟩, 17) := ⟨⟨by decide +kernel, by decide +kernel⟩, List.mem_of_getElem? (i := 615) (by decide +kernel), List.mem_of_getElem? (i := 844) (by decide +kernel), List.mem_of_getElem? (i := 845) (by decide +kernel)⟩
theorem lw_p31 : lw_okq (⟨"HungStreamsModel", "byUrgency", "()I"⟩, 17) := ⟨⟨by decide +kernel, by decide +kernel⟩, List.mem_of_getElem? (i := 615) (by decide +kernel), List.mem_of_getElem? (i := 848) (by decide +kernel), List.mem_of_getElem? (i := 849) (by decide +kernel)⟩
def lw_privs_2 : List (MethodName × Nat) := [(⟨"HungStreamsModel", "hangs", "(II)V"⟩, 17), (⟨"HungStreamsModel", "children", "(I)I"⟩, 17), (⟨"HungStreamsModel", "isBelow", "(II)Z"⟩, 17), (⟨"HungStreamsModel", "goesAll", "()V"⟩, 17), (⟨"HungStreamsModel", "goes", "(I)V"⟩, 17), (⟨"HungStreamsModel", "there", "()I"⟩, 17), (⟨"HungStreamsModel", "ofNow", "(II)I"⟩, 17), (⟨"HungStreamsModel", "below", "(I)I"⟩, 17), (⟨"HungStreamsModel", "can", "(I)Z"⟩, 17), (⟨"HungStreamsModel", "isLive", "(I)Z"⟩, 17), (⟨"HungStreamsModel", "nextNow", "()I"⟩, 17), (⟨"HungStreamsModel", "byTree", "()I"⟩, 17), (⟨"HungStreamsModel", "liveSet", "()I"⟩, 17), (⟨"HungStreamsModel", "first", "(II)I"⟩, 17), (⟨"HungStreamsModel", "turnThen", "(II)J"⟩, 17), (⟨"HungStreamsModel", "byUrgency", "()I"⟩, 17)]
theorem lw_r2 : ∀ q ∈ lw_privs_2, lw_okq q := List.forall_mem_cons.mpr ⟨lw_p16, List.forall_mem_cons.mpr ⟨lw_p17, List.forall_mem_cons.mpr ⟨lw_p18, List.forall_mem_cons.mpr ⟨lw_p19, List.forall_mem_cons.mpr ⟨lw_p20, List.forall_mem_cons.mpr ⟨lw_p21, List.forall_mem_cons.mpr ⟨lw_p22, List.forall_mem_cons.mpr ⟨lw_p23, List.forall_mem_cons.mpr ⟨lw_p24, List.forall_mem_cons.mpr ⟨lw_p25, List.forall_mem_cons.mpr ⟨lw_p26, List.forall_mem_cons.mpr ⟨lw_p27, List.forall_mem_cons.mpr ⟨lw_p28, List.forall_mem_cons.mpr ⟨lw_p29, List.forall_mem_cons.mpr ⟨lw_p30, List.forall_mem_cons.mpr ⟨lw_p31, fun _ h => absurd h List.not_mem_nil⟩⟩⟩⟩⟩⟩⟩⟩⟩⟩⟩⟩⟩⟩⟩⟩
theorem lw_p32 : lw_okq (⟨"HungStreamsModel", "isAhead", "(II)Z"⟩, 17) := ⟨⟨by decide +kernel, by decide +kernel⟩, List.mem_of_getElem? (i := 615) (by decide +kernel), List.mem_of_getElem? (i := 852) (by decide +kernel), List.mem_of_getElem? (i := 853) (by decide +kernel)⟩
theorem lw_p33 : lw_okq (⟨"HungStreamsModel", "isSent", "()Z"⟩, 17) := ⟨⟨by decide +kernel, by decide +kernel⟩, List.mem_of_getElem? (i := 615) (by decide +kernel), List.mem_of_getElem? (i := 860) (by decide +kernel), List.mem_of_getElem? (i := 861) (by decide +kernel)⟩
theorem lw_p34 : lw_okq (⟨"HungStreamsModel", "looks", "()V"⟩, 17) := ⟨⟨by decide +kernel, by decide +kernel⟩, List.mem_of_getElem? (i := 615) (by decide +kernel), List.mem_of_getElem? (i := 864) (by decide +kernel), List.mem_of_getElem? (i := 865) (by decide +kernel)⟩
theorem lw_p35 : lw_okq (⟨"HungStreamsModel", "canSet", "()I"⟩, 17) := ⟨⟨by decide +kernel, by decide +kernel⟩, List.mem_of_getElem? (i := 615) (by decide +kernel), List.mem_of_getElem? (i := 868) (by decide +kernel), List.mem_of_getElem? (i := 869) (by decide +kernel)⟩
theorem lw_p36 : lw_okq (⟨"HungStreamsModel", "bytesOf", "(I)J"⟩, 17) := ⟨⟨by decide +kernel, by decide +kernel⟩, List.mem_of_getElem? (i := 615) (by decide +kernel), List.mem_of_getElem? (i := 872) (by decide +kernel), List.mem_of_getElem? (i := 873) (by decide +kernel)⟩
theorem lw_p37 : lw_okq (⟨"HungStreamsModel", "turns", "(IJ)V"⟩, 17) := ⟨⟨by decide +kernel, by decide +kernel⟩, List.mem_of_getElem? (i := 615) (by decide +kernel), List.mem_of_getElem? (i := 876) (by decide +kernel), List.mem_of_getElem? (i := 877) (by decide +kernel)⟩
theorem lw_p38 : lw_okq (⟨"HungStreamsModel", "shares", "(I)V"⟩, 17) := ⟨⟨by decide +kernel, by decide +kernel⟩, List.mem_of_getElem? (i := 615) (by decide +kernel), List.mem_of_getElem? (i := 885) (by decide +kernel), List.mem_of_getElem? (i := 886) (by decide +kernel)⟩
theorem lw_p39 : lw_okq (⟨"HungStreamsModel", "allNow", "(I)I"⟩, 17) := ⟨⟨by decide +kernel, by decide +kernel⟩, List.mem_of_getElem? (i := 615) (by decide +kernel), List.mem_of_getElem? (i := 897) (by decide +kernel), List.mem_of_getElem? (i := 898) (by decide +kernel)⟩
theorem lw_p40 : lw_okq (⟨"HungStreamsModel", "isRead", "()Z"⟩, 17) := ⟨⟨by decide +kernel, by decide +kernel⟩, List.mem_of_getElem? (i := 615) (by decide +kernel), List.mem_of_getElem? (i := 914) (by decide +kernel), List.mem_of_getElem? (i := 915) (by decide +kernel)⟩
theorem lw_p41 : lw_okq (⟨"HungStreamsModel", "here", "()I"⟩, 17) := ⟨⟨by decide +kernel, by decide +kernel⟩, List.mem_of_getElem? (i := 615) (by decide +kernel), List.mem_of_getElem? (i := 918) (by decide +kernel), List.mem_of_getElem? (i := 919) (by decide +kernel)⟩
theorem lw_p42 : lw_okq (⟨"HungStreamsModel", "standsIn", "(I)I"⟩, 17) := ⟨⟨by decide +kernel, by decide +kernel⟩, List.mem_of_getElem? (i := 615) (by decide +kernel), List.mem_of_getElem? (i := 922) (by decide +kernel), List.mem_of_getElem? (i := 923) (by decide +kernel)⟩
theorem lw_p43 : lw_okq (⟨"HungStreamsModel", "takesStream", "(I)Z"⟩, 17) := ⟨⟨by decide +kernel, by decide +kernel⟩, List.mem_of_getElem? (i := 615) (by decide +kernel), List.mem_of_getElem? (i := 926) (by decide +kernel), List.mem_of_getElem? (i := 927) (by decide +kernel)⟩
theorem lw_p44 : lw_okq (⟨"HungStreamsModel", "takes", "(I)Z"⟩, 17) := ⟨⟨by decide +kernel, by decide +kernel⟩, List.mem_of_getElem? (i := 615) (by decide +kernel), List.mem_of_getElem? (i := 930) (by decide +kernel), List.mem_of_getElem? (i := 931) (by decide +kernel)⟩
theorem lw_p45 : lw_okq (⟨"HungStreamsModel", "isFigure", "(I)Z"⟩, 17) := ⟨⟨by decide +kernel, by decide +kernel⟩, List.mem_of_getElem? (i := 615) (by decide +kernel), List.mem_of_getElem? (i := 934) (by decide +kernel), List.mem_of_getElem? (i := 935) (by decide +kernel)⟩
theorem lw_p46 : lw_okq (⟨"HungStreamsModel", "showsAll", "()V"⟩, 17) := ⟨⟨by decide +kernel, by decide +kernel⟩, List.mem_of_getElem? (i := 615) (by decide +kernel), List.mem_of_getElem? (i := 944) (by decide +kernel), List.mem_of_getElem? (i := 945) (by decide +kernel)⟩
theorem lw_p47 : lw_okq (⟨"HungStreamsModel", "nextChild", "(II)I"⟩, 17) := ⟨⟨by decide +kernel, by decide +kernel⟩, List.mem_of_getElem? (i := 615) (by decide +kernel), List.mem_of_getElem? (i := 948) (by decide +kernel), List.mem_of_getElem? (i := 949) (by decide +kernel)⟩
def lw_privs_3 : List (MethodName × Nat) := [(⟨"HungStreamsModel", "isAhead", "(II)Z"⟩, 17), (⟨"HungStreamsModel", "isSent", "()Z"⟩, 17), (⟨"HungStreamsModel", "looks", "()V"⟩, 17), (⟨"HungStreamsModel", "canSet", "()I"⟩, 17), (⟨"HungStreamsModel", "bytesOf", "(I)J"⟩, 17), (⟨"HungStreamsModel", "turns", "(IJ)V"⟩, 17), (⟨"HungStreamsModel", "shares", "(I)V"⟩, 17), (⟨"HungStreamsModel", "allNow", "(I)I"⟩, 17), (⟨"HungStreamsModel", "isRead", "()Z"⟩, 17), (⟨"HungStreamsModel", "here", "()I"⟩, 17), (⟨"HungStreamsModel", "standsIn", "(I)I"⟩, 17), (⟨"HungStreamsModel", "takesStream", "(I)Z"⟩, 17), (⟨"HungStreamsModel", "takes", "(I)Z"⟩, 17), (⟨"HungStreamsModel", "isFigure", "(I)Z"⟩, 17), (⟨"HungStreamsModel", "showsAll", "()V"⟩, 17), (⟨"HungStreamsModel", "nextChild", "(II)I"⟩, 17)]
theorem lw_r3 : ∀ q ∈ lw_privs_3, lw_okq q := List.forall_mem_cons.mpr ⟨lw_p32, List.forall_mem_cons.mpr ⟨lw_p33, List.forall_mem_cons.mpr ⟨lw_p34, List.forall_mem_cons.mpr ⟨lw_p35, List.forall_mem_cons.mpr ⟨lw_p36, List.forall_mem_cons.mpr ⟨lw_p37, List.forall_mem_cons.mpr ⟨lw_p38, List.forall_mem_cons.mpr ⟨lw_p39, List.forall_mem_cons.mpr ⟨lw_p40, List.forall_mem_cons.mpr ⟨lw_p41, List.forall_mem_cons.mpr ⟨lw_p42, List.forall_mem_cons.mpr ⟨lw_p43, List.forall_mem_cons.mpr ⟨lw_p44, List.forall_mem_cons.mpr ⟨lw_p45, List.forall_mem_cons.mpr ⟨lw_p46, List.forall_mem_cons.mpr ⟨lw_p47, fun _ h => absurd h List.not_mem_nil⟩⟩⟩⟩⟩⟩⟩⟩⟩⟩⟩⟩⟩⟩⟩⟩
theorem lw_p48 : lw_okq (⟨"HungStreamsModel", "showsNumber", "(I)V"⟩, 17) := ⟨⟨by decide +kernel, by decide +kernel⟩, List.mem_of_getElem? (i := 615) (by decide +kernel), List.mem_of_getElem? (i := 952) (by decide +kernel), List.mem_of_getElem? (i := 953) (by decide +kernel)⟩
theorem lw_p49 : lw_okq (⟨"HungStreamsModel", "shows", "(I)V"⟩, 17) := ⟨⟨by decide +kernel, by decide +kernel⟩, List.mem_of_getElem? (i := 615) (by decide +kernel), List.mem_of_getElem? (i := 956) (by decide +kernel), List.mem_of_getElem? (i := 957) (by decide +kernel)⟩
theorem lw_p50 : lw_okq (⟨"HungStreamsModel", "toldOf", "(I)I"⟩, 17) := ⟨⟨by decide +kernel, by decide +kernel⟩, List.mem_of_getElem? (i := 615) (by decide +kernel), List.mem_of_getElem? (i := 969) (by decide +kernel), List.mem_of_getElem? (i := 970) (by decide +kernel)⟩
def lw_privs_4 : List (MethodName × Nat) := [(⟨"HungStreamsModel", "showsNumber", "(I)V"⟩, 17), (⟨"HungStreamsModel", "shows", "(I)V"⟩, 17), (⟨"HungStreamsModel", "toldOf", "(I)I"⟩, 17)]
theorem lw_r4 : ∀ q ∈ lw_privs_4, lw_okq q := List.forall_mem_cons.mpr ⟨lw_p48, List.forall_mem_cons.mpr ⟨lw_p49, List.forall_mem_cons.mpr ⟨lw_p50, fun _ h => absurd h List.not_mem_nil⟩⟩⟩
def lw_privs : List (MethodName × Nat) := lw_privs_1 ++ (lw_privs_2 ++ (lw_privs_3 ++ (lw_privs_4)))
def lw_tbl : List Cond := k2_sels lw_privs ++ tables_1
theorem lw_privs_ok : ∀ q ∈ lw_privs, lw_okq q := by
  show ∀ q ∈ lw_privs_1 ++ (lw_privs_2 ++ (lw_privs_3 ++ (lw_privs_4))), lw_okq q
  exact List.forall_mem_append.mpr ⟨lw_r1, List.forall_mem_append.mpr ⟨lw_r2, List.forall_mem_append.mpr ⟨lw_r3, lw_r4⟩⟩⟩
def RX0 : String := "HungStreams$Frames"
def TX0 : u_T := fun k => match k with
  | _ => ("", "", "", false)
def tyX0 : Nat → FieldType := fun k => match k with
  | _ => .int
abbrev wsX00 : List Cond := u_ws RX0 TX0 0
theorem nmX0 : ∀ a, a < 0 → ∀ b, b < 0 → a ≠ b → (TX0 a).2.1 ≠ (TX0 b).2.1 := by decide +kernel
theorem tyX0_ok : ∀ k, k < 0 → parseFieldDescriptor (TX0 k).2.2.1 = some (tyX0 k) := by decide +kernel
abbrev cX0_tryOne : ByteArray := prog_2_method_2_code
def yX0_tryOne : MethodName := ⟨RX0, "tryOne", "(LHungStreams$Tree;)Z"⟩
abbrev cX0_look : ByteArray := prog_2_method_3_code
def yX0_look : MethodName := ⟨RX0, "look", "(LHungStreams$Tree;I)V"⟩
abbrev cX0_turnOnLook : ByteArray := prog_2_method_4_code
def yX0_turnOnLook : MethodName := ⟨RX0, "turnOnLook", "(LHungStreams$Tree;I)J"⟩
abbrev cX0_sender : ByteArray := prog_2_method_5_code
def yX0_sender : MethodName := ⟨RX0, "sender", "(LHungStreams$Tree;II)I"⟩
abbrev cX0_byTree : ByteArray := prog_2_method_6_code
def yX0_byTree : MethodName := ⟨RX0, "byTree", "(LHungStreams$Tree;II)I"⟩
abbrev cX0_leastTurn : ByteArray := prog_2_method_7_code
def yX0_leastTurn : MethodName := ⟨RX0, "leastTurn", "(LHungStreams$Tree;II)I"⟩
abbrev cX0_byUrgency : ByteArray := prog_2_method_8_code
def yX0_byUrgency : MethodName := ⟨RX0, "byUrgency", "(LHungStreams$Tree;I)I"⟩
abbrev cX0_isAhead : ByteArray := prog_2_method_9_code
def yX0_isAhead : MethodName := ⟨RX0, "isAhead", "(LHungStreams$Stream;LHungStreams$Stream;)Z"⟩
abbrev cX0_send : ByteArray := prog_2_method_10_code
def yX0_send : MethodName := ⟨RX0, "send", "(LHungStreams$Tree;I)V"⟩
abbrev cX0_chargeLine : ByteArray := prog_2_method_11_code
def yX0_chargeLine : MethodName := ⟨RX0, "chargeLine", "(LHungStreams$Tree;II)V"⟩
abbrev cX0_countWaits : ByteArray := prog_2_method_12_code
def yX0_countWaits : MethodName := ⟨RX0, "countWaits", "(LHungStreams$Tree;II)V"⟩
abbrev cX0_growOld : ByteArray := prog_2_method_13_code
def yX0_growOld : MethodName := ⟨RX0, "growOld", "(LHungStreams$Tree;)V"⟩
def RX1 : String := "HungStreams$Shares"
def TX1 : u_T := fun k => match k with
  | _ => ("", "", "", false)
def tyX1 : Nat → FieldType := fun k => match k with
  | _ => .int
abbrev wsX10 : List Cond := u_ws RX1 TX1 0
theorem nmX1 : ∀ a, a < 0 → ∀ b, b < 0 → a ≠ b → (TX1 a).2.1 ≠ (TX1 b).2.1 := by decide +kernel
theorem tyX1_ok : ∀ k, k < 0 → parseFieldDescriptor (TX1 k).2.2.1 = some (tyX1 k) := by decide +kernel
abbrev cX1_term : ByteArray := prog_3_method_2_code
def yX1_term : MethodName := ⟨RX1, "term", "(LHungStreams$Tree;IZ)J"⟩
abbrev cX1_gcd : ByteArray := prog_3_method_3_code
def yX1_gcd : MethodName := ⟨RX1, "gcd", "(JJ)J"⟩
def RX2 : String := "HungStreams$Stream"
def TX2 : u_T := fun k => match k with
  | 0 => ("HungStreams$Stream", "parent", "I", false)
  | 1 => ("HungStreams$Stream", "weight", "I", false)
  | 2 => ("HungStreams$Stream", "ready", "I", false)
  | 3 => ("HungStreams$Stream", "window", "I", false)
  | 4 => ("HungStreams$Stream", "urgency", "I", false)
  | 5 => ("HungStreams$Stream", "stepwise", "I", false)
  | 6 => ("HungStreams$Stream", "open", "Z", false)
  | 7 => ("HungStreams$Stream", "age", "I", false)
  | 8 => ("HungStreams$Stream", "sent", "I", false)
  | 9 => ("HungStreams$Stream", "waited", "I", false)
  | 10 => ("HungStreams$Stream", "longest", "I", false)
  | 11 => ("HungStreams$Stream", "last", "I", false)
  | 12 => ("HungStreams$Stream", "turn", "J", false)
  | _ => ("HungStreams$Stream", "floor", "J", false)
def tyX2 : Nat → FieldType := fun k => match k with
  | 0 => .int
  | 1 => .int
  | 2 => .int
  | 3 => .int
  | 4 => .int
  | 5 => .int
  | 6 => .boolean
  | 7 => .int
  | 8 => .int
  | 9 => .int
  | 10 => .int
  | 11 => .int
  | 12 => .long
  | _ => .long
abbrev wsX20 : List Cond := u_ws RX2 TX2 14
theorem nmX2 : ∀ a, a < 14 → ∀ b, b < 14 → a ≠ b → (TX2 a).2.1 ≠ (TX2 b).2.1 := by decide +kernel
theorem tyX2_ok : ∀ k, k < 14 → parseFieldDescriptor (TX2 k).2.2.1 = some (tyX2 k) := by decide +kernel
abbrev cX2_init : ByteArray := prog_4_method_1_code
def yX2_init : MethodName := ⟨RX2, "<init>", "()V"⟩
abbrev cX2_begin : ByteArray := prog_4_method_2_code
def yX2_begin : MethodName := ⟨RX2, "begin", "(I)V"⟩
abbrev cX2_copyFrom : ByteArray := prog_4_method_3_code
def yX2_copyFrom : MethodName := ⟨RX2, "copyFrom", "(LHungStreams$Stream;)V"⟩
abbrev cX2_can : ByteArray := prog_4_method_4_code
def yX2_can : MethodName := ⟨RX2, "can", "()Z"⟩
abbrev cX2_held : ByteArray := prog_4_method_5_code
def yX2_held : MethodName := ⟨RX2, "held", "(I)I"⟩
abbrev cX2_change : ByteArray := prog_4_method_6_code
def yX2_change : MethodName := ⟨RX2, "change", "(II)I"⟩
abbrev cX2_waitOnce : ByteArray := prog_4_method_7_code
def yX2_waitOnce : MethodName := ⟨RX2, "waitOnce", "()V"⟩
def RX3 : String := "HungStreams$Tree"
def TX3 : u_T := fun k => match k with
  | 0 => ("HungStreams$Tree", "streams", "[LHungStreams$Stream;", true)
  | 1 => ("HungStreams$Tree", "there", "I", false)
  | 2 => ("HungStreams$Tree", "lived", "I", false)
  | 3 => ("HungStreams$Tree", "pool", "I", false)
  | 4 => ("HungStreams$Tree", "size", "I", false)
  | 5 => ("HungStreams$Tree", "keep", "I", false)
  | 6 => ("HungStreams$Tree", "scheme", "I", false)
  | 7 => ("HungStreams$Tree", "frames", "I", false)
  | 8 => ("HungStreams$Tree", "lastBytes", "I", false)
  | _ => ("HungStreams$Tree", "lastStream", "I", false)
def tyX3 : Nat → FieldType := fun k => match k with
  | 0 => .array (.object "HungStreams$Stream")
  | 1 => .int
  | 2 => .int
  | 3 => .int
  | 4 => .int
  | 5 => .int
  | 6 => .int
  | 7 => .int
  | 8 => .int
  | _ => .int
abbrev wsX30 : List Cond := u_ws RX3 TX3 10
theorem nmX3 : ∀ a, a < 10 → ∀ b, b < 10 → a ≠ b → (TX3 a).2.1 ≠ (TX3 b).2.1 := by decide +kernel
theorem tyX3_ok : ∀ k, k < 10 → parseFieldDescriptor (TX3 k).2.2.1 = some (tyX3 k) := by decide +kernel
abbrev cX3_init : ByteArray := prog_5_method_1_code
def yX3_init : MethodName := ⟨RX3, "<init>", "()V"⟩
abbrev cX3_copyFrom : ByteArray := prog_5_method_2_code
def yX3_copyFrom : MethodName := ⟨RX3, "copyFrom", "(LHungStreams$Tree;)V"⟩
abbrev cX3_isThere : ByteArray := prog_5_method_3_code
def yX3_isThere : MethodName := ⟨RX3, "isThere", "(I)Z"⟩
abbrev cX3_isNode : ByteArray := prog_5_method_4_code
def yX3_isNode : MethodName := ⟨RX3, "isNode", "(I)Z"⟩
abbrev cX3_isChild : ByteArray := prog_5_method_5_code
def yX3_isChild : MethodName := ⟨RX3, "isChild", "(II)Z"⟩
abbrev cX3_childCount : ByteArray := prog_5_method_6_code
def yX3_childCount : MethodName := ⟨RX3, "childCount", "(I)I"⟩
abbrev cX3_childAt : ByteArray := prog_5_method_7_code
def yX3_childAt : MethodName := ⟨RX3, "childAt", "(II)I"⟩
abbrev cX3_childWeights : ByteArray := prog_5_method_8_code
def yX3_childWeights : MethodName := ⟨RX3, "childWeights", "(II)I"⟩
abbrev cX3_lineBits : ByteArray := prog_5_method_9_code
def yX3_lineBits : MethodName := ⟨RX3, "lineBits", "(I)I"⟩
abbrev cX3_isBelow : ByteArray := prog_5_method_10_code
def yX3_isBelow : MethodName := ⟨RX3, "isBelow", "(II)Z"⟩
abbrev cX3_belowCount : ByteArray := prog_5_method_11_code
def yX3_belowCount : MethodName := ⟨RX3, "belowCount", "(I)I"⟩
abbrev cX3_deepestShared : ByteArray := prog_5_method_12_code
def yX3_deepestShared : MethodName := ⟨RX3, "deepestShared", "(II)I"⟩
abbrev cX3_canBits : ByteArray := prog_5_method_13_code
def yX3_canBits : MethodName := ⟨RX3, "canBits", "()I"⟩
abbrev cX3_liveBits : ByteArray := prog_5_method_14_code
def yX3_liveBits : MethodName := ⟨RX3, "liveBits", "(I)I"⟩
abbrev cX3_sentTogether : ByteArray := prog_5_method_15_code
def yX3_sentTogether : MethodName := ⟨RX3, "sentTogether", "()I"⟩
abbrev cX3_greatestLongest : ByteArray := prog_5_method_16_code
def yX3_greatestLongest : MethodName := ⟨RX3, "greatestLongest", "()I"⟩
abbrev cX3_enter : ByteArray := prog_5_method_17_code
def yX3_enter : MethodName := ⟨RX3, "enter", "(II)V"⟩
abbrev cX3_hang : ByteArray := prog_5_method_18_code
def yX3_hang : MethodName := ⟨RX3, "hang", "(II)V"⟩
abbrev cX3_attach : ByteArray := prog_5_method_19_code
def yX3_attach : MethodName := ⟨RX3, "attach", "(IIZ)V"⟩
abbrev cX3_hangChildren : ByteArray := prog_5_method_20_code
def yX3_hangChildren : MethodName := ⟨RX3, "hangChildren", "(II)V"⟩
abbrev cX3_changeSetting : ByteArray := prog_5_method_21_code
def yX3_changeSetting : MethodName := ⟨RX3, "changeSetting", "(II)I"⟩
abbrev cX3_letGo : ByteArray := prog_5_method_22_code
def yX3_letGo : MethodName := ⟨RX3, "letGo", "()V"⟩
abbrev cX3_leave : ByteArray := prog_5_method_23_code
def yX3_leave : MethodName := ⟨RX3, "leave", "(I)V"⟩
abbrev cX3_empty : ByteArray := prog_5_method_24_code
def yX3_empty : MethodName := ⟨RX3, "empty", "()V"⟩
def RX4 : String := "HungStreams$TreeWriter"
def TX4 : u_T := fun k => match k with
  | 0 => ("HungStreams$TreeWriter", "bytes", "[I", true)
  | _ => ("HungStreams$TreeWriter", "length", "I", false)
def tyX4 : Nat → FieldType := fun k => match k with
  | 0 => .array .int
  | _ => .int
abbrev wsX40 : List Cond := u_ws RX4 TX4 2
theorem nmX4 : ∀ a, a < 2 → ∀ b, b < 2 → a ≠ b → (TX4 a).2.1 ≠ (TX4 b).2.1 := by decide +kernel
theorem tyX4_ok : ∀ k, k < 2 → parseFieldDescriptor (TX4 k).2.2.1 = some (tyX4 k) := by decide +kernel
abbrev cX4_init : ByteArray := prog_6_method_1_code
def yX4_init : MethodName := ⟨RX4, "<init>", "()V"⟩
abbrev cX4_write : ByteArray := prog_6_method_2_code
def yX4_write : MethodName := ⟨RX4, "write", "(LHungStreams$Tree;)V"⟩
abbrev cX4_writeChildren : ByteArray := prog_6_method_3_code
def yX4_writeChildren : MethodName := ⟨RX4, "writeChildren", "(LHungStreams$Tree;II)V"⟩
abbrev cX4_putNumber : ByteArray := prog_6_method_4_code
def yX4_putNumber : MethodName := ⟨RX4, "putNumber", "(I)V"⟩
abbrev cX4_put : ByteArray := prog_6_method_5_code
def yX4_put : MethodName := ⟨RX4, "put", "(I)V"⟩
def RX5 : String := "HungStreams$TypedText"
def TX5 : u_T := fun k => match k with
  | 0 => ("HungStreams$TypedText", "bytes", "[I", true)
  | 1 => ("HungStreams$TypedText", "length", "I", false)
  | 2 => ("HungStreams$TypedText", "numbers", "[I", true)
  | 3 => ("HungStreams$TypedText", "weights", "[I", true)
  | 4 => ("HungStreams$TypedText", "parents", "[I", true)
  | 5 => ("HungStreams$TypedText", "count", "I", false)
  | 6 => ("HungStreams$TypedText", "standsIn", "[I", true)
  | 7 => ("HungStreams$TypedText", "toldBits", "I", false)
  | 8 => ("HungStreams$TypedText", "place", "I", false)
  | _ => ("HungStreams$TypedText", "fault", "I", false)
def tyX5 : Nat → FieldType := fun k => match k with
  | 0 => .array .int
  | 1 => .int
  | 2 => .array .int
  | 3 => .array .int
  | 4 => .array .int
  | 5 => .int
  | 6 => .array .int
  | 7 => .int
  | 8 => .int
  | _ => .int
abbrev wsX50 : List Cond := u_ws RX5 TX5 10
theorem nmX5 : ∀ a, a < 10 → ∀ b, b < 10 → a ≠ b → (TX5 a).2.1 ≠ (TX5 b).2.1 := by decide +kernel
theorem tyX5_ok : ∀ k, k < 10 → parseFieldDescriptor (TX5 k).2.2.1 = some (tyX5 k) := by decide +kernel
abbrev cX5_init : ByteArray := prog_7_method_1_code
def yX5_init : MethodName := ⟨RX5, "<init>", "()V"⟩
abbrev cX5_append : ByteArray := prog_7_method_2_code
def yX5_append : MethodName := ⟨RX5, "append", "(I)V"⟩
abbrev cX5_read : ByteArray := prog_7_method_3_code
def yX5_read : MethodName := ⟨RX5, "read", "()I"⟩
abbrev cX5_readStream : ByteArray := prog_7_method_4_code
def yX5_readStream : MethodName := ⟨RX5, "readStream", "(I)I"⟩
abbrev cX5_keepStream : ByteArray := prog_7_method_5_code
def yX5_keepStream : MethodName := ⟨RX5, "keepStream", "(III)V"⟩
abbrev cX5_readNumber : ByteArray := prog_7_method_6_code
def yX5_readNumber : MethodName := ⟨RX5, "readNumber", "(I)I"⟩
abbrev cX5_byteBehindBlanks : ByteArray := prog_7_method_7_code
def yX5_byteBehindBlanks : MethodName := ⟨RX5, "byteBehindBlanks", "()I"⟩
abbrev cX5_byteHere : ByteArray := prog_7_method_8_code
def yX5_byteHere : MethodName := ⟨RX5, "byteHere", "()I"⟩
abbrev cX5_isFigure : ByteArray := prog_7_method_9_code
def yX5_isFigure : MethodName := ⟨RX5, "isFigure", "(I)Z"⟩
def RX6 : String := "HungStreams"
def TX6 : u_T := fun k => match k with
  | 0 => ("HungStreams", "tree", "LHungStreams$Tree;", true)
  | 1 => ("HungStreams", "states", "[LHungStreams$Tree;", true)
  | 2 => ("HungStreams", "oldestState", "I", false)
  | 3 => ("HungStreams", "stateCount", "I", false)
  | 4 => ("HungStreams", "text", "LHungStreams$TypedText;", true)
  | 5 => ("HungStreams", "writer", "LHungStreams$TreeWriter;", true)
  | 6 => ("HungStreams", "badTimes", "I", false)
  | 7 => ("HungStreams", "noTimes", "I", false)
  | _ => ("HungStreams", "fullTimes", "I", false)
def tyX6 : Nat → FieldType := fun k => match k with
  | 0 => .object "HungStreams$Tree"
  | 1 => .array (.object "HungStreams$Tree")
  | 2 => .int
  | 3 => .int
  | 4 => .object "HungStreams$TypedText"
  | 5 => .object "HungStreams$TreeWriter"
  | 6 => .int
  | 7 => .int
  | _ => .int
abbrev wsX60 : List Cond := u_ws RX6 TX6 9
theorem nmX6 : ∀ a, a < 9 → ∀ b, b < 9 → a ≠ b → (TX6 a).2.1 ≠ (TX6 b).2.1 := by decide +kernel
theorem tyX6_ok : ∀ k, k < 9 → parseFieldDescriptor (TX6 k).2.2.1 = some (tyX6 k) := by decide +kernel
abbrev cX6_init : ByteArray := prog_1_method_1_code
def yX6_init : MethodName := ⟨RX6, "<init>", "()V"⟩
abbrev cX6_comes : ByteArray := prog_1_method_2_code
def yX6_comes : MethodName := ⟨RX6, "comes", "(IIII)I"⟩
abbrev cX6_moves : ByteArray := prog_1_method_3_code
def yX6_moves : MethodName := ⟨RX6, "moves", "(IIII)I"⟩
abbrev cX6_sets : ByteArray := prog_1_method_4_code
def yX6_sets : MethodName := ⟨RX6, "sets", "(III)I"⟩
abbrev cX6_closes : ByteArray := prog_1_method_5_code
def yX6_closes : MethodName := ⟨RX6, "closes", "(I)I"⟩
abbrev cX6_of : ByteArray := prog_1_method_6_code
def yX6_of : MethodName := ⟨RX6, "of", "(II)I"⟩
abbrev cX6_turn : ByteArray := prog_1_method_7_code
def yX6_turn : MethodName := ⟨RX6, "turn", "(II)J"⟩
abbrev cX6_child : ByteArray := prog_1_method_8_code
def yX6_child : MethodName := ⟨RX6, "child", "(II)I"⟩
abbrev cX6_common : ByteArray := prog_1_method_9_code
def yX6_common : MethodName := ⟨RX6, "common", "(II)I"⟩
abbrev cX6_readies : ByteArray := prog_1_method_10_code
def yX6_readies : MethodName := ⟨RX6, "readies", "(II)I"⟩
abbrev cX6_window : ByteArray := prog_1_method_11_code
def yX6_window : MethodName := ⟨RX6, "window", "(II)I"⟩
abbrev cX6_settings : ByteArray := prog_1_method_12_code
def yX6_settings : MethodName := ⟨RX6, "settings", "(II)I"⟩
abbrev cX6_sends : ByteArray := prog_1_method_13_code
def yX6_sends : MethodName := ⟨RX6, "sends", "(I)I"⟩
abbrev cX6_next : ByteArray := prog_1_method_14_code
def yX6_next : MethodName := ⟨RX6, "next", "()I"⟩
abbrev cX6_share : ByteArray := prog_1_method_15_code
def yX6_share : MethodName := ⟨RX6, "share", "(II)J"⟩
abbrev cX6_all : ByteArray := prog_1_method_16_code
def yX6_all : MethodName := ⟨RX6, "all", "(I)I"⟩
abbrev cX6_type : ByteArray := prog_1_method_17_code
def yX6_type : MethodName := ⟨RX6, "type", "(I)I"⟩
abbrev cX6_clear : ByteArray := prog_1_method_18_code
def yX6_clear : MethodName := ⟨RX6, "clear", "()I"⟩
abbrev cX6_builds : ByteArray := prog_1_method_19_code
def yX6_builds : MethodName := ⟨RX6, "builds", "()I"⟩
abbrev cX6_shown : ByteArray := prog_1_method_20_code
def yX6_shown : MethodName := ⟨RX6, "shown", "(I)I"⟩
abbrev cX6_back : ByteArray := prog_1_method_21_code
def yX6_back : MethodName := ⟨RX6, "back", "()I"⟩
abbrev cX6_told : ByteArray := prog_1_method_22_code
def yX6_told : MethodName := ⟨RX6, "told", "(I)I"⟩
abbrev cX6_digest : ByteArray := prog_1_method_23_code
def yX6_digest : MethodName := ⟨RX6, "digest", "()J"⟩
abbrev cX6_digestStream : ByteArray := prog_1_method_24_code
def yX6_digestStream : MethodName := ⟨RX6, "digestStream", "(JI)J"⟩
abbrev cX6_refuse : ByteArray := prog_1_method_25_code
def yX6_refuse : MethodName := ⟨RX6, "refuse", "(I)I"⟩
abbrev cX6_leaveState : ByteArray := prog_1_method_26_code
def yX6_leaveState : MethodName := ⟨RX6, "leaveState", "()V"⟩
abbrev cX6_within : ByteArray := prog_1_method_27_code
def yX6_within : MethodName := ⟨RX6, "within", "(III)Z"⟩
abbrev cX6_has : ByteArray := prog_1_method_28_code
def yX6_has : MethodName := ⟨RX6, "has", "(II)Z"⟩
abbrev cX6_cut : ByteArray := prog_1_method_29_code
def yX6_cut : MethodName := ⟨RX6, "cut", "(JJ)J"⟩
def RX7 : String := "HungStreamsModel"
def TX7 : u_T := fun k => match k with
  | 0 => ("HungStreamsModel", "all", "[J", true)
  | 1 => ("HungStreamsModel", "past", "[J", true)
  | 2 => ("HungStreamsModel", "states", "I", false)
  | 3 => ("HungStreamsModel", "refused", "[I", true)
  | 4 => ("HungStreamsModel", "above", "J", false)
  | 5 => ("HungStreamsModel", "below", "J", false)
  | 6 => ("HungStreamsModel", "text", "[I", true)
  | 7 => ("HungStreamsModel", "textLong", "I", false)
  | 8 => ("HungStreamsModel", "place", "I", false)
  | 9 => ("HungStreamsModel", "value", "I", false)
  | 10 => ("HungStreamsModel", "told", "I", false)
  | 11 => ("HungStreamsModel", "tells", "[I", true)
  | 12 => ("HungStreamsModel", "weighs", "[I", true)
  | 13 => ("HungStreamsModel", "stands", "[I", true)
  | 14 => ("HungStreamsModel", "shownAt", "I", false)
  | 15 => ("HungStreamsModel", "shownIs", "I", false)
  | _ => ("HungStreamsModel", "shownWanted", "I", false)
def tyX7 : Nat → FieldType := fun k => match k with
  | 0 => .array .long
  | 1 => .array .long
  | 2 => .int
  | 3 => .array .int
  | 4 => .long
  | 5 => .long
  | 6 => .array .int
  | 7 => .int
  | 8 => .int
  | 9 => .int
  | 10 => .int
  | 11 => .array .int
  | 12 => .array .int
  | 13 => .array .int
  | 14 => .int
  | 15 => .int
  | _ => .int
abbrev wsX70 : List Cond := u_ws RX7 TX7 17
theorem nmX7 : ∀ a, a < 17 → ∀ b, b < 17 → a ≠ b → (TX7 a).2.1 ≠ (TX7 b).2.1 := by decide +kernel
theorem tyX7_ok : ∀ k, k < 17 → parseFieldDescriptor (TX7 k).2.2.1 = some (tyX7 k) := by decide +kernel
abbrev cX7_init : ByteArray := prog_9_method_1_code
def yX7_init : MethodName := ⟨RX7, "<init>", "()V"⟩
abbrev cX7_in : ByteArray := prog_9_method_3_code
def yX7_in : MethodName := ⟨RX7, "in", "(JJJ)Z"⟩
abbrev cX7_refuses : ByteArray := prog_9_method_4_code
def yX7_refuses : MethodName := ⟨RX7, "refuses", "(I)I"⟩
abbrev cX7_keep : ByteArray := prog_9_method_5_code
def yX7_keep : MethodName := ⟨RX7, "keep", "()V"⟩
abbrev cX7_its : ByteArray := prog_9_method_6_code
def yX7_its : MethodName := ⟨RX7, "its", "(II)J"⟩
abbrev cX7_puts : ByteArray := prog_9_method_7_code
def yX7_puts : MethodName := ⟨RX7, "puts", "(IIJ)V"⟩
abbrev cX7_isStream : ByteArray := prog_9_method_8_code
def yX7_isStream : MethodName := ⟨RX7, "isStream", "(I)Z"⟩
abbrev cX7_isPlace : ByteArray := prog_9_method_9_code
def yX7_isPlace : MethodName := ⟨RX7, "isPlace", "(I)Z"⟩
abbrev cX7_parent : ByteArray := prog_9_method_10_code
def yX7_parent : MethodName := ⟨RX7, "parent", "(I)I"⟩
abbrev cX7_isChild : ByteArray := prog_9_method_11_code
def yX7_isChild : MethodName := ⟨RX7, "isChild", "(II)Z"⟩
abbrev cX7_isBelow : ByteArray := prog_9_method_12_code
def yX7_isBelow : MethodName := ⟨RX7, "isBelow", "(II)Z"⟩
abbrev cX7_children : ByteArray := prog_9_method_13_code
def yX7_children : MethodName := ⟨RX7, "children", "(I)I"⟩
abbrev cX7_hangs : ByteArray := prog_9_method_14_code
def yX7_hangs : MethodName := ⟨RX7, "hangs", "(II)V"⟩
abbrev cX7_comesTo : ByteArray := prog_9_method_15_code
def yX7_comesTo : MethodName := ⟨RX7, "comesTo", "(IIZ)V"⟩
abbrev cX7_begins : ByteArray := prog_9_method_16_code
def yX7_begins : MethodName := ⟨RX7, "begins", "(II)V"⟩
abbrev cX7_comes : ByteArray := prog_9_method_17_code
def yX7_comes : MethodName := ⟨RX7, "comes", "(IIII)I"⟩
abbrev cX7_moves : ByteArray := prog_9_method_18_code
def yX7_moves : MethodName := ⟨RX7, "moves", "(IIII)I"⟩
abbrev cX7_isSetting : ByteArray := prog_9_method_19_code
def yX7_isSetting : MethodName := ⟨RX7, "isSetting", "(II)Z"⟩
abbrev cX7_placeOf : ByteArray := prog_9_method_20_code
def yX7_placeOf : MethodName := ⟨RX7, "placeOf", "(I)I"⟩
abbrev cX7_sets : ByteArray := prog_9_method_21_code
def yX7_sets : MethodName := ⟨RX7, "sets", "(III)I"⟩
abbrev cX7_there : ByteArray := prog_9_method_22_code
def yX7_there : MethodName := ⟨RX7, "there", "()I"⟩
abbrev cX7_size : ByteArray := prog_9_method_23_code
def yX7_size : MethodName := ⟨RX7, "size", "(I)I"⟩
abbrev cX7_goes : ByteArray := prog_9_method_24_code
def yX7_goes : MethodName := ⟨RX7, "goes", "(I)V"⟩
abbrev cX7_goesAll : ByteArray := prog_9_method_25_code
def yX7_goesAll : MethodName := ⟨RX7, "goesAll", "()V"⟩
abbrev cX7_closes : ByteArray := prog_9_method_26_code
def yX7_closes : MethodName := ⟨RX7, "closes", "(I)I"⟩
abbrev cX7_can : ByteArray := prog_9_method_27_code
def yX7_can : MethodName := ⟨RX7, "can", "(I)Z"⟩
abbrev cX7_canSet : ByteArray := prog_9_method_28_code
def yX7_canSet : MethodName := ⟨RX7, "canSet", "()I"⟩
abbrev cX7_isLive : ByteArray := prog_9_method_29_code
def yX7_isLive : MethodName := ⟨RX7, "isLive", "(I)Z"⟩
abbrev cX7_liveSet : ByteArray := prog_9_method_30_code
def yX7_liveSet : MethodName := ⟨RX7, "liveSet", "()I"⟩
abbrev cX7_below : ByteArray := prog_9_method_31_code
def yX7_below : MethodName := ⟨RX7, "below", "(I)I"⟩
abbrev cX7_ofNow : ByteArray := prog_9_method_32_code
def yX7_ofNow : MethodName := ⟨RX7, "ofNow", "(II)I"⟩
abbrev cX7_of : ByteArray := prog_9_method_33_code
def yX7_of : MethodName := ⟨RX7, "of", "(II)I"⟩
abbrev cX7_turn : ByteArray := prog_9_method_34_code
def yX7_turn : MethodName := ⟨RX7, "turn", "(II)J"⟩
abbrev cX7_child : ByteArray := prog_9_method_35_code
def yX7_child : MethodName := ⟨RX7, "child", "(II)I"⟩
abbrev cX7_common : ByteArray := prog_9_method_36_code
def yX7_common : MethodName := ⟨RX7, "common", "(II)I"⟩
abbrev cX7_readies : ByteArray := prog_9_method_37_code
def yX7_readies : MethodName := ⟨RX7, "readies", "(II)I"⟩
abbrev cX7_window : ByteArray := prog_9_method_38_code
def yX7_window : MethodName := ⟨RX7, "window", "(II)I"⟩
abbrev cX7_settings : ByteArray := prog_9_method_39_code
def yX7_settings : MethodName := ⟨RX7, "settings", "(II)I"⟩
abbrev cX7_turnThen : ByteArray := prog_9_method_40_code
def yX7_turnThen : MethodName := ⟨RX7, "turnThen", "(II)J"⟩
abbrev cX7_first : ByteArray := prog_9_method_41_code
def yX7_first : MethodName := ⟨RX7, "first", "(II)I"⟩
abbrev cX7_byTree : ByteArray := prog_9_method_42_code
def yX7_byTree : MethodName := ⟨RX7, "byTree", "()I"⟩
abbrev cX7_isAhead : ByteArray := prog_9_method_43_code
def yX7_isAhead : MethodName := ⟨RX7, "isAhead", "(II)Z"⟩
abbrev cX7_byUrgency : ByteArray := prog_9_method_44_code
def yX7_byUrgency : MethodName := ⟨RX7, "byUrgency", "()I"⟩
abbrev cX7_nextNow : ByteArray := prog_9_method_45_code
def yX7_nextNow : MethodName := ⟨RX7, "nextNow", "()I"⟩
abbrev cX7_next : ByteArray := prog_9_method_46_code
def yX7_next : MethodName := ⟨RX7, "next", "()I"⟩
abbrev cX7_looks : ByteArray := prog_9_method_47_code
def yX7_looks : MethodName := ⟨RX7, "looks", "()V"⟩
abbrev cX7_bytesOf : ByteArray := prog_9_method_48_code
def yX7_bytesOf : MethodName := ⟨RX7, "bytesOf", "(I)J"⟩
abbrev cX7_turns : ByteArray := prog_9_method_49_code
def yX7_turns : MethodName := ⟨RX7, "turns", "(IJ)V"⟩
abbrev cX7_isSent : ByteArray := prog_9_method_50_code
def yX7_isSent : MethodName := ⟨RX7, "isSent", "()Z"⟩
abbrev cX7_sends : ByteArray := prog_9_method_51_code
def yX7_sends : MethodName := ⟨RX7, "sends", "(I)I"⟩
abbrev cX7_divisor : ByteArray := prog_9_method_52_code
def yX7_divisor : MethodName := ⟨RX7, "divisor", "(JJ)J"⟩
abbrev cX7_shares : ByteArray := prog_9_method_53_code
def yX7_shares : MethodName := ⟨RX7, "shares", "(I)V"⟩
abbrev cX7_share : ByteArray := prog_9_method_54_code
def yX7_share : MethodName := ⟨RX7, "share", "(II)J"⟩
abbrev cX7_allNow : ByteArray := prog_9_method_55_code
def yX7_allNow : MethodName := ⟨RX7, "allNow", "(I)I"⟩
abbrev cX7_all : ByteArray := prog_9_method_56_code
def yX7_all : MethodName := ⟨RX7, "all", "(I)I"⟩
abbrev cX7_type : ByteArray := prog_9_method_57_code
def yX7_type : MethodName := ⟨RX7, "type", "(I)I"⟩
abbrev cX7_clear : ByteArray := prog_9_method_58_code
def yX7_clear : MethodName := ⟨RX7, "clear", "()I"⟩
abbrev cX7_here : ByteArray := prog_9_method_59_code
def yX7_here : MethodName := ⟨RX7, "here", "()I"⟩
abbrev cX7_isFigure : ByteArray := prog_9_method_60_code
def yX7_isFigure : MethodName := ⟨RX7, "isFigure", "(I)Z"⟩
abbrev cX7_takes : ByteArray := prog_9_method_61_code
def yX7_takes : MethodName := ⟨RX7, "takes", "(I)Z"⟩
abbrev cX7_takesStream : ByteArray := prog_9_method_62_code
def yX7_takesStream : MethodName := ⟨RX7, "takesStream", "(I)Z"⟩
abbrev cX7_standsIn : ByteArray := prog_9_method_63_code
def yX7_standsIn : MethodName := ⟨RX7, "standsIn", "(I)I"⟩
abbrev cX7_isRead : ByteArray := prog_9_method_64_code
def yX7_isRead : MethodName := ⟨RX7, "isRead", "()Z"⟩
abbrev cX7_builds : ByteArray := prog_9_method_65_code
def yX7_builds : MethodName := ⟨RX7, "builds", "()I"⟩
abbrev cX7_shows : ByteArray := prog_9_method_66_code
def yX7_shows : MethodName := ⟨RX7, "shows", "(I)V"⟩
abbrev cX7_showsNumber : ByteArray := prog_9_method_67_code
def yX7_showsNumber : MethodName := ⟨RX7, "showsNumber", "(I)V"⟩
abbrev cX7_nextChild : ByteArray := prog_9_method_68_code
def yX7_nextChild : MethodName := ⟨RX7, "nextChild", "(II)I"⟩
abbrev cX7_showsAll : ByteArray := prog_9_method_69_code
def yX7_showsAll : MethodName := ⟨RX7, "showsAll", "()V"⟩
abbrev cX7_shown : ByteArray := prog_9_method_70_code
def yX7_shown : MethodName := ⟨RX7, "shown", "(I)I"⟩
abbrev cX7_back : ByteArray := prog_9_method_71_code
def yX7_back : MethodName := ⟨RX7, "back", "()I"⟩
abbrev cX7_toldOf : ByteArray := prog_9_method_72_code
def yX7_toldOf : MethodName := ⟨RX7, "toldOf", "(I)I"⟩
abbrev cX7_told : ByteArray := prog_9_method_73_code
def yX7_told : MethodName := ⟨RX7, "told", "(I)I"⟩
abbrev cX7_digest : ByteArray := prog_9_method_74_code
def yX7_digest : MethodName := ⟨RX7, "digest", "()J"⟩
def RL : String := "HungStreamsLaw"
abbrev cL_law : ByteArray := code
def yL_law : MethodName := ⟨RL, "law", "([I)Z"⟩
abbrev vwCl : List vw_C := [(RX2, TX2, 14), (RX3, TX3, 10), (RX4, TX4, 2), (RX5, TX5, 10), (RX6, TX6, 9), (RX7, TX7, 17)]
end
section
theorem dX0_tryOne_0 : decode cX0_tryOne 0 = .ok (.aload_n 0, 1) := by decide +kernel
theorem dX0_tryOne_1 : decode cX0_tryOne 1 = .ok (.invokevirtual 9, 3) := by decide +kernel
theorem dX0_tryOne_4 : decode cX0_tryOne 4 = .ok (.istore_n 1, 1) := by decide +kernel
theorem dX0_tryOne_5 : decode cX0_tryOne 5 = .ok (.aload_n 0, 1) := by decide +kernel
theorem dX0_tryOne_6 : decode cX0_tryOne 6 = .ok (.iload_n 1, 1) := by decide +kernel
theorem dX0_tryOne_7 : decode cX0_tryOne 7 = .ok (.invokevirtual 15, 3) := by decide +kernel
theorem dX0_tryOne_10 : decode cX0_tryOne 10 = .ok (.istore_n 2, 1) := by decide +kernel
theorem dX0_tryOne_11 : decode cX0_tryOne 11 = .ok (.aload_n 0, 1) := by decide +kernel
theorem dX0_tryOne_12 : decode cX0_tryOne 12 = .ok (.iload_n 2, 1) := by decide +kernel
theorem dX0_tryOne_13 : decode cX0_tryOne 13 = .ok (.invokestatic 19, 3) := by decide +kernel
theorem dX0_tryOne_16 : decode cX0_tryOne 16 = .ok (.aload_n 0, 1) := by decide +kernel
theorem dX0_tryOne_17 : decode cX0_tryOne 17 = .ok (.iload_n 1, 1) := by decide +kernel
theorem dX0_tryOne_18 : decode cX0_tryOne 18 = .ok (.iload_n 2, 1) := by decide +kernel
theorem dX0_tryOne_19 : decode cX0_tryOne 19 = .ok (.invokestatic 25, 3) := by decide +kernel
theorem dX0_tryOne_22 : decode cX0_tryOne 22 = .ok (.istore_n 3, 1) := by decide +kernel
theorem dX0_tryOne_23 : decode cX0_tryOne 23 = .ok (.iload_n 3, 1) := by decide +kernel
theorem dX0_tryOne_24 : decode cX0_tryOne 24 = .ok (.iconst (-1), 1) := by decide +kernel
theorem dX0_tryOne_25 : decode cX0_tryOne 25 = .ok (.if_icmp .ne 5, 3) := by decide +kernel
theorem dX0_tryOne_28 : decode cX0_tryOne 28 = .ok (.iconst 0, 1) := by decide +kernel
theorem dX0_tryOne_29 : decode cX0_tryOne 29 = .ok (.ireturn, 1) := by decide +kernel
theorem dX0_tryOne_30 : decode cX0_tryOne 30 = .ok (.aload_n 0, 1) := by decide +kernel
theorem dX0_tryOne_31 : decode cX0_tryOne 31 = .ok (.iload_n 3, 1) := by decide +kernel
theorem dX0_tryOne_32 : decode cX0_tryOne 32 = .ok (.invokestatic 29, 3) := by decide +kernel
theorem dX0_tryOne_35 : decode cX0_tryOne 35 = .ok (.aload_n 0, 1) := by decide +kernel
theorem dX0_tryOne_36 : decode cX0_tryOne 36 = .ok (.iload_n 1, 1) := by decide +kernel
theorem dX0_tryOne_37 : decode cX0_tryOne 37 = .ok (.iload_n 3, 1) := by decide +kernel
theorem dX0_tryOne_38 : decode cX0_tryOne 38 = .ok (.invokestatic 32, 3) := by decide +kernel
theorem dX0_tryOne_41 : decode cX0_tryOne 41 = .ok (.aload_n 0, 1) := by decide +kernel
theorem dX0_tryOne_42 : decode cX0_tryOne 42 = .ok (.invokestatic 36, 3) := by decide +kernel
theorem dX0_tryOne_45 : decode cX0_tryOne 45 = .ok (.aload_n 0, 1) := by decide +kernel
theorem dX0_tryOne_46 : decode cX0_tryOne 46 = .ok (.invokevirtual 40, 3) := by decide +kernel
theorem dX0_tryOne_49 : decode cX0_tryOne 49 = .ok (.iconst 1, 1) := by decide +kernel
theorem dX0_tryOne_50 : decode cX0_tryOne 50 = .ok (.ireturn, 1) := by decide +kernel
theorem dX0_look_0 : decode cX0_look 0 = .ok (.iconst 1, 1) := by decide +kernel
theorem dX0_look_1 : decode cX0_look 1 = .ok (.istore_n 2, 1) := by decide +kernel
theorem dX0_look_2 : decode cX0_look 2 = .ok (.iload_n 2, 1) := by decide +kernel
theorem dX0_look_3 : decode cX0_look 3 = .ok (.bipush 12, 2) := by decide +kernel
theorem dX0_look_5 : decode cX0_look 5 = .ok (.if_icmp .gt 31, 3) := by decide +kernel
theorem dX0_look_8 : decode cX0_look 8 = .ok (.iload_n 1, 1) := by decide +kernel
theorem dX0_look_9 : decode cX0_look 9 = .ok (.iload_n 2, 1) := by decide +kernel
theorem dX0_look_10 : decode cX0_look 10 = .ok (.invokestatic 43, 3) := by decide +kernel
theorem dX0_look_13 : decode cX0_look 13 = .ok (.ifCond .eq 17, 3) := by decide +kernel
theorem dX0_look_16 : decode cX0_look 16 = .ok (.aload_n 0, 1) := by decide +kernel
theorem dX0_look_17 : decode cX0_look 17 = .ok (.getfield 47, 3) := by decide +kernel
theorem dX0_look_20 : decode cX0_look 20 = .ok (.iload_n 2, 1) := by decide +kernel
theorem dX0_look_21 : decode cX0_look 21 = .ok (.aaload, 1) := by decide +kernel
theorem dX0_look_22 : decode cX0_look 22 = .ok (.aload_n 0, 1) := by decide +kernel
theorem dX0_look_23 : decode cX0_look 23 = .ok (.iload_n 2, 1) := by decide +kernel
theorem dX0_look_24 : decode cX0_look 24 = .ok (.invokestatic 51, 3) := by decide +kernel
theorem dX0_look_27 : decode cX0_look 27 = .ok (.putfield 55, 3) := by decide +kernel
theorem dX0_look_30 : decode cX0_look 30 = .ok (.iinc 2 1, 3) := by decide +kernel
theorem dX0_look_33 : decode cX0_look 33 = .ok (.goto (-31), 3) := by decide +kernel
theorem dX0_look_36 : decode cX0_look 36 = .ok (.aload_n 0, 1) := by decide +kernel
theorem dX0_look_37 : decode cX0_look 37 = .ok (.iload_n 1, 1) := by decide +kernel
theorem dX0_look_38 : decode cX0_look 38 = .ok (.putfield 61, 3) := by decide +kernel
theorem dX0_look_41 : decode cX0_look 41 = .ok (.return_, 1) := by decide +kernel
theorem dX0_turnOnLook_0 : decode cX0_turnOnLook 0 = .ok (.aload_n 0, 1) := by decide +kernel
theorem dX0_turnOnLook_1 : decode cX0_turnOnLook 1 = .ok (.getfield 47, 3) := by decide +kernel
theorem dX0_turnOnLook_4 : decode cX0_turnOnLook 4 = .ok (.iload_n 1, 1) := by decide +kernel
theorem dX0_turnOnLook_5 : decode cX0_turnOnLook 5 = .ok (.aaload, 1) := by decide +kernel
theorem dX0_turnOnLook_6 : decode cX0_turnOnLook 6 = .ok (.astore_n 2, 1) := by decide +kernel
theorem dX0_turnOnLook_7 : decode cX0_turnOnLook 7 = .ok (.aload_n 0, 1) := by decide +kernel
theorem dX0_turnOnLook_8 : decode cX0_turnOnLook 8 = .ok (.getfield 61, 3) := by decide +kernel
theorem dX0_turnOnLook_11 : decode cX0_turnOnLook 11 = .ok (.iload_n 1, 1) := by decide +kernel
theorem dX0_turnOnLook_12 : decode cX0_turnOnLook 12 = .ok (.invokestatic 43, 3) := by decide +kernel
theorem dX0_turnOnLook_15 : decode cX0_turnOnLook 15 = .ok (.ifCond .eq 8, 3) := by decide +kernel
theorem dX0_turnOnLook_18 : decode cX0_turnOnLook 18 = .ok (.aload_n 2, 1) := by decide +kernel
theorem dX0_turnOnLook_19 : decode cX0_turnOnLook 19 = .ok (.getfield 55, 3) := by decide +kernel
theorem dX0_turnOnLook_22 : decode cX0_turnOnLook 22 = .ok (.lreturn, 1) := by decide +kernel
theorem dX0_turnOnLook_23 : decode cX0_turnOnLook 23 = .ok (.aload_n 2, 1) := by decide +kernel
theorem dX0_turnOnLook_24 : decode cX0_turnOnLook 24 = .ok (.getfield 55, 3) := by decide +kernel
theorem dX0_turnOnLook_27 : decode cX0_turnOnLook 27 = .ok (.aload_n 0, 1) := by decide +kernel
theorem dX0_turnOnLook_28 : decode cX0_turnOnLook 28 = .ok (.getfield 47, 3) := by decide +kernel
theorem dX0_turnOnLook_31 : decode cX0_turnOnLook 31 = .ok (.aload_n 2, 1) := by decide +kernel
theorem dX0_turnOnLook_32 : decode cX0_turnOnLook 32 = .ok (.getfield 65, 3) := by decide +kernel
theorem dX0_turnOnLook_35 : decode cX0_turnOnLook 35 = .ok (.aaload, 1) := by decide +kernel
theorem dX0_turnOnLook_36 : decode cX0_turnOnLook 36 = .ok (.getfield 68, 3) := by decide +kernel
theorem dX0_turnOnLook_39 : decode cX0_turnOnLook 39 = .ok (.invokestatic 71, 3) := by decide +kernel
theorem dX0_turnOnLook_42 : decode cX0_turnOnLook 42 = .ok (.lreturn, 1) := by decide +kernel
theorem dX0_sender_0 : decode cX0_sender 0 = .ok (.aload_n 0, 1) := by decide +kernel
theorem dX0_sender_1 : decode cX0_sender 1 = .ok (.getfield 77, 3) := by decide +kernel
theorem dX0_sender_4 : decode cX0_sender 4 = .ok (.ifCond .eq 7, 3) := by decide +kernel
theorem dX0_sender_7 : decode cX0_sender 7 = .ok (.iload_n 1, 1) := by decide +kernel
theorem dX0_sender_8 : decode cX0_sender 8 = .ok (.ifCond .ne 5, 3) := by decide +kernel
theorem dX0_sender_11 : decode cX0_sender 11 = .ok (.iconst (-1), 1) := by decide +kernel
theorem dX0_sender_12 : decode cX0_sender 12 = .ok (.ireturn, 1) := by decide +kernel
theorem dX0_sender_13 : decode cX0_sender 13 = .ok (.aload_n 0, 1) := by decide +kernel
theorem dX0_sender_14 : decode cX0_sender 14 = .ok (.getfield 80, 3) := by decide +kernel
theorem dX0_sender_17 : decode cX0_sender 17 = .ok (.ifCond .ne 12, 3) := by decide +kernel
theorem dX0_sender_20 : decode cX0_sender 20 = .ok (.aload_n 0, 1) := by decide +kernel
theorem dX0_sender_21 : decode cX0_sender 21 = .ok (.iload_n 1, 1) := by decide +kernel
theorem dX0_sender_22 : decode cX0_sender 22 = .ok (.iload_n 2, 1) := by decide +kernel
theorem dX0_sender_23 : decode cX0_sender 23 = .ok (.invokestatic 83, 3) := by decide +kernel
theorem dX0_sender_26 : decode cX0_sender 26 = .ok (.goto 8, 3) := by decide +kernel
theorem dX0_sender_29 : decode cX0_sender 29 = .ok (.aload_n 0, 1) := by decide +kernel
theorem dX0_sender_30 : decode cX0_sender 30 = .ok (.iload_n 1, 1) := by decide +kernel
theorem dX0_sender_31 : decode cX0_sender 31 = .ok (.invokestatic 86, 3) := by decide +kernel
theorem dX0_sender_34 : decode cX0_sender 34 = .ok (.ireturn, 1) := by decide +kernel
theorem dX0_byTree_0 : decode cX0_byTree 0 = .ok (.iconst 0, 1) := by decide +kernel
theorem dX0_byTree_1 : decode cX0_byTree 1 = .ok (.istore_n 3, 1) := by decide +kernel
theorem dX0_byTree_2 : decode cX0_byTree 2 = .ok (.iconst 0, 1) := by decide +kernel
theorem dX0_byTree_3 : decode cX0_byTree 3 = .ok (.istore 4, 2) := by decide +kernel
theorem dX0_byTree_5 : decode cX0_byTree 5 = .ok (.iload 4, 2) := by decide +kernel
theorem dX0_byTree_7 : decode cX0_byTree 7 = .ok (.bipush 12, 2) := by decide +kernel
theorem dX0_byTree_9 : decode cX0_byTree 9 = .ok (.if_icmp .ge 31, 3) := by decide +kernel
theorem dX0_byTree_12 : decode cX0_byTree 12 = .ok (.aload_n 0, 1) := by decide +kernel
theorem dX0_byTree_13 : decode cX0_byTree 13 = .ok (.iload_n 3, 1) := by decide +kernel
theorem dX0_byTree_14 : decode cX0_byTree 14 = .ok (.iload_n 2, 1) := by decide +kernel
theorem dX0_byTree_15 : decode cX0_byTree 15 = .ok (.invokestatic 90, 3) := by decide +kernel
theorem dX0_byTree_18 : decode cX0_byTree 18 = .ok (.istore_n 3, 1) := by decide +kernel
theorem dX0_byTree_19 : decode cX0_byTree 19 = .ok (.iload_n 3, 1) := by decide +kernel
theorem dX0_byTree_20 : decode cX0_byTree 20 = .ok (.iconst (-1), 1) := by decide +kernel
theorem dX0_byTree_21 : decode cX0_byTree 21 = .ok (.if_icmp .eq 11, 3) := by decide +kernel
theorem dX0_byTree_24 : decode cX0_byTree 24 = .ok (.iload_n 1, 1) := by decide +kernel
theorem dX0_byTree_25 : decode cX0_byTree 25 = .ok (.iload_n 3, 1) := by decide +kernel
theorem dX0_byTree_26 : decode cX0_byTree 26 = .ok (.invokestatic 43, 3) := by decide +kernel
theorem dX0_byTree_29 : decode cX0_byTree 29 = .ok (.ifCond .eq 5, 3) := by decide +kernel
theorem dX0_byTree_32 : decode cX0_byTree 32 = .ok (.iload_n 3, 1) := by decide +kernel
theorem dX0_byTree_33 : decode cX0_byTree 33 = .ok (.ireturn, 1) := by decide +kernel
theorem dX0_byTree_34 : decode cX0_byTree 34 = .ok (.iinc 4 1, 3) := by decide +kernel
theorem dX0_byTree_37 : decode cX0_byTree 37 = .ok (.goto (-32), 3) := by decide +kernel
theorem dX0_byTree_40 : decode cX0_byTree 40 = .ok (.iconst (-1), 1) := by decide +kernel
theorem dX0_byTree_41 : decode cX0_byTree 41 = .ok (.ireturn, 1) := by decide +kernel
theorem dX0_leastTurn_0 : decode cX0_leastTurn 0 = .ok (.iconst (-1), 1) := by decide +kernel
theorem dX0_leastTurn_1 : decode cX0_leastTurn 1 = .ok (.istore_n 3, 1) := by decide +kernel
theorem dX0_leastTurn_2 : decode cX0_leastTurn 2 = .ok (.lconst 0, 1) := by decide +kernel
theorem dX0_leastTurn_3 : decode cX0_leastTurn 3 = .ok (.lstore 4, 2) := by decide +kernel
theorem dX0_leastTurn_5 : decode cX0_leastTurn 5 = .ok (.iconst 1, 1) := by decide +kernel
theorem dX0_leastTurn_6 : decode cX0_leastTurn 6 = .ok (.istore 6, 2) := by decide +kernel
theorem dX0_leastTurn_8 : decode cX0_leastTurn 8 = .ok (.iload 6, 2) := by decide +kernel
theorem dX0_leastTurn_10 : decode cX0_leastTurn 10 = .ok (.bipush 12, 2) := by decide +kernel
theorem dX0_leastTurn_12 : decode cX0_leastTurn 12 = .ok (.if_icmp .gt 60, 3) := by decide +kernel
theorem dX0_leastTurn_15 : decode cX0_leastTurn 15 = .ok (.iload_n 2, 1) := by decide +kernel
theorem dX0_leastTurn_16 : decode cX0_leastTurn 16 = .ok (.iload 6, 2) := by decide +kernel
theorem dX0_leastTurn_18 : decode cX0_leastTurn 18 = .ok (.invokestatic 43, 3) := by decide +kernel
theorem dX0_leastTurn_21 : decode cX0_leastTurn 21 = .ok (.ifCond .eq 45, 3) := by decide +kernel
theorem dX0_leastTurn_24 : decode cX0_leastTurn 24 = .ok (.aload_n 0, 1) := by decide +kernel
theorem dX0_leastTurn_25 : decode cX0_leastTurn 25 = .ok (.getfield 47, 3) := by decide +kernel
theorem dX0_leastTurn_28 : decode cX0_leastTurn 28 = .ok (.iload 6, 2) := by decide +kernel
theorem dX0_leastTurn_30 : decode cX0_leastTurn 30 = .ok (.aaload, 1) := by decide +kernel
theorem dX0_leastTurn_31 : decode cX0_leastTurn 31 = .ok (.getfield 65, 3) := by decide +kernel
theorem dX0_leastTurn_34 : decode cX0_leastTurn 34 = .ok (.iload_n 1, 1) := by decide +kernel
theorem dX0_leastTurn_35 : decode cX0_leastTurn 35 = .ok (.if_icmp .ne 31, 3) := by decide +kernel
theorem dX0_leastTurn_38 : decode cX0_leastTurn 38 = .ok (.aload_n 0, 1) := by decide +kernel
theorem dX0_leastTurn_39 : decode cX0_leastTurn 39 = .ok (.iload 6, 2) := by decide +kernel
theorem dX0_leastTurn_41 : decode cX0_leastTurn 41 = .ok (.invokestatic 51, 3) := by decide +kernel
theorem dX0_leastTurn_44 : decode cX0_leastTurn 44 = .ok (.lstore 7, 2) := by decide +kernel
theorem dX0_leastTurn_46 : decode cX0_leastTurn 46 = .ok (.iload_n 3, 1) := by decide +kernel
theorem dX0_leastTurn_47 : decode cX0_leastTurn 47 = .ok (.iconst (-1), 1) := by decide +kernel
theorem dX0_leastTurn_48 : decode cX0_leastTurn 48 = .ok (.if_icmp .eq 11, 3) := by decide +kernel
theorem dX0_leastTurn_51 : decode cX0_leastTurn 51 = .ok (.lload 7, 2) := by decide +kernel
theorem dX0_leastTurn_53 : decode cX0_leastTurn 53 = .ok (.lload 4, 2) := by decide +kernel
theorem dX0_leastTurn_55 : decode cX0_leastTurn 55 = .ok (.lcmp, 1) := by decide +kernel
theorem dX0_leastTurn_56 : decode cX0_leastTurn 56 = .ok (.ifCond .ge 10, 3) := by decide +kernel
theorem dX0_leastTurn_59 : decode cX0_leastTurn 59 = .ok (.iload 6, 2) := by decide +kernel
theorem dX0_leastTurn_61 : decode cX0_leastTurn 61 = .ok (.istore_n 3, 1) := by decide +kernel
theorem dX0_leastTurn_62 : decode cX0_leastTurn 62 = .ok (.lload 7, 2) := by decide +kernel
theorem dX0_leastTurn_64 : decode cX0_leastTurn 64 = .ok (.lstore 4, 2) := by decide +kernel
theorem dX0_leastTurn_66 : decode cX0_leastTurn 66 = .ok (.iinc 6 1, 3) := by decide +kernel
theorem dX0_leastTurn_69 : decode cX0_leastTurn 69 = .ok (.goto (-61), 3) := by decide +kernel
theorem dX0_leastTurn_72 : decode cX0_leastTurn 72 = .ok (.iload_n 3, 1) := by decide +kernel
theorem dX0_leastTurn_73 : decode cX0_leastTurn 73 = .ok (.ireturn, 1) := by decide +kernel
theorem dX0_byUrgency_0 : decode cX0_byUrgency 0 = .ok (.iconst (-1), 1) := by decide +kernel
theorem dX0_byUrgency_1 : decode cX0_byUrgency 1 = .ok (.istore_n 2, 1) := by decide +kernel
theorem dX0_byUrgency_2 : decode cX0_byUrgency 2 = .ok (.iconst 1, 1) := by decide +kernel
theorem dX0_byUrgency_3 : decode cX0_byUrgency 3 = .ok (.istore_n 3, 1) := by decide +kernel
theorem dX0_byUrgency_4 : decode cX0_byUrgency 4 = .ok (.iload_n 3, 1) := by decide +kernel
theorem dX0_byUrgency_5 : decode cX0_byUrgency 5 = .ok (.bipush 12, 2) := by decide +kernel
theorem dX0_byUrgency_7 : decode cX0_byUrgency 7 = .ok (.if_icmp .gt 42, 3) := by decide +kernel
theorem dX0_byUrgency_10 : decode cX0_byUrgency 10 = .ok (.iload_n 1, 1) := by decide +kernel
theorem dX0_byUrgency_11 : decode cX0_byUrgency 11 = .ok (.iload_n 3, 1) := by decide +kernel
theorem dX0_byUrgency_12 : decode cX0_byUrgency 12 = .ok (.invokestatic 43, 3) := by decide +kernel
theorem dX0_byUrgency_15 : decode cX0_byUrgency 15 = .ok (.ifCond .eq 28, 3) := by decide +kernel
theorem dX0_byUrgency_18 : decode cX0_byUrgency 18 = .ok (.iload_n 2, 1) := by decide +kernel
theorem dX0_byUrgency_19 : decode cX0_byUrgency 19 = .ok (.iconst (-1), 1) := by decide +kernel
theorem dX0_byUrgency_20 : decode cX0_byUrgency 20 = .ok (.if_icmp .eq 21, 3) := by decide +kernel
theorem dX0_byUrgency_23 : decode cX0_byUrgency 23 = .ok (.aload_n 0, 1) := by decide +kernel
theorem dX0_byUrgency_24 : decode cX0_byUrgency 24 = .ok (.getfield 47, 3) := by decide +kernel
theorem dX0_byUrgency_27 : decode cX0_byUrgency 27 = .ok (.iload_n 3, 1) := by decide +kernel
theorem dX0_byUrgency_28 : decode cX0_byUrgency 28 = .ok (.aaload, 1) := by decide +kernel
theorem dX0_byUrgency_29 : decode cX0_byUrgency 29 = .ok (.aload_n 0, 1) := by decide +kernel
theorem dX0_byUrgency_30 : decode cX0_byUrgency 30 = .ok (.getfield 47, 3) := by decide +kernel
theorem dX0_byUrgency_33 : decode cX0_byUrgency 33 = .ok (.iload_n 2, 1) := by decide +kernel
theorem dX0_byUrgency_34 : decode cX0_byUrgency 34 = .ok (.aaload, 1) := by decide +kernel
theorem dX0_byUrgency_35 : decode cX0_byUrgency 35 = .ok (.invokestatic 93, 3) := by decide +kernel
theorem dX0_byUrgency_38 : decode cX0_byUrgency 38 = .ok (.ifCond .eq 5, 3) := by decide +kernel
theorem dX0_byUrgency_41 : decode cX0_byUrgency 41 = .ok (.iload_n 3, 1) := by decide +kernel
theorem dX0_byUrgency_42 : decode cX0_byUrgency 42 = .ok (.istore_n 2, 1) := by decide +kernel
theorem dX0_byUrgency_43 : decode cX0_byUrgency 43 = .ok (.iinc 3 1, 3) := by decide +kernel
theorem dX0_byUrgency_46 : decode cX0_byUrgency 46 = .ok (.goto (-42), 3) := by decide +kernel
theorem dX0_byUrgency_49 : decode cX0_byUrgency 49 = .ok (.iload_n 2, 1) := by decide +kernel
theorem dX0_byUrgency_50 : decode cX0_byUrgency 50 = .ok (.ireturn, 1) := by decide +kernel
theorem dX0_isAhead_0 : decode cX0_isAhead 0 = .ok (.aload_n 0, 1) := by decide +kernel
theorem dX0_isAhead_1 : decode cX0_isAhead 1 = .ok (.getfield 97, 3) := by decide +kernel
theorem dX0_isAhead_4 : decode cX0_isAhead 4 = .ok (.aload_n 1, 1) := by decide +kernel
theorem dX0_isAhead_5 : decode cX0_isAhead 5 = .ok (.getfield 97, 3) := by decide +kernel
theorem dX0_isAhead_8 : decode cX0_isAhead 8 = .ok (.if_icmp .eq 20, 3) := by decide +kernel
theorem dX0_isAhead_11 : decode cX0_isAhead 11 = .ok (.aload_n 0, 1) := by decide +kernel
theorem dX0_isAhead_12 : decode cX0_isAhead 12 = .ok (.getfield 97, 3) := by decide +kernel
theorem dX0_isAhead_15 : decode cX0_isAhead 15 = .ok (.aload_n 1, 1) := by decide +kernel
theorem dX0_isAhead_16 : decode cX0_isAhead 16 = .ok (.getfield 97, 3) := by decide +kernel
theorem dX0_isAhead_19 : decode cX0_isAhead 19 = .ok (.if_icmp .ge 7, 3) := by decide +kernel
theorem dX0_isAhead_22 : decode cX0_isAhead 22 = .ok (.iconst 1, 1) := by decide +kernel
theorem dX0_isAhead_23 : decode cX0_isAhead 23 = .ok (.goto 4, 3) := by decide +kernel
theorem dX0_isAhead_26 : decode cX0_isAhead 26 = .ok (.iconst 0, 1) := by decide +kernel
theorem dX0_isAhead_27 : decode cX0_isAhead 27 = .ok (.ireturn, 1) := by decide +kernel
theorem dX0_isAhead_28 : decode cX0_isAhead 28 = .ok (.aload_n 0, 1) := by decide +kernel
theorem dX0_isAhead_29 : decode cX0_isAhead 29 = .ok (.getfield 100, 3) := by decide +kernel
theorem dX0_isAhead_32 : decode cX0_isAhead 32 = .ok (.aload_n 1, 1) := by decide +kernel
theorem dX0_isAhead_33 : decode cX0_isAhead 33 = .ok (.getfield 100, 3) := by decide +kernel
theorem dX0_isAhead_36 : decode cX0_isAhead 36 = .ok (.if_icmp .eq 20, 3) := by decide +kernel
theorem dX0_isAhead_39 : decode cX0_isAhead 39 = .ok (.aload_n 0, 1) := by decide +kernel
theorem dX0_isAhead_40 : decode cX0_isAhead 40 = .ok (.getfield 100, 3) := by decide +kernel
theorem dX0_isAhead_43 : decode cX0_isAhead 43 = .ok (.aload_n 1, 1) := by decide +kernel
theorem dX0_isAhead_44 : decode cX0_isAhead 44 = .ok (.getfield 100, 3) := by decide +kernel
theorem dX0_isAhead_47 : decode cX0_isAhead 47 = .ok (.if_icmp .ge 7, 3) := by decide +kernel
theorem dX0_isAhead_50 : decode cX0_isAhead 50 = .ok (.iconst 1, 1) := by decide +kernel
theorem dX0_isAhead_51 : decode cX0_isAhead 51 = .ok (.goto 4, 3) := by decide +kernel
theorem dX0_isAhead_54 : decode cX0_isAhead 54 = .ok (.iconst 0, 1) := by decide +kernel
theorem dX0_isAhead_55 : decode cX0_isAhead 55 = .ok (.ireturn, 1) := by decide +kernel
theorem dX0_isAhead_56 : decode cX0_isAhead 56 = .ok (.aload_n 0, 1) := by decide +kernel
theorem dX0_isAhead_57 : decode cX0_isAhead 57 = .ok (.getfield 100, 3) := by decide +kernel
theorem dX0_isAhead_60 : decode cX0_isAhead 60 = .ok (.iconst 1, 1) := by decide +kernel
theorem dX0_isAhead_61 : decode cX0_isAhead 61 = .ok (.if_icmp .ne 18, 3) := by decide +kernel
theorem dX0_isAhead_64 : decode cX0_isAhead 64 = .ok (.aload_n 0, 1) := by decide +kernel
theorem dX0_isAhead_65 : decode cX0_isAhead 65 = .ok (.getfield 103, 3) := by decide +kernel
theorem dX0_isAhead_68 : decode cX0_isAhead 68 = .ok (.aload_n 1, 1) := by decide +kernel
theorem dX0_isAhead_69 : decode cX0_isAhead 69 = .ok (.getfield 103, 3) := by decide +kernel
theorem dX0_isAhead_72 : decode cX0_isAhead 72 = .ok (.if_icmp .ge 7, 3) := by decide +kernel
theorem dX0_isAhead_75 : decode cX0_isAhead 75 = .ok (.iconst 1, 1) := by decide +kernel
theorem dX0_isAhead_76 : decode cX0_isAhead 76 = .ok (.goto 4, 3) := by decide +kernel
theorem dX0_isAhead_79 : decode cX0_isAhead 79 = .ok (.iconst 0, 1) := by decide +kernel
theorem dX0_isAhead_80 : decode cX0_isAhead 80 = .ok (.ireturn, 1) := by decide +kernel
theorem dX0_send_0 : decode cX0_send 0 = .ok (.aload_n 0, 1) := by decide +kernel
theorem dX0_send_1 : decode cX0_send 1 = .ok (.getfield 47, 3) := by decide +kernel
theorem dX0_send_4 : decode cX0_send 4 = .ok (.iload_n 1, 1) := by decide +kernel
theorem dX0_send_5 : decode cX0_send 5 = .ok (.aaload, 1) := by decide +kernel
theorem dX0_send_6 : decode cX0_send 6 = .ok (.astore_n 2, 1) := by decide +kernel
theorem dX0_send_7 : decode cX0_send 7 = .ok (.aload_n 0, 1) := by decide +kernel
theorem dX0_send_8 : decode cX0_send 8 = .ok (.getfield 106, 3) := by decide +kernel
theorem dX0_send_11 : decode cX0_send 11 = .ok (.aload_n 0, 1) := by decide +kernel
theorem dX0_send_12 : decode cX0_send 12 = .ok (.getfield 77, 3) := by decide +kernel
theorem dX0_send_15 : decode cX0_send 15 = .ok (.invokestatic 109, 3) := by decide +kernel
theorem dX0_send_18 : decode cX0_send 18 = .ok (.aload_n 2, 1) := by decide +kernel
theorem dX0_send_19 : decode cX0_send 19 = .ok (.getfield 113, 3) := by decide +kernel
theorem dX0_send_22 : decode cX0_send 22 = .ok (.aload_n 2, 1) := by decide +kernel
theorem dX0_send_23 : decode cX0_send 23 = .ok (.getfield 116, 3) := by decide +kernel
theorem dX0_send_26 : decode cX0_send 26 = .ok (.invokestatic 109, 3) := by decide +kernel
theorem dX0_send_29 : decode cX0_send 29 = .ok (.invokestatic 109, 3) := by decide +kernel
theorem dX0_send_32 : decode cX0_send 32 = .ok (.istore_n 3, 1) := by decide +kernel
theorem dX0_send_33 : decode cX0_send 33 = .ok (.aload_n 0, 1) := by decide +kernel
theorem dX0_send_34 : decode cX0_send 34 = .ok (.dup, 1) := by decide +kernel
theorem dX0_send_35 : decode cX0_send 35 = .ok (.getfield 77, 3) := by decide +kernel
theorem dX0_send_38 : decode cX0_send 38 = .ok (.iload_n 3, 1) := by decide +kernel
theorem dX0_send_39 : decode cX0_send 39 = .ok (.isub, 1) := by decide +kernel
theorem dX0_send_40 : decode cX0_send 40 = .ok (.putfield 77, 3) := by decide +kernel
theorem dX0_send_43 : decode cX0_send 43 = .ok (.aload_n 2, 1) := by decide +kernel
theorem dX0_send_44 : decode cX0_send 44 = .ok (.dup, 1) := by decide +kernel
theorem dX0_send_45 : decode cX0_send 45 = .ok (.getfield 113, 3) := by decide +kernel
theorem dX0_send_48 : decode cX0_send 48 = .ok (.iload_n 3, 1) := by decide +kernel
theorem dX0_send_49 : decode cX0_send 49 = .ok (.isub, 1) := by decide +kernel
theorem dX0_send_50 : decode cX0_send 50 = .ok (.putfield 113, 3) := by decide +kernel
theorem dX0_send_53 : decode cX0_send 53 = .ok (.aload_n 2, 1) := by decide +kernel
theorem dX0_send_54 : decode cX0_send 54 = .ok (.dup, 1) := by decide +kernel
theorem dX0_send_55 : decode cX0_send 55 = .ok (.getfield 116, 3) := by decide +kernel
theorem dX0_send_58 : decode cX0_send 58 = .ok (.iload_n 3, 1) := by decide +kernel
theorem dX0_send_59 : decode cX0_send 59 = .ok (.isub, 1) := by decide +kernel
theorem dX0_send_60 : decode cX0_send 60 = .ok (.putfield 116, 3) := by decide +kernel
theorem dX0_send_63 : decode cX0_send 63 = .ok (.aload_n 2, 1) := by decide +kernel
theorem dX0_send_64 : decode cX0_send 64 = .ok (.dup, 1) := by decide +kernel
theorem dX0_send_65 : decode cX0_send 65 = .ok (.getfield 119, 3) := by decide +kernel
theorem dX0_send_68 : decode cX0_send 68 = .ok (.iload_n 3, 1) := by decide +kernel
theorem dX0_send_69 : decode cX0_send 69 = .ok (.iadd, 1) := by decide +kernel
theorem dX0_send_70 : decode cX0_send 70 = .ok (.putfield 119, 3) := by decide +kernel
theorem dX0_send_73 : decode cX0_send 73 = .ok (.aload_n 0, 1) := by decide +kernel
theorem dX0_send_74 : decode cX0_send 74 = .ok (.getfield 80, 3) := by decide +kernel
theorem dX0_send_77 : decode cX0_send 77 = .ok (.ifCond .ne 9, 3) := by decide +kernel
theorem dX0_send_80 : decode cX0_send 80 = .ok (.aload_n 0, 1) := by decide +kernel
theorem dX0_send_81 : decode cX0_send 81 = .ok (.iload_n 1, 1) := by decide +kernel
theorem dX0_send_82 : decode cX0_send 82 = .ok (.iload_n 3, 1) := by decide +kernel
theorem dX0_send_83 : decode cX0_send 83 = .ok (.invokestatic 122, 3) := by decide +kernel
theorem dX0_send_86 : decode cX0_send 86 = .ok (.aload_n 0, 1) := by decide +kernel
theorem dX0_send_87 : decode cX0_send 87 = .ok (.dup, 1) := by decide +kernel
theorem dX0_send_88 : decode cX0_send 88 = .ok (.getfield 125, 3) := by decide +kernel
theorem dX0_send_91 : decode cX0_send 91 = .ok (.iconst 1, 1) := by decide +kernel
theorem dX0_send_92 : decode cX0_send 92 = .ok (.iadd, 1) := by decide +kernel
theorem dX0_send_93 : decode cX0_send 93 = .ok (.putfield 125, 3) := by decide +kernel
theorem dX0_send_96 : decode cX0_send 96 = .ok (.aload_n 2, 1) := by decide +kernel
theorem dX0_send_97 : decode cX0_send 97 = .ok (.aload_n 0, 1) := by decide +kernel
theorem dX0_send_98 : decode cX0_send 98 = .ok (.getfield 125, 3) := by decide +kernel
theorem dX0_send_101 : decode cX0_send 101 = .ok (.putfield 103, 3) := by decide +kernel
theorem dX0_send_104 : decode cX0_send 104 = .ok (.aload_n 0, 1) := by decide +kernel
theorem dX0_send_105 : decode cX0_send 105 = .ok (.iload_n 3, 1) := by decide +kernel
theorem dX0_send_106 : decode cX0_send 106 = .ok (.putfield 128, 3) := by decide +kernel
theorem dX0_send_109 : decode cX0_send 109 = .ok (.aload_n 0, 1) := by decide +kernel
theorem dX0_send_110 : decode cX0_send 110 = .ok (.iload_n 1, 1) := by decide +kernel
theorem dX0_send_111 : decode cX0_send 111 = .ok (.putfield 131, 3) := by decide +kernel
theorem dX0_send_114 : decode cX0_send 114 = .ok (.return_, 1) := by decide +kernel
theorem dX0_chargeLine_0 : decode cX0_chargeLine 0 = .ok (.iload_n 1, 1) := by decide +kernel
theorem dX0_chargeLine_1 : decode cX0_chargeLine 1 = .ok (.istore_n 3, 1) := by decide +kernel
theorem dX0_chargeLine_2 : decode cX0_chargeLine 2 = .ok (.iconst 0, 1) := by decide +kernel
theorem dX0_chargeLine_3 : decode cX0_chargeLine 3 = .ok (.istore 4, 2) := by decide +kernel
theorem dX0_chargeLine_5 : decode cX0_chargeLine 5 = .ok (.iload 4, 2) := by decide +kernel
theorem dX0_chargeLine_7 : decode cX0_chargeLine 7 = .ok (.bipush 12, 2) := by decide +kernel
theorem dX0_chargeLine_9 : decode cX0_chargeLine 9 = .ok (.if_icmp .ge 70, 3) := by decide +kernel
theorem dX0_chargeLine_12 : decode cX0_chargeLine 12 = .ok (.iload_n 3, 1) := by decide +kernel
theorem dX0_chargeLine_13 : decode cX0_chargeLine 13 = .ok (.ifCond .eq 66, 3) := by decide +kernel
theorem dX0_chargeLine_16 : decode cX0_chargeLine 16 = .ok (.aload_n 0, 1) := by decide +kernel
theorem dX0_chargeLine_17 : decode cX0_chargeLine 17 = .ok (.getfield 47, 3) := by decide +kernel
theorem dX0_chargeLine_20 : decode cX0_chargeLine 20 = .ok (.iload_n 3, 1) := by decide +kernel
theorem dX0_chargeLine_21 : decode cX0_chargeLine 21 = .ok (.aaload, 1) := by decide +kernel
theorem dX0_chargeLine_22 : decode cX0_chargeLine 22 = .ok (.astore 5, 2) := by decide +kernel
theorem dX0_chargeLine_24 : decode cX0_chargeLine 24 = .ok (.aload_n 0, 1) := by decide +kernel
theorem dX0_chargeLine_25 : decode cX0_chargeLine 25 = .ok (.getfield 47, 3) := by decide +kernel
theorem dX0_chargeLine_28 : decode cX0_chargeLine 28 = .ok (.aload 5, 2) := by decide +kernel
theorem dX0_chargeLine_30 : decode cX0_chargeLine 30 = .ok (.getfield 65, 3) := by decide +kernel
theorem dX0_chargeLine_33 : decode cX0_chargeLine 33 = .ok (.aaload, 1) := by decide +kernel
theorem dX0_chargeLine_34 : decode cX0_chargeLine 34 = .ok (.aload 5, 2) := by decide +kernel
theorem dX0_chargeLine_36 : decode cX0_chargeLine 36 = .ok (.getfield 55, 3) := by decide +kernel
theorem dX0_chargeLine_39 : decode cX0_chargeLine 39 = .ok (.putfield 68, 3) := by decide +kernel
theorem dX0_chargeLine_42 : decode cX0_chargeLine 42 = .ok (.aload 5, 2) := by decide +kernel
theorem dX0_chargeLine_44 : decode cX0_chargeLine 44 = .ok (.dup, 1) := by decide +kernel
theorem dX0_chargeLine_45 : decode cX0_chargeLine 45 = .ok (.getfield 55, 3) := by decide +kernel
theorem dX0_chargeLine_48 : decode cX0_chargeLine 48 = .ok (.iload_n 2, 1) := by decide +kernel
theorem dX0_chargeLine_49 : decode cX0_chargeLine 49 = .ok (.i2l, 1) := by decide +kernel
theorem dX0_chargeLine_50 : decode cX0_chargeLine 50 = .ok (.ldc2_w 134, 3) := by decide +kernel
theorem dX0_chargeLine_53 : decode cX0_chargeLine 53 = .ok (.lmul, 1) := by decide +kernel
theorem dX0_chargeLine_54 : decode cX0_chargeLine 54 = .ok (.aload 5, 2) := by decide +kernel
theorem dX0_chargeLine_56 : decode cX0_chargeLine 56 = .ok (.getfield 136, 3) := by decide +kernel
theorem dX0_chargeLine_59 : decode cX0_chargeLine 59 = .ok (.i2l, 1) := by decide +kernel
theorem dX0_chargeLine_60 : decode cX0_chargeLine 60 = .ok (.invokestatic 139, 3) := by decide +kernel
theorem dX0_chargeLine_63 : decode cX0_chargeLine 63 = .ok (.ladd, 1) := by decide +kernel
theorem dX0_chargeLine_64 : decode cX0_chargeLine 64 = .ok (.putfield 55, 3) := by decide +kernel
theorem dX0_chargeLine_67 : decode cX0_chargeLine 67 = .ok (.aload 5, 2) := by decide +kernel
theorem dX0_chargeLine_69 : decode cX0_chargeLine 69 = .ok (.getfield 65, 3) := by decide +kernel
theorem dX0_chargeLine_72 : decode cX0_chargeLine 72 = .ok (.istore_n 3, 1) := by decide +kernel
theorem dX0_chargeLine_73 : decode cX0_chargeLine 73 = .ok (.iinc 4 1, 3) := by decide +kernel
theorem dX0_chargeLine_76 : decode cX0_chargeLine 76 = .ok (.goto (-71), 3) := by decide +kernel
theorem dX0_chargeLine_79 : decode cX0_chargeLine 79 = .ok (.return_, 1) := by decide +kernel
theorem dX0_countWaits_0 : decode cX0_countWaits 0 = .ok (.iconst 1, 1) := by decide +kernel
theorem dX0_countWaits_1 : decode cX0_countWaits 1 = .ok (.istore_n 3, 1) := by decide +kernel
theorem dX0_countWaits_2 : decode cX0_countWaits 2 = .ok (.iload_n 3, 1) := by decide +kernel
theorem dX0_countWaits_3 : decode cX0_countWaits 3 = .ok (.bipush 12, 2) := by decide +kernel
theorem dX0_countWaits_5 : decode cX0_countWaits 5 = .ok (.if_icmp .gt 31, 3) := by decide +kernel
theorem dX0_countWaits_8 : decode cX0_countWaits 8 = .ok (.iload_n 1, 1) := by decide +kernel
theorem dX0_countWaits_9 : decode cX0_countWaits 9 = .ok (.iload_n 3, 1) := by decide +kernel
theorem dX0_countWaits_10 : decode cX0_countWaits 10 = .ok (.invokestatic 43, 3) := by decide +kernel
theorem dX0_countWaits_13 : decode cX0_countWaits 13 = .ok (.ifCond .eq 17, 3) := by decide +kernel
theorem dX0_countWaits_16 : decode cX0_countWaits 16 = .ok (.iload_n 3, 1) := by decide +kernel
theorem dX0_countWaits_17 : decode cX0_countWaits 17 = .ok (.iload_n 2, 1) := by decide +kernel
theorem dX0_countWaits_18 : decode cX0_countWaits 18 = .ok (.if_icmp .eq 12, 3) := by decide +kernel
theorem dX0_countWaits_21 : decode cX0_countWaits 21 = .ok (.aload_n 0, 1) := by decide +kernel
theorem dX0_countWaits_22 : decode cX0_countWaits 22 = .ok (.getfield 47, 3) := by decide +kernel
theorem dX0_countWaits_25 : decode cX0_countWaits 25 = .ok (.iload_n 3, 1) := by decide +kernel
theorem dX0_countWaits_26 : decode cX0_countWaits 26 = .ok (.aaload, 1) := by decide +kernel
theorem dX0_countWaits_27 : decode cX0_countWaits 27 = .ok (.invokevirtual 142, 3) := by decide +kernel
theorem dX0_countWaits_30 : decode cX0_countWaits 30 = .ok (.iinc 3 1, 3) := by decide +kernel
theorem dX0_countWaits_33 : decode cX0_countWaits 33 = .ok (.goto (-31), 3) := by decide +kernel
theorem dX0_countWaits_36 : decode cX0_countWaits 36 = .ok (.aload_n 0, 1) := by decide +kernel
theorem dX0_countWaits_37 : decode cX0_countWaits 37 = .ok (.getfield 47, 3) := by decide +kernel
theorem dX0_countWaits_40 : decode cX0_countWaits 40 = .ok (.iload_n 2, 1) := by decide +kernel
theorem dX0_countWaits_41 : decode cX0_countWaits 41 = .ok (.aaload, 1) := by decide +kernel
theorem dX0_countWaits_42 : decode cX0_countWaits 42 = .ok (.iconst 0, 1) := by decide +kernel
theorem dX0_countWaits_43 : decode cX0_countWaits 43 = .ok (.putfield 145, 3) := by decide +kernel
theorem dX0_countWaits_46 : decode cX0_countWaits 46 = .ok (.return_, 1) := by decide +kernel
theorem dX0_growOld_0 : decode cX0_growOld 0 = .ok (.iconst 1, 1) := by decide +kernel
theorem dX0_growOld_1 : decode cX0_growOld 1 = .ok (.istore_n 1, 1) := by decide +kernel
theorem dX0_growOld_2 : decode cX0_growOld 2 = .ok (.iload_n 1, 1) := by decide +kernel
theorem dX0_growOld_3 : decode cX0_growOld 3 = .ok (.bipush 12, 2) := by decide +kernel
theorem dX0_growOld_5 : decode cX0_growOld 5 = .ok (.if_icmp .gt 47, 3) := by decide +kernel
theorem dX0_growOld_8 : decode cX0_growOld 8 = .ok (.aload_n 0, 1) := by decide +kernel
theorem dX0_growOld_9 : decode cX0_growOld 9 = .ok (.getfield 148, 3) := by decide +kernel
theorem dX0_growOld_12 : decode cX0_growOld 12 = .ok (.iload_n 1, 1) := by decide +kernel
theorem dX0_growOld_13 : decode cX0_growOld 13 = .ok (.invokestatic 43, 3) := by decide +kernel
theorem dX0_growOld_16 : decode cX0_growOld 16 = .ok (.ifCond .eq 30, 3) := by decide +kernel
theorem dX0_growOld_19 : decode cX0_growOld 19 = .ok (.aload_n 0, 1) := by decide +kernel
theorem dX0_growOld_20 : decode cX0_growOld 20 = .ok (.getfield 47, 3) := by decide +kernel
theorem dX0_growOld_23 : decode cX0_growOld 23 = .ok (.iload_n 1, 1) := by decide +kernel
theorem dX0_growOld_24 : decode cX0_growOld 24 = .ok (.aaload, 1) := by decide +kernel
theorem dX0_growOld_25 : decode cX0_growOld 25 = .ok (.getfield 151, 3) := by decide +kernel
theorem dX0_growOld_28 : decode cX0_growOld 28 = .ok (.ifCond .ne 18, 3) := by decide +kernel
theorem dX0_growOld_31 : decode cX0_growOld 31 = .ok (.aload_n 0, 1) := by decide +kernel
theorem dX0_growOld_32 : decode cX0_growOld 32 = .ok (.getfield 47, 3) := by decide +kernel
theorem dX0_growOld_35 : decode cX0_growOld 35 = .ok (.iload_n 1, 1) := by decide +kernel
theorem dX0_growOld_36 : decode cX0_growOld 36 = .ok (.aaload, 1) := by decide +kernel
theorem dX0_growOld_37 : decode cX0_growOld 37 = .ok (.dup, 1) := by decide +kernel
theorem dX0_growOld_38 : decode cX0_growOld 38 = .ok (.getfield 155, 3) := by decide +kernel
theorem dX0_growOld_41 : decode cX0_growOld 41 = .ok (.iconst 1, 1) := by decide +kernel
theorem dX0_growOld_42 : decode cX0_growOld 42 = .ok (.iadd, 1) := by decide +kernel
theorem dX0_growOld_43 : decode cX0_growOld 43 = .ok (.putfield 155, 3) := by decide +kernel
theorem dX0_growOld_46 : decode cX0_growOld 46 = .ok (.iinc 1 1, 3) := by decide +kernel
theorem dX0_growOld_49 : decode cX0_growOld 49 = .ok (.goto (-47), 3) := by decide +kernel
theorem dX0_growOld_52 : decode cX0_growOld 52 = .ok (.return_, 1) := by decide +kernel
theorem dX1_term_0 : decode cX1_term 0 = .ok (.aload_n 0, 1) := by decide +kernel
theorem dX1_term_1 : decode cX1_term 1 = .ok (.invokevirtual 9, 3) := by decide +kernel
theorem dX1_term_4 : decode cX1_term 4 = .ok (.istore_n 3, 1) := by decide +kernel
theorem dX1_term_5 : decode cX1_term 5 = .ok (.aload_n 0, 1) := by decide +kernel
theorem dX1_term_6 : decode cX1_term 6 = .ok (.iload_n 3, 1) := by decide +kernel
theorem dX1_term_7 : decode cX1_term 7 = .ok (.invokevirtual 15, 3) := by decide +kernel
theorem dX1_term_10 : decode cX1_term 10 = .ok (.istore 4, 2) := by decide +kernel
theorem dX1_term_12 : decode cX1_term 12 = .ok (.aload_n 0, 1) := by decide +kernel
theorem dX1_term_13 : decode cX1_term 13 = .ok (.iload_n 1, 1) := by decide +kernel
theorem dX1_term_14 : decode cX1_term 14 = .ok (.invokevirtual 19, 3) := by decide +kernel
theorem dX1_term_17 : decode cX1_term 17 = .ok (.istore 5, 2) := by decide +kernel
theorem dX1_term_19 : decode cX1_term 19 = .ok (.iload 4, 2) := by decide +kernel
theorem dX1_term_21 : decode cX1_term 21 = .ok (.iload_n 1, 1) := by decide +kernel
theorem dX1_term_22 : decode cX1_term 22 = .ok (.invokestatic 22, 3) := by decide +kernel
theorem dX1_term_25 : decode cX1_term 25 = .ok (.ifCond .eq 16, 3) := by decide +kernel
theorem dX1_term_28 : decode cX1_term 28 = .ok (.iload 5, 2) := by decide +kernel
theorem dX1_term_30 : decode cX1_term 30 = .ok (.iconst 1, 1) := by decide +kernel
theorem dX1_term_31 : decode cX1_term 31 = .ok (.iload_n 1, 1) := by decide +kernel
theorem dX1_term_32 : decode cX1_term 32 = .ok (.ishl, 1) := by decide +kernel
theorem dX1_term_33 : decode cX1_term 33 = .ok (.iconst (-1), 1) := by decide +kernel
theorem dX1_term_34 : decode cX1_term 34 = .ok (.ixor, 1) := by decide +kernel
theorem dX1_term_35 : decode cX1_term 35 = .ok (.iand, 1) := by decide +kernel
theorem dX1_term_36 : decode cX1_term 36 = .ok (.iload_n 3, 1) := by decide +kernel
theorem dX1_term_37 : decode cX1_term 37 = .ok (.iand, 1) := by decide +kernel
theorem dX1_term_38 : decode cX1_term 38 = .ok (.ifCond .eq 13, 3) := by decide +kernel
theorem dX1_term_41 : decode cX1_term 41 = .ok (.iload_n 2, 1) := by decide +kernel
theorem dX1_term_42 : decode cX1_term 42 = .ok (.ifCond .eq 7, 3) := by decide +kernel
theorem dX1_term_45 : decode cX1_term 45 = .ok (.lconst 0, 1) := by decide +kernel
theorem dX1_term_46 : decode cX1_term 46 = .ok (.goto 4, 3) := by decide +kernel
theorem dX1_term_49 : decode cX1_term 49 = .ok (.lconst 1, 1) := by decide +kernel
theorem dX1_term_50 : decode cX1_term 50 = .ok (.lreturn, 1) := by decide +kernel
theorem dX1_term_51 : decode cX1_term 51 = .ok (.lconst 1, 1) := by decide +kernel
theorem dX1_term_52 : decode cX1_term 52 = .ok (.lstore 6, 2) := by decide +kernel
theorem dX1_term_54 : decode cX1_term 54 = .ok (.lconst 1, 1) := by decide +kernel
theorem dX1_term_55 : decode cX1_term 55 = .ok (.lstore 8, 2) := by decide +kernel
theorem dX1_term_57 : decode cX1_term 57 = .ok (.iload_n 1, 1) := by decide +kernel
theorem dX1_term_58 : decode cX1_term 58 = .ok (.istore 10, 2) := by decide +kernel
theorem dX1_term_60 : decode cX1_term 60 = .ok (.iconst 0, 1) := by decide +kernel
theorem dX1_term_61 : decode cX1_term 61 = .ok (.istore 11, 2) := by decide +kernel
theorem dX1_term_63 : decode cX1_term 63 = .ok (.iload 11, 2) := by decide +kernel
theorem dX1_term_65 : decode cX1_term 65 = .ok (.bipush 12, 2) := by decide +kernel
theorem dX1_term_67 : decode cX1_term 67 = .ok (.if_icmp .ge 56, 3) := by decide +kernel
theorem dX1_term_70 : decode cX1_term 70 = .ok (.iload 10, 2) := by decide +kernel
theorem dX1_term_72 : decode cX1_term 72 = .ok (.ifCond .eq 51, 3) := by decide +kernel
theorem dX1_term_75 : decode cX1_term 75 = .ok (.lload 6, 2) := by decide +kernel
theorem dX1_term_77 : decode cX1_term 77 = .ok (.aload_n 0, 1) := by decide +kernel
theorem dX1_term_78 : decode cX1_term 78 = .ok (.getfield 26, 3) := by decide +kernel
theorem dX1_term_81 : decode cX1_term 81 = .ok (.iload 10, 2) := by decide +kernel
theorem dX1_term_83 : decode cX1_term 83 = .ok (.aaload, 1) := by decide +kernel
theorem dX1_term_84 : decode cX1_term 84 = .ok (.getfield 30, 3) := by decide +kernel
theorem dX1_term_87 : decode cX1_term 87 = .ok (.i2l, 1) := by decide +kernel
theorem dX1_term_88 : decode cX1_term 88 = .ok (.lmul, 1) := by decide +kernel
theorem dX1_term_89 : decode cX1_term 89 = .ok (.lstore 6, 2) := by decide +kernel
theorem dX1_term_91 : decode cX1_term 91 = .ok (.aload_n 0, 1) := by decide +kernel
theorem dX1_term_92 : decode cX1_term 92 = .ok (.getfield 26, 3) := by decide +kernel
theorem dX1_term_95 : decode cX1_term 95 = .ok (.iload 10, 2) := by decide +kernel
theorem dX1_term_97 : decode cX1_term 97 = .ok (.aaload, 1) := by decide +kernel
theorem dX1_term_98 : decode cX1_term 98 = .ok (.getfield 36, 3) := by decide +kernel
theorem dX1_term_101 : decode cX1_term 101 = .ok (.istore 10, 2) := by decide +kernel
theorem dX1_term_103 : decode cX1_term 103 = .ok (.lload 8, 2) := by decide +kernel
theorem dX1_term_105 : decode cX1_term 105 = .ok (.aload_n 0, 1) := by decide +kernel
theorem dX1_term_106 : decode cX1_term 106 = .ok (.iload 10, 2) := by decide +kernel
theorem dX1_term_108 : decode cX1_term 108 = .ok (.iload 4, 2) := by decide +kernel
theorem dX1_term_110 : decode cX1_term 110 = .ok (.invokevirtual 39, 3) := by decide +kernel
theorem dX1_term_113 : decode cX1_term 113 = .ok (.i2l, 1) := by decide +kernel
theorem dX1_term_114 : decode cX1_term 114 = .ok (.lmul, 1) := by decide +kernel
theorem dX1_term_115 : decode cX1_term 115 = .ok (.lstore 8, 2) := by decide +kernel
theorem dX1_term_117 : decode cX1_term 117 = .ok (.iinc 11 1, 3) := by decide +kernel
theorem dX1_term_120 : decode cX1_term 120 = .ok (.goto (-57), 3) := by decide +kernel
theorem dX1_term_123 : decode cX1_term 123 = .ok (.iload_n 2, 1) := by decide +kernel
theorem dX1_term_124 : decode cX1_term 124 = .ok (.ifCond .eq 8, 3) := by decide +kernel
theorem dX1_term_127 : decode cX1_term 127 = .ok (.lload 6, 2) := by decide +kernel
theorem dX1_term_129 : decode cX1_term 129 = .ok (.goto 5, 3) := by decide +kernel
theorem dX1_term_132 : decode cX1_term 132 = .ok (.lload 8, 2) := by decide +kernel
theorem dX1_term_134 : decode cX1_term 134 = .ok (.lload 6, 2) := by decide +kernel
theorem dX1_term_136 : decode cX1_term 136 = .ok (.lload 8, 2) := by decide +kernel
theorem dX1_term_138 : decode cX1_term 138 = .ok (.invokestatic 43, 3) := by decide +kernel
theorem dX1_term_141 : decode cX1_term 141 = .ok (.invokestatic 49, 3) := by decide +kernel
theorem dX1_term_144 : decode cX1_term 144 = .ok (.lreturn, 1) := by decide +kernel
theorem dX1_gcd_0 : decode cX1_gcd 0 = .ok (.lload_n 0, 1) := by decide +kernel
theorem dX1_gcd_1 : decode cX1_gcd 1 = .ok (.lstore 4, 2) := by decide +kernel
theorem dX1_gcd_3 : decode cX1_gcd 3 = .ok (.lload_n 2, 1) := by decide +kernel
theorem dX1_gcd_4 : decode cX1_gcd 4 = .ok (.lstore 6, 2) := by decide +kernel
theorem dX1_gcd_6 : decode cX1_gcd 6 = .ok (.iconst 0, 1) := by decide +kernel
theorem dX1_gcd_7 : decode cX1_gcd 7 = .ok (.istore 8, 2) := by decide +kernel
theorem dX1_gcd_9 : decode cX1_gcd 9 = .ok (.iload 8, 2) := by decide +kernel
theorem dX1_gcd_11 : decode cX1_gcd 11 = .ok (.sipush 200, 3) := by decide +kernel
theorem dX1_gcd_14 : decode cX1_gcd 14 = .ok (.if_icmp .ge 31, 3) := by decide +kernel
theorem dX1_gcd_17 : decode cX1_gcd 17 = .ok (.lload 6, 2) := by decide +kernel
theorem dX1_gcd_19 : decode cX1_gcd 19 = .ok (.lconst 0, 1) := by decide +kernel
theorem dX1_gcd_20 : decode cX1_gcd 20 = .ok (.lcmp, 1) := by decide +kernel
theorem dX1_gcd_21 : decode cX1_gcd 21 = .ok (.ifCond .eq 24, 3) := by decide +kernel
theorem dX1_gcd_24 : decode cX1_gcd 24 = .ok (.lload 4, 2) := by decide +kernel
theorem dX1_gcd_26 : decode cX1_gcd 26 = .ok (.lload 6, 2) := by decide +kernel
theorem dX1_gcd_28 : decode cX1_gcd 28 = .ok (.lrem, 1) := by decide +kernel
theorem dX1_gcd_29 : decode cX1_gcd 29 = .ok (.lstore 9, 2) := by decide +kernel
theorem dX1_gcd_31 : decode cX1_gcd 31 = .ok (.lload 6, 2) := by decide +kernel
theorem dX1_gcd_33 : decode cX1_gcd 33 = .ok (.lstore 4, 2) := by decide +kernel
theorem dX1_gcd_35 : decode cX1_gcd 35 = .ok (.lload 9, 2) := by decide +kernel
theorem dX1_gcd_37 : decode cX1_gcd 37 = .ok (.lstore 6, 2) := by decide +kernel
theorem dX1_gcd_39 : decode cX1_gcd 39 = .ok (.iinc 8 1, 3) := by decide +kernel
theorem dX1_gcd_42 : decode cX1_gcd 42 = .ok (.goto (-33), 3) := by decide +kernel
theorem dX1_gcd_45 : decode cX1_gcd 45 = .ok (.lload 4, 2) := by decide +kernel
theorem dX1_gcd_47 : decode cX1_gcd 47 = .ok (.lreturn, 1) := by decide +kernel
theorem dX2_init_0 : decode cX2_init 0 = .ok (.aload_n 0, 1) := by decide +kernel
theorem dX2_init_1 : decode cX2_init 1 = .ok (.invokespecial 3, 3) := by decide +kernel
theorem dX2_init_4 : decode cX2_init 4 = .ok (.return_, 1) := by decide +kernel
theorem dX2_begin_0 : decode cX2_begin 0 = .ok (.aload_n 0, 1) := by decide +kernel
theorem dX2_begin_1 : decode cX2_begin 1 = .ok (.iconst 0, 1) := by decide +kernel
theorem dX2_begin_2 : decode cX2_begin 2 = .ok (.putfield 9, 3) := by decide +kernel
theorem dX2_begin_5 : decode cX2_begin 5 = .ok (.aload_n 0, 1) := by decide +kernel
theorem dX2_begin_6 : decode cX2_begin 6 = .ok (.iload_n 1, 1) := by decide +kernel
theorem dX2_begin_7 : decode cX2_begin 7 = .ok (.putfield 15, 3) := by decide +kernel
theorem dX2_begin_10 : decode cX2_begin 10 = .ok (.aload_n 0, 1) := by decide +kernel
theorem dX2_begin_11 : decode cX2_begin 11 = .ok (.iconst 0, 1) := by decide +kernel
theorem dX2_begin_12 : decode cX2_begin 12 = .ok (.putfield 18, 3) := by decide +kernel
theorem dX2_begin_15 : decode cX2_begin 15 = .ok (.aload_n 0, 1) := by decide +kernel
theorem dX2_begin_16 : decode cX2_begin 16 = .ok (.sipush 1000, 3) := by decide +kernel
theorem dX2_begin_19 : decode cX2_begin 19 = .ok (.putfield 21, 3) := by decide +kernel
theorem dX2_begin_22 : decode cX2_begin 22 = .ok (.aload_n 0, 1) := by decide +kernel
theorem dX2_begin_23 : decode cX2_begin 23 = .ok (.iconst 3, 1) := by decide +kernel
theorem dX2_begin_24 : decode cX2_begin 24 = .ok (.putfield 24, 3) := by decide +kernel
theorem dX2_begin_27 : decode cX2_begin 27 = .ok (.aload_n 0, 1) := by decide +kernel
theorem dX2_begin_28 : decode cX2_begin 28 = .ok (.iconst 0, 1) := by decide +kernel
theorem dX2_begin_29 : decode cX2_begin 29 = .ok (.putfield 27, 3) := by decide +kernel
theorem dX2_begin_32 : decode cX2_begin 32 = .ok (.aload_n 0, 1) := by decide +kernel
theorem dX2_begin_33 : decode cX2_begin 33 = .ok (.iconst 1, 1) := by decide +kernel
theorem dX2_begin_34 : decode cX2_begin 34 = .ok (.putfield 30, 3) := by decide +kernel
theorem dX2_begin_37 : decode cX2_begin 37 = .ok (.aload_n 0, 1) := by decide +kernel
theorem dX2_begin_38 : decode cX2_begin 38 = .ok (.iconst 0, 1) := by decide +kernel
theorem dX2_begin_39 : decode cX2_begin 39 = .ok (.putfield 34, 3) := by decide +kernel
theorem dX2_begin_42 : decode cX2_begin 42 = .ok (.aload_n 0, 1) := by decide +kernel
theorem dX2_begin_43 : decode cX2_begin 43 = .ok (.iconst 0, 1) := by decide +kernel
theorem dX2_begin_44 : decode cX2_begin 44 = .ok (.putfield 37, 3) := by decide +kernel
theorem dX2_begin_47 : decode cX2_begin 47 = .ok (.aload_n 0, 1) := by decide +kernel
theorem dX2_begin_48 : decode cX2_begin 48 = .ok (.iconst 0, 1) := by decide +kernel
theorem dX2_begin_49 : decode cX2_begin 49 = .ok (.putfield 40, 3) := by decide +kernel
theorem dX2_begin_52 : decode cX2_begin 52 = .ok (.aload_n 0, 1) := by decide +kernel
theorem dX2_begin_53 : decode cX2_begin 53 = .ok (.iconst 0, 1) := by decide +kernel
theorem dX2_begin_54 : decode cX2_begin 54 = .ok (.putfield 43, 3) := by decide +kernel
theorem dX2_begin_57 : decode cX2_begin 57 = .ok (.aload_n 0, 1) := by decide +kernel
theorem dX2_begin_58 : decode cX2_begin 58 = .ok (.iconst (-1), 1) := by decide +kernel
theorem dX2_begin_59 : decode cX2_begin 59 = .ok (.putfield 46, 3) := by decide +kernel
theorem dX2_begin_62 : decode cX2_begin 62 = .ok (.aload_n 0, 1) := by decide +kernel
theorem dX2_begin_63 : decode cX2_begin 63 = .ok (.lconst 0, 1) := by decide +kernel
theorem dX2_begin_64 : decode cX2_begin 64 = .ok (.putfield 49, 3) := by decide +kernel
theorem dX2_begin_67 : decode cX2_begin 67 = .ok (.aload_n 0, 1) := by decide +kernel
theorem dX2_begin_68 : decode cX2_begin 68 = .ok (.lconst 0, 1) := by decide +kernel
theorem dX2_begin_69 : decode cX2_begin 69 = .ok (.putfield 53, 3) := by decide +kernel
theorem dX2_begin_72 : decode cX2_begin 72 = .ok (.return_, 1) := by decide +kernel
theorem dX2_copyFrom_0 : decode cX2_copyFrom 0 = .ok (.aload_n 0, 1) := by decide +kernel
theorem dX2_copyFrom_1 : decode cX2_copyFrom 1 = .ok (.aload_n 1, 1) := by decide +kernel
theorem dX2_copyFrom_2 : decode cX2_copyFrom 2 = .ok (.getfield 9, 3) := by decide +kernel
theorem dX2_copyFrom_5 : decode cX2_copyFrom 5 = .ok (.putfield 9, 3) := by decide +kernel
theorem dX2_copyFrom_8 : decode cX2_copyFrom 8 = .ok (.aload_n 0, 1) := by decide +kernel
theorem dX2_copyFrom_9 : decode cX2_copyFrom 9 = .ok (.aload_n 1, 1) := by decide +kernel
theorem dX2_copyFrom_10 : decode cX2_copyFrom 10 = .ok (.getfield 15, 3) := by decide +kernel
theorem dX2_copyFrom_13 : decode cX2_copyFrom 13 = .ok (.putfield 15, 3) := by decide +kernel
theorem dX2_copyFrom_16 : decode cX2_copyFrom 16 = .ok (.aload_n 0, 1) := by decide +kernel
theorem dX2_copyFrom_17 : decode cX2_copyFrom 17 = .ok (.aload_n 1, 1) := by decide +kernel
theorem dX2_copyFrom_18 : decode cX2_copyFrom 18 = .ok (.getfield 18, 3) := by decide +kernel
theorem dX2_copyFrom_21 : decode cX2_copyFrom 21 = .ok (.putfield 18, 3) := by decide +kernel
theorem dX2_copyFrom_24 : decode cX2_copyFrom 24 = .ok (.aload_n 0, 1) := by decide +kernel
theorem dX2_copyFrom_25 : decode cX2_copyFrom 25 = .ok (.aload_n 1, 1) := by decide +kernel
theorem dX2_copyFrom_26 : decode cX2_copyFrom 26 = .ok (.getfield 21, 3) := by decide +kernel
theorem dX2_copyFrom_29 : decode cX2_copyFrom 29 = .ok (.putfield 21, 3) := by decide +kernel
theorem dX2_copyFrom_32 : decode cX2_copyFrom 32 = .ok (.aload_n 0, 1) := by decide +kernel
theorem dX2_copyFrom_33 : decode cX2_copyFrom 33 = .ok (.aload_n 1, 1) := by decide +kernel
theorem dX2_copyFrom_34 : decode cX2_copyFrom 34 = .ok (.getfield 24, 3) := by decide +kernel
theorem dX2_copyFrom_37 : decode cX2_copyFrom 37 = .ok (.putfield 24, 3) := by decide +kernel
theorem dX2_copyFrom_40 : decode cX2_copyFrom 40 = .ok (.aload_n 0, 1) := by decide +kernel
theorem dX2_copyFrom_41 : decode cX2_copyFrom 41 = .ok (.aload_n 1, 1) := by decide +kernel
theorem dX2_copyFrom_42 : decode cX2_copyFrom 42 = .ok (.getfield 27, 3) := by decide +kernel
theorem dX2_copyFrom_45 : decode cX2_copyFrom 45 = .ok (.putfield 27, 3) := by decide +kernel
theorem dX2_copyFrom_48 : decode cX2_copyFrom 48 = .ok (.aload_n 0, 1) := by decide +kernel
theorem dX2_copyFrom_49 : decode cX2_copyFrom 49 = .ok (.aload_n 1, 1) := by decide +kernel
theorem dX2_copyFrom_50 : decode cX2_copyFrom 50 = .ok (.getfield 30, 3) := by decide +kernel
theorem dX2_copyFrom_53 : decode cX2_copyFrom 53 = .ok (.putfield 30, 3) := by decide +kernel
theorem dX2_copyFrom_56 : decode cX2_copyFrom 56 = .ok (.aload_n 0, 1) := by decide +kernel
theorem dX2_copyFrom_57 : decode cX2_copyFrom 57 = .ok (.aload_n 1, 1) := by decide +kernel
theorem dX2_copyFrom_58 : decode cX2_copyFrom 58 = .ok (.getfield 34, 3) := by decide +kernel
theorem dX2_copyFrom_61 : decode cX2_copyFrom 61 = .ok (.putfield 34, 3) := by decide +kernel
theorem dX2_copyFrom_64 : decode cX2_copyFrom 64 = .ok (.aload_n 0, 1) := by decide +kernel
theorem dX2_copyFrom_65 : decode cX2_copyFrom 65 = .ok (.aload_n 1, 1) := by decide +kernel
theorem dX2_copyFrom_66 : decode cX2_copyFrom 66 = .ok (.getfield 37, 3) := by decide +kernel
theorem dX2_copyFrom_69 : decode cX2_copyFrom 69 = .ok (.putfield 37, 3) := by decide +kernel
theorem dX2_copyFrom_72 : decode cX2_copyFrom 72 = .ok (.aload_n 0, 1) := by decide +kernel
theorem dX2_copyFrom_73 : decode cX2_copyFrom 73 = .ok (.aload_n 1, 1) := by decide +kernel
theorem dX2_copyFrom_74 : decode cX2_copyFrom 74 = .ok (.getfield 40, 3) := by decide +kernel
theorem dX2_copyFrom_77 : decode cX2_copyFrom 77 = .ok (.putfield 40, 3) := by decide +kernel
theorem dX2_copyFrom_80 : decode cX2_copyFrom 80 = .ok (.aload_n 0, 1) := by decide +kernel
theorem dX2_copyFrom_81 : decode cX2_copyFrom 81 = .ok (.aload_n 1, 1) := by decide +kernel
theorem dX2_copyFrom_82 : decode cX2_copyFrom 82 = .ok (.getfield 43, 3) := by decide +kernel
theorem dX2_copyFrom_85 : decode cX2_copyFrom 85 = .ok (.putfield 43, 3) := by decide +kernel
theorem dX2_copyFrom_88 : decode cX2_copyFrom 88 = .ok (.aload_n 0, 1) := by decide +kernel
theorem dX2_copyFrom_89 : decode cX2_copyFrom 89 = .ok (.aload_n 1, 1) := by decide +kernel
theorem dX2_copyFrom_90 : decode cX2_copyFrom 90 = .ok (.getfield 46, 3) := by decide +kernel
theorem dX2_copyFrom_93 : decode cX2_copyFrom 93 = .ok (.putfield 46, 3) := by decide +kernel
theorem dX2_copyFrom_96 : decode cX2_copyFrom 96 = .ok (.aload_n 0, 1) := by decide +kernel
theorem dX2_copyFrom_97 : decode cX2_copyFrom 97 = .ok (.aload_n 1, 1) := by decide +kernel
theorem dX2_copyFrom_98 : decode cX2_copyFrom 98 = .ok (.getfield 49, 3) := by decide +kernel
theorem dX2_copyFrom_101 : decode cX2_copyFrom 101 = .ok (.putfield 49, 3) := by decide +kernel
theorem dX2_copyFrom_104 : decode cX2_copyFrom 104 = .ok (.aload_n 0, 1) := by decide +kernel
theorem dX2_copyFrom_105 : decode cX2_copyFrom 105 = .ok (.aload_n 1, 1) := by decide +kernel
theorem dX2_copyFrom_106 : decode cX2_copyFrom 106 = .ok (.getfield 53, 3) := by decide +kernel
theorem dX2_copyFrom_109 : decode cX2_copyFrom 109 = .ok (.putfield 53, 3) := by decide +kernel
theorem dX2_copyFrom_112 : decode cX2_copyFrom 112 = .ok (.return_, 1) := by decide +kernel
theorem dX2_can_0 : decode cX2_can 0 = .ok (.aload_n 0, 1) := by decide +kernel
theorem dX2_can_1 : decode cX2_can 1 = .ok (.getfield 30, 3) := by decide +kernel
theorem dX2_can_4 : decode cX2_can 4 = .ok (.ifCond .eq 21, 3) := by decide +kernel
theorem dX2_can_7 : decode cX2_can 7 = .ok (.aload_n 0, 1) := by decide +kernel
theorem dX2_can_8 : decode cX2_can 8 = .ok (.getfield 18, 3) := by decide +kernel
theorem dX2_can_11 : decode cX2_can 11 = .ok (.ifCond .le 14, 3) := by decide +kernel
theorem dX2_can_14 : decode cX2_can 14 = .ok (.aload_n 0, 1) := by decide +kernel
theorem dX2_can_15 : decode cX2_can 15 = .ok (.getfield 21, 3) := by decide +kernel
theorem dX2_can_18 : decode cX2_can 18 = .ok (.ifCond .le 7, 3) := by decide +kernel
theorem dX2_can_21 : decode cX2_can 21 = .ok (.iconst 1, 1) := by decide +kernel
theorem dX2_can_22 : decode cX2_can 22 = .ok (.goto 4, 3) := by decide +kernel
theorem dX2_can_25 : decode cX2_can 25 = .ok (.iconst 0, 1) := by decide +kernel
theorem dX2_can_26 : decode cX2_can 26 = .ok (.ireturn, 1) := by decide +kernel
theorem dX2_held_0 : decode cX2_held 0 = .ok (.iload_n 1, 1) := by decide +kernel
theorem dX2_held_1 : decode cX2_held 1 = .ok (.tableswitch 122 0 10 #[59, 64, 69, 74, 79, 84, 89, 102, 107, 112, 117], 59) := by decide +kernel
theorem dX2_held_60 : decode cX2_held 60 = .ok (.aload_n 0, 1) := by decide +kernel
theorem dX2_held_61 : decode cX2_held 61 = .ok (.getfield 9, 3) := by decide +kernel
theorem dX2_held_64 : decode cX2_held 64 = .ok (.ireturn, 1) := by decide +kernel
theorem dX2_held_65 : decode cX2_held 65 = .ok (.aload_n 0, 1) := by decide +kernel
theorem dX2_held_66 : decode cX2_held 66 = .ok (.getfield 15, 3) := by decide +kernel
theorem dX2_held_69 : decode cX2_held 69 = .ok (.ireturn, 1) := by decide +kernel
theorem dX2_held_70 : decode cX2_held 70 = .ok (.aload_n 0, 1) := by decide +kernel
theorem dX2_held_71 : decode cX2_held 71 = .ok (.getfield 18, 3) := by decide +kernel
theorem dX2_held_74 : decode cX2_held 74 = .ok (.ireturn, 1) := by decide +kernel
theorem dX2_held_75 : decode cX2_held 75 = .ok (.aload_n 0, 1) := by decide +kernel
theorem dX2_held_76 : decode cX2_held 76 = .ok (.getfield 21, 3) := by decide +kernel
theorem dX2_held_79 : decode cX2_held 79 = .ok (.ireturn, 1) := by decide +kernel
theorem dX2_held_80 : decode cX2_held 80 = .ok (.aload_n 0, 1) := by decide +kernel
theorem dX2_held_81 : decode cX2_held 81 = .ok (.getfield 24, 3) := by decide +kernel
theorem dX2_held_84 : decode cX2_held 84 = .ok (.ireturn, 1) := by decide +kernel
theorem dX2_held_85 : decode cX2_held 85 = .ok (.aload_n 0, 1) := by decide +kernel
theorem dX2_held_86 : decode cX2_held 86 = .ok (.getfield 27, 3) := by decide +kernel
theorem dX2_held_89 : decode cX2_held 89 = .ok (.ireturn, 1) := by decide +kernel
theorem dX2_held_90 : decode cX2_held 90 = .ok (.aload_n 0, 1) := by decide +kernel
theorem dX2_held_91 : decode cX2_held 91 = .ok (.getfield 30, 3) := by decide +kernel
theorem dX2_held_94 : decode cX2_held 94 = .ok (.ifCond .eq 7, 3) := by decide +kernel
theorem dX2_held_97 : decode cX2_held 97 = .ok (.iconst 1, 1) := by decide +kernel
theorem dX2_held_98 : decode cX2_held 98 = .ok (.goto 4, 3) := by decide +kernel
theorem dX2_held_101 : decode cX2_held 101 = .ok (.iconst 0, 1) := by decide +kernel
theorem dX2_held_102 : decode cX2_held 102 = .ok (.ireturn, 1) := by decide +kernel
theorem dX2_held_103 : decode cX2_held 103 = .ok (.aload_n 0, 1) := by decide +kernel
theorem dX2_held_104 : decode cX2_held 104 = .ok (.getfield 34, 3) := by decide +kernel
theorem dX2_held_107 : decode cX2_held 107 = .ok (.ireturn, 1) := by decide +kernel
theorem dX2_held_108 : decode cX2_held 108 = .ok (.aload_n 0, 1) := by decide +kernel
theorem dX2_held_109 : decode cX2_held 109 = .ok (.getfield 37, 3) := by decide +kernel
theorem dX2_held_112 : decode cX2_held 112 = .ok (.ireturn, 1) := by decide +kernel
theorem dX2_held_113 : decode cX2_held 113 = .ok (.aload_n 0, 1) := by decide +kernel
theorem dX2_held_114 : decode cX2_held 114 = .ok (.getfield 40, 3) := by decide +kernel
theorem dX2_held_117 : decode cX2_held 117 = .ok (.ireturn, 1) := by decide +kernel
theorem dX2_held_118 : decode cX2_held 118 = .ok (.aload_n 0, 1) := by decide +kernel
theorem dX2_held_119 : decode cX2_held 119 = .ok (.getfield 43, 3) := by decide +kernel
theorem dX2_held_122 : decode cX2_held 122 = .ok (.ireturn, 1) := by decide +kernel
theorem dX2_held_123 : decode cX2_held 123 = .ok (.aload_n 0, 1) := by decide +kernel
theorem dX2_held_124 : decode cX2_held 124 = .ok (.getfield 46, 3) := by decide +kernel
theorem dX2_held_127 : decode cX2_held 127 = .ok (.ireturn, 1) := by decide +kernel
theorem dX2_change_0 : decode cX2_change 0 = .ok (.iload_n 1, 1) := by decide +kernel
theorem dX2_change_1 : decode cX2_change 1 = .ok (.ifCond .ne 16, 3) := by decide +kernel
theorem dX2_change_4 : decode cX2_change 4 = .ok (.aload_n 0, 1) := by decide +kernel
theorem dX2_change_5 : decode cX2_change 5 = .ok (.getfield 15, 3) := by decide +kernel
theorem dX2_change_8 : decode cX2_change 8 = .ok (.istore_n 3, 1) := by decide +kernel
theorem dX2_change_9 : decode cX2_change 9 = .ok (.aload_n 0, 1) := by decide +kernel
theorem dX2_change_10 : decode cX2_change 10 = .ok (.iload_n 2, 1) := by decide +kernel
theorem dX2_change_11 : decode cX2_change 11 = .ok (.putfield 15, 3) := by decide +kernel
theorem dX2_change_14 : decode cX2_change 14 = .ok (.goto 31, 3) := by decide +kernel
theorem dX2_change_17 : decode cX2_change 17 = .ok (.iload_n 1, 1) := by decide +kernel
theorem dX2_change_18 : decode cX2_change 18 = .ok (.iconst 1, 1) := by decide +kernel
theorem dX2_change_19 : decode cX2_change 19 = .ok (.if_icmp .ne 16, 3) := by decide +kernel
theorem dX2_change_22 : decode cX2_change 22 = .ok (.aload_n 0, 1) := by decide +kernel
theorem dX2_change_23 : decode cX2_change 23 = .ok (.getfield 24, 3) := by decide +kernel
theorem dX2_change_26 : decode cX2_change 26 = .ok (.istore_n 3, 1) := by decide +kernel
theorem dX2_change_27 : decode cX2_change 27 = .ok (.aload_n 0, 1) := by decide +kernel
theorem dX2_change_28 : decode cX2_change 28 = .ok (.iload_n 2, 1) := by decide +kernel
theorem dX2_change_29 : decode cX2_change 29 = .ok (.putfield 24, 3) := by decide +kernel
theorem dX2_change_32 : decode cX2_change 32 = .ok (.goto 13, 3) := by decide +kernel
theorem dX2_change_35 : decode cX2_change 35 = .ok (.aload_n 0, 1) := by decide +kernel
theorem dX2_change_36 : decode cX2_change 36 = .ok (.getfield 27, 3) := by decide +kernel
theorem dX2_change_39 : decode cX2_change 39 = .ok (.istore_n 3, 1) := by decide +kernel
theorem dX2_change_40 : decode cX2_change 40 = .ok (.aload_n 0, 1) := by decide +kernel
theorem dX2_change_41 : decode cX2_change 41 = .ok (.iload_n 2, 1) := by decide +kernel
theorem dX2_change_42 : decode cX2_change 42 = .ok (.putfield 27, 3) := by decide +kernel
theorem dX2_change_45 : decode cX2_change 45 = .ok (.iload_n 3, 1) := by decide +kernel
theorem dX2_change_46 : decode cX2_change 46 = .ok (.ireturn, 1) := by decide +kernel
theorem dX2_waitOnce_0 : decode cX2_waitOnce 0 = .ok (.aload_n 0, 1) := by decide +kernel
theorem dX2_waitOnce_1 : decode cX2_waitOnce 1 = .ok (.dup, 1) := by decide +kernel
theorem dX2_waitOnce_2 : decode cX2_waitOnce 2 = .ok (.getfield 40, 3) := by decide +kernel
theorem dX2_waitOnce_5 : decode cX2_waitOnce 5 = .ok (.iconst 1, 1) := by decide +kernel
theorem dX2_waitOnce_6 : decode cX2_waitOnce 6 = .ok (.iadd, 1) := by decide +kernel
theorem dX2_waitOnce_7 : decode cX2_waitOnce 7 = .ok (.putfield 40, 3) := by decide +kernel
theorem dX2_waitOnce_10 : decode cX2_waitOnce 10 = .ok (.aload_n 0, 1) := by decide +kernel
theorem dX2_waitOnce_11 : decode cX2_waitOnce 11 = .ok (.aload_n 0, 1) := by decide +kernel
theorem dX2_waitOnce_12 : decode cX2_waitOnce 12 = .ok (.getfield 43, 3) := by decide +kernel
theorem dX2_waitOnce_15 : decode cX2_waitOnce 15 = .ok (.aload_n 0, 1) := by decide +kernel
theorem dX2_waitOnce_16 : decode cX2_waitOnce 16 = .ok (.getfield 40, 3) := by decide +kernel
theorem dX2_waitOnce_19 : decode cX2_waitOnce 19 = .ok (.invokestatic 56, 3) := by decide +kernel
theorem dX2_waitOnce_22 : decode cX2_waitOnce 22 = .ok (.putfield 43, 3) := by decide +kernel
theorem dX2_waitOnce_25 : decode cX2_waitOnce 25 = .ok (.return_, 1) := by decide +kernel
theorem dX3_init_0 : decode cX3_init 0 = .ok (.aload_n 0, 1) := by decide +kernel
theorem dX3_init_1 : decode cX3_init 1 = .ok (.invokespecial 3, 3) := by decide +kernel
theorem dX3_init_4 : decode cX3_init 4 = .ok (.aload_n 0, 1) := by decide +kernel
theorem dX3_init_5 : decode cX3_init 5 = .ok (.bipush 13, 2) := by decide +kernel
theorem dX3_init_7 : decode cX3_init 7 = .ok (.anewarray 9, 3) := by decide +kernel
theorem dX3_init_10 : decode cX3_init 10 = .ok (.putfield 11, 3) := by decide +kernel
theorem dX3_init_13 : decode cX3_init 13 = .ok (.iconst 0, 1) := by decide +kernel
theorem dX3_init_14 : decode cX3_init 14 = .ok (.istore_n 1, 1) := by decide +kernel
theorem dX3_init_15 : decode cX3_init 15 = .ok (.iload_n 1, 1) := by decide +kernel
theorem dX3_init_16 : decode cX3_init 16 = .ok (.bipush 12, 2) := by decide +kernel
theorem dX3_init_18 : decode cX3_init 18 = .ok (.if_icmp .gt 22, 3) := by decide +kernel
theorem dX3_init_21 : decode cX3_init 21 = .ok (.aload_n 0, 1) := by decide +kernel
theorem dX3_init_22 : decode cX3_init 22 = .ok (.getfield 11, 3) := by decide +kernel
theorem dX3_init_25 : decode cX3_init 25 = .ok (.iload_n 1, 1) := by decide +kernel
theorem dX3_init_26 : decode cX3_init 26 = .ok (.new 9, 3) := by decide +kernel
theorem dX3_init_29 : decode cX3_init 29 = .ok (.dup, 1) := by decide +kernel
theorem dX3_init_30 : decode cX3_init 30 = .ok (.invokespecial 17, 3) := by decide +kernel
theorem dX3_init_33 : decode cX3_init 33 = .ok (.aastore, 1) := by decide +kernel
theorem dX3_init_34 : decode cX3_init 34 = .ok (.iinc 1 1, 3) := by decide +kernel
theorem dX3_init_37 : decode cX3_init 37 = .ok (.goto (-22), 3) := by decide +kernel
theorem dX3_init_40 : decode cX3_init 40 = .ok (.aload_n 0, 1) := by decide +kernel
theorem dX3_init_41 : decode cX3_init 41 = .ok (.sipush 10000, 3) := by decide +kernel
theorem dX3_init_44 : decode cX3_init 44 = .ok (.putfield 18, 3) := by decide +kernel
theorem dX3_init_47 : decode cX3_init 47 = .ok (.aload_n 0, 1) := by decide +kernel
theorem dX3_init_48 : decode cX3_init 48 = .ok (.bipush 100, 2) := by decide +kernel
theorem dX3_init_50 : decode cX3_init 50 = .ok (.putfield 22, 3) := by decide +kernel
theorem dX3_init_53 : decode cX3_init 53 = .ok (.aload_n 0, 1) := by decide +kernel
theorem dX3_init_54 : decode cX3_init 54 = .ok (.bipush 10, 2) := by decide +kernel
theorem dX3_init_56 : decode cX3_init 56 = .ok (.putfield 25, 3) := by decide +kernel
theorem dX3_init_59 : decode cX3_init 59 = .ok (.aload_n 0, 1) := by decide +kernel
theorem dX3_init_60 : decode cX3_init 60 = .ok (.iconst (-1), 1) := by decide +kernel
theorem dX3_init_61 : decode cX3_init 61 = .ok (.putfield 28, 3) := by decide +kernel
theorem dX3_init_64 : decode cX3_init 64 = .ok (.return_, 1) := by decide +kernel
theorem dX3_copyFrom_0 : decode cX3_copyFrom 0 = .ok (.iconst 0, 1) := by decide +kernel
theorem dX3_copyFrom_1 : decode cX3_copyFrom 1 = .ok (.istore_n 2, 1) := by decide +kernel
theorem dX3_copyFrom_2 : decode cX3_copyFrom 2 = .ok (.iload_n 2, 1) := by decide +kernel
theorem dX3_copyFrom_3 : decode cX3_copyFrom 3 = .ok (.bipush 12, 2) := by decide +kernel
theorem dX3_copyFrom_5 : decode cX3_copyFrom 5 = .ok (.if_icmp .gt 24, 3) := by decide +kernel
theorem dX3_copyFrom_8 : decode cX3_copyFrom 8 = .ok (.aload_n 0, 1) := by decide +kernel
theorem dX3_copyFrom_9 : decode cX3_copyFrom 9 = .ok (.getfield 11, 3) := by decide +kernel
theorem dX3_copyFrom_12 : decode cX3_copyFrom 12 = .ok (.iload_n 2, 1) := by decide +kernel
theorem dX3_copyFrom_13 : decode cX3_copyFrom 13 = .ok (.aaload, 1) := by decide +kernel
theorem dX3_copyFrom_14 : decode cX3_copyFrom 14 = .ok (.aload_n 1, 1) := by decide +kernel
theorem dX3_copyFrom_15 : decode cX3_copyFrom 15 = .ok (.getfield 11, 3) := by decide +kernel
theorem dX3_copyFrom_18 : decode cX3_copyFrom 18 = .ok (.iload_n 2, 1) := by decide +kernel
theorem dX3_copyFrom_19 : decode cX3_copyFrom 19 = .ok (.aaload, 1) := by decide +kernel
theorem dX3_copyFrom_20 : decode cX3_copyFrom 20 = .ok (.invokevirtual 31, 3) := by decide +kernel
theorem dX3_copyFrom_23 : decode cX3_copyFrom 23 = .ok (.iinc 2 1, 3) := by decide +kernel
theorem dX3_copyFrom_26 : decode cX3_copyFrom 26 = .ok (.goto (-24), 3) := by decide +kernel
theorem dX3_copyFrom_29 : decode cX3_copyFrom 29 = .ok (.aload_n 0, 1) := by decide +kernel
theorem dX3_copyFrom_30 : decode cX3_copyFrom 30 = .ok (.aload_n 1, 1) := by decide +kernel
theorem dX3_copyFrom_31 : decode cX3_copyFrom 31 = .ok (.getfield 35, 3) := by decide +kernel
theorem dX3_copyFrom_34 : decode cX3_copyFrom 34 = .ok (.putfield 35, 3) := by decide +kernel
theorem dX3_copyFrom_37 : decode cX3_copyFrom 37 = .ok (.aload_n 0, 1) := by decide +kernel
theorem dX3_copyFrom_38 : decode cX3_copyFrom 38 = .ok (.aload_n 1, 1) := by decide +kernel
theorem dX3_copyFrom_39 : decode cX3_copyFrom 39 = .ok (.getfield 38, 3) := by decide +kernel
theorem dX3_copyFrom_42 : decode cX3_copyFrom 42 = .ok (.putfield 38, 3) := by decide +kernel
theorem dX3_copyFrom_45 : decode cX3_copyFrom 45 = .ok (.aload_n 0, 1) := by decide +kernel
theorem dX3_copyFrom_46 : decode cX3_copyFrom 46 = .ok (.aload_n 1, 1) := by decide +kernel
theorem dX3_copyFrom_47 : decode cX3_copyFrom 47 = .ok (.getfield 18, 3) := by decide +kernel
theorem dX3_copyFrom_50 : decode cX3_copyFrom 50 = .ok (.putfield 18, 3) := by decide +kernel
theorem dX3_copyFrom_53 : decode cX3_copyFrom 53 = .ok (.aload_n 0, 1) := by decide +kernel
theorem dX3_copyFrom_54 : decode cX3_copyFrom 54 = .ok (.aload_n 1, 1) := by decide +kernel
theorem dX3_copyFrom_55 : decode cX3_copyFrom 55 = .ok (.getfield 22, 3) := by decide +kernel
theorem dX3_copyFrom_58 : decode cX3_copyFrom 58 = .ok (.putfield 22, 3) := by decide +kernel
theorem dX3_copyFrom_61 : decode cX3_copyFrom 61 = .ok (.aload_n 0, 1) := by decide +kernel
theorem dX3_copyFrom_62 : decode cX3_copyFrom 62 = .ok (.aload_n 1, 1) := by decide +kernel
theorem dX3_copyFrom_63 : decode cX3_copyFrom 63 = .ok (.getfield 25, 3) := by decide +kernel
theorem dX3_copyFrom_66 : decode cX3_copyFrom 66 = .ok (.putfield 25, 3) := by decide +kernel
theorem dX3_copyFrom_69 : decode cX3_copyFrom 69 = .ok (.aload_n 0, 1) := by decide +kernel
theorem dX3_copyFrom_70 : decode cX3_copyFrom 70 = .ok (.aload_n 1, 1) := by decide +kernel
theorem dX3_copyFrom_71 : decode cX3_copyFrom 71 = .ok (.getfield 41, 3) := by decide +kernel
theorem dX3_copyFrom_74 : decode cX3_copyFrom 74 = .ok (.putfield 41, 3) := by decide +kernel
theorem dX3_copyFrom_77 : decode cX3_copyFrom 77 = .ok (.aload_n 0, 1) := by decide +kernel
theorem dX3_copyFrom_78 : decode cX3_copyFrom 78 = .ok (.aload_n 1, 1) := by decide +kernel
theorem dX3_copyFrom_79 : decode cX3_copyFrom 79 = .ok (.getfield 44, 3) := by decide +kernel
theorem dX3_copyFrom_82 : decode cX3_copyFrom 82 = .ok (.putfield 44, 3) := by decide +kernel
theorem dX3_copyFrom_85 : decode cX3_copyFrom 85 = .ok (.aload_n 0, 1) := by decide +kernel
theorem dX3_copyFrom_86 : decode cX3_copyFrom 86 = .ok (.aload_n 1, 1) := by decide +kernel
theorem dX3_copyFrom_87 : decode cX3_copyFrom 87 = .ok (.getfield 47, 3) := by decide +kernel
theorem dX3_copyFrom_90 : decode cX3_copyFrom 90 = .ok (.putfield 47, 3) := by decide +kernel
theorem dX3_copyFrom_93 : decode cX3_copyFrom 93 = .ok (.aload_n 0, 1) := by decide +kernel
theorem dX3_copyFrom_94 : decode cX3_copyFrom 94 = .ok (.aload_n 1, 1) := by decide +kernel
theorem dX3_copyFrom_95 : decode cX3_copyFrom 95 = .ok (.getfield 28, 3) := by decide +kernel
theorem dX3_copyFrom_98 : decode cX3_copyFrom 98 = .ok (.putfield 28, 3) := by decide +kernel
theorem dX3_copyFrom_101 : decode cX3_copyFrom 101 = .ok (.return_, 1) := by decide +kernel
theorem dX3_isThere_0 : decode cX3_isThere 0 = .ok (.iload_n 1, 1) := by decide +kernel
theorem dX3_isThere_1 : decode cX3_isThere 1 = .ok (.iconst 1, 1) := by decide +kernel
theorem dX3_isThere_2 : decode cX3_isThere 2 = .ok (.bipush 12, 2) := by decide +kernel
theorem dX3_isThere_4 : decode cX3_isThere 4 = .ok (.invokestatic 50, 3) := by decide +kernel
theorem dX3_isThere_7 : decode cX3_isThere 7 = .ok (.ifCond .eq 18, 3) := by decide +kernel
theorem dX3_isThere_10 : decode cX3_isThere 10 = .ok (.aload_n 0, 1) := by decide +kernel
theorem dX3_isThere_11 : decode cX3_isThere 11 = .ok (.getfield 35, 3) := by decide +kernel
theorem dX3_isThere_14 : decode cX3_isThere 14 = .ok (.iload_n 1, 1) := by decide +kernel
theorem dX3_isThere_15 : decode cX3_isThere 15 = .ok (.invokestatic 54, 3) := by decide +kernel
theorem dX3_isThere_18 : decode cX3_isThere 18 = .ok (.ifCond .eq 7, 3) := by decide +kernel
theorem dX3_isThere_21 : decode cX3_isThere 21 = .ok (.iconst 1, 1) := by decide +kernel
theorem dX3_isThere_22 : decode cX3_isThere 22 = .ok (.goto 4, 3) := by decide +kernel
theorem dX3_isThere_25 : decode cX3_isThere 25 = .ok (.iconst 0, 1) := by decide +kernel
theorem dX3_isThere_26 : decode cX3_isThere 26 = .ok (.ireturn, 1) := by decide +kernel
theorem dX3_isNode_0 : decode cX3_isNode 0 = .ok (.iload_n 1, 1) := by decide +kernel
theorem dX3_isNode_1 : decode cX3_isNode 1 = .ok (.ifCond .eq 11, 3) := by decide +kernel
theorem dX3_isNode_4 : decode cX3_isNode 4 = .ok (.aload_n 0, 1) := by decide +kernel
theorem dX3_isNode_5 : decode cX3_isNode 5 = .ok (.iload_n 1, 1) := by decide +kernel
theorem dX3_isNode_6 : decode cX3_isNode 6 = .ok (.invokevirtual 58, 3) := by decide +kernel
theorem dX3_isNode_9 : decode cX3_isNode 9 = .ok (.ifCond .eq 7, 3) := by decide +kernel
theorem dX3_isNode_12 : decode cX3_isNode 12 = .ok (.iconst 1, 1) := by decide +kernel
theorem dX3_isNode_13 : decode cX3_isNode 13 = .ok (.goto 4, 3) := by decide +kernel
theorem dX3_isNode_16 : decode cX3_isNode 16 = .ok (.iconst 0, 1) := by decide +kernel
theorem dX3_isNode_17 : decode cX3_isNode 17 = .ok (.ireturn, 1) := by decide +kernel
theorem dX3_isChild_0 : decode cX3_isChild 0 = .ok (.aload_n 0, 1) := by decide +kernel
theorem dX3_isChild_1 : decode cX3_isChild 1 = .ok (.getfield 35, 3) := by decide +kernel
theorem dX3_isChild_4 : decode cX3_isChild 4 = .ok (.iload_n 1, 1) := by decide +kernel
theorem dX3_isChild_5 : decode cX3_isChild 5 = .ok (.invokestatic 54, 3) := by decide +kernel
theorem dX3_isChild_8 : decode cX3_isChild 8 = .ok (.ifCond .eq 20, 3) := by decide +kernel
theorem dX3_isChild_11 : decode cX3_isChild 11 = .ok (.aload_n 0, 1) := by decide +kernel
theorem dX3_isChild_12 : decode cX3_isChild 12 = .ok (.getfield 11, 3) := by decide +kernel
theorem dX3_isChild_15 : decode cX3_isChild 15 = .ok (.iload_n 1, 1) := by decide +kernel
theorem dX3_isChild_16 : decode cX3_isChild 16 = .ok (.aaload, 1) := by decide +kernel
theorem dX3_isChild_17 : decode cX3_isChild 17 = .ok (.getfield 62, 3) := by decide +kernel
theorem dX3_isChild_20 : decode cX3_isChild 20 = .ok (.iload_n 2, 1) := by decide +kernel
theorem dX3_isChild_21 : decode cX3_isChild 21 = .ok (.if_icmp .ne 7, 3) := by decide +kernel
theorem dX3_isChild_24 : decode cX3_isChild 24 = .ok (.iconst 1, 1) := by decide +kernel
theorem dX3_isChild_25 : decode cX3_isChild 25 = .ok (.goto 4, 3) := by decide +kernel
theorem dX3_isChild_28 : decode cX3_isChild 28 = .ok (.iconst 0, 1) := by decide +kernel
theorem dX3_isChild_29 : decode cX3_isChild 29 = .ok (.ireturn, 1) := by decide +kernel
theorem dX3_childCount_0 : decode cX3_childCount 0 = .ok (.iconst 0, 1) := by decide +kernel
theorem dX3_childCount_1 : decode cX3_childCount 1 = .ok (.istore_n 2, 1) := by decide +kernel
theorem dX3_childCount_2 : decode cX3_childCount 2 = .ok (.iconst 1, 1) := by decide +kernel
theorem dX3_childCount_3 : decode cX3_childCount 3 = .ok (.istore_n 3, 1) := by decide +kernel
theorem dX3_childCount_4 : decode cX3_childCount 4 = .ok (.iload_n 3, 1) := by decide +kernel
theorem dX3_childCount_5 : decode cX3_childCount 5 = .ok (.bipush 12, 2) := by decide +kernel
theorem dX3_childCount_7 : decode cX3_childCount 7 = .ok (.if_icmp .gt 21, 3) := by decide +kernel
theorem dX3_childCount_10 : decode cX3_childCount 10 = .ok (.aload_n 0, 1) := by decide +kernel
theorem dX3_childCount_11 : decode cX3_childCount 11 = .ok (.iload_n 3, 1) := by decide +kernel
theorem dX3_childCount_12 : decode cX3_childCount 12 = .ok (.iload_n 1, 1) := by decide +kernel
theorem dX3_childCount_13 : decode cX3_childCount 13 = .ok (.invokevirtual 65, 3) := by decide +kernel
theorem dX3_childCount_16 : decode cX3_childCount 16 = .ok (.ifCond .eq 6, 3) := by decide +kernel
theorem dX3_childCount_19 : decode cX3_childCount 19 = .ok (.iinc 2 1, 3) := by decide +kernel
theorem dX3_childCount_22 : decode cX3_childCount 22 = .ok (.iinc 3 1, 3) := by decide +kernel
theorem dX3_childCount_25 : decode cX3_childCount 25 = .ok (.goto (-21), 3) := by decide +kernel
theorem dX3_childCount_28 : decode cX3_childCount 28 = .ok (.iload_n 2, 1) := by decide +kernel
theorem dX3_childCount_29 : decode cX3_childCount 29 = .ok (.ireturn, 1) := by decide +kernel
theorem dX3_childAt_0 : decode cX3_childAt 0 = .ok (.iconst 0, 1) := by decide +kernel
theorem dX3_childAt_1 : decode cX3_childAt 1 = .ok (.istore_n 3, 1) := by decide +kernel
theorem dX3_childAt_2 : decode cX3_childAt 2 = .ok (.iconst 1, 1) := by decide +kernel
theorem dX3_childAt_3 : decode cX3_childAt 3 = .ok (.istore 4, 2) := by decide +kernel
theorem dX3_childAt_5 : decode cX3_childAt 5 = .ok (.iload 4, 2) := by decide +kernel
theorem dX3_childAt_7 : decode cX3_childAt 7 = .ok (.bipush 12, 2) := by decide +kernel
theorem dX3_childAt_9 : decode cX3_childAt 9 = .ok (.if_icmp .gt 30, 3) := by decide +kernel
theorem dX3_childAt_12 : decode cX3_childAt 12 = .ok (.aload_n 0, 1) := by decide +kernel
theorem dX3_childAt_13 : decode cX3_childAt 13 = .ok (.iload 4, 2) := by decide +kernel
theorem dX3_childAt_15 : decode cX3_childAt 15 = .ok (.iload_n 1, 1) := by decide +kernel
theorem dX3_childAt_16 : decode cX3_childAt 16 = .ok (.invokevirtual 65, 3) := by decide +kernel
theorem dX3_childAt_19 : decode cX3_childAt 19 = .ok (.ifCond .eq 14, 3) := by decide +kernel
theorem dX3_childAt_22 : decode cX3_childAt 22 = .ok (.iload_n 3, 1) := by decide +kernel
theorem dX3_childAt_23 : decode cX3_childAt 23 = .ok (.iload_n 2, 1) := by decide +kernel
theorem dX3_childAt_24 : decode cX3_childAt 24 = .ok (.if_icmp .ne 6, 3) := by decide +kernel
theorem dX3_childAt_27 : decode cX3_childAt 27 = .ok (.iload 4, 2) := by decide +kernel
theorem dX3_childAt_29 : decode cX3_childAt 29 = .ok (.ireturn, 1) := by decide +kernel
theorem dX3_childAt_30 : decode cX3_childAt 30 = .ok (.iinc 3 1, 3) := by decide +kernel
theorem dX3_childAt_33 : decode cX3_childAt 33 = .ok (.iinc 4 1, 3) := by decide +kernel
theorem dX3_childAt_36 : decode cX3_childAt 36 = .ok (.goto (-31), 3) := by decide +kernel
theorem dX3_childAt_39 : decode cX3_childAt 39 = .ok (.iconst (-1), 1) := by decide +kernel
theorem dX3_childAt_40 : decode cX3_childAt 40 = .ok (.ireturn, 1) := by decide +kernel
theorem dX3_childWeights_0 : decode cX3_childWeights 0 = .ok (.iconst 0, 1) := by decide +kernel
theorem dX3_childWeights_1 : decode cX3_childWeights 1 = .ok (.istore_n 3, 1) := by decide +kernel
theorem dX3_childWeights_2 : decode cX3_childWeights 2 = .ok (.iconst 1, 1) := by decide +kernel
theorem dX3_childWeights_3 : decode cX3_childWeights 3 = .ok (.istore 4, 2) := by decide +kernel
theorem dX3_childWeights_5 : decode cX3_childWeights 5 = .ok (.iload 4, 2) := by decide +kernel
theorem dX3_childWeights_7 : decode cX3_childWeights 7 = .ok (.bipush 12, 2) := by decide +kernel
theorem dX3_childWeights_9 : decode cX3_childWeights 9 = .ok (.if_icmp .gt 41, 3) := by decide +kernel
theorem dX3_childWeights_12 : decode cX3_childWeights 12 = .ok (.iload_n 2, 1) := by decide +kernel
theorem dX3_childWeights_13 : decode cX3_childWeights 13 = .ok (.iload 4, 2) := by decide +kernel
theorem dX3_childWeights_15 : decode cX3_childWeights 15 = .ok (.invokestatic 54, 3) := by decide +kernel
theorem dX3_childWeights_18 : decode cX3_childWeights 18 = .ok (.ifCond .eq 26, 3) := by decide +kernel
theorem dX3_childWeights_21 : decode cX3_childWeights 21 = .ok (.aload_n 0, 1) := by decide +kernel
theorem dX3_childWeights_22 : decode cX3_childWeights 22 = .ok (.iload 4, 2) := by decide +kernel
theorem dX3_childWeights_24 : decode cX3_childWeights 24 = .ok (.iload_n 1, 1) := by decide +kernel
theorem dX3_childWeights_25 : decode cX3_childWeights 25 = .ok (.invokevirtual 65, 3) := by decide +kernel
theorem dX3_childWeights_28 : decode cX3_childWeights 28 = .ok (.ifCond .eq 16, 3) := by decide +kernel
theorem dX3_childWeights_31 : decode cX3_childWeights 31 = .ok (.iload_n 3, 1) := by decide +kernel
theorem dX3_childWeights_32 : decode cX3_childWeights 32 = .ok (.aload_n 0, 1) := by decide +kernel
theorem dX3_childWeights_33 : decode cX3_childWeights 33 = .ok (.getfield 11, 3) := by decide +kernel
theorem dX3_childWeights_36 : decode cX3_childWeights 36 = .ok (.iload 4, 2) := by decide +kernel
theorem dX3_childWeights_38 : decode cX3_childWeights 38 = .ok (.aaload, 1) := by decide +kernel
theorem dX3_childWeights_39 : decode cX3_childWeights 39 = .ok (.getfield 68, 3) := by decide +kernel
theorem dX3_childWeights_42 : decode cX3_childWeights 42 = .ok (.iadd, 1) := by decide +kernel
theorem dX3_childWeights_43 : decode cX3_childWeights 43 = .ok (.istore_n 3, 1) := by decide +kernel
theorem dX3_childWeights_44 : decode cX3_childWeights 44 = .ok (.iinc 4 1, 3) := by decide +kernel
theorem dX3_childWeights_47 : decode cX3_childWeights 47 = .ok (.goto (-42), 3) := by decide +kernel
theorem dX3_childWeights_50 : decode cX3_childWeights 50 = .ok (.iload_n 3, 1) := by decide +kernel
theorem dX3_childWeights_51 : decode cX3_childWeights 51 = .ok (.ireturn, 1) := by decide +kernel
theorem dX3_lineBits_0 : decode cX3_lineBits 0 = .ok (.iconst 0, 1) := by decide +kernel
theorem dX3_lineBits_1 : decode cX3_lineBits 1 = .ok (.istore_n 2, 1) := by decide +kernel
theorem dX3_lineBits_2 : decode cX3_lineBits 2 = .ok (.iload_n 1, 1) := by decide +kernel
theorem dX3_lineBits_3 : decode cX3_lineBits 3 = .ok (.istore_n 3, 1) := by decide +kernel
theorem dX3_lineBits_4 : decode cX3_lineBits 4 = .ok (.iconst 0, 1) := by decide +kernel
theorem dX3_lineBits_5 : decode cX3_lineBits 5 = .ok (.istore 4, 2) := by decide +kernel
theorem dX3_lineBits_7 : decode cX3_lineBits 7 = .ok (.iload 4, 2) := by decide +kernel
theorem dX3_lineBits_9 : decode cX3_lineBits 9 = .ok (.bipush 12, 2) := by decide +kernel
theorem dX3_lineBits_11 : decode cX3_lineBits 11 = .ok (.if_icmp .ge 29, 3) := by decide +kernel
theorem dX3_lineBits_14 : decode cX3_lineBits 14 = .ok (.iload_n 3, 1) := by decide +kernel
theorem dX3_lineBits_15 : decode cX3_lineBits 15 = .ok (.ifCond .eq 25, 3) := by decide +kernel
theorem dX3_lineBits_18 : decode cX3_lineBits 18 = .ok (.iload_n 2, 1) := by decide +kernel
theorem dX3_lineBits_19 : decode cX3_lineBits 19 = .ok (.iconst 1, 1) := by decide +kernel
theorem dX3_lineBits_20 : decode cX3_lineBits 20 = .ok (.iload_n 3, 1) := by decide +kernel
theorem dX3_lineBits_21 : decode cX3_lineBits 21 = .ok (.ishl, 1) := by decide +kernel
theorem dX3_lineBits_22 : decode cX3_lineBits 22 = .ok (.ior, 1) := by decide +kernel
theorem dX3_lineBits_23 : decode cX3_lineBits 23 = .ok (.istore_n 2, 1) := by decide +kernel
theorem dX3_lineBits_24 : decode cX3_lineBits 24 = .ok (.aload_n 0, 1) := by decide +kernel
theorem dX3_lineBits_25 : decode cX3_lineBits 25 = .ok (.getfield 11, 3) := by decide +kernel
theorem dX3_lineBits_28 : decode cX3_lineBits 28 = .ok (.iload_n 3, 1) := by decide +kernel
theorem dX3_lineBits_29 : decode cX3_lineBits 29 = .ok (.aaload, 1) := by decide +kernel
theorem dX3_lineBits_30 : decode cX3_lineBits 30 = .ok (.getfield 62, 3) := by decide +kernel
theorem dX3_lineBits_33 : decode cX3_lineBits 33 = .ok (.istore_n 3, 1) := by decide +kernel
theorem dX3_lineBits_34 : decode cX3_lineBits 34 = .ok (.iinc 4 1, 3) := by decide +kernel
theorem dX3_lineBits_37 : decode cX3_lineBits 37 = .ok (.goto (-30), 3) := by decide +kernel
theorem dX3_lineBits_40 : decode cX3_lineBits 40 = .ok (.iload_n 2, 1) := by decide +kernel
theorem dX3_lineBits_41 : decode cX3_lineBits 41 = .ok (.ireturn, 1) := by decide +kernel
theorem dX3_isBelow_0 : decode cX3_isBelow 0 = .ok (.iload_n 1, 1) := by decide +kernel
theorem dX3_isBelow_1 : decode cX3_isBelow 1 = .ok (.iload_n 2, 1) := by decide +kernel
theorem dX3_isBelow_2 : decode cX3_isBelow 2 = .ok (.if_icmp .eq 19, 3) := by decide +kernel
theorem dX3_isBelow_5 : decode cX3_isBelow 5 = .ok (.aload_n 0, 1) := by decide +kernel
theorem dX3_isBelow_6 : decode cX3_isBelow 6 = .ok (.iload_n 1, 1) := by decide +kernel
theorem dX3_isBelow_7 : decode cX3_isBelow 7 = .ok (.invokevirtual 71, 3) := by decide +kernel
theorem dX3_isBelow_10 : decode cX3_isBelow 10 = .ok (.iload_n 2, 1) := by decide +kernel
theorem dX3_isBelow_11 : decode cX3_isBelow 11 = .ok (.invokestatic 54, 3) := by decide +kernel
theorem dX3_isBelow_14 : decode cX3_isBelow 14 = .ok (.ifCond .eq 7, 3) := by decide +kernel
theorem dX3_isBelow_17 : decode cX3_isBelow 17 = .ok (.iconst 1, 1) := by decide +kernel
theorem dX3_isBelow_18 : decode cX3_isBelow 18 = .ok (.goto 4, 3) := by decide +kernel
theorem dX3_isBelow_21 : decode cX3_isBelow 21 = .ok (.iconst 0, 1) := by decide +kernel
theorem dX3_isBelow_22 : decode cX3_isBelow 22 = .ok (.ireturn, 1) := by decide +kernel
theorem dX3_belowCount_0 : decode cX3_belowCount 0 = .ok (.iconst 0, 1) := by decide +kernel
theorem dX3_belowCount_1 : decode cX3_belowCount 1 = .ok (.istore_n 2, 1) := by decide +kernel
theorem dX3_belowCount_2 : decode cX3_belowCount 2 = .ok (.iconst 1, 1) := by decide +kernel
theorem dX3_belowCount_3 : decode cX3_belowCount 3 = .ok (.istore_n 3, 1) := by decide +kernel
theorem dX3_belowCount_4 : decode cX3_belowCount 4 = .ok (.iload_n 3, 1) := by decide +kernel
theorem dX3_belowCount_5 : decode cX3_belowCount 5 = .ok (.bipush 12, 2) := by decide +kernel
theorem dX3_belowCount_7 : decode cX3_belowCount 7 = .ok (.if_icmp .gt 32, 3) := by decide +kernel
theorem dX3_belowCount_10 : decode cX3_belowCount 10 = .ok (.aload_n 0, 1) := by decide +kernel
theorem dX3_belowCount_11 : decode cX3_belowCount 11 = .ok (.getfield 35, 3) := by decide +kernel
theorem dX3_belowCount_14 : decode cX3_belowCount 14 = .ok (.iload_n 3, 1) := by decide +kernel
theorem dX3_belowCount_15 : decode cX3_belowCount 15 = .ok (.invokestatic 54, 3) := by decide +kernel
theorem dX3_belowCount_18 : decode cX3_belowCount 18 = .ok (.ifCond .eq 15, 3) := by decide +kernel
theorem dX3_belowCount_21 : decode cX3_belowCount 21 = .ok (.aload_n 0, 1) := by decide +kernel
theorem dX3_belowCount_22 : decode cX3_belowCount 22 = .ok (.iload_n 3, 1) := by decide +kernel
theorem dX3_belowCount_23 : decode cX3_belowCount 23 = .ok (.iload_n 1, 1) := by decide +kernel
theorem dX3_belowCount_24 : decode cX3_belowCount 24 = .ok (.invokevirtual 75, 3) := by decide +kernel
theorem dX3_belowCount_27 : decode cX3_belowCount 27 = .ok (.ifCond .eq 6, 3) := by decide +kernel
theorem dX3_belowCount_30 : decode cX3_belowCount 30 = .ok (.iinc 2 1, 3) := by decide +kernel
theorem dX3_belowCount_33 : decode cX3_belowCount 33 = .ok (.iinc 3 1, 3) := by decide +kernel
theorem dX3_belowCount_36 : decode cX3_belowCount 36 = .ok (.goto (-32), 3) := by decide +kernel
theorem dX3_belowCount_39 : decode cX3_belowCount 39 = .ok (.iload_n 2, 1) := by decide +kernel
theorem dX3_belowCount_40 : decode cX3_belowCount 40 = .ok (.ireturn, 1) := by decide +kernel
theorem dX3_deepestShared_0 : decode cX3_deepestShared 0 = .ok (.aload_n 0, 1) := by decide +kernel
theorem dX3_deepestShared_1 : decode cX3_deepestShared 1 = .ok (.iload_n 2, 1) := by decide +kernel
theorem dX3_deepestShared_2 : decode cX3_deepestShared 2 = .ok (.invokevirtual 71, 3) := by decide +kernel
theorem dX3_deepestShared_5 : decode cX3_deepestShared 5 = .ok (.istore_n 3, 1) := by decide +kernel
theorem dX3_deepestShared_6 : decode cX3_deepestShared 6 = .ok (.iload_n 1, 1) := by decide +kernel
theorem dX3_deepestShared_7 : decode cX3_deepestShared 7 = .ok (.istore 4, 2) := by decide +kernel
theorem dX3_deepestShared_9 : decode cX3_deepestShared 9 = .ok (.iconst 0, 1) := by decide +kernel
theorem dX3_deepestShared_10 : decode cX3_deepestShared 10 = .ok (.istore 5, 2) := by decide +kernel
theorem dX3_deepestShared_12 : decode cX3_deepestShared 12 = .ok (.iload 5, 2) := by decide +kernel
theorem dX3_deepestShared_14 : decode cX3_deepestShared 14 = .ok (.bipush 12, 2) := by decide +kernel
theorem dX3_deepestShared_16 : decode cX3_deepestShared 16 = .ok (.if_icmp .ge 35, 3) := by decide +kernel
theorem dX3_deepestShared_19 : decode cX3_deepestShared 19 = .ok (.iload 4, 2) := by decide +kernel
theorem dX3_deepestShared_21 : decode cX3_deepestShared 21 = .ok (.ifCond .eq 30, 3) := by decide +kernel
theorem dX3_deepestShared_24 : decode cX3_deepestShared 24 = .ok (.iload_n 3, 1) := by decide +kernel
theorem dX3_deepestShared_25 : decode cX3_deepestShared 25 = .ok (.iload 4, 2) := by decide +kernel
theorem dX3_deepestShared_27 : decode cX3_deepestShared 27 = .ok (.invokestatic 54, 3) := by decide +kernel
theorem dX3_deepestShared_30 : decode cX3_deepestShared 30 = .ok (.ifCond .ne 21, 3) := by decide +kernel
theorem dX3_deepestShared_33 : decode cX3_deepestShared 33 = .ok (.aload_n 0, 1) := by decide +kernel
theorem dX3_deepestShared_34 : decode cX3_deepestShared 34 = .ok (.getfield 11, 3) := by decide +kernel
theorem dX3_deepestShared_37 : decode cX3_deepestShared 37 = .ok (.iload 4, 2) := by decide +kernel
theorem dX3_deepestShared_39 : decode cX3_deepestShared 39 = .ok (.aaload, 1) := by decide +kernel
theorem dX3_deepestShared_40 : decode cX3_deepestShared 40 = .ok (.getfield 62, 3) := by decide +kernel
theorem dX3_deepestShared_43 : decode cX3_deepestShared 43 = .ok (.istore 4, 2) := by decide +kernel
theorem dX3_deepestShared_45 : decode cX3_deepestShared 45 = .ok (.iinc 5 1, 3) := by decide +kernel
theorem dX3_deepestShared_48 : decode cX3_deepestShared 48 = .ok (.goto (-36), 3) := by decide +kernel
theorem dX3_deepestShared_51 : decode cX3_deepestShared 51 = .ok (.iload 4, 2) := by decide +kernel
theorem dX3_deepestShared_53 : decode cX3_deepestShared 53 = .ok (.ireturn, 1) := by decide +kernel
theorem dX3_canBits_0 : decode cX3_canBits 0 = .ok (.iconst 0, 1) := by decide +kernel
theorem dX3_canBits_1 : decode cX3_canBits 1 = .ok (.istore_n 1, 1) := by decide +kernel
theorem dX3_canBits_2 : decode cX3_canBits 2 = .ok (.iconst 1, 1) := by decide +kernel
theorem dX3_canBits_3 : decode cX3_canBits 3 = .ok (.istore_n 2, 1) := by decide +kernel
theorem dX3_canBits_4 : decode cX3_canBits 4 = .ok (.iload_n 2, 1) := by decide +kernel
theorem dX3_canBits_5 : decode cX3_canBits 5 = .ok (.bipush 12, 2) := by decide +kernel
theorem dX3_canBits_7 : decode cX3_canBits 7 = .ok (.if_icmp .gt 38, 3) := by decide +kernel
theorem dX3_canBits_10 : decode cX3_canBits 10 = .ok (.aload_n 0, 1) := by decide +kernel
theorem dX3_canBits_11 : decode cX3_canBits 11 = .ok (.getfield 35, 3) := by decide +kernel
theorem dX3_canBits_14 : decode cX3_canBits 14 = .ok (.iload_n 2, 1) := by decide +kernel
theorem dX3_canBits_15 : decode cX3_canBits 15 = .ok (.invokestatic 54, 3) := by decide +kernel
theorem dX3_canBits_18 : decode cX3_canBits 18 = .ok (.ifCond .eq 21, 3) := by decide +kernel
theorem dX3_canBits_21 : decode cX3_canBits 21 = .ok (.aload_n 0, 1) := by decide +kernel
theorem dX3_canBits_22 : decode cX3_canBits 22 = .ok (.getfield 11, 3) := by decide +kernel
theorem dX3_canBits_25 : decode cX3_canBits 25 = .ok (.iload_n 2, 1) := by decide +kernel
theorem dX3_canBits_26 : decode cX3_canBits 26 = .ok (.aaload, 1) := by decide +kernel
theorem dX3_canBits_27 : decode cX3_canBits 27 = .ok (.invokevirtual 78, 3) := by decide +kernel
theorem dX3_canBits_30 : decode cX3_canBits 30 = .ok (.ifCond .eq 9, 3) := by decide +kernel
theorem dX3_canBits_33 : decode cX3_canBits 33 = .ok (.iload_n 1, 1) := by decide +kernel
theorem dX3_canBits_34 : decode cX3_canBits 34 = .ok (.iconst 1, 1) := by decide +kernel
theorem dX3_canBits_35 : decode cX3_canBits 35 = .ok (.iload_n 2, 1) := by decide +kernel
theorem dX3_canBits_36 : decode cX3_canBits 36 = .ok (.ishl, 1) := by decide +kernel
theorem dX3_canBits_37 : decode cX3_canBits 37 = .ok (.ior, 1) := by decide +kernel
theorem dX3_canBits_38 : decode cX3_canBits 38 = .ok (.istore_n 1, 1) := by decide +kernel
theorem dX3_canBits_39 : decode cX3_canBits 39 = .ok (.iinc 2 1, 3) := by decide +kernel
theorem dX3_canBits_42 : decode cX3_canBits 42 = .ok (.goto (-38), 3) := by decide +kernel
theorem dX3_canBits_45 : decode cX3_canBits 45 = .ok (.iload_n 1, 1) := by decide +kernel
theorem dX3_canBits_46 : decode cX3_canBits 46 = .ok (.ireturn, 1) := by decide +kernel
theorem dX3_liveBits_0 : decode cX3_liveBits 0 = .ok (.iconst 0, 1) := by decide +kernel
theorem dX3_liveBits_1 : decode cX3_liveBits 1 = .ok (.istore_n 2, 1) := by decide +kernel
theorem dX3_liveBits_2 : decode cX3_liveBits 2 = .ok (.iconst 1, 1) := by decide +kernel
theorem dX3_liveBits_3 : decode cX3_liveBits 3 = .ok (.istore_n 3, 1) := by decide +kernel
theorem dX3_liveBits_4 : decode cX3_liveBits 4 = .ok (.iload_n 3, 1) := by decide +kernel
theorem dX3_liveBits_5 : decode cX3_liveBits 5 = .ok (.bipush 12, 2) := by decide +kernel
theorem dX3_liveBits_7 : decode cX3_liveBits 7 = .ok (.if_icmp .gt 33, 3) := by decide +kernel
theorem dX3_liveBits_10 : decode cX3_liveBits 10 = .ok (.iload_n 1, 1) := by decide +kernel
theorem dX3_liveBits_11 : decode cX3_liveBits 11 = .ok (.iload_n 3, 1) := by decide +kernel
theorem dX3_liveBits_12 : decode cX3_liveBits 12 = .ok (.invokestatic 54, 3) := by decide +kernel
theorem dX3_liveBits_15 : decode cX3_liveBits 15 = .ok (.ifCond .eq 19, 3) := by decide +kernel
theorem dX3_liveBits_18 : decode cX3_liveBits 18 = .ok (.iload_n 2, 1) := by decide +kernel
theorem dX3_liveBits_19 : decode cX3_liveBits 19 = .ok (.iload_n 3, 1) := by decide +kernel
theorem dX3_liveBits_20 : decode cX3_liveBits 20 = .ok (.invokestatic 54, 3) := by decide +kernel
theorem dX3_liveBits_23 : decode cX3_liveBits 23 = .ok (.ifCond .ne 11, 3) := by decide +kernel
theorem dX3_liveBits_26 : decode cX3_liveBits 26 = .ok (.iload_n 2, 1) := by decide +kernel
theorem dX3_liveBits_27 : decode cX3_liveBits 27 = .ok (.aload_n 0, 1) := by decide +kernel
theorem dX3_liveBits_28 : decode cX3_liveBits 28 = .ok (.iload_n 3, 1) := by decide +kernel
theorem dX3_liveBits_29 : decode cX3_liveBits 29 = .ok (.invokevirtual 71, 3) := by decide +kernel
theorem dX3_liveBits_32 : decode cX3_liveBits 32 = .ok (.ior, 1) := by decide +kernel
theorem dX3_liveBits_33 : decode cX3_liveBits 33 = .ok (.istore_n 2, 1) := by decide +kernel
theorem dX3_liveBits_34 : decode cX3_liveBits 34 = .ok (.iinc 3 1, 3) := by decide +kernel
theorem dX3_liveBits_37 : decode cX3_liveBits 37 = .ok (.goto (-33), 3) := by decide +kernel
theorem dX3_liveBits_40 : decode cX3_liveBits 40 = .ok (.iload_n 2, 1) := by decide +kernel
theorem dX3_liveBits_41 : decode cX3_liveBits 41 = .ok (.ireturn, 1) := by decide +kernel
theorem dX3_sentTogether_0 : decode cX3_sentTogether 0 = .ok (.iconst 0, 1) := by decide +kernel
theorem dX3_sentTogether_1 : decode cX3_sentTogether 1 = .ok (.istore_n 1, 1) := by decide +kernel
theorem dX3_sentTogether_2 : decode cX3_sentTogether 2 = .ok (.iconst 1, 1) := by decide +kernel
theorem dX3_sentTogether_3 : decode cX3_sentTogether 3 = .ok (.istore_n 2, 1) := by decide +kernel
theorem dX3_sentTogether_4 : decode cX3_sentTogether 4 = .ok (.iload_n 2, 1) := by decide +kernel
theorem dX3_sentTogether_5 : decode cX3_sentTogether 5 = .ok (.bipush 12, 2) := by decide +kernel
theorem dX3_sentTogether_7 : decode cX3_sentTogether 7 = .ok (.if_icmp .gt 32, 3) := by decide +kernel
theorem dX3_sentTogether_10 : decode cX3_sentTogether 10 = .ok (.aload_n 0, 1) := by decide +kernel
theorem dX3_sentTogether_11 : decode cX3_sentTogether 11 = .ok (.getfield 35, 3) := by decide +kernel
theorem dX3_sentTogether_14 : decode cX3_sentTogether 14 = .ok (.iload_n 2, 1) := by decide +kernel
theorem dX3_sentTogether_15 : decode cX3_sentTogether 15 = .ok (.invokestatic 54, 3) := by decide +kernel
theorem dX3_sentTogether_18 : decode cX3_sentTogether 18 = .ok (.ifCond .eq 15, 3) := by decide +kernel
theorem dX3_sentTogether_21 : decode cX3_sentTogether 21 = .ok (.iload_n 1, 1) := by decide +kernel
theorem dX3_sentTogether_22 : decode cX3_sentTogether 22 = .ok (.aload_n 0, 1) := by decide +kernel
theorem dX3_sentTogether_23 : decode cX3_sentTogether 23 = .ok (.getfield 11, 3) := by decide +kernel
theorem dX3_sentTogether_26 : decode cX3_sentTogether 26 = .ok (.iload_n 2, 1) := by decide +kernel
theorem dX3_sentTogether_27 : decode cX3_sentTogether 27 = .ok (.aaload, 1) := by decide +kernel
theorem dX3_sentTogether_28 : decode cX3_sentTogether 28 = .ok (.getfield 82, 3) := by decide +kernel
theorem dX3_sentTogether_31 : decode cX3_sentTogether 31 = .ok (.iadd, 1) := by decide +kernel
theorem dX3_sentTogether_32 : decode cX3_sentTogether 32 = .ok (.istore_n 1, 1) := by decide +kernel
theorem dX3_sentTogether_33 : decode cX3_sentTogether 33 = .ok (.iinc 2 1, 3) := by decide +kernel
theorem dX3_sentTogether_36 : decode cX3_sentTogether 36 = .ok (.goto (-32), 3) := by decide +kernel
theorem dX3_sentTogether_39 : decode cX3_sentTogether 39 = .ok (.iload_n 1, 1) := by decide +kernel
theorem dX3_sentTogether_40 : decode cX3_sentTogether 40 = .ok (.ireturn, 1) := by decide +kernel
theorem dX3_greatestLongest_0 : decode cX3_greatestLongest 0 = .ok (.iconst 0, 1) := by decide +kernel
theorem dX3_greatestLongest_1 : decode cX3_greatestLongest 1 = .ok (.istore_n 1, 1) := by decide +kernel
theorem dX3_greatestLongest_2 : decode cX3_greatestLongest 2 = .ok (.iconst 1, 1) := by decide +kernel
theorem dX3_greatestLongest_3 : decode cX3_greatestLongest 3 = .ok (.istore_n 2, 1) := by decide +kernel
theorem dX3_greatestLongest_4 : decode cX3_greatestLongest 4 = .ok (.iload_n 2, 1) := by decide +kernel
theorem dX3_greatestLongest_5 : decode cX3_greatestLongest 5 = .ok (.bipush 12, 2) := by decide +kernel
theorem dX3_greatestLongest_7 : decode cX3_greatestLongest 7 = .ok (.if_icmp .gt 34, 3) := by decide +kernel
theorem dX3_greatestLongest_10 : decode cX3_greatestLongest 10 = .ok (.aload_n 0, 1) := by decide +kernel
theorem dX3_greatestLongest_11 : decode cX3_greatestLongest 11 = .ok (.getfield 35, 3) := by decide +kernel
theorem dX3_greatestLongest_14 : decode cX3_greatestLongest 14 = .ok (.iload_n 2, 1) := by decide +kernel
theorem dX3_greatestLongest_15 : decode cX3_greatestLongest 15 = .ok (.invokestatic 54, 3) := by decide +kernel
theorem dX3_greatestLongest_18 : decode cX3_greatestLongest 18 = .ok (.ifCond .eq 17, 3) := by decide +kernel
theorem dX3_greatestLongest_21 : decode cX3_greatestLongest 21 = .ok (.iload_n 1, 1) := by decide +kernel
theorem dX3_greatestLongest_22 : decode cX3_greatestLongest 22 = .ok (.aload_n 0, 1) := by decide +kernel
theorem dX3_greatestLongest_23 : decode cX3_greatestLongest 23 = .ok (.getfield 11, 3) := by decide +kernel
theorem dX3_greatestLongest_26 : decode cX3_greatestLongest 26 = .ok (.iload_n 2, 1) := by decide +kernel
theorem dX3_greatestLongest_27 : decode cX3_greatestLongest 27 = .ok (.aaload, 1) := by decide +kernel
theorem dX3_greatestLongest_28 : decode cX3_greatestLongest 28 = .ok (.getfield 85, 3) := by decide +kernel
theorem dX3_greatestLongest_31 : decode cX3_greatestLongest 31 = .ok (.invokestatic 88, 3) := by decide +kernel
theorem dX3_greatestLongest_34 : decode cX3_greatestLongest 34 = .ok (.istore_n 1, 1) := by decide +kernel
theorem dX3_greatestLongest_35 : decode cX3_greatestLongest 35 = .ok (.iinc 2 1, 3) := by decide +kernel
theorem dX3_greatestLongest_38 : decode cX3_greatestLongest 38 = .ok (.goto (-34), 3) := by decide +kernel
theorem dX3_greatestLongest_41 : decode cX3_greatestLongest 41 = .ok (.iload_n 1, 1) := by decide +kernel
theorem dX3_greatestLongest_42 : decode cX3_greatestLongest 42 = .ok (.ireturn, 1) := by decide +kernel
theorem dX3_enter_0 : decode cX3_enter 0 = .ok (.aload_n 0, 1) := by decide +kernel
theorem dX3_enter_1 : decode cX3_enter 1 = .ok (.getfield 11, 3) := by decide +kernel
theorem dX3_enter_4 : decode cX3_enter 4 = .ok (.iload_n 1, 1) := by decide +kernel
theorem dX3_enter_5 : decode cX3_enter 5 = .ok (.aaload, 1) := by decide +kernel
theorem dX3_enter_6 : decode cX3_enter 6 = .ok (.iload_n 2, 1) := by decide +kernel
theorem dX3_enter_7 : decode cX3_enter 7 = .ok (.invokevirtual 94, 3) := by decide +kernel
theorem dX3_enter_10 : decode cX3_enter 10 = .ok (.aload_n 0, 1) := by decide +kernel
theorem dX3_enter_11 : decode cX3_enter 11 = .ok (.dup, 1) := by decide +kernel
theorem dX3_enter_12 : decode cX3_enter 12 = .ok (.getfield 35, 3) := by decide +kernel
theorem dX3_enter_15 : decode cX3_enter 15 = .ok (.iconst 1, 1) := by decide +kernel
theorem dX3_enter_16 : decode cX3_enter 16 = .ok (.iload_n 1, 1) := by decide +kernel
theorem dX3_enter_17 : decode cX3_enter 17 = .ok (.ishl, 1) := by decide +kernel
theorem dX3_enter_18 : decode cX3_enter 18 = .ok (.ior, 1) := by decide +kernel
theorem dX3_enter_19 : decode cX3_enter 19 = .ok (.putfield 35, 3) := by decide +kernel
theorem dX3_enter_22 : decode cX3_enter 22 = .ok (.aload_n 0, 1) := by decide +kernel
theorem dX3_enter_23 : decode cX3_enter 23 = .ok (.dup, 1) := by decide +kernel
theorem dX3_enter_24 : decode cX3_enter 24 = .ok (.getfield 38, 3) := by decide +kernel
theorem dX3_enter_27 : decode cX3_enter 27 = .ok (.iconst 1, 1) := by decide +kernel
theorem dX3_enter_28 : decode cX3_enter 28 = .ok (.iload_n 1, 1) := by decide +kernel
theorem dX3_enter_29 : decode cX3_enter 29 = .ok (.ishl, 1) := by decide +kernel
theorem dX3_enter_30 : decode cX3_enter 30 = .ok (.iconst (-1), 1) := by decide +kernel
theorem dX3_enter_31 : decode cX3_enter 31 = .ok (.ixor, 1) := by decide +kernel
theorem dX3_enter_32 : decode cX3_enter 32 = .ok (.iand, 1) := by decide +kernel
theorem dX3_enter_33 : decode cX3_enter 33 = .ok (.putfield 38, 3) := by decide +kernel
theorem dX3_enter_36 : decode cX3_enter 36 = .ok (.return_, 1) := by decide +kernel
theorem dX3_hang_0 : decode cX3_hang 0 = .ok (.aload_n 0, 1) := by decide +kernel
theorem dX3_hang_1 : decode cX3_hang 1 = .ok (.getfield 11, 3) := by decide +kernel
theorem dX3_hang_4 : decode cX3_hang 4 = .ok (.iload_n 1, 1) := by decide +kernel
theorem dX3_hang_5 : decode cX3_hang 5 = .ok (.aaload, 1) := by decide +kernel
theorem dX3_hang_6 : decode cX3_hang 6 = .ok (.iload_n 2, 1) := by decide +kernel
theorem dX3_hang_7 : decode cX3_hang 7 = .ok (.putfield 62, 3) := by decide +kernel
theorem dX3_hang_10 : decode cX3_hang 10 = .ok (.aload_n 0, 1) := by decide +kernel
theorem dX3_hang_11 : decode cX3_hang 11 = .ok (.getfield 11, 3) := by decide +kernel
theorem dX3_hang_14 : decode cX3_hang 14 = .ok (.iload_n 1, 1) := by decide +kernel
theorem dX3_hang_15 : decode cX3_hang 15 = .ok (.aaload, 1) := by decide +kernel
theorem dX3_hang_16 : decode cX3_hang 16 = .ok (.aload_n 0, 1) := by decide +kernel
theorem dX3_hang_17 : decode cX3_hang 17 = .ok (.getfield 11, 3) := by decide +kernel
theorem dX3_hang_20 : decode cX3_hang 20 = .ok (.iload_n 2, 1) := by decide +kernel
theorem dX3_hang_21 : decode cX3_hang 21 = .ok (.aaload, 1) := by decide +kernel
theorem dX3_hang_22 : decode cX3_hang 22 = .ok (.getfield 98, 3) := by decide +kernel
theorem dX3_hang_25 : decode cX3_hang 25 = .ok (.putfield 102, 3) := by decide +kernel
theorem dX3_hang_28 : decode cX3_hang 28 = .ok (.return_, 1) := by decide +kernel
theorem dX3_attach_0 : decode cX3_attach 0 = .ok (.iload_n 3, 1) := by decide +kernel
theorem dX3_attach_1 : decode cX3_attach 1 = .ok (.ifCond .eq 9, 3) := by decide +kernel
theorem dX3_attach_4 : decode cX3_attach 4 = .ok (.aload_n 0, 1) := by decide +kernel
theorem dX3_attach_5 : decode cX3_attach 5 = .ok (.iload_n 2, 1) := by decide +kernel
theorem dX3_attach_6 : decode cX3_attach 6 = .ok (.iload_n 1, 1) := by decide +kernel
theorem dX3_attach_7 : decode cX3_attach 7 = .ok (.invokevirtual 105, 3) := by decide +kernel
theorem dX3_attach_10 : decode cX3_attach 10 = .ok (.aload_n 0, 1) := by decide +kernel
theorem dX3_attach_11 : decode cX3_attach 11 = .ok (.iload_n 1, 1) := by decide +kernel
theorem dX3_attach_12 : decode cX3_attach 12 = .ok (.iload_n 2, 1) := by decide +kernel
theorem dX3_attach_13 : decode cX3_attach 13 = .ok (.invokevirtual 109, 3) := by decide +kernel
theorem dX3_attach_16 : decode cX3_attach 16 = .ok (.return_, 1) := by decide +kernel
theorem dX3_hangChildren_0 : decode cX3_hangChildren 0 = .ok (.iconst 1, 1) := by decide +kernel
theorem dX3_hangChildren_1 : decode cX3_hangChildren 1 = .ok (.istore_n 3, 1) := by decide +kernel
theorem dX3_hangChildren_2 : decode cX3_hangChildren 2 = .ok (.iload_n 3, 1) := by decide +kernel
theorem dX3_hangChildren_3 : decode cX3_hangChildren 3 = .ok (.bipush 12, 2) := by decide +kernel
theorem dX3_hangChildren_5 : decode cX3_hangChildren 5 = .ok (.if_icmp .gt 29, 3) := by decide +kernel
theorem dX3_hangChildren_8 : decode cX3_hangChildren 8 = .ok (.iload_n 3, 1) := by decide +kernel
theorem dX3_hangChildren_9 : decode cX3_hangChildren 9 = .ok (.iload_n 2, 1) := by decide +kernel
theorem dX3_hangChildren_10 : decode cX3_hangChildren 10 = .ok (.if_icmp .eq 18, 3) := by decide +kernel
theorem dX3_hangChildren_13 : decode cX3_hangChildren 13 = .ok (.aload_n 0, 1) := by decide +kernel
theorem dX3_hangChildren_14 : decode cX3_hangChildren 14 = .ok (.iload_n 3, 1) := by decide +kernel
theorem dX3_hangChildren_15 : decode cX3_hangChildren 15 = .ok (.iload_n 1, 1) := by decide +kernel
theorem dX3_hangChildren_16 : decode cX3_hangChildren 16 = .ok (.invokevirtual 65, 3) := by decide +kernel
theorem dX3_hangChildren_19 : decode cX3_hangChildren 19 = .ok (.ifCond .eq 9, 3) := by decide +kernel
theorem dX3_hangChildren_22 : decode cX3_hangChildren 22 = .ok (.aload_n 0, 1) := by decide +kernel
theorem dX3_hangChildren_23 : decode cX3_hangChildren 23 = .ok (.iload_n 3, 1) := by decide +kernel
theorem dX3_hangChildren_24 : decode cX3_hangChildren 24 = .ok (.iload_n 2, 1) := by decide +kernel
theorem dX3_hangChildren_25 : decode cX3_hangChildren 25 = .ok (.invokevirtual 109, 3) := by decide +kernel
theorem dX3_hangChildren_28 : decode cX3_hangChildren 28 = .ok (.iinc 3 1, 3) := by decide +kernel
theorem dX3_hangChildren_31 : decode cX3_hangChildren 31 = .ok (.goto (-29), 3) := by decide +kernel
theorem dX3_hangChildren_34 : decode cX3_hangChildren 34 = .ok (.return_, 1) := by decide +kernel
theorem dX3_changeSetting_0 : decode cX3_changeSetting 0 = .ok (.iload_n 1, 1) := by decide +kernel
theorem dX3_changeSetting_1 : decode cX3_changeSetting 1 = .ok (.ifCond .ne 16, 3) := by decide +kernel
theorem dX3_changeSetting_4 : decode cX3_changeSetting 4 = .ok (.aload_n 0, 1) := by decide +kernel
theorem dX3_changeSetting_5 : decode cX3_changeSetting 5 = .ok (.getfield 18, 3) := by decide +kernel
theorem dX3_changeSetting_8 : decode cX3_changeSetting 8 = .ok (.istore_n 3, 1) := by decide +kernel
theorem dX3_changeSetting_9 : decode cX3_changeSetting 9 = .ok (.aload_n 0, 1) := by decide +kernel
theorem dX3_changeSetting_10 : decode cX3_changeSetting 10 = .ok (.iload_n 2, 1) := by decide +kernel
theorem dX3_changeSetting_11 : decode cX3_changeSetting 11 = .ok (.putfield 18, 3) := by decide +kernel
theorem dX3_changeSetting_14 : decode cX3_changeSetting 14 = .ok (.goto 53, 3) := by decide +kernel
theorem dX3_changeSetting_17 : decode cX3_changeSetting 17 = .ok (.iload_n 1, 1) := by decide +kernel
theorem dX3_changeSetting_18 : decode cX3_changeSetting 18 = .ok (.iconst 1, 1) := by decide +kernel
theorem dX3_changeSetting_19 : decode cX3_changeSetting 19 = .ok (.if_icmp .ne 16, 3) := by decide +kernel
theorem dX3_changeSetting_22 : decode cX3_changeSetting 22 = .ok (.aload_n 0, 1) := by decide +kernel
theorem dX3_changeSetting_23 : decode cX3_changeSetting 23 = .ok (.getfield 22, 3) := by decide +kernel
theorem dX3_changeSetting_26 : decode cX3_changeSetting 26 = .ok (.istore_n 3, 1) := by decide +kernel
theorem dX3_changeSetting_27 : decode cX3_changeSetting 27 = .ok (.aload_n 0, 1) := by decide +kernel
theorem dX3_changeSetting_28 : decode cX3_changeSetting 28 = .ok (.iload_n 2, 1) := by decide +kernel
theorem dX3_changeSetting_29 : decode cX3_changeSetting 29 = .ok (.putfield 22, 3) := by decide +kernel
theorem dX3_changeSetting_32 : decode cX3_changeSetting 32 = .ok (.goto 35, 3) := by decide +kernel
theorem dX3_changeSetting_35 : decode cX3_changeSetting 35 = .ok (.iload_n 1, 1) := by decide +kernel
theorem dX3_changeSetting_36 : decode cX3_changeSetting 36 = .ok (.iconst 2, 1) := by decide +kernel
theorem dX3_changeSetting_37 : decode cX3_changeSetting 37 = .ok (.if_icmp .ne 20, 3) := by decide +kernel
theorem dX3_changeSetting_40 : decode cX3_changeSetting 40 = .ok (.aload_n 0, 1) := by decide +kernel
theorem dX3_changeSetting_41 : decode cX3_changeSetting 41 = .ok (.getfield 25, 3) := by decide +kernel
theorem dX3_changeSetting_44 : decode cX3_changeSetting 44 = .ok (.istore_n 3, 1) := by decide +kernel
theorem dX3_changeSetting_45 : decode cX3_changeSetting 45 = .ok (.aload_n 0, 1) := by decide +kernel
theorem dX3_changeSetting_46 : decode cX3_changeSetting 46 = .ok (.iload_n 2, 1) := by decide +kernel
theorem dX3_changeSetting_47 : decode cX3_changeSetting 47 = .ok (.putfield 25, 3) := by decide +kernel
theorem dX3_changeSetting_50 : decode cX3_changeSetting 50 = .ok (.aload_n 0, 1) := by decide +kernel
theorem dX3_changeSetting_51 : decode cX3_changeSetting 51 = .ok (.invokevirtual 112, 3) := by decide +kernel
theorem dX3_changeSetting_54 : decode cX3_changeSetting 54 = .ok (.goto 13, 3) := by decide +kernel
theorem dX3_changeSetting_57 : decode cX3_changeSetting 57 = .ok (.aload_n 0, 1) := by decide +kernel
theorem dX3_changeSetting_58 : decode cX3_changeSetting 58 = .ok (.getfield 41, 3) := by decide +kernel
theorem dX3_changeSetting_61 : decode cX3_changeSetting 61 = .ok (.istore_n 3, 1) := by decide +kernel
theorem dX3_changeSetting_62 : decode cX3_changeSetting 62 = .ok (.aload_n 0, 1) := by decide +kernel
theorem dX3_changeSetting_63 : decode cX3_changeSetting 63 = .ok (.iload_n 2, 1) := by decide +kernel
theorem dX3_changeSetting_64 : decode cX3_changeSetting 64 = .ok (.putfield 41, 3) := by decide +kernel
theorem dX3_changeSetting_67 : decode cX3_changeSetting 67 = .ok (.iload_n 3, 1) := by decide +kernel
theorem dX3_changeSetting_68 : decode cX3_changeSetting 68 = .ok (.ireturn, 1) := by decide +kernel
theorem dX3_letGo_0 : decode cX3_letGo 0 = .ok (.iconst 1, 1) := by decide +kernel
theorem dX3_letGo_1 : decode cX3_letGo 1 = .ok (.istore_n 1, 1) := by decide +kernel
theorem dX3_letGo_2 : decode cX3_letGo 2 = .ok (.iload_n 1, 1) := by decide +kernel
theorem dX3_letGo_3 : decode cX3_letGo 3 = .ok (.bipush 12, 2) := by decide +kernel
theorem dX3_letGo_5 : decode cX3_letGo 5 = .ok (.if_icmp .gt 53, 3) := by decide +kernel
theorem dX3_letGo_8 : decode cX3_letGo 8 = .ok (.aload_n 0, 1) := by decide +kernel
theorem dX3_letGo_9 : decode cX3_letGo 9 = .ok (.getfield 35, 3) := by decide +kernel
theorem dX3_letGo_12 : decode cX3_letGo 12 = .ok (.iload_n 1, 1) := by decide +kernel
theorem dX3_letGo_13 : decode cX3_letGo 13 = .ok (.invokestatic 54, 3) := by decide +kernel
theorem dX3_letGo_16 : decode cX3_letGo 16 = .ok (.ifCond .eq 36, 3) := by decide +kernel
theorem dX3_letGo_19 : decode cX3_letGo 19 = .ok (.aload_n 0, 1) := by decide +kernel
theorem dX3_letGo_20 : decode cX3_letGo 20 = .ok (.getfield 11, 3) := by decide +kernel
theorem dX3_letGo_23 : decode cX3_letGo 23 = .ok (.iload_n 1, 1) := by decide +kernel
theorem dX3_letGo_24 : decode cX3_letGo 24 = .ok (.aaload, 1) := by decide +kernel
theorem dX3_letGo_25 : decode cX3_letGo 25 = .ok (.getfield 115, 3) := by decide +kernel
theorem dX3_letGo_28 : decode cX3_letGo 28 = .ok (.ifCond .ne 24, 3) := by decide +kernel
theorem dX3_letGo_31 : decode cX3_letGo 31 = .ok (.aload_n 0, 1) := by decide +kernel
theorem dX3_letGo_32 : decode cX3_letGo 32 = .ok (.getfield 11, 3) := by decide +kernel
theorem dX3_letGo_35 : decode cX3_letGo 35 = .ok (.iload_n 1, 1) := by decide +kernel
theorem dX3_letGo_36 : decode cX3_letGo 36 = .ok (.aaload, 1) := by decide +kernel
theorem dX3_letGo_37 : decode cX3_letGo 37 = .ok (.getfield 119, 3) := by decide +kernel
theorem dX3_letGo_40 : decode cX3_letGo 40 = .ok (.aload_n 0, 1) := by decide +kernel
theorem dX3_letGo_41 : decode cX3_letGo 41 = .ok (.getfield 25, 3) := by decide +kernel
theorem dX3_letGo_44 : decode cX3_letGo 44 = .ok (.if_icmp .lt 8, 3) := by decide +kernel
theorem dX3_letGo_47 : decode cX3_letGo 47 = .ok (.aload_n 0, 1) := by decide +kernel
theorem dX3_letGo_48 : decode cX3_letGo 48 = .ok (.iload_n 1, 1) := by decide +kernel
theorem dX3_letGo_49 : decode cX3_letGo 49 = .ok (.invokevirtual 122, 3) := by decide +kernel
theorem dX3_letGo_52 : decode cX3_letGo 52 = .ok (.iinc 1 1, 3) := by decide +kernel
theorem dX3_letGo_55 : decode cX3_letGo 55 = .ok (.goto (-53), 3) := by decide +kernel
theorem dX3_letGo_58 : decode cX3_letGo 58 = .ok (.return_, 1) := by decide +kernel
theorem dX3_leave_0 : decode cX3_leave 0 = .ok (.aload_n 0, 1) := by decide +kernel
theorem dX3_leave_1 : decode cX3_leave 1 = .ok (.getfield 11, 3) := by decide +kernel
theorem dX3_leave_4 : decode cX3_leave 4 = .ok (.iload_n 1, 1) := by decide +kernel
theorem dX3_leave_5 : decode cX3_leave 5 = .ok (.aaload, 1) := by decide +kernel
theorem dX3_leave_6 : decode cX3_leave 6 = .ok (.getfield 68, 3) := by decide +kernel
theorem dX3_leave_9 : decode cX3_leave 9 = .ok (.istore_n 2, 1) := by decide +kernel
theorem dX3_leave_10 : decode cX3_leave 10 = .ok (.aload_n 0, 1) := by decide +kernel
theorem dX3_leave_11 : decode cX3_leave 11 = .ok (.iload_n 1, 1) := by decide +kernel
theorem dX3_leave_12 : decode cX3_leave 12 = .ok (.aload_n 0, 1) := by decide +kernel
theorem dX3_leave_13 : decode cX3_leave 13 = .ok (.getfield 35, 3) := by decide +kernel
theorem dX3_leave_16 : decode cX3_leave 16 = .ok (.invokevirtual 125, 3) := by decide +kernel
theorem dX3_leave_19 : decode cX3_leave 19 = .ok (.istore_n 3, 1) := by decide +kernel
theorem dX3_leave_20 : decode cX3_leave 20 = .ok (.iconst 1, 1) := by decide +kernel
theorem dX3_leave_21 : decode cX3_leave 21 = .ok (.istore 4, 2) := by decide +kernel
theorem dX3_leave_23 : decode cX3_leave 23 = .ok (.iload 4, 2) := by decide +kernel
theorem dX3_leave_25 : decode cX3_leave 25 = .ok (.bipush 12, 2) := by decide +kernel
theorem dX3_leave_27 : decode cX3_leave 27 = .ok (.if_icmp .gt 52, 3) := by decide +kernel
theorem dX3_leave_30 : decode cX3_leave 30 = .ok (.aload_n 0, 1) := by decide +kernel
theorem dX3_leave_31 : decode cX3_leave 31 = .ok (.iload 4, 2) := by decide +kernel
theorem dX3_leave_33 : decode cX3_leave 33 = .ok (.iload_n 1, 1) := by decide +kernel
theorem dX3_leave_34 : decode cX3_leave 34 = .ok (.invokevirtual 65, 3) := by decide +kernel
theorem dX3_leave_37 : decode cX3_leave 37 = .ok (.ifCond .eq 36, 3) := by decide +kernel
theorem dX3_leave_40 : decode cX3_leave 40 = .ok (.aload_n 0, 1) := by decide +kernel
theorem dX3_leave_41 : decode cX3_leave 41 = .ok (.getfield 11, 3) := by decide +kernel
theorem dX3_leave_44 : decode cX3_leave 44 = .ok (.iload 4, 2) := by decide +kernel
theorem dX3_leave_46 : decode cX3_leave 46 = .ok (.aaload, 1) := by decide +kernel
theorem dX3_leave_47 : decode cX3_leave 47 = .ok (.lconst 1, 1) := by decide +kernel
theorem dX3_leave_48 : decode cX3_leave 48 = .ok (.aload_n 0, 1) := by decide +kernel
theorem dX3_leave_49 : decode cX3_leave 49 = .ok (.getfield 11, 3) := by decide +kernel
theorem dX3_leave_52 : decode cX3_leave 52 = .ok (.iload 4, 2) := by decide +kernel
theorem dX3_leave_54 : decode cX3_leave 54 = .ok (.aaload, 1) := by decide +kernel
theorem dX3_leave_55 : decode cX3_leave 55 = .ok (.getfield 68, 3) := by decide +kernel
theorem dX3_leave_58 : decode cX3_leave 58 = .ok (.iload_n 2, 1) := by decide +kernel
theorem dX3_leave_59 : decode cX3_leave 59 = .ok (.imul, 1) := by decide +kernel
theorem dX3_leave_60 : decode cX3_leave 60 = .ok (.i2l, 1) := by decide +kernel
theorem dX3_leave_61 : decode cX3_leave 61 = .ok (.iload_n 3, 1) := by decide +kernel
theorem dX3_leave_62 : decode cX3_leave 62 = .ok (.i2l, 1) := by decide +kernel
theorem dX3_leave_63 : decode cX3_leave 63 = .ok (.invokestatic 128, 3) := by decide +kernel
theorem dX3_leave_66 : decode cX3_leave 66 = .ok (.invokestatic 132, 3) := by decide +kernel
theorem dX3_leave_69 : decode cX3_leave 69 = .ok (.l2i, 1) := by decide +kernel
theorem dX3_leave_70 : decode cX3_leave 70 = .ok (.putfield 68, 3) := by decide +kernel
theorem dX3_leave_73 : decode cX3_leave 73 = .ok (.iinc 4 1, 3) := by decide +kernel
theorem dX3_leave_76 : decode cX3_leave 76 = .ok (.goto (-53), 3) := by decide +kernel
theorem dX3_leave_79 : decode cX3_leave 79 = .ok (.aload_n 0, 1) := by decide +kernel
theorem dX3_leave_80 : decode cX3_leave 80 = .ok (.iload_n 1, 1) := by decide +kernel
theorem dX3_leave_81 : decode cX3_leave 81 = .ok (.aload_n 0, 1) := by decide +kernel
theorem dX3_leave_82 : decode cX3_leave 82 = .ok (.getfield 11, 3) := by decide +kernel
theorem dX3_leave_85 : decode cX3_leave 85 = .ok (.iload_n 1, 1) := by decide +kernel
theorem dX3_leave_86 : decode cX3_leave 86 = .ok (.aaload, 1) := by decide +kernel
theorem dX3_leave_87 : decode cX3_leave 87 = .ok (.getfield 62, 3) := by decide +kernel
theorem dX3_leave_90 : decode cX3_leave 90 = .ok (.invokevirtual 105, 3) := by decide +kernel
theorem dX3_leave_93 : decode cX3_leave 93 = .ok (.aload_n 0, 1) := by decide +kernel
theorem dX3_leave_94 : decode cX3_leave 94 = .ok (.dup, 1) := by decide +kernel
theorem dX3_leave_95 : decode cX3_leave 95 = .ok (.getfield 35, 3) := by decide +kernel
theorem dX3_leave_98 : decode cX3_leave 98 = .ok (.iconst 1, 1) := by decide +kernel
theorem dX3_leave_99 : decode cX3_leave 99 = .ok (.iload_n 1, 1) := by decide +kernel
theorem dX3_leave_100 : decode cX3_leave 100 = .ok (.ishl, 1) := by decide +kernel
theorem dX3_leave_101 : decode cX3_leave 101 = .ok (.iconst (-1), 1) := by decide +kernel
theorem dX3_leave_102 : decode cX3_leave 102 = .ok (.ixor, 1) := by decide +kernel
theorem dX3_leave_103 : decode cX3_leave 103 = .ok (.iand, 1) := by decide +kernel
theorem dX3_leave_104 : decode cX3_leave 104 = .ok (.putfield 35, 3) := by decide +kernel
theorem dX3_leave_107 : decode cX3_leave 107 = .ok (.return_, 1) := by decide +kernel
theorem dX3_empty_0 : decode cX3_empty 0 = .ok (.aload_n 0, 1) := by decide +kernel
theorem dX3_empty_1 : decode cX3_empty 1 = .ok (.iconst 0, 1) := by decide +kernel
theorem dX3_empty_2 : decode cX3_empty 2 = .ok (.putfield 35, 3) := by decide +kernel
theorem dX3_empty_5 : decode cX3_empty 5 = .ok (.aload_n 0, 1) := by decide +kernel
theorem dX3_empty_6 : decode cX3_empty 6 = .ok (.getfield 11, 3) := by decide +kernel
theorem dX3_empty_9 : decode cX3_empty 9 = .ok (.iconst 0, 1) := by decide +kernel
theorem dX3_empty_10 : decode cX3_empty 10 = .ok (.aaload, 1) := by decide +kernel
theorem dX3_empty_11 : decode cX3_empty 11 = .ok (.lconst 0, 1) := by decide +kernel
theorem dX3_empty_12 : decode cX3_empty 12 = .ok (.putfield 98, 3) := by decide +kernel
theorem dX3_empty_15 : decode cX3_empty 15 = .ok (.return_, 1) := by decide +kernel
theorem dX4_init_0 : decode cX4_init 0 = .ok (.aload_n 0, 1) := by decide +kernel
theorem dX4_init_1 : decode cX4_init 1 = .ok (.invokespecial 3, 3) := by decide +kernel
theorem dX4_init_4 : decode cX4_init 4 = .ok (.aload_n 0, 1) := by decide +kernel
theorem dX4_init_5 : decode cX4_init 5 = .ok (.bipush 120, 2) := by decide +kernel
theorem dX4_init_7 : decode cX4_init 7 = .ok (.newarray .int, 2) := by decide +kernel
theorem dX4_init_9 : decode cX4_init 9 = .ok (.putfield 9, 3) := by decide +kernel
theorem dX4_init_12 : decode cX4_init 12 = .ok (.return_, 1) := by decide +kernel
theorem dX4_write_0 : decode cX4_write 0 = .ok (.aload_n 0, 1) := by decide +kernel
theorem dX4_write_1 : decode cX4_write 1 = .ok (.iconst 0, 1) := by decide +kernel
theorem dX4_write_2 : decode cX4_write 2 = .ok (.putfield 15, 3) := by decide +kernel
theorem dX4_write_5 : decode cX4_write 5 = .ok (.aload_n 0, 1) := by decide +kernel
theorem dX4_write_6 : decode cX4_write 6 = .ok (.aload_n 1, 1) := by decide +kernel
theorem dX4_write_7 : decode cX4_write 7 = .ok (.iconst 0, 1) := by decide +kernel
theorem dX4_write_8 : decode cX4_write 8 = .ok (.iconst 0, 1) := by decide +kernel
theorem dX4_write_9 : decode cX4_write 9 = .ok (.invokevirtual 19, 3) := by decide +kernel
theorem dX4_write_12 : decode cX4_write 12 = .ok (.return_, 1) := by decide +kernel
theorem dX4_writeChildren_0 : decode cX4_writeChildren 0 = .ok (.iload_n 3, 1) := by decide +kernel
theorem dX4_writeChildren_1 : decode cX4_writeChildren 1 = .ok (.bipush 12, 2) := by decide +kernel
theorem dX4_writeChildren_3 : decode cX4_writeChildren 3 = .ok (.if_icmp .le 4, 3) := by decide +kernel
theorem dX4_writeChildren_6 : decode cX4_writeChildren 6 = .ok (.return_, 1) := by decide +kernel
theorem dX4_writeChildren_7 : decode cX4_writeChildren 7 = .ok (.iconst 1, 1) := by decide +kernel
theorem dX4_writeChildren_8 : decode cX4_writeChildren 8 = .ok (.istore 4, 2) := by decide +kernel
theorem dX4_writeChildren_10 : decode cX4_writeChildren 10 = .ok (.iconst 1, 1) := by decide +kernel
theorem dX4_writeChildren_11 : decode cX4_writeChildren 11 = .ok (.istore 5, 2) := by decide +kernel
theorem dX4_writeChildren_13 : decode cX4_writeChildren 13 = .ok (.iload 5, 2) := by decide +kernel
theorem dX4_writeChildren_15 : decode cX4_writeChildren 15 = .ok (.bipush 12, 2) := by decide +kernel
theorem dX4_writeChildren_17 : decode cX4_writeChildren 17 = .ok (.if_icmp .gt 90, 3) := by decide +kernel
theorem dX4_writeChildren_20 : decode cX4_writeChildren 20 = .ok (.aload_n 1, 1) := by decide +kernel
theorem dX4_writeChildren_21 : decode cX4_writeChildren 21 = .ok (.iload 5, 2) := by decide +kernel
theorem dX4_writeChildren_23 : decode cX4_writeChildren 23 = .ok (.iload_n 2, 1) := by decide +kernel
theorem dX4_writeChildren_24 : decode cX4_writeChildren 24 = .ok (.invokevirtual 23, 3) := by decide +kernel
theorem dX4_writeChildren_27 : decode cX4_writeChildren 27 = .ok (.ifCond .eq 74, 3) := by decide +kernel
theorem dX4_writeChildren_30 : decode cX4_writeChildren 30 = .ok (.iload 4, 2) := by decide +kernel
theorem dX4_writeChildren_32 : decode cX4_writeChildren 32 = .ok (.ifCond .ne 9, 3) := by decide +kernel
theorem dX4_writeChildren_35 : decode cX4_writeChildren 35 = .ok (.aload_n 0, 1) := by decide +kernel
theorem dX4_writeChildren_36 : decode cX4_writeChildren 36 = .ok (.bipush 32, 2) := by decide +kernel
theorem dX4_writeChildren_38 : decode cX4_writeChildren 38 = .ok (.invokevirtual 29, 3) := by decide +kernel
theorem dX4_writeChildren_41 : decode cX4_writeChildren 41 = .ok (.iconst 0, 1) := by decide +kernel
theorem dX4_writeChildren_42 : decode cX4_writeChildren 42 = .ok (.istore 4, 2) := by decide +kernel
theorem dX4_writeChildren_44 : decode cX4_writeChildren 44 = .ok (.aload_n 0, 1) := by decide +kernel
theorem dX4_writeChildren_45 : decode cX4_writeChildren 45 = .ok (.iload 5, 2) := by decide +kernel
theorem dX4_writeChildren_47 : decode cX4_writeChildren 47 = .ok (.invokevirtual 33, 3) := by decide +kernel
theorem dX4_writeChildren_50 : decode cX4_writeChildren 50 = .ok (.aload_n 0, 1) := by decide +kernel
theorem dX4_writeChildren_51 : decode cX4_writeChildren 51 = .ok (.bipush 58, 2) := by decide +kernel
theorem dX4_writeChildren_53 : decode cX4_writeChildren 53 = .ok (.invokevirtual 29, 3) := by decide +kernel
theorem dX4_writeChildren_56 : decode cX4_writeChildren 56 = .ok (.aload_n 0, 1) := by decide +kernel
theorem dX4_writeChildren_57 : decode cX4_writeChildren 57 = .ok (.aload_n 1, 1) := by decide +kernel
theorem dX4_writeChildren_58 : decode cX4_writeChildren 58 = .ok (.getfield 36, 3) := by decide +kernel
theorem dX4_writeChildren_61 : decode cX4_writeChildren 61 = .ok (.iload 5, 2) := by decide +kernel
theorem dX4_writeChildren_63 : decode cX4_writeChildren 63 = .ok (.aaload, 1) := by decide +kernel
theorem dX4_writeChildren_64 : decode cX4_writeChildren 64 = .ok (.getfield 40, 3) := by decide +kernel
theorem dX4_writeChildren_67 : decode cX4_writeChildren 67 = .ok (.invokevirtual 33, 3) := by decide +kernel
theorem dX4_writeChildren_70 : decode cX4_writeChildren 70 = .ok (.aload_n 1, 1) := by decide +kernel
theorem dX4_writeChildren_71 : decode cX4_writeChildren 71 = .ok (.iload 5, 2) := by decide +kernel
theorem dX4_writeChildren_73 : decode cX4_writeChildren 73 = .ok (.invokevirtual 45, 3) := by decide +kernel
theorem dX4_writeChildren_76 : decode cX4_writeChildren 76 = .ok (.ifCond .le 25, 3) := by decide +kernel
theorem dX4_writeChildren_79 : decode cX4_writeChildren 79 = .ok (.aload_n 0, 1) := by decide +kernel
theorem dX4_writeChildren_80 : decode cX4_writeChildren 80 = .ok (.bipush 40, 2) := by decide +kernel
theorem dX4_writeChildren_82 : decode cX4_writeChildren 82 = .ok (.invokevirtual 29, 3) := by decide +kernel
theorem dX4_writeChildren_85 : decode cX4_writeChildren 85 = .ok (.aload_n 0, 1) := by decide +kernel
theorem dX4_writeChildren_86 : decode cX4_writeChildren 86 = .ok (.aload_n 1, 1) := by decide +kernel
theorem dX4_writeChildren_87 : decode cX4_writeChildren 87 = .ok (.iload 5, 2) := by decide +kernel
theorem dX4_writeChildren_89 : decode cX4_writeChildren 89 = .ok (.iload_n 3, 1) := by decide +kernel
theorem dX4_writeChildren_90 : decode cX4_writeChildren 90 = .ok (.iconst 1, 1) := by decide +kernel
theorem dX4_writeChildren_91 : decode cX4_writeChildren 91 = .ok (.iadd, 1) := by decide +kernel
theorem dX4_writeChildren_92 : decode cX4_writeChildren 92 = .ok (.invokevirtual 19, 3) := by decide +kernel
theorem dX4_writeChildren_95 : decode cX4_writeChildren 95 = .ok (.aload_n 0, 1) := by decide +kernel
theorem dX4_writeChildren_96 : decode cX4_writeChildren 96 = .ok (.bipush 41, 2) := by decide +kernel
theorem dX4_writeChildren_98 : decode cX4_writeChildren 98 = .ok (.invokevirtual 29, 3) := by decide +kernel
theorem dX4_writeChildren_101 : decode cX4_writeChildren 101 = .ok (.iinc 5 1, 3) := by decide +kernel
theorem dX4_writeChildren_104 : decode cX4_writeChildren 104 = .ok (.goto (-91), 3) := by decide +kernel
theorem dX4_writeChildren_107 : decode cX4_writeChildren 107 = .ok (.return_, 1) := by decide +kernel
theorem dX4_putNumber_0 : decode cX4_putNumber 0 = .ok (.iload_n 1, 1) := by decide +kernel
theorem dX4_putNumber_1 : decode cX4_putNumber 1 = .ok (.bipush 10, 2) := by decide +kernel
theorem dX4_putNumber_3 : decode cX4_putNumber 3 = .ok (.if_icmp .lt 14, 3) := by decide +kernel
theorem dX4_putNumber_6 : decode cX4_putNumber 6 = .ok (.aload_n 0, 1) := by decide +kernel
theorem dX4_putNumber_7 : decode cX4_putNumber 7 = .ok (.bipush 48, 2) := by decide +kernel
theorem dX4_putNumber_9 : decode cX4_putNumber 9 = .ok (.iload_n 1, 1) := by decide +kernel
theorem dX4_putNumber_10 : decode cX4_putNumber 10 = .ok (.bipush 10, 2) := by decide +kernel
theorem dX4_putNumber_12 : decode cX4_putNumber 12 = .ok (.idiv, 1) := by decide +kernel
theorem dX4_putNumber_13 : decode cX4_putNumber 13 = .ok (.iadd, 1) := by decide +kernel
theorem dX4_putNumber_14 : decode cX4_putNumber 14 = .ok (.invokevirtual 29, 3) := by decide +kernel
theorem dX4_putNumber_17 : decode cX4_putNumber 17 = .ok (.aload_n 0, 1) := by decide +kernel
theorem dX4_putNumber_18 : decode cX4_putNumber 18 = .ok (.bipush 48, 2) := by decide +kernel
theorem dX4_putNumber_20 : decode cX4_putNumber 20 = .ok (.iload_n 1, 1) := by decide +kernel
theorem dX4_putNumber_21 : decode cX4_putNumber 21 = .ok (.bipush 10, 2) := by decide +kernel
theorem dX4_putNumber_23 : decode cX4_putNumber 23 = .ok (.irem, 1) := by decide +kernel
theorem dX4_putNumber_24 : decode cX4_putNumber 24 = .ok (.iadd, 1) := by decide +kernel
theorem dX4_putNumber_25 : decode cX4_putNumber 25 = .ok (.invokevirtual 29, 3) := by decide +kernel
theorem dX4_putNumber_28 : decode cX4_putNumber 28 = .ok (.return_, 1) := by decide +kernel
theorem dX4_put_0 : decode cX4_put 0 = .ok (.aload_n 0, 1) := by decide +kernel
theorem dX4_put_1 : decode cX4_put 1 = .ok (.getfield 15, 3) := by decide +kernel
theorem dX4_put_4 : decode cX4_put 4 = .ok (.aload_n 0, 1) := by decide +kernel
theorem dX4_put_5 : decode cX4_put 5 = .ok (.getfield 9, 3) := by decide +kernel
theorem dX4_put_8 : decode cX4_put 8 = .ok (.arraylength, 1) := by decide +kernel
theorem dX4_put_9 : decode cX4_put 9 = .ok (.if_icmp .ge 23, 3) := by decide +kernel
theorem dX4_put_12 : decode cX4_put 12 = .ok (.aload_n 0, 1) := by decide +kernel
theorem dX4_put_13 : decode cX4_put 13 = .ok (.getfield 9, 3) := by decide +kernel
theorem dX4_put_16 : decode cX4_put 16 = .ok (.aload_n 0, 1) := by decide +kernel
theorem dX4_put_17 : decode cX4_put 17 = .ok (.getfield 15, 3) := by decide +kernel
theorem dX4_put_20 : decode cX4_put 20 = .ok (.iload_n 1, 1) := by decide +kernel
theorem dX4_put_21 : decode cX4_put 21 = .ok (.iastore, 1) := by decide +kernel
theorem dX4_put_22 : decode cX4_put 22 = .ok (.aload_n 0, 1) := by decide +kernel
theorem dX4_put_23 : decode cX4_put 23 = .ok (.dup, 1) := by decide +kernel
theorem dX4_put_24 : decode cX4_put 24 = .ok (.getfield 15, 3) := by decide +kernel
theorem dX4_put_27 : decode cX4_put 27 = .ok (.iconst 1, 1) := by decide +kernel
theorem dX4_put_28 : decode cX4_put 28 = .ok (.iadd, 1) := by decide +kernel
theorem dX4_put_29 : decode cX4_put 29 = .ok (.putfield 15, 3) := by decide +kernel
theorem dX4_put_32 : decode cX4_put 32 = .ok (.return_, 1) := by decide +kernel
theorem dX5_init_0 : decode cX5_init 0 = .ok (.aload_n 0, 1) := by decide +kernel
theorem dX5_init_1 : decode cX5_init 1 = .ok (.invokespecial 3, 3) := by decide +kernel
theorem dX5_init_4 : decode cX5_init 4 = .ok (.aload_n 0, 1) := by decide +kernel
theorem dX5_init_5 : decode cX5_init 5 = .ok (.bipush 120, 2) := by decide +kernel
theorem dX5_init_7 : decode cX5_init 7 = .ok (.newarray .int, 2) := by decide +kernel
theorem dX5_init_9 : decode cX5_init 9 = .ok (.putfield 9, 3) := by decide +kernel
theorem dX5_init_12 : decode cX5_init 12 = .ok (.aload_n 0, 1) := by decide +kernel
theorem dX5_init_13 : decode cX5_init 13 = .ok (.bipush 12, 2) := by decide +kernel
theorem dX5_init_15 : decode cX5_init 15 = .ok (.newarray .int, 2) := by decide +kernel
theorem dX5_init_17 : decode cX5_init 17 = .ok (.putfield 15, 3) := by decide +kernel
theorem dX5_init_20 : decode cX5_init 20 = .ok (.aload_n 0, 1) := by decide +kernel
theorem dX5_init_21 : decode cX5_init 21 = .ok (.bipush 12, 2) := by decide +kernel
theorem dX5_init_23 : decode cX5_init 23 = .ok (.newarray .int, 2) := by decide +kernel
theorem dX5_init_25 : decode cX5_init 25 = .ok (.putfield 18, 3) := by decide +kernel
theorem dX5_init_28 : decode cX5_init 28 = .ok (.aload_n 0, 1) := by decide +kernel
theorem dX5_init_29 : decode cX5_init 29 = .ok (.bipush 12, 2) := by decide +kernel
theorem dX5_init_31 : decode cX5_init 31 = .ok (.newarray .int, 2) := by decide +kernel
theorem dX5_init_33 : decode cX5_init 33 = .ok (.putfield 21, 3) := by decide +kernel
theorem dX5_init_36 : decode cX5_init 36 = .ok (.aload_n 0, 1) := by decide +kernel
theorem dX5_init_37 : decode cX5_init 37 = .ok (.bipush 13, 2) := by decide +kernel
theorem dX5_init_39 : decode cX5_init 39 = .ok (.newarray .int, 2) := by decide +kernel
theorem dX5_init_41 : decode cX5_init 41 = .ok (.putfield 24, 3) := by decide +kernel
theorem dX5_init_44 : decode cX5_init 44 = .ok (.return_, 1) := by decide +kernel
theorem dX5_append_0 : decode cX5_append 0 = .ok (.aload_n 0, 1) := by decide +kernel
theorem dX5_append_1 : decode cX5_append 1 = .ok (.getfield 27, 3) := by decide +kernel
theorem dX5_append_4 : decode cX5_append 4 = .ok (.bipush 120, 2) := by decide +kernel
theorem dX5_append_6 : decode cX5_append 6 = .ok (.if_icmp .ge 23, 3) := by decide +kernel
theorem dX5_append_9 : decode cX5_append 9 = .ok (.aload_n 0, 1) := by decide +kernel
theorem dX5_append_10 : decode cX5_append 10 = .ok (.getfield 9, 3) := by decide +kernel
theorem dX5_append_13 : decode cX5_append 13 = .ok (.aload_n 0, 1) := by decide +kernel
theorem dX5_append_14 : decode cX5_append 14 = .ok (.getfield 27, 3) := by decide +kernel
theorem dX5_append_17 : decode cX5_append 17 = .ok (.iload_n 1, 1) := by decide +kernel
theorem dX5_append_18 : decode cX5_append 18 = .ok (.iastore, 1) := by decide +kernel
theorem dX5_append_19 : decode cX5_append 19 = .ok (.aload_n 0, 1) := by decide +kernel
theorem dX5_append_20 : decode cX5_append 20 = .ok (.dup, 1) := by decide +kernel
theorem dX5_append_21 : decode cX5_append 21 = .ok (.getfield 27, 3) := by decide +kernel
theorem dX5_append_24 : decode cX5_append 24 = .ok (.iconst 1, 1) := by decide +kernel
theorem dX5_append_25 : decode cX5_append 25 = .ok (.iadd, 1) := by decide +kernel
theorem dX5_append_26 : decode cX5_append 26 = .ok (.putfield 27, 3) := by decide +kernel
theorem dX5_append_29 : decode cX5_append 29 = .ok (.return_, 1) := by decide +kernel
theorem dX5_read_0 : decode cX5_read 0 = .ok (.aload_n 0, 1) := by decide +kernel
theorem dX5_read_1 : decode cX5_read 1 = .ok (.iconst 0, 1) := by decide +kernel
theorem dX5_read_2 : decode cX5_read 2 = .ok (.putfield 31, 3) := by decide +kernel
theorem dX5_read_5 : decode cX5_read 5 = .ok (.aload_n 0, 1) := by decide +kernel
theorem dX5_read_6 : decode cX5_read 6 = .ok (.iconst 0, 1) := by decide +kernel
theorem dX5_read_7 : decode cX5_read 7 = .ok (.putfield 34, 3) := by decide +kernel
theorem dX5_read_10 : decode cX5_read 10 = .ok (.aload_n 0, 1) := by decide +kernel
theorem dX5_read_11 : decode cX5_read 11 = .ok (.iconst 0, 1) := by decide +kernel
theorem dX5_read_12 : decode cX5_read 12 = .ok (.putfield 37, 3) := by decide +kernel
theorem dX5_read_15 : decode cX5_read 15 = .ok (.aload_n 0, 1) := by decide +kernel
theorem dX5_read_16 : decode cX5_read 16 = .ok (.iconst (-1), 1) := by decide +kernel
theorem dX5_read_17 : decode cX5_read 17 = .ok (.putfield 40, 3) := by decide +kernel
theorem dX5_read_20 : decode cX5_read 20 = .ok (.iconst 0, 1) := by decide +kernel
theorem dX5_read_21 : decode cX5_read 21 = .ok (.istore_n 1, 1) := by decide +kernel
theorem dX5_read_22 : decode cX5_read 22 = .ok (.iconst 0, 1) := by decide +kernel
theorem dX5_read_23 : decode cX5_read 23 = .ok (.istore_n 2, 1) := by decide +kernel
theorem dX5_read_24 : decode cX5_read 24 = .ok (.iconst 0, 1) := by decide +kernel
theorem dX5_read_25 : decode cX5_read 25 = .ok (.istore_n 3, 1) := by decide +kernel
theorem dX5_read_26 : decode cX5_read 26 = .ok (.iconst 0, 1) := by decide +kernel
theorem dX5_read_27 : decode cX5_read 27 = .ok (.istore 4, 2) := by decide +kernel
theorem dX5_read_29 : decode cX5_read 29 = .ok (.iconst 0, 1) := by decide +kernel
theorem dX5_read_30 : decode cX5_read 30 = .ok (.istore 5, 2) := by decide +kernel
theorem dX5_read_32 : decode cX5_read 32 = .ok (.iload 5, 2) := by decide +kernel
theorem dX5_read_34 : decode cX5_read 34 = .ok (.bipush 120, 2) := by decide +kernel
theorem dX5_read_36 : decode cX5_read 36 = .ok (.if_icmp .ge 148, 3) := by decide +kernel
theorem dX5_read_39 : decode cX5_read 39 = .ok (.aload_n 0, 1) := by decide +kernel
theorem dX5_read_40 : decode cX5_read 40 = .ok (.invokevirtual 43, 3) := by decide +kernel
theorem dX5_read_43 : decode cX5_read 43 = .ok (.istore 6, 2) := by decide +kernel
theorem dX5_read_45 : decode cX5_read 45 = .ok (.iload 6, 2) := by decide +kernel
theorem dX5_read_47 : decode cX5_read 47 = .ok (.iconst (-1), 1) := by decide +kernel
theorem dX5_read_48 : decode cX5_read 48 = .ok (.if_icmp .ne 6, 3) := by decide +kernel
theorem dX5_read_51 : decode cX5_read 51 = .ok (.goto 133, 3) := by decide +kernel
theorem dX5_read_54 : decode cX5_read 54 = .ok (.iload 6, 2) := by decide +kernel
theorem dX5_read_56 : decode cX5_read 56 = .ok (.invokestatic 47, 3) := by decide +kernel
theorem dX5_read_59 : decode cX5_read 59 = .ok (.ifCond .eq 38, 3) := by decide +kernel
theorem dX5_read_62 : decode cX5_read 62 = .ok (.aload_n 0, 1) := by decide +kernel
theorem dX5_read_63 : decode cX5_read 63 = .ok (.iload_n 1, 1) := by decide +kernel
theorem dX5_read_64 : decode cX5_read 64 = .ok (.invokevirtual 51, 3) := by decide +kernel
theorem dX5_read_67 : decode cX5_read 67 = .ok (.istore_n 2, 1) := by decide +kernel
theorem dX5_read_68 : decode cX5_read 68 = .ok (.aload_n 0, 1) := by decide +kernel
theorem dX5_read_69 : decode cX5_read 69 = .ok (.getfield 40, 3) := by decide +kernel
theorem dX5_read_72 : decode cX5_read 72 = .ok (.iconst (-1), 1) := by decide +kernel
theorem dX5_read_73 : decode cX5_read 73 = .ok (.if_icmp .eq 8, 3) := by decide +kernel
theorem dX5_read_76 : decode cX5_read 76 = .ok (.aload_n 0, 1) := by decide +kernel
theorem dX5_read_77 : decode cX5_read 77 = .ok (.getfield 40, 3) := by decide +kernel
theorem dX5_read_80 : decode cX5_read 80 = .ok (.ireturn, 1) := by decide +kernel
theorem dX5_read_81 : decode cX5_read 81 = .ok (.iconst 1, 1) := by decide +kernel
theorem dX5_read_82 : decode cX5_read 82 = .ok (.istore_n 3, 1) := by decide +kernel
theorem dX5_read_83 : decode cX5_read 83 = .ok (.iload_n 1, 1) := by decide +kernel
theorem dX5_read_84 : decode cX5_read 84 = .ok (.ifCond .eq 7, 3) := by decide +kernel
theorem dX5_read_87 : decode cX5_read 87 = .ok (.iconst 1, 1) := by decide +kernel
theorem dX5_read_88 : decode cX5_read 88 = .ok (.goto 4, 3) := by decide +kernel
theorem dX5_read_91 : decode cX5_read 91 = .ok (.iconst 0, 1) := by decide +kernel
theorem dX5_read_92 : decode cX5_read 92 = .ok (.istore 4, 2) := by decide +kernel
theorem dX5_read_94 : decode cX5_read 94 = .ok (.goto 84, 3) := by decide +kernel
theorem dX5_read_97 : decode cX5_read 97 = .ok (.iload 6, 2) := by decide +kernel
theorem dX5_read_99 : decode cX5_read 99 = .ok (.bipush 40, 2) := by decide +kernel
theorem dX5_read_101 : decode cX5_read 101 = .ok (.if_icmp .ne 27, 3) := by decide +kernel
end
section
theorem dX5_read_104 : decode cX5_read 104 = .ok (.iload_n 3, 1) := by decide +kernel
theorem dX5_read_105 : decode cX5_read 105 = .ok (.ifCond .eq 23, 3) := by decide +kernel
theorem dX5_read_108 : decode cX5_read 108 = .ok (.aload_n 0, 1) := by decide +kernel
theorem dX5_read_109 : decode cX5_read 109 = .ok (.dup, 1) := by decide +kernel
theorem dX5_read_110 : decode cX5_read 110 = .ok (.getfield 37, 3) := by decide +kernel
theorem dX5_read_113 : decode cX5_read 113 = .ok (.iconst 1, 1) := by decide +kernel
theorem dX5_read_114 : decode cX5_read 114 = .ok (.iadd, 1) := by decide +kernel
theorem dX5_read_115 : decode cX5_read 115 = .ok (.putfield 37, 3) := by decide +kernel
theorem dX5_read_118 : decode cX5_read 118 = .ok (.iload_n 2, 1) := by decide +kernel
theorem dX5_read_119 : decode cX5_read 119 = .ok (.istore_n 1, 1) := by decide +kernel
theorem dX5_read_120 : decode cX5_read 120 = .ok (.iconst 0, 1) := by decide +kernel
theorem dX5_read_121 : decode cX5_read 121 = .ok (.istore_n 3, 1) := by decide +kernel
theorem dX5_read_122 : decode cX5_read 122 = .ok (.iconst 0, 1) := by decide +kernel
theorem dX5_read_123 : decode cX5_read 123 = .ok (.istore 4, 2) := by decide +kernel
theorem dX5_read_125 : decode cX5_read 125 = .ok (.goto 53, 3) := by decide +kernel
theorem dX5_read_128 : decode cX5_read 128 = .ok (.iload 6, 2) := by decide +kernel
theorem dX5_read_130 : decode cX5_read 130 = .ok (.bipush 41, 2) := by decide +kernel
theorem dX5_read_132 : decode cX5_read 132 = .ok (.if_icmp .ne 41, 3) := by decide +kernel
theorem dX5_read_135 : decode cX5_read 135 = .ok (.iload 4, 2) := by decide +kernel
theorem dX5_read_137 : decode cX5_read 137 = .ok (.ifCond .eq 36, 3) := by decide +kernel
theorem dX5_read_140 : decode cX5_read 140 = .ok (.aload_n 0, 1) := by decide +kernel
theorem dX5_read_141 : decode cX5_read 141 = .ok (.dup, 1) := by decide +kernel
theorem dX5_read_142 : decode cX5_read 142 = .ok (.getfield 37, 3) := by decide +kernel
theorem dX5_read_145 : decode cX5_read 145 = .ok (.iconst 1, 1) := by decide +kernel
theorem dX5_read_146 : decode cX5_read 146 = .ok (.iadd, 1) := by decide +kernel
theorem dX5_read_147 : decode cX5_read 147 = .ok (.putfield 37, 3) := by decide +kernel
theorem dX5_read_150 : decode cX5_read 150 = .ok (.aload_n 0, 1) := by decide +kernel
theorem dX5_read_151 : decode cX5_read 151 = .ok (.getfield 24, 3) := by decide +kernel
theorem dX5_read_154 : decode cX5_read 154 = .ok (.iload_n 1, 1) := by decide +kernel
theorem dX5_read_155 : decode cX5_read 155 = .ok (.iaload, 1) := by decide +kernel
theorem dX5_read_156 : decode cX5_read 156 = .ok (.istore_n 1, 1) := by decide +kernel
theorem dX5_read_157 : decode cX5_read 157 = .ok (.iconst 0, 1) := by decide +kernel
theorem dX5_read_158 : decode cX5_read 158 = .ok (.istore_n 3, 1) := by decide +kernel
theorem dX5_read_159 : decode cX5_read 159 = .ok (.iload_n 1, 1) := by decide +kernel
theorem dX5_read_160 : decode cX5_read 160 = .ok (.ifCond .eq 7, 3) := by decide +kernel
theorem dX5_read_163 : decode cX5_read 163 = .ok (.iconst 1, 1) := by decide +kernel
theorem dX5_read_164 : decode cX5_read 164 = .ok (.goto 4, 3) := by decide +kernel
theorem dX5_read_167 : decode cX5_read 167 = .ok (.iconst 0, 1) := by decide +kernel
theorem dX5_read_168 : decode cX5_read 168 = .ok (.istore 4, 2) := by decide +kernel
theorem dX5_read_170 : decode cX5_read 170 = .ok (.goto 8, 3) := by decide +kernel
theorem dX5_read_173 : decode cX5_read 173 = .ok (.aload_n 0, 1) := by decide +kernel
theorem dX5_read_174 : decode cX5_read 174 = .ok (.getfield 37, 3) := by decide +kernel
theorem dX5_read_177 : decode cX5_read 177 = .ok (.ireturn, 1) := by decide +kernel
theorem dX5_read_178 : decode cX5_read 178 = .ok (.iinc 5 1, 3) := by decide +kernel
theorem dX5_read_181 : decode cX5_read 181 = .ok (.goto (-149), 3) := by decide +kernel
theorem dX5_read_184 : decode cX5_read 184 = .ok (.iload_n 1, 1) := by decide +kernel
theorem dX5_read_185 : decode cX5_read 185 = .ok (.ifCond .ne 7, 3) := by decide +kernel
theorem dX5_read_188 : decode cX5_read 188 = .ok (.iconst (-1), 1) := by decide +kernel
theorem dX5_read_189 : decode cX5_read 189 = .ok (.goto 7, 3) := by decide +kernel
theorem dX5_read_192 : decode cX5_read 192 = .ok (.aload_n 0, 1) := by decide +kernel
theorem dX5_read_193 : decode cX5_read 193 = .ok (.getfield 27, 3) := by decide +kernel
theorem dX5_read_196 : decode cX5_read 196 = .ok (.ireturn, 1) := by decide +kernel
theorem dX5_readStream_0 : decode cX5_readStream 0 = .ok (.aload_n 0, 1) := by decide +kernel
theorem dX5_readStream_1 : decode cX5_readStream 1 = .ok (.getfield 37, 3) := by decide +kernel
theorem dX5_readStream_4 : decode cX5_readStream 4 = .ok (.istore_n 2, 1) := by decide +kernel
theorem dX5_readStream_5 : decode cX5_readStream 5 = .ok (.aload_n 0, 1) := by decide +kernel
theorem dX5_readStream_6 : decode cX5_readStream 6 = .ok (.bipush 12, 2) := by decide +kernel
theorem dX5_readStream_8 : decode cX5_readStream 8 = .ok (.invokevirtual 55, 3) := by decide +kernel
theorem dX5_readStream_11 : decode cX5_readStream 11 = .ok (.istore_n 3, 1) := by decide +kernel
theorem dX5_readStream_12 : decode cX5_readStream 12 = .ok (.aload_n 0, 1) := by decide +kernel
theorem dX5_readStream_13 : decode cX5_readStream 13 = .ok (.getfield 40, 3) := by decide +kernel
theorem dX5_readStream_16 : decode cX5_readStream 16 = .ok (.iconst (-1), 1) := by decide +kernel
theorem dX5_readStream_17 : decode cX5_readStream 17 = .ok (.if_icmp .ne 19, 3) := by decide +kernel
theorem dX5_readStream_20 : decode cX5_readStream 20 = .ok (.aload_n 0, 1) := by decide +kernel
theorem dX5_readStream_21 : decode cX5_readStream 21 = .ok (.getfield 34, 3) := by decide +kernel
theorem dX5_readStream_24 : decode cX5_readStream 24 = .ok (.iload_n 3, 1) := by decide +kernel
theorem dX5_readStream_25 : decode cX5_readStream 25 = .ok (.invokestatic 58, 3) := by decide +kernel
theorem dX5_readStream_28 : decode cX5_readStream 28 = .ok (.ifCond .eq 8, 3) := by decide +kernel
theorem dX5_readStream_31 : decode cX5_readStream 31 = .ok (.aload_n 0, 1) := by decide +kernel
theorem dX5_readStream_32 : decode cX5_readStream 32 = .ok (.iload_n 2, 1) := by decide +kernel
theorem dX5_readStream_33 : decode cX5_readStream 33 = .ok (.putfield 40, 3) := by decide +kernel
theorem dX5_readStream_36 : decode cX5_readStream 36 = .ok (.aload_n 0, 1) := by decide +kernel
theorem dX5_readStream_37 : decode cX5_readStream 37 = .ok (.getfield 40, 3) := by decide +kernel
theorem dX5_readStream_40 : decode cX5_readStream 40 = .ok (.iconst (-1), 1) := by decide +kernel
theorem dX5_readStream_41 : decode cX5_readStream 41 = .ok (.if_icmp .ne 20, 3) := by decide +kernel
theorem dX5_readStream_44 : decode cX5_readStream 44 = .ok (.aload_n 0, 1) := by decide +kernel
theorem dX5_readStream_45 : decode cX5_readStream 45 = .ok (.invokevirtual 43, 3) := by decide +kernel
theorem dX5_readStream_48 : decode cX5_readStream 48 = .ok (.bipush 58, 2) := by decide +kernel
theorem dX5_readStream_50 : decode cX5_readStream 50 = .ok (.if_icmp .eq 11, 3) := by decide +kernel
theorem dX5_readStream_53 : decode cX5_readStream 53 = .ok (.aload_n 0, 1) := by decide +kernel
theorem dX5_readStream_54 : decode cX5_readStream 54 = .ok (.aload_n 0, 1) := by decide +kernel
theorem dX5_readStream_55 : decode cX5_readStream 55 = .ok (.getfield 37, 3) := by decide +kernel
theorem dX5_readStream_58 : decode cX5_readStream 58 = .ok (.putfield 40, 3) := by decide +kernel
theorem dX5_readStream_61 : decode cX5_readStream 61 = .ok (.aload_n 0, 1) := by decide +kernel
theorem dX5_readStream_62 : decode cX5_readStream 62 = .ok (.getfield 40, 3) := by decide +kernel
theorem dX5_readStream_65 : decode cX5_readStream 65 = .ok (.iconst (-1), 1) := by decide +kernel
theorem dX5_readStream_66 : decode cX5_readStream 66 = .ok (.if_icmp .eq 5, 3) := by decide +kernel
theorem dX5_readStream_69 : decode cX5_readStream 69 = .ok (.iconst (-1), 1) := by decide +kernel
theorem dX5_readStream_70 : decode cX5_readStream 70 = .ok (.ireturn, 1) := by decide +kernel
theorem dX5_readStream_71 : decode cX5_readStream 71 = .ok (.aload_n 0, 1) := by decide +kernel
theorem dX5_readStream_72 : decode cX5_readStream 72 = .ok (.dup, 1) := by decide +kernel
theorem dX5_readStream_73 : decode cX5_readStream 73 = .ok (.getfield 37, 3) := by decide +kernel
theorem dX5_readStream_76 : decode cX5_readStream 76 = .ok (.iconst 1, 1) := by decide +kernel
theorem dX5_readStream_77 : decode cX5_readStream 77 = .ok (.iadd, 1) := by decide +kernel
theorem dX5_readStream_78 : decode cX5_readStream 78 = .ok (.putfield 37, 3) := by decide +kernel
theorem dX5_readStream_81 : decode cX5_readStream 81 = .ok (.aload_n 0, 1) := by decide +kernel
theorem dX5_readStream_82 : decode cX5_readStream 82 = .ok (.invokevirtual 43, 3) := by decide +kernel
theorem dX5_readStream_85 : decode cX5_readStream 85 = .ok (.pop, 1) := by decide +kernel
theorem dX5_readStream_86 : decode cX5_readStream 86 = .ok (.aload_n 0, 1) := by decide +kernel
theorem dX5_readStream_87 : decode cX5_readStream 87 = .ok (.bipush 16, 2) := by decide +kernel
theorem dX5_readStream_89 : decode cX5_readStream 89 = .ok (.invokevirtual 55, 3) := by decide +kernel
theorem dX5_readStream_92 : decode cX5_readStream 92 = .ok (.istore 4, 2) := by decide +kernel
theorem dX5_readStream_94 : decode cX5_readStream 94 = .ok (.aload_n 0, 1) := by decide +kernel
theorem dX5_readStream_95 : decode cX5_readStream 95 = .ok (.getfield 40, 3) := by decide +kernel
theorem dX5_readStream_98 : decode cX5_readStream 98 = .ok (.iconst (-1), 1) := by decide +kernel
theorem dX5_readStream_99 : decode cX5_readStream 99 = .ok (.if_icmp .eq 5, 3) := by decide +kernel
theorem dX5_readStream_102 : decode cX5_readStream 102 = .ok (.iconst (-1), 1) := by decide +kernel
theorem dX5_readStream_103 : decode cX5_readStream 103 = .ok (.ireturn, 1) := by decide +kernel
theorem dX5_readStream_104 : decode cX5_readStream 104 = .ok (.aload_n 0, 1) := by decide +kernel
theorem dX5_readStream_105 : decode cX5_readStream 105 = .ok (.iload_n 3, 1) := by decide +kernel
theorem dX5_readStream_106 : decode cX5_readStream 106 = .ok (.iload 4, 2) := by decide +kernel
theorem dX5_readStream_108 : decode cX5_readStream 108 = .ok (.iload_n 1, 1) := by decide +kernel
theorem dX5_readStream_109 : decode cX5_readStream 109 = .ok (.invokevirtual 62, 3) := by decide +kernel
theorem dX5_readStream_112 : decode cX5_readStream 112 = .ok (.iload_n 3, 1) := by decide +kernel
theorem dX5_readStream_113 : decode cX5_readStream 113 = .ok (.ireturn, 1) := by decide +kernel
theorem dX5_keepStream_0 : decode cX5_keepStream 0 = .ok (.aload_n 0, 1) := by decide +kernel
theorem dX5_keepStream_1 : decode cX5_keepStream 1 = .ok (.getfield 31, 3) := by decide +kernel
theorem dX5_keepStream_4 : decode cX5_keepStream 4 = .ok (.bipush 12, 2) := by decide +kernel
theorem dX5_keepStream_6 : decode cX5_keepStream 6 = .ok (.if_icmp .ge 43, 3) := by decide +kernel
theorem dX5_keepStream_9 : decode cX5_keepStream 9 = .ok (.aload_n 0, 1) := by decide +kernel
theorem dX5_keepStream_10 : decode cX5_keepStream 10 = .ok (.getfield 15, 3) := by decide +kernel
theorem dX5_keepStream_13 : decode cX5_keepStream 13 = .ok (.aload_n 0, 1) := by decide +kernel
theorem dX5_keepStream_14 : decode cX5_keepStream 14 = .ok (.getfield 31, 3) := by decide +kernel
theorem dX5_keepStream_17 : decode cX5_keepStream 17 = .ok (.iload_n 1, 1) := by decide +kernel
theorem dX5_keepStream_18 : decode cX5_keepStream 18 = .ok (.iastore, 1) := by decide +kernel
theorem dX5_keepStream_19 : decode cX5_keepStream 19 = .ok (.aload_n 0, 1) := by decide +kernel
theorem dX5_keepStream_20 : decode cX5_keepStream 20 = .ok (.getfield 18, 3) := by decide +kernel
theorem dX5_keepStream_23 : decode cX5_keepStream 23 = .ok (.aload_n 0, 1) := by decide +kernel
theorem dX5_keepStream_24 : decode cX5_keepStream 24 = .ok (.getfield 31, 3) := by decide +kernel
theorem dX5_keepStream_27 : decode cX5_keepStream 27 = .ok (.iload_n 2, 1) := by decide +kernel
theorem dX5_keepStream_28 : decode cX5_keepStream 28 = .ok (.iastore, 1) := by decide +kernel
theorem dX5_keepStream_29 : decode cX5_keepStream 29 = .ok (.aload_n 0, 1) := by decide +kernel
theorem dX5_keepStream_30 : decode cX5_keepStream 30 = .ok (.getfield 21, 3) := by decide +kernel
theorem dX5_keepStream_33 : decode cX5_keepStream 33 = .ok (.aload_n 0, 1) := by decide +kernel
theorem dX5_keepStream_34 : decode cX5_keepStream 34 = .ok (.getfield 31, 3) := by decide +kernel
theorem dX5_keepStream_37 : decode cX5_keepStream 37 = .ok (.iload_n 3, 1) := by decide +kernel
theorem dX5_keepStream_38 : decode cX5_keepStream 38 = .ok (.iastore, 1) := by decide +kernel
theorem dX5_keepStream_39 : decode cX5_keepStream 39 = .ok (.aload_n 0, 1) := by decide +kernel
theorem dX5_keepStream_40 : decode cX5_keepStream 40 = .ok (.dup, 1) := by decide +kernel
theorem dX5_keepStream_41 : decode cX5_keepStream 41 = .ok (.getfield 31, 3) := by decide +kernel
theorem dX5_keepStream_44 : decode cX5_keepStream 44 = .ok (.iconst 1, 1) := by decide +kernel
theorem dX5_keepStream_45 : decode cX5_keepStream 45 = .ok (.iadd, 1) := by decide +kernel
theorem dX5_keepStream_46 : decode cX5_keepStream 46 = .ok (.putfield 31, 3) := by decide +kernel
theorem dX5_keepStream_49 : decode cX5_keepStream 49 = .ok (.aload_n 0, 1) := by decide +kernel
theorem dX5_keepStream_50 : decode cX5_keepStream 50 = .ok (.getfield 24, 3) := by decide +kernel
theorem dX5_keepStream_53 : decode cX5_keepStream 53 = .ok (.iload_n 1, 1) := by decide +kernel
theorem dX5_keepStream_54 : decode cX5_keepStream 54 = .ok (.iload_n 3, 1) := by decide +kernel
theorem dX5_keepStream_55 : decode cX5_keepStream 55 = .ok (.iastore, 1) := by decide +kernel
theorem dX5_keepStream_56 : decode cX5_keepStream 56 = .ok (.aload_n 0, 1) := by decide +kernel
theorem dX5_keepStream_57 : decode cX5_keepStream 57 = .ok (.dup, 1) := by decide +kernel
theorem dX5_keepStream_58 : decode cX5_keepStream 58 = .ok (.getfield 34, 3) := by decide +kernel
theorem dX5_keepStream_61 : decode cX5_keepStream 61 = .ok (.iconst 1, 1) := by decide +kernel
theorem dX5_keepStream_62 : decode cX5_keepStream 62 = .ok (.iload_n 1, 1) := by decide +kernel
theorem dX5_keepStream_63 : decode cX5_keepStream 63 = .ok (.ishl, 1) := by decide +kernel
theorem dX5_keepStream_64 : decode cX5_keepStream 64 = .ok (.ior, 1) := by decide +kernel
theorem dX5_keepStream_65 : decode cX5_keepStream 65 = .ok (.putfield 34, 3) := by decide +kernel
theorem dX5_keepStream_68 : decode cX5_keepStream 68 = .ok (.return_, 1) := by decide +kernel
theorem dX5_readNumber_0 : decode cX5_readNumber 0 = .ok (.aload_n 0, 1) := by decide +kernel
theorem dX5_readNumber_1 : decode cX5_readNumber 1 = .ok (.getfield 37, 3) := by decide +kernel
theorem dX5_readNumber_4 : decode cX5_readNumber 4 = .ok (.istore_n 2, 1) := by decide +kernel
theorem dX5_readNumber_5 : decode cX5_readNumber 5 = .ok (.iconst 0, 1) := by decide +kernel
theorem dX5_readNumber_6 : decode cX5_readNumber 6 = .ok (.istore_n 3, 1) := by decide +kernel
theorem dX5_readNumber_7 : decode cX5_readNumber 7 = .ok (.iconst 0, 1) := by decide +kernel
theorem dX5_readNumber_8 : decode cX5_readNumber 8 = .ok (.istore 4, 2) := by decide +kernel
theorem dX5_readNumber_10 : decode cX5_readNumber 10 = .ok (.iload 4, 2) := by decide +kernel
theorem dX5_readNumber_12 : decode cX5_readNumber 12 = .ok (.iconst 2, 1) := by decide +kernel
theorem dX5_readNumber_13 : decode cX5_readNumber 13 = .ok (.if_icmp .ge 42, 3) := by decide +kernel
theorem dX5_readNumber_16 : decode cX5_readNumber 16 = .ok (.aload_n 0, 1) := by decide +kernel
theorem dX5_readNumber_17 : decode cX5_readNumber 17 = .ok (.invokevirtual 66, 3) := by decide +kernel
theorem dX5_readNumber_20 : decode cX5_readNumber 20 = .ok (.invokestatic 47, 3) := by decide +kernel
theorem dX5_readNumber_23 : decode cX5_readNumber 23 = .ok (.ifCond .eq 32, 3) := by decide +kernel
theorem dX5_readNumber_26 : decode cX5_readNumber 26 = .ok (.bipush 10, 2) := by decide +kernel
theorem dX5_readNumber_28 : decode cX5_readNumber 28 = .ok (.iload_n 3, 1) := by decide +kernel
theorem dX5_readNumber_29 : decode cX5_readNumber 29 = .ok (.imul, 1) := by decide +kernel
theorem dX5_readNumber_30 : decode cX5_readNumber 30 = .ok (.aload_n 0, 1) := by decide +kernel
theorem dX5_readNumber_31 : decode cX5_readNumber 31 = .ok (.invokevirtual 66, 3) := by decide +kernel
theorem dX5_readNumber_34 : decode cX5_readNumber 34 = .ok (.iadd, 1) := by decide +kernel
theorem dX5_readNumber_35 : decode cX5_readNumber 35 = .ok (.bipush 48, 2) := by decide +kernel
theorem dX5_readNumber_37 : decode cX5_readNumber 37 = .ok (.isub, 1) := by decide +kernel
theorem dX5_readNumber_38 : decode cX5_readNumber 38 = .ok (.istore_n 3, 1) := by decide +kernel
theorem dX5_readNumber_39 : decode cX5_readNumber 39 = .ok (.aload_n 0, 1) := by decide +kernel
theorem dX5_readNumber_40 : decode cX5_readNumber 40 = .ok (.dup, 1) := by decide +kernel
theorem dX5_readNumber_41 : decode cX5_readNumber 41 = .ok (.getfield 37, 3) := by decide +kernel
theorem dX5_readNumber_44 : decode cX5_readNumber 44 = .ok (.iconst 1, 1) := by decide +kernel
theorem dX5_readNumber_45 : decode cX5_readNumber 45 = .ok (.iadd, 1) := by decide +kernel
theorem dX5_readNumber_46 : decode cX5_readNumber 46 = .ok (.putfield 37, 3) := by decide +kernel
theorem dX5_readNumber_49 : decode cX5_readNumber 49 = .ok (.iinc 4 1, 3) := by decide +kernel
theorem dX5_readNumber_52 : decode cX5_readNumber 52 = .ok (.goto (-42), 3) := by decide +kernel
theorem dX5_readNumber_55 : decode cX5_readNumber 55 = .ok (.aload_n 0, 1) := by decide +kernel
theorem dX5_readNumber_56 : decode cX5_readNumber 56 = .ok (.getfield 37, 3) := by decide +kernel
theorem dX5_readNumber_59 : decode cX5_readNumber 59 = .ok (.iload_n 2, 1) := by decide +kernel
theorem dX5_readNumber_60 : decode cX5_readNumber 60 = .ok (.if_icmp .eq 13, 3) := by decide +kernel
theorem dX5_readNumber_63 : decode cX5_readNumber 63 = .ok (.aload_n 0, 1) := by decide +kernel
theorem dX5_readNumber_64 : decode cX5_readNumber 64 = .ok (.invokevirtual 66, 3) := by decide +kernel
theorem dX5_readNumber_67 : decode cX5_readNumber 67 = .ok (.invokestatic 47, 3) := by decide +kernel
theorem dX5_readNumber_70 : decode cX5_readNumber 70 = .ok (.ifCond .eq 14, 3) := by decide +kernel
theorem dX5_readNumber_73 : decode cX5_readNumber 73 = .ok (.aload_n 0, 1) := by decide +kernel
theorem dX5_readNumber_74 : decode cX5_readNumber 74 = .ok (.aload_n 0, 1) := by decide +kernel
theorem dX5_readNumber_75 : decode cX5_readNumber 75 = .ok (.getfield 37, 3) := by decide +kernel
theorem dX5_readNumber_78 : decode cX5_readNumber 78 = .ok (.putfield 40, 3) := by decide +kernel
theorem dX5_readNumber_81 : decode cX5_readNumber 81 = .ok (.goto 17, 3) := by decide +kernel
theorem dX5_readNumber_84 : decode cX5_readNumber 84 = .ok (.iload_n 3, 1) := by decide +kernel
theorem dX5_readNumber_85 : decode cX5_readNumber 85 = .ok (.iconst 1, 1) := by decide +kernel
theorem dX5_readNumber_86 : decode cX5_readNumber 86 = .ok (.iload_n 1, 1) := by decide +kernel
theorem dX5_readNumber_87 : decode cX5_readNumber 87 = .ok (.invokestatic 69, 3) := by decide +kernel
theorem dX5_readNumber_90 : decode cX5_readNumber 90 = .ok (.ifCond .ne 8, 3) := by decide +kernel
theorem dX5_readNumber_93 : decode cX5_readNumber 93 = .ok (.aload_n 0, 1) := by decide +kernel
theorem dX5_readNumber_94 : decode cX5_readNumber 94 = .ok (.iload_n 2, 1) := by decide +kernel
theorem dX5_readNumber_95 : decode cX5_readNumber 95 = .ok (.putfield 40, 3) := by decide +kernel
theorem dX5_readNumber_98 : decode cX5_readNumber 98 = .ok (.aload_n 0, 1) := by decide +kernel
theorem dX5_readNumber_99 : decode cX5_readNumber 99 = .ok (.getfield 40, 3) := by decide +kernel
theorem dX5_readNumber_102 : decode cX5_readNumber 102 = .ok (.iconst (-1), 1) := by decide +kernel
theorem dX5_readNumber_103 : decode cX5_readNumber 103 = .ok (.if_icmp .ne 7, 3) := by decide +kernel
theorem dX5_readNumber_106 : decode cX5_readNumber 106 = .ok (.iload_n 3, 1) := by decide +kernel
theorem dX5_readNumber_107 : decode cX5_readNumber 107 = .ok (.goto 4, 3) := by decide +kernel
theorem dX5_readNumber_110 : decode cX5_readNumber 110 = .ok (.iconst (-1), 1) := by decide +kernel
theorem dX5_readNumber_111 : decode cX5_readNumber 111 = .ok (.ireturn, 1) := by decide +kernel
theorem dX5_byteBehindBlanks_0 : decode cX5_byteBehindBlanks 0 = .ok (.iconst 0, 1) := by decide +kernel
theorem dX5_byteBehindBlanks_1 : decode cX5_byteBehindBlanks 1 = .ok (.istore_n 1, 1) := by decide +kernel
theorem dX5_byteBehindBlanks_2 : decode cX5_byteBehindBlanks 2 = .ok (.iload_n 1, 1) := by decide +kernel
theorem dX5_byteBehindBlanks_3 : decode cX5_byteBehindBlanks 3 = .ok (.bipush 120, 2) := by decide +kernel
theorem dX5_byteBehindBlanks_5 : decode cX5_byteBehindBlanks 5 = .ok (.if_icmp .ge 28, 3) := by decide +kernel
theorem dX5_byteBehindBlanks_8 : decode cX5_byteBehindBlanks 8 = .ok (.aload_n 0, 1) := by decide +kernel
theorem dX5_byteBehindBlanks_9 : decode cX5_byteBehindBlanks 9 = .ok (.invokevirtual 66, 3) := by decide +kernel
theorem dX5_byteBehindBlanks_12 : decode cX5_byteBehindBlanks 12 = .ok (.bipush 32, 2) := by decide +kernel
theorem dX5_byteBehindBlanks_14 : decode cX5_byteBehindBlanks 14 = .ok (.if_icmp .ne 19, 3) := by decide +kernel
theorem dX5_byteBehindBlanks_17 : decode cX5_byteBehindBlanks 17 = .ok (.aload_n 0, 1) := by decide +kernel
theorem dX5_byteBehindBlanks_18 : decode cX5_byteBehindBlanks 18 = .ok (.dup, 1) := by decide +kernel
theorem dX5_byteBehindBlanks_19 : decode cX5_byteBehindBlanks 19 = .ok (.getfield 37, 3) := by decide +kernel
theorem dX5_byteBehindBlanks_22 : decode cX5_byteBehindBlanks 22 = .ok (.iconst 1, 1) := by decide +kernel
theorem dX5_byteBehindBlanks_23 : decode cX5_byteBehindBlanks 23 = .ok (.iadd, 1) := by decide +kernel
theorem dX5_byteBehindBlanks_24 : decode cX5_byteBehindBlanks 24 = .ok (.putfield 37, 3) := by decide +kernel
theorem dX5_byteBehindBlanks_27 : decode cX5_byteBehindBlanks 27 = .ok (.iinc 1 1, 3) := by decide +kernel
theorem dX5_byteBehindBlanks_30 : decode cX5_byteBehindBlanks 30 = .ok (.goto (-28), 3) := by decide +kernel
theorem dX5_byteBehindBlanks_33 : decode cX5_byteBehindBlanks 33 = .ok (.aload_n 0, 1) := by decide +kernel
theorem dX5_byteBehindBlanks_34 : decode cX5_byteBehindBlanks 34 = .ok (.invokevirtual 66, 3) := by decide +kernel
theorem dX5_byteBehindBlanks_37 : decode cX5_byteBehindBlanks 37 = .ok (.ireturn, 1) := by decide +kernel
theorem dX5_byteHere_0 : decode cX5_byteHere 0 = .ok (.aload_n 0, 1) := by decide +kernel
theorem dX5_byteHere_1 : decode cX5_byteHere 1 = .ok (.getfield 37, 3) := by decide +kernel
theorem dX5_byteHere_4 : decode cX5_byteHere 4 = .ok (.aload_n 0, 1) := by decide +kernel
theorem dX5_byteHere_5 : decode cX5_byteHere 5 = .ok (.getfield 27, 3) := by decide +kernel
theorem dX5_byteHere_8 : decode cX5_byteHere 8 = .ok (.if_icmp .ge 15, 3) := by decide +kernel
theorem dX5_byteHere_11 : decode cX5_byteHere 11 = .ok (.aload_n 0, 1) := by decide +kernel
theorem dX5_byteHere_12 : decode cX5_byteHere 12 = .ok (.getfield 9, 3) := by decide +kernel
theorem dX5_byteHere_15 : decode cX5_byteHere 15 = .ok (.aload_n 0, 1) := by decide +kernel
theorem dX5_byteHere_16 : decode cX5_byteHere 16 = .ok (.getfield 37, 3) := by decide +kernel
theorem dX5_byteHere_19 : decode cX5_byteHere 19 = .ok (.iaload, 1) := by decide +kernel
theorem dX5_byteHere_20 : decode cX5_byteHere 20 = .ok (.goto 4, 3) := by decide +kernel
theorem dX5_byteHere_23 : decode cX5_byteHere 23 = .ok (.iconst (-1), 1) := by decide +kernel
theorem dX5_byteHere_24 : decode cX5_byteHere 24 = .ok (.ireturn, 1) := by decide +kernel
theorem dX5_isFigure_0 : decode cX5_isFigure 0 = .ok (.iload_n 0, 1) := by decide +kernel
theorem dX5_isFigure_1 : decode cX5_isFigure 1 = .ok (.bipush 48, 2) := by decide +kernel
theorem dX5_isFigure_3 : decode cX5_isFigure 3 = .ok (.bipush 57, 2) := by decide +kernel
theorem dX5_isFigure_5 : decode cX5_isFigure 5 = .ok (.invokestatic 69, 3) := by decide +kernel
theorem dX5_isFigure_8 : decode cX5_isFigure 8 = .ok (.ireturn, 1) := by decide +kernel
theorem dX6_init_0 : decode cX6_init 0 = .ok (.aload_n 0, 1) := by decide +kernel
theorem dX6_init_1 : decode cX6_init 1 = .ok (.invokespecial 1, 3) := by decide +kernel
theorem dX6_init_4 : decode cX6_init 4 = .ok (.aload_n 0, 1) := by decide +kernel
theorem dX6_init_5 : decode cX6_init 5 = .ok (.new 7, 3) := by decide +kernel
theorem dX6_init_8 : decode cX6_init 8 = .ok (.dup, 1) := by decide +kernel
theorem dX6_init_9 : decode cX6_init 9 = .ok (.invokespecial 9, 3) := by decide +kernel
theorem dX6_init_12 : decode cX6_init 12 = .ok (.putfield 10, 3) := by decide +kernel
theorem dX6_init_15 : decode cX6_init 15 = .ok (.aload_n 0, 1) := by decide +kernel
theorem dX6_init_16 : decode cX6_init 16 = .ok (.iconst 5, 1) := by decide +kernel
theorem dX6_init_17 : decode cX6_init 17 = .ok (.anewarray 7, 3) := by decide +kernel
theorem dX6_init_20 : decode cX6_init 20 = .ok (.putfield 16, 3) := by decide +kernel
theorem dX6_init_23 : decode cX6_init 23 = .ok (.iconst 0, 1) := by decide +kernel
theorem dX6_init_24 : decode cX6_init 24 = .ok (.istore_n 1, 1) := by decide +kernel
theorem dX6_init_25 : decode cX6_init 25 = .ok (.iload_n 1, 1) := by decide +kernel
theorem dX6_init_26 : decode cX6_init 26 = .ok (.iconst 5, 1) := by decide +kernel
theorem dX6_init_27 : decode cX6_init 27 = .ok (.if_icmp .ge 22, 3) := by decide +kernel
theorem dX6_init_30 : decode cX6_init 30 = .ok (.aload_n 0, 1) := by decide +kernel
theorem dX6_init_31 : decode cX6_init 31 = .ok (.getfield 16, 3) := by decide +kernel
theorem dX6_init_34 : decode cX6_init 34 = .ok (.iload_n 1, 1) := by decide +kernel
theorem dX6_init_35 : decode cX6_init 35 = .ok (.new 7, 3) := by decide +kernel
theorem dX6_init_38 : decode cX6_init 38 = .ok (.dup, 1) := by decide +kernel
theorem dX6_init_39 : decode cX6_init 39 = .ok (.invokespecial 9, 3) := by decide +kernel
theorem dX6_init_42 : decode cX6_init 42 = .ok (.aastore, 1) := by decide +kernel
theorem dX6_init_43 : decode cX6_init 43 = .ok (.iinc 1 1, 3) := by decide +kernel
theorem dX6_init_46 : decode cX6_init 46 = .ok (.goto (-21), 3) := by decide +kernel
theorem dX6_init_49 : decode cX6_init 49 = .ok (.aload_n 0, 1) := by decide +kernel
theorem dX6_init_50 : decode cX6_init 50 = .ok (.new 20, 3) := by decide +kernel
theorem dX6_init_53 : decode cX6_init 53 = .ok (.dup, 1) := by decide +kernel
theorem dX6_init_54 : decode cX6_init 54 = .ok (.invokespecial 22, 3) := by decide +kernel
theorem dX6_init_57 : decode cX6_init 57 = .ok (.putfield 23, 3) := by decide +kernel
theorem dX6_init_60 : decode cX6_init 60 = .ok (.aload_n 0, 1) := by decide +kernel
theorem dX6_init_61 : decode cX6_init 61 = .ok (.new 27, 3) := by decide +kernel
theorem dX6_init_64 : decode cX6_init 64 = .ok (.dup, 1) := by decide +kernel
theorem dX6_init_65 : decode cX6_init 65 = .ok (.invokespecial 29, 3) := by decide +kernel
theorem dX6_init_68 : decode cX6_init 68 = .ok (.putfield 30, 3) := by decide +kernel
theorem dX6_init_71 : decode cX6_init 71 = .ok (.return_, 1) := by decide +kernel
theorem dX6_comes_0 : decode cX6_comes 0 = .ok (.iload_n 1, 1) := by decide +kernel
theorem dX6_comes_1 : decode cX6_comes 1 = .ok (.iconst 1, 1) := by decide +kernel
theorem dX6_comes_2 : decode cX6_comes 2 = .ok (.bipush 12, 2) := by decide +kernel
theorem dX6_comes_4 : decode cX6_comes 4 = .ok (.invokestatic 34, 3) := by decide +kernel
theorem dX6_comes_7 : decode cX6_comes 7 = .ok (.ifCond .eq 34, 3) := by decide +kernel
theorem dX6_comes_10 : decode cX6_comes 10 = .ok (.aload_n 0, 1) := by decide +kernel
theorem dX6_comes_11 : decode cX6_comes 11 = .ok (.getfield 10, 3) := by decide +kernel
theorem dX6_comes_14 : decode cX6_comes 14 = .ok (.iload_n 2, 1) := by decide +kernel
theorem dX6_comes_15 : decode cX6_comes 15 = .ok (.invokevirtual 38, 3) := by decide +kernel
theorem dX6_comes_18 : decode cX6_comes 18 = .ok (.ifCond .eq 23, 3) := by decide +kernel
theorem dX6_comes_21 : decode cX6_comes 21 = .ok (.iload_n 3, 1) := by decide +kernel
theorem dX6_comes_22 : decode cX6_comes 22 = .ok (.iconst 1, 1) := by decide +kernel
theorem dX6_comes_23 : decode cX6_comes 23 = .ok (.bipush 16, 2) := by decide +kernel
theorem dX6_comes_25 : decode cX6_comes 25 = .ok (.invokestatic 34, 3) := by decide +kernel
theorem dX6_comes_28 : decode cX6_comes 28 = .ok (.ifCond .eq 13, 3) := by decide +kernel
theorem dX6_comes_31 : decode cX6_comes 31 = .ok (.iload 4, 2) := by decide +kernel
theorem dX6_comes_33 : decode cX6_comes 33 = .ok (.iconst 0, 1) := by decide +kernel
theorem dX6_comes_34 : decode cX6_comes 34 = .ok (.iconst 1, 1) := by decide +kernel
theorem dX6_comes_35 : decode cX6_comes 35 = .ok (.invokestatic 34, 3) := by decide +kernel
theorem dX6_comes_38 : decode cX6_comes 38 = .ok (.ifCond .ne 10, 3) := by decide +kernel
theorem dX6_comes_41 : decode cX6_comes 41 = .ok (.aload_n 0, 1) := by decide +kernel
theorem dX6_comes_42 : decode cX6_comes 42 = .ok (.bipush (-2), 2) := by decide +kernel
theorem dX6_comes_44 : decode cX6_comes 44 = .ok (.invokevirtual 42, 3) := by decide +kernel
theorem dX6_comes_47 : decode cX6_comes 47 = .ok (.ireturn, 1) := by decide +kernel
theorem dX6_comes_48 : decode cX6_comes 48 = .ok (.aload_n 0, 1) := by decide +kernel
theorem dX6_comes_49 : decode cX6_comes 49 = .ok (.getfield 10, 3) := by decide +kernel
theorem dX6_comes_52 : decode cX6_comes 52 = .ok (.iload_n 1, 1) := by decide +kernel
theorem dX6_comes_53 : decode cX6_comes 53 = .ok (.invokevirtual 46, 3) := by decide +kernel
theorem dX6_comes_56 : decode cX6_comes 56 = .ok (.ifCond .eq 10, 3) := by decide +kernel
theorem dX6_comes_59 : decode cX6_comes 59 = .ok (.aload_n 0, 1) := by decide +kernel
theorem dX6_comes_60 : decode cX6_comes 60 = .ok (.bipush (-3), 2) := by decide +kernel
theorem dX6_comes_62 : decode cX6_comes 62 = .ok (.invokevirtual 42, 3) := by decide +kernel
theorem dX6_comes_65 : decode cX6_comes 65 = .ok (.ireturn, 1) := by decide +kernel
theorem dX6_comes_66 : decode cX6_comes 66 = .ok (.aload_n 0, 1) := by decide +kernel
theorem dX6_comes_67 : decode cX6_comes 67 = .ok (.invokevirtual 49, 3) := by decide +kernel
theorem dX6_comes_70 : decode cX6_comes 70 = .ok (.aload_n 0, 1) := by decide +kernel
theorem dX6_comes_71 : decode cX6_comes 71 = .ok (.getfield 10, 3) := by decide +kernel
theorem dX6_comes_74 : decode cX6_comes 74 = .ok (.iload_n 1, 1) := by decide +kernel
theorem dX6_comes_75 : decode cX6_comes 75 = .ok (.iload_n 3, 1) := by decide +kernel
theorem dX6_comes_76 : decode cX6_comes 76 = .ok (.invokevirtual 52, 3) := by decide +kernel
theorem dX6_comes_79 : decode cX6_comes 79 = .ok (.aload_n 0, 1) := by decide +kernel
theorem dX6_comes_80 : decode cX6_comes 80 = .ok (.getfield 10, 3) := by decide +kernel
theorem dX6_comes_83 : decode cX6_comes 83 = .ok (.iload_n 1, 1) := by decide +kernel
theorem dX6_comes_84 : decode cX6_comes 84 = .ok (.iload_n 2, 1) := by decide +kernel
theorem dX6_comes_85 : decode cX6_comes 85 = .ok (.iload 4, 2) := by decide +kernel
theorem dX6_comes_87 : decode cX6_comes 87 = .ok (.iconst 1, 1) := by decide +kernel
theorem dX6_comes_88 : decode cX6_comes 88 = .ok (.if_icmp .ne 7, 3) := by decide +kernel
theorem dX6_comes_91 : decode cX6_comes 91 = .ok (.iconst 1, 1) := by decide +kernel
theorem dX6_comes_92 : decode cX6_comes 92 = .ok (.goto 4, 3) := by decide +kernel
theorem dX6_comes_95 : decode cX6_comes 95 = .ok (.iconst 0, 1) := by decide +kernel
theorem dX6_comes_96 : decode cX6_comes 96 = .ok (.invokevirtual 56, 3) := by decide +kernel
theorem dX6_comes_99 : decode cX6_comes 99 = .ok (.aload_n 0, 1) := by decide +kernel
theorem dX6_comes_100 : decode cX6_comes 100 = .ok (.getfield 10, 3) := by decide +kernel
theorem dX6_comes_103 : decode cX6_comes 103 = .ok (.iload_n 1, 1) := by decide +kernel
theorem dX6_comes_104 : decode cX6_comes 104 = .ok (.invokevirtual 60, 3) := by decide +kernel
theorem dX6_comes_107 : decode cX6_comes 107 = .ok (.ireturn, 1) := by decide +kernel
theorem dX6_moves_0 : decode cX6_moves 0 = .ok (.aload_n 0, 1) := by decide +kernel
theorem dX6_moves_1 : decode cX6_moves 1 = .ok (.getfield 10, 3) := by decide +kernel
theorem dX6_moves_4 : decode cX6_moves 4 = .ok (.iload_n 1, 1) := by decide +kernel
theorem dX6_moves_5 : decode cX6_moves 5 = .ok (.invokevirtual 46, 3) := by decide +kernel
theorem dX6_moves_8 : decode cX6_moves 8 = .ok (.ifCond .eq 39, 3) := by decide +kernel
theorem dX6_moves_11 : decode cX6_moves 11 = .ok (.aload_n 0, 1) := by decide +kernel
theorem dX6_moves_12 : decode cX6_moves 12 = .ok (.getfield 10, 3) := by decide +kernel
theorem dX6_moves_15 : decode cX6_moves 15 = .ok (.iload_n 2, 1) := by decide +kernel
theorem dX6_moves_16 : decode cX6_moves 16 = .ok (.invokevirtual 38, 3) := by decide +kernel
theorem dX6_moves_19 : decode cX6_moves 19 = .ok (.ifCond .eq 28, 3) := by decide +kernel
theorem dX6_moves_22 : decode cX6_moves 22 = .ok (.iload_n 2, 1) := by decide +kernel
theorem dX6_moves_23 : decode cX6_moves 23 = .ok (.iload_n 1, 1) := by decide +kernel
theorem dX6_moves_24 : decode cX6_moves 24 = .ok (.if_icmp .eq 23, 3) := by decide +kernel
theorem dX6_moves_27 : decode cX6_moves 27 = .ok (.iload_n 3, 1) := by decide +kernel
theorem dX6_moves_28 : decode cX6_moves 28 = .ok (.iconst 1, 1) := by decide +kernel
theorem dX6_moves_29 : decode cX6_moves 29 = .ok (.bipush 16, 2) := by decide +kernel
theorem dX6_moves_31 : decode cX6_moves 31 = .ok (.invokestatic 34, 3) := by decide +kernel
theorem dX6_moves_34 : decode cX6_moves 34 = .ok (.ifCond .eq 13, 3) := by decide +kernel
theorem dX6_moves_37 : decode cX6_moves 37 = .ok (.iload 4, 2) := by decide +kernel
theorem dX6_moves_39 : decode cX6_moves 39 = .ok (.iconst 0, 1) := by decide +kernel
theorem dX6_moves_40 : decode cX6_moves 40 = .ok (.iconst 1, 1) := by decide +kernel
theorem dX6_moves_41 : decode cX6_moves 41 = .ok (.invokestatic 34, 3) := by decide +kernel
theorem dX6_moves_44 : decode cX6_moves 44 = .ok (.ifCond .ne 10, 3) := by decide +kernel
theorem dX6_moves_47 : decode cX6_moves 47 = .ok (.aload_n 0, 1) := by decide +kernel
theorem dX6_moves_48 : decode cX6_moves 48 = .ok (.bipush (-2), 2) := by decide +kernel
theorem dX6_moves_50 : decode cX6_moves 50 = .ok (.invokevirtual 42, 3) := by decide +kernel
theorem dX6_moves_53 : decode cX6_moves 53 = .ok (.ireturn, 1) := by decide +kernel
theorem dX6_moves_54 : decode cX6_moves 54 = .ok (.aload_n 0, 1) := by decide +kernel
theorem dX6_moves_55 : decode cX6_moves 55 = .ok (.invokevirtual 49, 3) := by decide +kernel
theorem dX6_moves_58 : decode cX6_moves 58 = .ok (.aload_n 0, 1) := by decide +kernel
theorem dX6_moves_59 : decode cX6_moves 59 = .ok (.getfield 10, 3) := by decide +kernel
theorem dX6_moves_62 : decode cX6_moves 62 = .ok (.iload_n 2, 1) := by decide +kernel
theorem dX6_moves_63 : decode cX6_moves 63 = .ok (.iload_n 1, 1) := by decide +kernel
theorem dX6_moves_64 : decode cX6_moves 64 = .ok (.invokevirtual 63, 3) := by decide +kernel
theorem dX6_moves_67 : decode cX6_moves 67 = .ok (.ifCond .eq 23, 3) := by decide +kernel
theorem dX6_moves_70 : decode cX6_moves 70 = .ok (.aload_n 0, 1) := by decide +kernel
theorem dX6_moves_71 : decode cX6_moves 71 = .ok (.getfield 10, 3) := by decide +kernel
theorem dX6_moves_74 : decode cX6_moves 74 = .ok (.iload_n 2, 1) := by decide +kernel
theorem dX6_moves_75 : decode cX6_moves 75 = .ok (.aload_n 0, 1) := by decide +kernel
theorem dX6_moves_76 : decode cX6_moves 76 = .ok (.getfield 10, 3) := by decide +kernel
theorem dX6_moves_79 : decode cX6_moves 79 = .ok (.getfield 67, 3) := by decide +kernel
theorem dX6_moves_82 : decode cX6_moves 82 = .ok (.iload_n 1, 1) := by decide +kernel
theorem dX6_moves_83 : decode cX6_moves 83 = .ok (.aaload, 1) := by decide +kernel
theorem dX6_moves_84 : decode cX6_moves 84 = .ok (.getfield 71, 3) := by decide +kernel
theorem dX6_moves_87 : decode cX6_moves 87 = .ok (.invokevirtual 77, 3) := by decide +kernel
theorem dX6_moves_90 : decode cX6_moves 90 = .ok (.aload_n 0, 1) := by decide +kernel
theorem dX6_moves_91 : decode cX6_moves 91 = .ok (.getfield 10, 3) := by decide +kernel
theorem dX6_moves_94 : decode cX6_moves 94 = .ok (.getfield 67, 3) := by decide +kernel
theorem dX6_moves_97 : decode cX6_moves 97 = .ok (.iload_n 1, 1) := by decide +kernel
theorem dX6_moves_98 : decode cX6_moves 98 = .ok (.aaload, 1) := by decide +kernel
theorem dX6_moves_99 : decode cX6_moves 99 = .ok (.iload_n 3, 1) := by decide +kernel
theorem dX6_moves_100 : decode cX6_moves 100 = .ok (.putfield 80, 3) := by decide +kernel
theorem dX6_moves_103 : decode cX6_moves 103 = .ok (.aload_n 0, 1) := by decide +kernel
theorem dX6_moves_104 : decode cX6_moves 104 = .ok (.getfield 10, 3) := by decide +kernel
theorem dX6_moves_107 : decode cX6_moves 107 = .ok (.iload_n 1, 1) := by decide +kernel
theorem dX6_moves_108 : decode cX6_moves 108 = .ok (.iload_n 2, 1) := by decide +kernel
theorem dX6_moves_109 : decode cX6_moves 109 = .ok (.iload 4, 2) := by decide +kernel
theorem dX6_moves_111 : decode cX6_moves 111 = .ok (.iconst 1, 1) := by decide +kernel
theorem dX6_moves_112 : decode cX6_moves 112 = .ok (.if_icmp .ne 7, 3) := by decide +kernel
theorem dX6_moves_115 : decode cX6_moves 115 = .ok (.iconst 1, 1) := by decide +kernel
theorem dX6_moves_116 : decode cX6_moves 116 = .ok (.goto 4, 3) := by decide +kernel
theorem dX6_moves_119 : decode cX6_moves 119 = .ok (.iconst 0, 1) := by decide +kernel
theorem dX6_moves_120 : decode cX6_moves 120 = .ok (.invokevirtual 56, 3) := by decide +kernel
theorem dX6_moves_123 : decode cX6_moves 123 = .ok (.aload_n 0, 1) := by decide +kernel
theorem dX6_moves_124 : decode cX6_moves 124 = .ok (.getfield 10, 3) := by decide +kernel
theorem dX6_moves_127 : decode cX6_moves 127 = .ok (.iload_n 1, 1) := by decide +kernel
theorem dX6_moves_128 : decode cX6_moves 128 = .ok (.invokevirtual 60, 3) := by decide +kernel
theorem dX6_moves_131 : decode cX6_moves 131 = .ok (.ireturn, 1) := by decide +kernel
theorem dX6_sets_0 : decode cX6_sets 0 = .ok (.aload_n 0, 1) := by decide +kernel
theorem dX6_sets_1 : decode cX6_sets 1 = .ok (.getfield 10, 3) := by decide +kernel
theorem dX6_sets_4 : decode cX6_sets 4 = .ok (.iload_n 1, 1) := by decide +kernel
theorem dX6_sets_5 : decode cX6_sets 5 = .ok (.invokevirtual 46, 3) := by decide +kernel
theorem dX6_sets_8 : decode cX6_sets 8 = .ok (.ifCond .eq 29, 3) := by decide +kernel
theorem dX6_sets_11 : decode cX6_sets 11 = .ok (.iload_n 2, 1) := by decide +kernel
theorem dX6_sets_12 : decode cX6_sets 12 = .ok (.iconst 0, 1) := by decide +kernel
theorem dX6_sets_13 : decode cX6_sets 13 = .ok (.iconst 2, 1) := by decide +kernel
theorem dX6_sets_14 : decode cX6_sets 14 = .ok (.invokestatic 34, 3) := by decide +kernel
theorem dX6_sets_17 : decode cX6_sets 17 = .ok (.ifCond .eq 20, 3) := by decide +kernel
theorem dX6_sets_20 : decode cX6_sets 20 = .ok (.iload_n 3, 1) := by decide +kernel
theorem dX6_sets_21 : decode cX6_sets 21 = .ok (.getstatic 83, 3) := by decide +kernel
theorem dX6_sets_24 : decode cX6_sets 24 = .ok (.iload_n 2, 1) := by decide +kernel
theorem dX6_sets_25 : decode cX6_sets 25 = .ok (.iaload, 1) := by decide +kernel
theorem dX6_sets_26 : decode cX6_sets 26 = .ok (.getstatic 87, 3) := by decide +kernel
theorem dX6_sets_29 : decode cX6_sets 29 = .ok (.iload_n 2, 1) := by decide +kernel
theorem dX6_sets_30 : decode cX6_sets 30 = .ok (.iaload, 1) := by decide +kernel
theorem dX6_sets_31 : decode cX6_sets 31 = .ok (.invokestatic 34, 3) := by decide +kernel
theorem dX6_sets_34 : decode cX6_sets 34 = .ok (.ifCond .ne 10, 3) := by decide +kernel
theorem dX6_sets_37 : decode cX6_sets 37 = .ok (.aload_n 0, 1) := by decide +kernel
theorem dX6_sets_38 : decode cX6_sets 38 = .ok (.bipush (-2), 2) := by decide +kernel
theorem dX6_sets_40 : decode cX6_sets 40 = .ok (.invokevirtual 42, 3) := by decide +kernel
theorem dX6_sets_43 : decode cX6_sets 43 = .ok (.ireturn, 1) := by decide +kernel
theorem dX6_sets_44 : decode cX6_sets 44 = .ok (.aload_n 0, 1) := by decide +kernel
theorem dX6_sets_45 : decode cX6_sets 45 = .ok (.invokevirtual 49, 3) := by decide +kernel
theorem dX6_sets_48 : decode cX6_sets 48 = .ok (.aload_n 0, 1) := by decide +kernel
theorem dX6_sets_49 : decode cX6_sets 49 = .ok (.getfield 10, 3) := by decide +kernel
theorem dX6_sets_52 : decode cX6_sets 52 = .ok (.getfield 67, 3) := by decide +kernel
theorem dX6_sets_55 : decode cX6_sets 55 = .ok (.iload_n 1, 1) := by decide +kernel
theorem dX6_sets_56 : decode cX6_sets 56 = .ok (.aaload, 1) := by decide +kernel
theorem dX6_sets_57 : decode cX6_sets 57 = .ok (.iload_n 2, 1) := by decide +kernel
theorem dX6_sets_58 : decode cX6_sets 58 = .ok (.iload_n 3, 1) := by decide +kernel
theorem dX6_sets_59 : decode cX6_sets 59 = .ok (.invokevirtual 90, 3) := by decide +kernel
theorem dX6_sets_62 : decode cX6_sets 62 = .ok (.ireturn, 1) := by decide +kernel
theorem dX6_closes_0 : decode cX6_closes 0 = .ok (.aload_n 0, 1) := by decide +kernel
theorem dX6_closes_1 : decode cX6_closes 1 = .ok (.getfield 10, 3) := by decide +kernel
theorem dX6_closes_4 : decode cX6_closes 4 = .ok (.iload_n 1, 1) := by decide +kernel
theorem dX6_closes_5 : decode cX6_closes 5 = .ok (.invokevirtual 46, 3) := by decide +kernel
theorem dX6_closes_8 : decode cX6_closes 8 = .ok (.ifCond .ne 10, 3) := by decide +kernel
theorem dX6_closes_11 : decode cX6_closes 11 = .ok (.aload_n 0, 1) := by decide +kernel
theorem dX6_closes_12 : decode cX6_closes 12 = .ok (.bipush (-2), 2) := by decide +kernel
theorem dX6_closes_14 : decode cX6_closes 14 = .ok (.invokevirtual 42, 3) := by decide +kernel
theorem dX6_closes_17 : decode cX6_closes 17 = .ok (.ireturn, 1) := by decide +kernel
theorem dX6_closes_18 : decode cX6_closes 18 = .ok (.aload_n 0, 1) := by decide +kernel
theorem dX6_closes_19 : decode cX6_closes 19 = .ok (.getfield 10, 3) := by decide +kernel
theorem dX6_closes_22 : decode cX6_closes 22 = .ok (.getfield 67, 3) := by decide +kernel
theorem dX6_closes_25 : decode cX6_closes 25 = .ok (.iload_n 1, 1) := by decide +kernel
theorem dX6_closes_26 : decode cX6_closes 26 = .ok (.aaload, 1) := by decide +kernel
theorem dX6_closes_27 : decode cX6_closes 27 = .ok (.getfield 94, 3) := by decide +kernel
theorem dX6_closes_30 : decode cX6_closes 30 = .ok (.ifCond .ne 10, 3) := by decide +kernel
theorem dX6_closes_33 : decode cX6_closes 33 = .ok (.aload_n 0, 1) := by decide +kernel
theorem dX6_closes_34 : decode cX6_closes 34 = .ok (.bipush (-3), 2) := by decide +kernel
theorem dX6_closes_36 : decode cX6_closes 36 = .ok (.invokevirtual 42, 3) := by decide +kernel
theorem dX6_closes_39 : decode cX6_closes 39 = .ok (.ireturn, 1) := by decide +kernel
theorem dX6_closes_40 : decode cX6_closes 40 = .ok (.aload_n 0, 1) := by decide +kernel
theorem dX6_closes_41 : decode cX6_closes 41 = .ok (.invokevirtual 49, 3) := by decide +kernel
theorem dX6_closes_44 : decode cX6_closes 44 = .ok (.aload_n 0, 1) := by decide +kernel
theorem dX6_closes_45 : decode cX6_closes 45 = .ok (.getfield 10, 3) := by decide +kernel
theorem dX6_closes_48 : decode cX6_closes 48 = .ok (.getfield 67, 3) := by decide +kernel
theorem dX6_closes_51 : decode cX6_closes 51 = .ok (.iload_n 1, 1) := by decide +kernel
theorem dX6_closes_52 : decode cX6_closes 52 = .ok (.aaload, 1) := by decide +kernel
theorem dX6_closes_53 : decode cX6_closes 53 = .ok (.iconst 0, 1) := by decide +kernel
theorem dX6_closes_54 : decode cX6_closes 54 = .ok (.putfield 94, 3) := by decide +kernel
theorem dX6_closes_57 : decode cX6_closes 57 = .ok (.aload_n 0, 1) := by decide +kernel
theorem dX6_closes_58 : decode cX6_closes 58 = .ok (.getfield 10, 3) := by decide +kernel
theorem dX6_closes_61 : decode cX6_closes 61 = .ok (.getfield 67, 3) := by decide +kernel
theorem dX6_closes_64 : decode cX6_closes 64 = .ok (.iload_n 1, 1) := by decide +kernel
theorem dX6_closes_65 : decode cX6_closes 65 = .ok (.aaload, 1) := by decide +kernel
theorem dX6_closes_66 : decode cX6_closes 66 = .ok (.iconst 0, 1) := by decide +kernel
theorem dX6_closes_67 : decode cX6_closes 67 = .ok (.putfield 98, 3) := by decide +kernel
theorem dX6_closes_70 : decode cX6_closes 70 = .ok (.aload_n 0, 1) := by decide +kernel
theorem dX6_closes_71 : decode cX6_closes 71 = .ok (.getfield 10, 3) := by decide +kernel
theorem dX6_closes_74 : decode cX6_closes 74 = .ok (.invokevirtual 101, 3) := by decide +kernel
theorem dX6_closes_77 : decode cX6_closes 77 = .ok (.aload_n 0, 1) := by decide +kernel
theorem dX6_closes_78 : decode cX6_closes 78 = .ok (.getfield 10, 3) := by decide +kernel
theorem dX6_closes_81 : decode cX6_closes 81 = .ok (.getfield 104, 3) := by decide +kernel
theorem dX6_closes_84 : decode cX6_closes 84 = .ok (.invokestatic 107, 3) := by decide +kernel
theorem dX6_closes_87 : decode cX6_closes 87 = .ok (.ireturn, 1) := by decide +kernel
theorem dX6_of_0 : decode cX6_of 0 = .ok (.aload_n 0, 1) := by decide +kernel
theorem dX6_of_1 : decode cX6_of 1 = .ok (.getfield 10, 3) := by decide +kernel
theorem dX6_of_4 : decode cX6_of 4 = .ok (.iload_n 1, 1) := by decide +kernel
theorem dX6_of_5 : decode cX6_of 5 = .ok (.invokevirtual 46, 3) := by decide +kernel
theorem dX6_of_8 : decode cX6_of 8 = .ok (.ifCond .eq 13, 3) := by decide +kernel
theorem dX6_of_11 : decode cX6_of 11 = .ok (.iload_n 2, 1) := by decide +kernel
theorem dX6_of_12 : decode cX6_of 12 = .ok (.iconst 0, 1) := by decide +kernel
theorem dX6_of_13 : decode cX6_of 13 = .ok (.bipush 15, 2) := by decide +kernel
theorem dX6_of_15 : decode cX6_of 15 = .ok (.invokestatic 34, 3) := by decide +kernel
theorem dX6_of_18 : decode cX6_of 18 = .ok (.ifCond .ne 10, 3) := by decide +kernel
theorem dX6_of_21 : decode cX6_of 21 = .ok (.aload_n 0, 1) := by decide +kernel
theorem dX6_of_22 : decode cX6_of 22 = .ok (.bipush (-2), 2) := by decide +kernel
theorem dX6_of_24 : decode cX6_of 24 = .ok (.invokevirtual 42, 3) := by decide +kernel
theorem dX6_of_27 : decode cX6_of 27 = .ok (.ireturn, 1) := by decide +kernel
theorem dX6_of_28 : decode cX6_of 28 = .ok (.iload_n 2, 1) := by decide +kernel
theorem dX6_of_29 : decode cX6_of 29 = .ok (.tableswitch 97 12 15 #[31, 40, 49, 70], 31) := by decide +kernel
theorem dX6_of_60 : decode cX6_of 60 = .ok (.aload_n 0, 1) := by decide +kernel
theorem dX6_of_61 : decode cX6_of 61 = .ok (.getfield 10, 3) := by decide +kernel
theorem dX6_of_64 : decode cX6_of 64 = .ok (.iload_n 1, 1) := by decide +kernel
theorem dX6_of_65 : decode cX6_of 65 = .ok (.invokevirtual 60, 3) := by decide +kernel
theorem dX6_of_68 : decode cX6_of 68 = .ok (.ireturn, 1) := by decide +kernel
theorem dX6_of_69 : decode cX6_of 69 = .ok (.aload_n 0, 1) := by decide +kernel
theorem dX6_of_70 : decode cX6_of 70 = .ok (.getfield 10, 3) := by decide +kernel
theorem dX6_of_73 : decode cX6_of 73 = .ok (.iload_n 1, 1) := by decide +kernel
theorem dX6_of_74 : decode cX6_of 74 = .ok (.invokevirtual 112, 3) := by decide +kernel
theorem dX6_of_77 : decode cX6_of 77 = .ok (.ireturn, 1) := by decide +kernel
theorem dX6_of_78 : decode cX6_of 78 = .ok (.aload_n 0, 1) := by decide +kernel
theorem dX6_of_79 : decode cX6_of 79 = .ok (.getfield 10, 3) := by decide +kernel
theorem dX6_of_82 : decode cX6_of 82 = .ok (.getfield 67, 3) := by decide +kernel
theorem dX6_of_85 : decode cX6_of 85 = .ok (.iload_n 1, 1) := by decide +kernel
theorem dX6_of_86 : decode cX6_of 86 = .ok (.aaload, 1) := by decide +kernel
theorem dX6_of_87 : decode cX6_of 87 = .ok (.invokevirtual 115, 3) := by decide +kernel
theorem dX6_of_90 : decode cX6_of 90 = .ok (.ifCond .eq 7, 3) := by decide +kernel
theorem dX6_of_93 : decode cX6_of 93 = .ok (.iconst 1, 1) := by decide +kernel
theorem dX6_of_94 : decode cX6_of 94 = .ok (.goto 4, 3) := by decide +kernel
theorem dX6_of_97 : decode cX6_of 97 = .ok (.iconst 0, 1) := by decide +kernel
theorem dX6_of_98 : decode cX6_of 98 = .ok (.ireturn, 1) := by decide +kernel
theorem dX6_of_99 : decode cX6_of 99 = .ok (.aload_n 0, 1) := by decide +kernel
theorem dX6_of_100 : decode cX6_of 100 = .ok (.getfield 10, 3) := by decide +kernel
theorem dX6_of_103 : decode cX6_of 103 = .ok (.aload_n 0, 1) := by decide +kernel
theorem dX6_of_104 : decode cX6_of 104 = .ok (.getfield 10, 3) := by decide +kernel
theorem dX6_of_107 : decode cX6_of 107 = .ok (.invokevirtual 119, 3) := by decide +kernel
theorem dX6_of_110 : decode cX6_of 110 = .ok (.invokevirtual 123, 3) := by decide +kernel
theorem dX6_of_113 : decode cX6_of 113 = .ok (.iload_n 1, 1) := by decide +kernel
theorem dX6_of_114 : decode cX6_of 114 = .ok (.invokestatic 126, 3) := by decide +kernel
theorem dX6_of_117 : decode cX6_of 117 = .ok (.ifCond .eq 7, 3) := by decide +kernel
theorem dX6_of_120 : decode cX6_of 120 = .ok (.iconst 1, 1) := by decide +kernel
theorem dX6_of_121 : decode cX6_of 121 = .ok (.goto 4, 3) := by decide +kernel
theorem dX6_of_124 : decode cX6_of 124 = .ok (.iconst 0, 1) := by decide +kernel
theorem dX6_of_125 : decode cX6_of 125 = .ok (.ireturn, 1) := by decide +kernel
theorem dX6_of_126 : decode cX6_of 126 = .ok (.aload_n 0, 1) := by decide +kernel
theorem dX6_of_127 : decode cX6_of 127 = .ok (.getfield 10, 3) := by decide +kernel
theorem dX6_of_130 : decode cX6_of 130 = .ok (.getfield 67, 3) := by decide +kernel
theorem dX6_of_133 : decode cX6_of 133 = .ok (.iload_n 1, 1) := by decide +kernel
theorem dX6_of_134 : decode cX6_of 134 = .ok (.aaload, 1) := by decide +kernel
theorem dX6_of_135 : decode cX6_of 135 = .ok (.iload_n 2, 1) := by decide +kernel
theorem dX6_of_136 : decode cX6_of 136 = .ok (.invokevirtual 129, 3) := by decide +kernel
theorem dX6_of_139 : decode cX6_of 139 = .ok (.ireturn, 1) := by decide +kernel
theorem dX6_turn_0 : decode cX6_turn 0 = .ok (.iload_n 2, 1) := by decide +kernel
theorem dX6_turn_1 : decode cX6_turn 1 = .ok (.ifCond .ne 27, 3) := by decide +kernel
theorem dX6_turn_4 : decode cX6_turn 4 = .ok (.aload_n 0, 1) := by decide +kernel
theorem dX6_turn_5 : decode cX6_turn 5 = .ok (.getfield 10, 3) := by decide +kernel
theorem dX6_turn_8 : decode cX6_turn 8 = .ok (.iload_n 1, 1) := by decide +kernel
theorem dX6_turn_9 : decode cX6_turn 9 = .ok (.invokevirtual 46, 3) := by decide +kernel
theorem dX6_turn_12 : decode cX6_turn 12 = .ok (.ifCond .eq 16, 3) := by decide +kernel
theorem dX6_turn_15 : decode cX6_turn 15 = .ok (.aload_n 0, 1) := by decide +kernel
theorem dX6_turn_16 : decode cX6_turn 16 = .ok (.getfield 10, 3) := by decide +kernel
theorem dX6_turn_19 : decode cX6_turn 19 = .ok (.getfield 67, 3) := by decide +kernel
theorem dX6_turn_22 : decode cX6_turn 22 = .ok (.iload_n 1, 1) := by decide +kernel
theorem dX6_turn_23 : decode cX6_turn 23 = .ok (.aaload, 1) := by decide +kernel
theorem dX6_turn_24 : decode cX6_turn 24 = .ok (.getfield 132, 3) := by decide +kernel
theorem dX6_turn_27 : decode cX6_turn 27 = .ok (.lreturn, 1) := by decide +kernel
theorem dX6_turn_28 : decode cX6_turn 28 = .ok (.iload_n 2, 1) := by decide +kernel
theorem dX6_turn_29 : decode cX6_turn 29 = .ok (.iconst 1, 1) := by decide +kernel
theorem dX6_turn_30 : decode cX6_turn 30 = .ok (.if_icmp .ne 27, 3) := by decide +kernel
theorem dX6_turn_33 : decode cX6_turn 33 = .ok (.aload_n 0, 1) := by decide +kernel
theorem dX6_turn_34 : decode cX6_turn 34 = .ok (.getfield 10, 3) := by decide +kernel
theorem dX6_turn_37 : decode cX6_turn 37 = .ok (.iload_n 1, 1) := by decide +kernel
theorem dX6_turn_38 : decode cX6_turn 38 = .ok (.invokevirtual 38, 3) := by decide +kernel
theorem dX6_turn_41 : decode cX6_turn 41 = .ok (.ifCond .eq 16, 3) := by decide +kernel
theorem dX6_turn_44 : decode cX6_turn 44 = .ok (.aload_n 0, 1) := by decide +kernel
theorem dX6_turn_45 : decode cX6_turn 45 = .ok (.getfield 10, 3) := by decide +kernel
theorem dX6_turn_48 : decode cX6_turn 48 = .ok (.getfield 67, 3) := by decide +kernel
theorem dX6_turn_51 : decode cX6_turn 51 = .ok (.iload_n 1, 1) := by decide +kernel
theorem dX6_turn_52 : decode cX6_turn 52 = .ok (.aaload, 1) := by decide +kernel
theorem dX6_turn_53 : decode cX6_turn 53 = .ok (.getfield 136, 3) := by decide +kernel
theorem dX6_turn_56 : decode cX6_turn 56 = .ok (.lreturn, 1) := by decide +kernel
theorem dX6_turn_57 : decode cX6_turn 57 = .ok (.aload_n 0, 1) := by decide +kernel
theorem dX6_turn_58 : decode cX6_turn 58 = .ok (.bipush (-2), 2) := by decide +kernel
theorem dX6_turn_60 : decode cX6_turn 60 = .ok (.invokevirtual 42, 3) := by decide +kernel
theorem dX6_turn_63 : decode cX6_turn 63 = .ok (.i2l, 1) := by decide +kernel
theorem dX6_turn_64 : decode cX6_turn 64 = .ok (.lreturn, 1) := by decide +kernel
theorem dX6_child_0 : decode cX6_child 0 = .ok (.aload_n 0, 1) := by decide +kernel
theorem dX6_child_1 : decode cX6_child 1 = .ok (.getfield 10, 3) := by decide +kernel
theorem dX6_child_4 : decode cX6_child 4 = .ok (.iload_n 1, 1) := by decide +kernel
theorem dX6_child_5 : decode cX6_child 5 = .ok (.invokevirtual 38, 3) := by decide +kernel
theorem dX6_child_8 : decode cX6_child 8 = .ok (.ifCond .eq 7, 3) := by decide +kernel
theorem dX6_child_11 : decode cX6_child 11 = .ok (.iload_n 2, 1) := by decide +kernel
theorem dX6_child_12 : decode cX6_child 12 = .ok (.ifCond .ge 10, 3) := by decide +kernel
theorem dX6_child_15 : decode cX6_child 15 = .ok (.aload_n 0, 1) := by decide +kernel
theorem dX6_child_16 : decode cX6_child 16 = .ok (.bipush (-2), 2) := by decide +kernel
theorem dX6_child_18 : decode cX6_child 18 = .ok (.invokevirtual 42, 3) := by decide +kernel
theorem dX6_child_21 : decode cX6_child 21 = .ok (.ireturn, 1) := by decide +kernel
theorem dX6_child_22 : decode cX6_child 22 = .ok (.aload_n 0, 1) := by decide +kernel
theorem dX6_child_23 : decode cX6_child 23 = .ok (.getfield 10, 3) := by decide +kernel
theorem dX6_child_26 : decode cX6_child 26 = .ok (.iload_n 1, 1) := by decide +kernel
theorem dX6_child_27 : decode cX6_child 27 = .ok (.iload_n 2, 1) := by decide +kernel
theorem dX6_child_28 : decode cX6_child 28 = .ok (.invokevirtual 139, 3) := by decide +kernel
theorem dX6_child_31 : decode cX6_child 31 = .ok (.ireturn, 1) := by decide +kernel
theorem dX6_common_0 : decode cX6_common 0 = .ok (.aload_n 0, 1) := by decide +kernel
theorem dX6_common_1 : decode cX6_common 1 = .ok (.getfield 10, 3) := by decide +kernel
theorem dX6_common_4 : decode cX6_common 4 = .ok (.iload_n 1, 1) := by decide +kernel
theorem dX6_common_5 : decode cX6_common 5 = .ok (.invokevirtual 46, 3) := by decide +kernel
theorem dX6_common_8 : decode cX6_common 8 = .ok (.ifCond .eq 14, 3) := by decide +kernel
theorem dX6_common_11 : decode cX6_common 11 = .ok (.aload_n 0, 1) := by decide +kernel
theorem dX6_common_12 : decode cX6_common 12 = .ok (.getfield 10, 3) := by decide +kernel
theorem dX6_common_15 : decode cX6_common 15 = .ok (.iload_n 2, 1) := by decide +kernel
theorem dX6_common_16 : decode cX6_common 16 = .ok (.invokevirtual 46, 3) := by decide +kernel
theorem dX6_common_19 : decode cX6_common 19 = .ok (.ifCond .ne 10, 3) := by decide +kernel
theorem dX6_common_22 : decode cX6_common 22 = .ok (.aload_n 0, 1) := by decide +kernel
theorem dX6_common_23 : decode cX6_common 23 = .ok (.bipush (-2), 2) := by decide +kernel
theorem dX6_common_25 : decode cX6_common 25 = .ok (.invokevirtual 42, 3) := by decide +kernel
theorem dX6_common_28 : decode cX6_common 28 = .ok (.ireturn, 1) := by decide +kernel
theorem dX6_common_29 : decode cX6_common 29 = .ok (.aload_n 0, 1) := by decide +kernel
theorem dX6_common_30 : decode cX6_common 30 = .ok (.getfield 10, 3) := by decide +kernel
theorem dX6_common_33 : decode cX6_common 33 = .ok (.iload_n 1, 1) := by decide +kernel
theorem dX6_common_34 : decode cX6_common 34 = .ok (.iload_n 2, 1) := by decide +kernel
theorem dX6_common_35 : decode cX6_common 35 = .ok (.invokevirtual 142, 3) := by decide +kernel
theorem dX6_common_38 : decode cX6_common 38 = .ok (.ireturn, 1) := by decide +kernel
theorem dX6_readies_0 : decode cX6_readies 0 = .ok (.aload_n 0, 1) := by decide +kernel
theorem dX6_readies_1 : decode cX6_readies 1 = .ok (.getfield 10, 3) := by decide +kernel
theorem dX6_readies_4 : decode cX6_readies 4 = .ok (.iload_n 1, 1) := by decide +kernel
theorem dX6_readies_5 : decode cX6_readies 5 = .ok (.invokevirtual 46, 3) := by decide +kernel
theorem dX6_readies_8 : decode cX6_readies 8 = .ok (.ifCond .eq 14, 3) := by decide +kernel
theorem dX6_readies_11 : decode cX6_readies 11 = .ok (.iload_n 2, 1) := by decide +kernel
theorem dX6_readies_12 : decode cX6_readies 12 = .ok (.iconst 1, 1) := by decide +kernel
theorem dX6_readies_13 : decode cX6_readies 13 = .ok (.sipush 9999, 3) := by decide +kernel
theorem dX6_readies_16 : decode cX6_readies 16 = .ok (.invokestatic 34, 3) := by decide +kernel
theorem dX6_readies_19 : decode cX6_readies 19 = .ok (.ifCond .ne 10, 3) := by decide +kernel
theorem dX6_readies_22 : decode cX6_readies 22 = .ok (.aload_n 0, 1) := by decide +kernel
theorem dX6_readies_23 : decode cX6_readies 23 = .ok (.bipush (-2), 2) := by decide +kernel
theorem dX6_readies_25 : decode cX6_readies 25 = .ok (.invokevirtual 42, 3) := by decide +kernel
theorem dX6_readies_28 : decode cX6_readies 28 = .ok (.ireturn, 1) := by decide +kernel
theorem dX6_readies_29 : decode cX6_readies 29 = .ok (.aload_n 0, 1) := by decide +kernel
theorem dX6_readies_30 : decode cX6_readies 30 = .ok (.getfield 10, 3) := by decide +kernel
theorem dX6_readies_33 : decode cX6_readies 33 = .ok (.getfield 67, 3) := by decide +kernel
theorem dX6_readies_36 : decode cX6_readies 36 = .ok (.iload_n 1, 1) := by decide +kernel
theorem dX6_readies_37 : decode cX6_readies 37 = .ok (.aaload, 1) := by decide +kernel
theorem dX6_readies_38 : decode cX6_readies 38 = .ok (.astore_n 3, 1) := by decide +kernel
theorem dX6_readies_39 : decode cX6_readies 39 = .ok (.aload_n 3, 1) := by decide +kernel
theorem dX6_readies_40 : decode cX6_readies 40 = .ok (.getfield 94, 3) := by decide +kernel
theorem dX6_readies_43 : decode cX6_readies 43 = .ok (.ifCond .eq 15, 3) := by decide +kernel
theorem dX6_readies_46 : decode cX6_readies 46 = .ok (.aload_n 3, 1) := by decide +kernel
theorem dX6_readies_47 : decode cX6_readies 47 = .ok (.getfield 98, 3) := by decide +kernel
theorem dX6_readies_50 : decode cX6_readies 50 = .ok (.iload_n 2, 1) := by decide +kernel
theorem dX6_readies_51 : decode cX6_readies 51 = .ok (.iadd, 1) := by decide +kernel
theorem dX6_readies_52 : decode cX6_readies 52 = .ok (.sipush 9999, 3) := by decide +kernel
theorem dX6_readies_55 : decode cX6_readies 55 = .ok (.if_icmp .le 10, 3) := by decide +kernel
theorem dX6_readies_58 : decode cX6_readies 58 = .ok (.aload_n 0, 1) := by decide +kernel
theorem dX6_readies_59 : decode cX6_readies 59 = .ok (.bipush (-3), 2) := by decide +kernel
theorem dX6_readies_61 : decode cX6_readies 61 = .ok (.invokevirtual 42, 3) := by decide +kernel
theorem dX6_readies_64 : decode cX6_readies 64 = .ok (.ireturn, 1) := by decide +kernel
theorem dX6_readies_65 : decode cX6_readies 65 = .ok (.aload_n 0, 1) := by decide +kernel
theorem dX6_readies_66 : decode cX6_readies 66 = .ok (.invokevirtual 49, 3) := by decide +kernel
theorem dX6_readies_69 : decode cX6_readies 69 = .ok (.aload_n 3, 1) := by decide +kernel
theorem dX6_readies_70 : decode cX6_readies 70 = .ok (.dup, 1) := by decide +kernel
theorem dX6_readies_71 : decode cX6_readies 71 = .ok (.getfield 98, 3) := by decide +kernel
theorem dX6_readies_74 : decode cX6_readies 74 = .ok (.iload_n 2, 1) := by decide +kernel
theorem dX6_readies_75 : decode cX6_readies 75 = .ok (.iadd, 1) := by decide +kernel
theorem dX6_readies_76 : decode cX6_readies 76 = .ok (.putfield 98, 3) := by decide +kernel
theorem dX6_readies_79 : decode cX6_readies 79 = .ok (.aload_n 3, 1) := by decide +kernel
theorem dX6_readies_80 : decode cX6_readies 80 = .ok (.getfield 98, 3) := by decide +kernel
theorem dX6_readies_83 : decode cX6_readies 83 = .ok (.ireturn, 1) := by decide +kernel
theorem dX6_window_0 : decode cX6_window 0 = .ok (.aload_n 0, 1) := by decide +kernel
theorem dX6_window_1 : decode cX6_window 1 = .ok (.getfield 10, 3) := by decide +kernel
theorem dX6_window_4 : decode cX6_window 4 = .ok (.iload_n 1, 1) := by decide +kernel
theorem dX6_window_5 : decode cX6_window 5 = .ok (.invokevirtual 46, 3) := by decide +kernel
theorem dX6_window_8 : decode cX6_window 8 = .ok (.ifCond .eq 14, 3) := by decide +kernel
theorem dX6_window_11 : decode cX6_window 11 = .ok (.iload_n 2, 1) := by decide +kernel
theorem dX6_window_12 : decode cX6_window 12 = .ok (.iconst 0, 1) := by decide +kernel
theorem dX6_window_13 : decode cX6_window 13 = .ok (.sipush 9999, 3) := by decide +kernel
theorem dX6_window_16 : decode cX6_window 16 = .ok (.invokestatic 34, 3) := by decide +kernel
theorem dX6_window_19 : decode cX6_window 19 = .ok (.ifCond .ne 10, 3) := by decide +kernel
theorem dX6_window_22 : decode cX6_window 22 = .ok (.aload_n 0, 1) := by decide +kernel
theorem dX6_window_23 : decode cX6_window 23 = .ok (.bipush (-2), 2) := by decide +kernel
theorem dX6_window_25 : decode cX6_window 25 = .ok (.invokevirtual 42, 3) := by decide +kernel
theorem dX6_window_28 : decode cX6_window 28 = .ok (.ireturn, 1) := by decide +kernel
theorem dX6_window_29 : decode cX6_window 29 = .ok (.aload_n 0, 1) := by decide +kernel
theorem dX6_window_30 : decode cX6_window 30 = .ok (.invokevirtual 49, 3) := by decide +kernel
theorem dX6_window_33 : decode cX6_window 33 = .ok (.aload_n 0, 1) := by decide +kernel
theorem dX6_window_34 : decode cX6_window 34 = .ok (.getfield 10, 3) := by decide +kernel
theorem dX6_window_37 : decode cX6_window 37 = .ok (.getfield 67, 3) := by decide +kernel
theorem dX6_window_40 : decode cX6_window 40 = .ok (.iload_n 1, 1) := by decide +kernel
theorem dX6_window_41 : decode cX6_window 41 = .ok (.aaload, 1) := by decide +kernel
theorem dX6_window_42 : decode cX6_window 42 = .ok (.getfield 145, 3) := by decide +kernel
theorem dX6_window_45 : decode cX6_window 45 = .ok (.istore_n 3, 1) := by decide +kernel
theorem dX6_window_46 : decode cX6_window 46 = .ok (.aload_n 0, 1) := by decide +kernel
theorem dX6_window_47 : decode cX6_window 47 = .ok (.getfield 10, 3) := by decide +kernel
theorem dX6_window_50 : decode cX6_window 50 = .ok (.getfield 67, 3) := by decide +kernel
theorem dX6_window_53 : decode cX6_window 53 = .ok (.iload_n 1, 1) := by decide +kernel
theorem dX6_window_54 : decode cX6_window 54 = .ok (.aaload, 1) := by decide +kernel
theorem dX6_window_55 : decode cX6_window 55 = .ok (.iload_n 2, 1) := by decide +kernel
theorem dX6_window_56 : decode cX6_window 56 = .ok (.putfield 145, 3) := by decide +kernel
theorem dX6_window_59 : decode cX6_window 59 = .ok (.iload_n 3, 1) := by decide +kernel
theorem dX6_window_60 : decode cX6_window 60 = .ok (.ireturn, 1) := by decide +kernel
theorem dX6_settings_0 : decode cX6_settings 0 = .ok (.iload_n 1, 1) := by decide +kernel
theorem dX6_settings_1 : decode cX6_settings 1 = .ok (.iconst 0, 1) := by decide +kernel
theorem dX6_settings_2 : decode cX6_settings 2 = .ok (.iconst 3, 1) := by decide +kernel
theorem dX6_settings_3 : decode cX6_settings 3 = .ok (.invokestatic 34, 3) := by decide +kernel
theorem dX6_settings_6 : decode cX6_settings 6 = .ok (.ifCond .eq 20, 3) := by decide +kernel
theorem dX6_settings_9 : decode cX6_settings 9 = .ok (.iload_n 2, 1) := by decide +kernel
theorem dX6_settings_10 : decode cX6_settings 10 = .ok (.getstatic 148, 3) := by decide +kernel
theorem dX6_settings_13 : decode cX6_settings 13 = .ok (.iload_n 1, 1) := by decide +kernel
theorem dX6_settings_14 : decode cX6_settings 14 = .ok (.iaload, 1) := by decide +kernel
theorem dX6_settings_15 : decode cX6_settings 15 = .ok (.getstatic 151, 3) := by decide +kernel
theorem dX6_settings_18 : decode cX6_settings 18 = .ok (.iload_n 1, 1) := by decide +kernel
theorem dX6_settings_19 : decode cX6_settings 19 = .ok (.iaload, 1) := by decide +kernel
theorem dX6_settings_20 : decode cX6_settings 20 = .ok (.invokestatic 34, 3) := by decide +kernel
theorem dX6_settings_23 : decode cX6_settings 23 = .ok (.ifCond .ne 10, 3) := by decide +kernel
theorem dX6_settings_26 : decode cX6_settings 26 = .ok (.aload_n 0, 1) := by decide +kernel
theorem dX6_settings_27 : decode cX6_settings 27 = .ok (.bipush (-2), 2) := by decide +kernel
theorem dX6_settings_29 : decode cX6_settings 29 = .ok (.invokevirtual 42, 3) := by decide +kernel
theorem dX6_settings_32 : decode cX6_settings 32 = .ok (.ireturn, 1) := by decide +kernel
theorem dX6_settings_33 : decode cX6_settings 33 = .ok (.aload_n 0, 1) := by decide +kernel
theorem dX6_settings_34 : decode cX6_settings 34 = .ok (.invokevirtual 49, 3) := by decide +kernel
theorem dX6_settings_37 : decode cX6_settings 37 = .ok (.aload_n 0, 1) := by decide +kernel
theorem dX6_settings_38 : decode cX6_settings 38 = .ok (.getfield 10, 3) := by decide +kernel
theorem dX6_settings_41 : decode cX6_settings 41 = .ok (.iload_n 1, 1) := by decide +kernel
theorem dX6_settings_42 : decode cX6_settings 42 = .ok (.iload_n 2, 1) := by decide +kernel
theorem dX6_settings_43 : decode cX6_settings 43 = .ok (.invokevirtual 154, 3) := by decide +kernel
theorem dX6_settings_46 : decode cX6_settings 46 = .ok (.ireturn, 1) := by decide +kernel
theorem dX6_sends_0 : decode cX6_sends 0 = .ok (.iload_n 1, 1) := by decide +kernel
theorem dX6_sends_1 : decode cX6_sends 1 = .ok (.iconst 1, 1) := by decide +kernel
theorem dX6_sends_2 : decode cX6_sends 2 = .ok (.bipush 100, 2) := by decide +kernel
theorem dX6_sends_4 : decode cX6_sends 4 = .ok (.invokestatic 34, 3) := by decide +kernel
theorem dX6_sends_7 : decode cX6_sends 7 = .ok (.ifCond .ne 10, 3) := by decide +kernel
theorem dX6_sends_10 : decode cX6_sends 10 = .ok (.aload_n 0, 1) := by decide +kernel
theorem dX6_sends_11 : decode cX6_sends 11 = .ok (.bipush (-2), 2) := by decide +kernel
theorem dX6_sends_13 : decode cX6_sends 13 = .ok (.invokevirtual 42, 3) := by decide +kernel
theorem dX6_sends_16 : decode cX6_sends 16 = .ok (.ireturn, 1) := by decide +kernel
theorem dX6_sends_17 : decode cX6_sends 17 = .ok (.aload_n 0, 1) := by decide +kernel
theorem dX6_sends_18 : decode cX6_sends 18 = .ok (.invokevirtual 49, 3) := by decide +kernel
theorem dX6_sends_21 : decode cX6_sends 21 = .ok (.iconst 0, 1) := by decide +kernel
theorem dX6_sends_22 : decode cX6_sends 22 = .ok (.istore_n 2, 1) := by decide +kernel
theorem dX6_sends_23 : decode cX6_sends 23 = .ok (.iload_n 2, 1) := by decide +kernel
theorem dX6_sends_24 : decode cX6_sends 24 = .ok (.iload_n 1, 1) := by decide +kernel
theorem dX6_sends_25 : decode cX6_sends 25 = .ok (.if_icmp .ge 19, 3) := by decide +kernel
theorem dX6_sends_28 : decode cX6_sends 28 = .ok (.aload_n 0, 1) := by decide +kernel
theorem dX6_sends_29 : decode cX6_sends 29 = .ok (.getfield 10, 3) := by decide +kernel
theorem dX6_sends_32 : decode cX6_sends 32 = .ok (.invokestatic 157, 3) := by decide +kernel
theorem dX6_sends_35 : decode cX6_sends 35 = .ok (.ifCond .eq 9, 3) := by decide +kernel
theorem dX6_sends_38 : decode cX6_sends 38 = .ok (.iinc 2 1, 3) := by decide +kernel
theorem dX6_sends_41 : decode cX6_sends 41 = .ok (.goto (-18), 3) := by decide +kernel
theorem dX6_sends_44 : decode cX6_sends 44 = .ok (.iload_n 2, 1) := by decide +kernel
theorem dX6_sends_45 : decode cX6_sends 45 = .ok (.ireturn, 1) := by decide +kernel
theorem dX6_next_0 : decode cX6_next 0 = .ok (.aload_n 0, 1) := by decide +kernel
theorem dX6_next_1 : decode cX6_next 1 = .ok (.getfield 10, 3) := by decide +kernel
theorem dX6_next_4 : decode cX6_next 4 = .ok (.invokevirtual 119, 3) := by decide +kernel
theorem dX6_next_7 : decode cX6_next 7 = .ok (.istore_n 1, 1) := by decide +kernel
theorem dX6_next_8 : decode cX6_next 8 = .ok (.aload_n 0, 1) := by decide +kernel
theorem dX6_next_9 : decode cX6_next 9 = .ok (.getfield 10, 3) := by decide +kernel
theorem dX6_next_12 : decode cX6_next 12 = .ok (.iload_n 1, 1) := by decide +kernel
theorem dX6_next_13 : decode cX6_next 13 = .ok (.aload_n 0, 1) := by decide +kernel
theorem dX6_next_14 : decode cX6_next 14 = .ok (.getfield 10, 3) := by decide +kernel
theorem dX6_next_17 : decode cX6_next 17 = .ok (.iload_n 1, 1) := by decide +kernel
theorem dX6_next_18 : decode cX6_next 18 = .ok (.invokevirtual 123, 3) := by decide +kernel
theorem dX6_next_21 : decode cX6_next 21 = .ok (.invokestatic 163, 3) := by decide +kernel
theorem dX6_next_24 : decode cX6_next 24 = .ok (.ireturn, 1) := by decide +kernel
theorem dX6_share_0 : decode cX6_share 0 = .ok (.aload_n 0, 1) := by decide +kernel
theorem dX6_share_1 : decode cX6_share 1 = .ok (.getfield 10, 3) := by decide +kernel
theorem dX6_share_4 : decode cX6_share 4 = .ok (.iload_n 1, 1) := by decide +kernel
theorem dX6_share_5 : decode cX6_share 5 = .ok (.invokevirtual 46, 3) := by decide +kernel
theorem dX6_share_8 : decode cX6_share 8 = .ok (.ifCond .eq 12, 3) := by decide +kernel
theorem dX6_share_11 : decode cX6_share 11 = .ok (.iload_n 2, 1) := by decide +kernel
theorem dX6_share_12 : decode cX6_share 12 = .ok (.iconst 0, 1) := by decide +kernel
theorem dX6_share_13 : decode cX6_share 13 = .ok (.iconst 1, 1) := by decide +kernel
theorem dX6_share_14 : decode cX6_share 14 = .ok (.invokestatic 34, 3) := by decide +kernel
theorem dX6_share_17 : decode cX6_share 17 = .ok (.ifCond .ne 11, 3) := by decide +kernel
theorem dX6_share_20 : decode cX6_share 20 = .ok (.aload_n 0, 1) := by decide +kernel
theorem dX6_share_21 : decode cX6_share 21 = .ok (.bipush (-2), 2) := by decide +kernel
theorem dX6_share_23 : decode cX6_share 23 = .ok (.invokevirtual 42, 3) := by decide +kernel
theorem dX6_share_26 : decode cX6_share 26 = .ok (.i2l, 1) := by decide +kernel
theorem dX6_share_27 : decode cX6_share 27 = .ok (.lreturn, 1) := by decide +kernel
theorem dX6_share_28 : decode cX6_share 28 = .ok (.aload_n 0, 1) := by decide +kernel
theorem dX6_share_29 : decode cX6_share 29 = .ok (.getfield 10, 3) := by decide +kernel
theorem dX6_share_32 : decode cX6_share 32 = .ok (.iload_n 1, 1) := by decide +kernel
theorem dX6_share_33 : decode cX6_share 33 = .ok (.iload_n 2, 1) := by decide +kernel
theorem dX6_share_34 : decode cX6_share 34 = .ok (.ifCond .ne 7, 3) := by decide +kernel
theorem dX6_share_37 : decode cX6_share 37 = .ok (.iconst 1, 1) := by decide +kernel
theorem dX6_share_38 : decode cX6_share 38 = .ok (.goto 4, 3) := by decide +kernel
theorem dX6_share_41 : decode cX6_share 41 = .ok (.iconst 0, 1) := by decide +kernel
theorem dX6_share_42 : decode cX6_share 42 = .ok (.invokestatic 167, 3) := by decide +kernel
theorem dX6_share_45 : decode cX6_share 45 = .ok (.lreturn, 1) := by decide +kernel
theorem dX6_all_0 : decode cX6_all 0 = .ok (.iload_n 1, 1) := by decide +kernel
theorem dX6_all_1 : decode cX6_all 1 = .ok (.tableswitch 106 0 6 #[43, 51, 59, 74, 82, 90, 98], 43) := by decide +kernel
theorem dX6_all_44 : decode cX6_all 44 = .ok (.aload_n 0, 1) := by decide +kernel
theorem dX6_all_45 : decode cX6_all 45 = .ok (.getfield 10, 3) := by decide +kernel
theorem dX6_all_48 : decode cX6_all 48 = .ok (.getfield 104, 3) := by decide +kernel
theorem dX6_all_51 : decode cX6_all 51 = .ok (.ireturn, 1) := by decide +kernel
theorem dX6_all_52 : decode cX6_all 52 = .ok (.aload_n 0, 1) := by decide +kernel
theorem dX6_all_53 : decode cX6_all 53 = .ok (.getfield 10, 3) := by decide +kernel
theorem dX6_all_56 : decode cX6_all 56 = .ok (.invokevirtual 119, 3) := by decide +kernel
theorem dX6_all_59 : decode cX6_all 59 = .ok (.ireturn, 1) := by decide +kernel
theorem dX6_all_60 : decode cX6_all 60 = .ok (.aload_n 0, 1) := by decide +kernel
theorem dX6_all_61 : decode cX6_all 61 = .ok (.getfield 10, 3) := by decide +kernel
theorem dX6_all_64 : decode cX6_all 64 = .ok (.aload_n 0, 1) := by decide +kernel
theorem dX6_all_65 : decode cX6_all 65 = .ok (.getfield 10, 3) := by decide +kernel
theorem dX6_all_68 : decode cX6_all 68 = .ok (.invokevirtual 119, 3) := by decide +kernel
theorem dX6_all_71 : decode cX6_all 71 = .ok (.invokevirtual 123, 3) := by decide +kernel
theorem dX6_all_74 : decode cX6_all 74 = .ok (.ireturn, 1) := by decide +kernel
theorem dX6_all_75 : decode cX6_all 75 = .ok (.aload_n 0, 1) := by decide +kernel
theorem dX6_all_76 : decode cX6_all 76 = .ok (.getfield 10, 3) := by decide +kernel
theorem dX6_all_79 : decode cX6_all 79 = .ok (.invokevirtual 173, 3) := by decide +kernel
theorem dX6_all_82 : decode cX6_all 82 = .ok (.ireturn, 1) := by decide +kernel
theorem dX6_all_83 : decode cX6_all 83 = .ok (.aload_n 0, 1) := by decide +kernel
theorem dX6_all_84 : decode cX6_all 84 = .ok (.getfield 10, 3) := by decide +kernel
theorem dX6_all_87 : decode cX6_all 87 = .ok (.invokevirtual 176, 3) := by decide +kernel
theorem dX6_all_90 : decode cX6_all 90 = .ok (.ireturn, 1) := by decide +kernel
theorem dX6_all_91 : decode cX6_all 91 = .ok (.aload_n 0, 1) := by decide +kernel
theorem dX6_all_92 : decode cX6_all 92 = .ok (.getfield 10, 3) := by decide +kernel
theorem dX6_all_95 : decode cX6_all 95 = .ok (.getfield 179, 3) := by decide +kernel
theorem dX6_all_98 : decode cX6_all 98 = .ok (.ireturn, 1) := by decide +kernel
theorem dX6_all_99 : decode cX6_all 99 = .ok (.aload_n 0, 1) := by decide +kernel
theorem dX6_all_100 : decode cX6_all 100 = .ok (.getfield 10, 3) := by decide +kernel
theorem dX6_all_103 : decode cX6_all 103 = .ok (.getfield 182, 3) := by decide +kernel
theorem dX6_all_106 : decode cX6_all 106 = .ok (.ireturn, 1) := by decide +kernel
theorem dX6_all_107 : decode cX6_all 107 = .ok (.aload_n 0, 1) := by decide +kernel
theorem dX6_all_108 : decode cX6_all 108 = .ok (.bipush (-2), 2) := by decide +kernel
theorem dX6_all_110 : decode cX6_all 110 = .ok (.invokevirtual 42, 3) := by decide +kernel
theorem dX6_all_113 : decode cX6_all 113 = .ok (.ireturn, 1) := by decide +kernel
theorem dX6_type_0 : decode cX6_type 0 = .ok (.iload_n 1, 1) := by decide +kernel
theorem dX6_type_1 : decode cX6_type 1 = .ok (.iconst 0, 1) := by decide +kernel
theorem dX6_type_2 : decode cX6_type 2 = .ok (.bipush 127, 2) := by decide +kernel
theorem dX6_type_4 : decode cX6_type 4 = .ok (.invokestatic 34, 3) := by decide +kernel
theorem dX6_type_7 : decode cX6_type 7 = .ok (.ifCond .ne 10, 3) := by decide +kernel
theorem dX6_type_10 : decode cX6_type 10 = .ok (.aload_n 0, 1) := by decide +kernel
theorem dX6_type_11 : decode cX6_type 11 = .ok (.bipush (-2), 2) := by decide +kernel
theorem dX6_type_13 : decode cX6_type 13 = .ok (.invokevirtual 42, 3) := by decide +kernel
theorem dX6_type_16 : decode cX6_type 16 = .ok (.ireturn, 1) := by decide +kernel
theorem dX6_type_17 : decode cX6_type 17 = .ok (.aload_n 0, 1) := by decide +kernel
theorem dX6_type_18 : decode cX6_type 18 = .ok (.getfield 23, 3) := by decide +kernel
theorem dX6_type_21 : decode cX6_type 21 = .ok (.getfield 185, 3) := by decide +kernel
theorem dX6_type_24 : decode cX6_type 24 = .ok (.bipush 120, 2) := by decide +kernel
theorem dX6_type_26 : decode cX6_type 26 = .ok (.if_icmp .lt 10, 3) := by decide +kernel
theorem dX6_type_29 : decode cX6_type 29 = .ok (.aload_n 0, 1) := by decide +kernel
theorem dX6_type_30 : decode cX6_type 30 = .ok (.bipush (-4), 2) := by decide +kernel
theorem dX6_type_32 : decode cX6_type 32 = .ok (.invokevirtual 42, 3) := by decide +kernel
theorem dX6_type_35 : decode cX6_type 35 = .ok (.ireturn, 1) := by decide +kernel
theorem dX6_type_36 : decode cX6_type 36 = .ok (.aload_n 0, 1) := by decide +kernel
theorem dX6_type_37 : decode cX6_type 37 = .ok (.getfield 23, 3) := by decide +kernel
theorem dX6_type_40 : decode cX6_type 40 = .ok (.iload_n 1, 1) := by decide +kernel
theorem dX6_type_41 : decode cX6_type 41 = .ok (.invokevirtual 188, 3) := by decide +kernel
theorem dX6_type_44 : decode cX6_type 44 = .ok (.aload_n 0, 1) := by decide +kernel
theorem dX6_type_45 : decode cX6_type 45 = .ok (.getfield 23, 3) := by decide +kernel
theorem dX6_type_48 : decode cX6_type 48 = .ok (.getfield 185, 3) := by decide +kernel
theorem dX6_type_51 : decode cX6_type 51 = .ok (.ireturn, 1) := by decide +kernel
theorem dX6_clear_0 : decode cX6_clear 0 = .ok (.aload_n 0, 1) := by decide +kernel
theorem dX6_clear_1 : decode cX6_clear 1 = .ok (.getfield 23, 3) := by decide +kernel
theorem dX6_clear_4 : decode cX6_clear 4 = .ok (.getfield 185, 3) := by decide +kernel
theorem dX6_clear_7 : decode cX6_clear 7 = .ok (.istore_n 1, 1) := by decide +kernel
theorem dX6_clear_8 : decode cX6_clear 8 = .ok (.aload_n 0, 1) := by decide +kernel
theorem dX6_clear_9 : decode cX6_clear 9 = .ok (.getfield 23, 3) := by decide +kernel
theorem dX6_clear_12 : decode cX6_clear 12 = .ok (.iconst 0, 1) := by decide +kernel
theorem dX6_clear_13 : decode cX6_clear 13 = .ok (.putfield 185, 3) := by decide +kernel
theorem dX6_clear_16 : decode cX6_clear 16 = .ok (.iload_n 1, 1) := by decide +kernel
theorem dX6_clear_17 : decode cX6_clear 17 = .ok (.ireturn, 1) := by decide +kernel
theorem dX6_builds_0 : decode cX6_builds 0 = .ok (.aload_n 0, 1) := by decide +kernel
theorem dX6_builds_1 : decode cX6_builds 1 = .ok (.getfield 23, 3) := by decide +kernel
theorem dX6_builds_4 : decode cX6_builds 4 = .ok (.invokevirtual 192, 3) := by decide +kernel
theorem dX6_builds_7 : decode cX6_builds 7 = .ok (.istore_n 1, 1) := by decide +kernel
theorem dX6_builds_8 : decode cX6_builds 8 = .ok (.iload_n 1, 1) := by decide +kernel
theorem dX6_builds_9 : decode cX6_builds 9 = .ok (.iconst (-1), 1) := by decide +kernel
theorem dX6_builds_10 : decode cX6_builds 10 = .ok (.if_icmp .eq 8, 3) := by decide +kernel
theorem dX6_builds_13 : decode cX6_builds 13 = .ok (.bipush (-10), 2) := by decide +kernel
theorem dX6_builds_15 : decode cX6_builds 15 = .ok (.iload_n 1, 1) := by decide +kernel
theorem dX6_builds_16 : decode cX6_builds 16 = .ok (.isub, 1) := by decide +kernel
theorem dX6_builds_17 : decode cX6_builds 17 = .ok (.ireturn, 1) := by decide +kernel
theorem dX6_builds_18 : decode cX6_builds 18 = .ok (.aload_n 0, 1) := by decide +kernel
theorem dX6_builds_19 : decode cX6_builds 19 = .ok (.invokevirtual 49, 3) := by decide +kernel
theorem dX6_builds_22 : decode cX6_builds 22 = .ok (.aload_n 0, 1) := by decide +kernel
theorem dX6_builds_23 : decode cX6_builds 23 = .ok (.getfield 10, 3) := by decide +kernel
theorem dX6_builds_26 : decode cX6_builds 26 = .ok (.invokevirtual 195, 3) := by decide +kernel
theorem dX6_builds_29 : decode cX6_builds 29 = .ok (.iconst 0, 1) := by decide +kernel
theorem dX6_builds_30 : decode cX6_builds 30 = .ok (.istore_n 2, 1) := by decide +kernel
theorem dX6_builds_31 : decode cX6_builds 31 = .ok (.iload_n 2, 1) := by decide +kernel
theorem dX6_builds_32 : decode cX6_builds 32 = .ok (.aload_n 0, 1) := by decide +kernel
theorem dX6_builds_33 : decode cX6_builds 33 = .ok (.getfield 23, 3) := by decide +kernel
theorem dX6_builds_36 : decode cX6_builds 36 = .ok (.getfield 198, 3) := by decide +kernel
theorem dX6_builds_39 : decode cX6_builds 39 = .ok (.if_icmp .ge 59, 3) := by decide +kernel
theorem dX6_builds_42 : decode cX6_builds 42 = .ok (.aload_n 0, 1) := by decide +kernel
theorem dX6_builds_43 : decode cX6_builds 43 = .ok (.getfield 10, 3) := by decide +kernel
theorem dX6_builds_46 : decode cX6_builds 46 = .ok (.aload_n 0, 1) := by decide +kernel
theorem dX6_builds_47 : decode cX6_builds 47 = .ok (.getfield 23, 3) := by decide +kernel
theorem dX6_builds_50 : decode cX6_builds 50 = .ok (.getfield 201, 3) := by decide +kernel
theorem dX6_builds_53 : decode cX6_builds 53 = .ok (.iload_n 2, 1) := by decide +kernel
theorem dX6_builds_54 : decode cX6_builds 54 = .ok (.iaload, 1) := by decide +kernel
theorem dX6_builds_55 : decode cX6_builds 55 = .ok (.aload_n 0, 1) := by decide +kernel
theorem dX6_builds_56 : decode cX6_builds 56 = .ok (.getfield 23, 3) := by decide +kernel
theorem dX6_builds_59 : decode cX6_builds 59 = .ok (.getfield 204, 3) := by decide +kernel
theorem dX6_builds_62 : decode cX6_builds 62 = .ok (.iload_n 2, 1) := by decide +kernel
theorem dX6_builds_63 : decode cX6_builds 63 = .ok (.iaload, 1) := by decide +kernel
theorem dX6_builds_64 : decode cX6_builds 64 = .ok (.invokevirtual 52, 3) := by decide +kernel
theorem dX6_builds_67 : decode cX6_builds 67 = .ok (.aload_n 0, 1) := by decide +kernel
theorem dX6_builds_68 : decode cX6_builds 68 = .ok (.getfield 10, 3) := by decide +kernel
theorem dX6_builds_71 : decode cX6_builds 71 = .ok (.aload_n 0, 1) := by decide +kernel
theorem dX6_builds_72 : decode cX6_builds 72 = .ok (.getfield 23, 3) := by decide +kernel
theorem dX6_builds_75 : decode cX6_builds 75 = .ok (.getfield 201, 3) := by decide +kernel
theorem dX6_builds_78 : decode cX6_builds 78 = .ok (.iload_n 2, 1) := by decide +kernel
theorem dX6_builds_79 : decode cX6_builds 79 = .ok (.iaload, 1) := by decide +kernel
theorem dX6_builds_80 : decode cX6_builds 80 = .ok (.aload_n 0, 1) := by decide +kernel
theorem dX6_builds_81 : decode cX6_builds 81 = .ok (.getfield 23, 3) := by decide +kernel
theorem dX6_builds_84 : decode cX6_builds 84 = .ok (.getfield 207, 3) := by decide +kernel
theorem dX6_builds_87 : decode cX6_builds 87 = .ok (.iload_n 2, 1) := by decide +kernel
theorem dX6_builds_88 : decode cX6_builds 88 = .ok (.iaload, 1) := by decide +kernel
theorem dX6_builds_89 : decode cX6_builds 89 = .ok (.invokevirtual 77, 3) := by decide +kernel
theorem dX6_builds_92 : decode cX6_builds 92 = .ok (.iinc 2 1, 3) := by decide +kernel
theorem dX6_builds_95 : decode cX6_builds 95 = .ok (.goto (-64), 3) := by decide +kernel
theorem dX6_builds_98 : decode cX6_builds 98 = .ok (.aload_n 0, 1) := by decide +kernel
theorem dX6_builds_99 : decode cX6_builds 99 = .ok (.getfield 23, 3) := by decide +kernel
theorem dX6_builds_102 : decode cX6_builds 102 = .ok (.getfield 198, 3) := by decide +kernel
theorem dX6_builds_105 : decode cX6_builds 105 = .ok (.ireturn, 1) := by decide +kernel
theorem dX6_shown_0 : decode cX6_shown 0 = .ok (.iload_n 1, 1) := by decide +kernel
theorem dX6_shown_1 : decode cX6_shown 1 = .ok (.ifCond .ge 10, 3) := by decide +kernel
theorem dX6_shown_4 : decode cX6_shown 4 = .ok (.aload_n 0, 1) := by decide +kernel
theorem dX6_shown_5 : decode cX6_shown 5 = .ok (.bipush (-2), 2) := by decide +kernel
theorem dX6_shown_7 : decode cX6_shown 7 = .ok (.invokevirtual 42, 3) := by decide +kernel
theorem dX6_shown_10 : decode cX6_shown 10 = .ok (.ireturn, 1) := by decide +kernel
theorem dX6_shown_11 : decode cX6_shown 11 = .ok (.aload_n 0, 1) := by decide +kernel
theorem dX6_shown_12 : decode cX6_shown 12 = .ok (.getfield 30, 3) := by decide +kernel
theorem dX6_shown_15 : decode cX6_shown 15 = .ok (.aload_n 0, 1) := by decide +kernel
theorem dX6_shown_16 : decode cX6_shown 16 = .ok (.getfield 10, 3) := by decide +kernel
theorem dX6_shown_19 : decode cX6_shown 19 = .ok (.invokevirtual 210, 3) := by decide +kernel
theorem dX6_shown_22 : decode cX6_shown 22 = .ok (.iload_n 1, 1) := by decide +kernel
theorem dX6_shown_23 : decode cX6_shown 23 = .ok (.aload_n 0, 1) := by decide +kernel
theorem dX6_shown_24 : decode cX6_shown 24 = .ok (.getfield 30, 3) := by decide +kernel
theorem dX6_shown_27 : decode cX6_shown 27 = .ok (.getfield 214, 3) := by decide +kernel
theorem dX6_shown_30 : decode cX6_shown 30 = .ok (.if_icmp .ge 15, 3) := by decide +kernel
theorem dX6_shown_33 : decode cX6_shown 33 = .ok (.aload_n 0, 1) := by decide +kernel
theorem dX6_shown_34 : decode cX6_shown 34 = .ok (.getfield 30, 3) := by decide +kernel
theorem dX6_shown_37 : decode cX6_shown 37 = .ok (.getfield 215, 3) := by decide +kernel
theorem dX6_shown_40 : decode cX6_shown 40 = .ok (.iload_n 1, 1) := by decide +kernel
theorem dX6_shown_41 : decode cX6_shown 41 = .ok (.iaload, 1) := by decide +kernel
theorem dX6_shown_42 : decode cX6_shown 42 = .ok (.goto 4, 3) := by decide +kernel
theorem dX6_shown_45 : decode cX6_shown 45 = .ok (.iconst (-1), 1) := by decide +kernel
theorem dX6_shown_46 : decode cX6_shown 46 = .ok (.ireturn, 1) := by decide +kernel
theorem dX6_back_0 : decode cX6_back 0 = .ok (.aload_n 0, 1) := by decide +kernel
theorem dX6_back_1 : decode cX6_back 1 = .ok (.getfield 218, 3) := by decide +kernel
theorem dX6_back_4 : decode cX6_back 4 = .ok (.ifCond .ne 10, 3) := by decide +kernel
theorem dX6_back_7 : decode cX6_back 7 = .ok (.aload_n 0, 1) := by decide +kernel
theorem dX6_back_8 : decode cX6_back 8 = .ok (.bipush (-3), 2) := by decide +kernel
theorem dX6_back_10 : decode cX6_back 10 = .ok (.invokevirtual 42, 3) := by decide +kernel
theorem dX6_back_13 : decode cX6_back 13 = .ok (.ireturn, 1) := by decide +kernel
theorem dX6_back_14 : decode cX6_back 14 = .ok (.aload_n 0, 1) := by decide +kernel
theorem dX6_back_15 : decode cX6_back 15 = .ok (.dup, 1) := by decide +kernel
theorem dX6_back_16 : decode cX6_back 16 = .ok (.getfield 218, 3) := by decide +kernel
theorem dX6_back_19 : decode cX6_back 19 = .ok (.iconst 1, 1) := by decide +kernel
theorem dX6_back_20 : decode cX6_back 20 = .ok (.isub, 1) := by decide +kernel
theorem dX6_back_21 : decode cX6_back 21 = .ok (.putfield 218, 3) := by decide +kernel
theorem dX6_back_24 : decode cX6_back 24 = .ok (.aload_n 0, 1) := by decide +kernel
theorem dX6_back_25 : decode cX6_back 25 = .ok (.getfield 10, 3) := by decide +kernel
theorem dX6_back_28 : decode cX6_back 28 = .ok (.aload_n 0, 1) := by decide +kernel
theorem dX6_back_29 : decode cX6_back 29 = .ok (.getfield 16, 3) := by decide +kernel
theorem dX6_back_32 : decode cX6_back 32 = .ok (.aload_n 0, 1) := by decide +kernel
theorem dX6_back_33 : decode cX6_back 33 = .ok (.getfield 221, 3) := by decide +kernel
theorem dX6_back_36 : decode cX6_back 36 = .ok (.aload_n 0, 1) := by decide +kernel
theorem dX6_back_37 : decode cX6_back 37 = .ok (.getfield 218, 3) := by decide +kernel
theorem dX6_back_40 : decode cX6_back 40 = .ok (.iadd, 1) := by decide +kernel
theorem dX6_back_41 : decode cX6_back 41 = .ok (.iconst 5, 1) := by decide +kernel
theorem dX6_back_42 : decode cX6_back 42 = .ok (.irem, 1) := by decide +kernel
theorem dX6_back_43 : decode cX6_back 43 = .ok (.aaload, 1) := by decide +kernel
theorem dX6_back_44 : decode cX6_back 44 = .ok (.invokevirtual 224, 3) := by decide +kernel
theorem dX6_back_47 : decode cX6_back 47 = .ok (.aload_n 0, 1) := by decide +kernel
theorem dX6_back_48 : decode cX6_back 48 = .ok (.getfield 218, 3) := by decide +kernel
theorem dX6_back_51 : decode cX6_back 51 = .ok (.ireturn, 1) := by decide +kernel
theorem dX6_told_0 : decode cX6_told 0 = .ok (.iload_n 1, 1) := by decide +kernel
theorem dX6_told_1 : decode cX6_told 1 = .ok (.tableswitch 123 0 9 #[55, 60, 65, 70, 78, 86, 94, 102, 110, 118], 55) := by decide +kernel
theorem dX6_told_56 : decode cX6_told 56 = .ok (.aload_n 0, 1) := by decide +kernel
theorem dX6_told_57 : decode cX6_told 57 = .ok (.getfield 227, 3) := by decide +kernel
theorem dX6_told_60 : decode cX6_told 60 = .ok (.ireturn, 1) := by decide +kernel
theorem dX6_told_61 : decode cX6_told 61 = .ok (.aload_n 0, 1) := by decide +kernel
theorem dX6_told_62 : decode cX6_told 62 = .ok (.getfield 230, 3) := by decide +kernel
theorem dX6_told_65 : decode cX6_told 65 = .ok (.ireturn, 1) := by decide +kernel
theorem dX6_told_66 : decode cX6_told 66 = .ok (.aload_n 0, 1) := by decide +kernel
theorem dX6_told_67 : decode cX6_told 67 = .ok (.getfield 233, 3) := by decide +kernel
theorem dX6_told_70 : decode cX6_told 70 = .ok (.ireturn, 1) := by decide +kernel
theorem dX6_told_71 : decode cX6_told 71 = .ok (.aload_n 0, 1) := by decide +kernel
theorem dX6_told_72 : decode cX6_told 72 = .ok (.getfield 23, 3) := by decide +kernel
theorem dX6_told_75 : decode cX6_told 75 = .ok (.getfield 185, 3) := by decide +kernel
theorem dX6_told_78 : decode cX6_told 78 = .ok (.ireturn, 1) := by decide +kernel
theorem dX6_told_79 : decode cX6_told 79 = .ok (.aload_n 0, 1) := by decide +kernel
theorem dX6_told_80 : decode cX6_told 80 = .ok (.getfield 10, 3) := by decide +kernel
theorem dX6_told_83 : decode cX6_told 83 = .ok (.getfield 236, 3) := by decide +kernel
theorem dX6_told_86 : decode cX6_told 86 = .ok (.ireturn, 1) := by decide +kernel
theorem dX6_told_87 : decode cX6_told 87 = .ok (.aload_n 0, 1) := by decide +kernel
theorem dX6_told_88 : decode cX6_told 88 = .ok (.getfield 10, 3) := by decide +kernel
theorem dX6_told_91 : decode cX6_told 91 = .ok (.getfield 239, 3) := by decide +kernel
theorem dX6_told_94 : decode cX6_told 94 = .ok (.ireturn, 1) := by decide +kernel
theorem dX6_told_95 : decode cX6_told 95 = .ok (.aload_n 0, 1) := by decide +kernel
theorem dX6_told_96 : decode cX6_told 96 = .ok (.getfield 10, 3) := by decide +kernel
theorem dX6_told_99 : decode cX6_told 99 = .ok (.getfield 242, 3) := by decide +kernel
theorem dX6_told_102 : decode cX6_told 102 = .ok (.ireturn, 1) := by decide +kernel
theorem dX6_told_103 : decode cX6_told 103 = .ok (.aload_n 0, 1) := by decide +kernel
theorem dX6_told_104 : decode cX6_told 104 = .ok (.getfield 10, 3) := by decide +kernel
theorem dX6_told_107 : decode cX6_told 107 = .ok (.getfield 245, 3) := by decide +kernel
theorem dX6_told_110 : decode cX6_told 110 = .ok (.ireturn, 1) := by decide +kernel
theorem dX6_told_111 : decode cX6_told 111 = .ok (.aload_n 0, 1) := by decide +kernel
theorem dX6_told_112 : decode cX6_told 112 = .ok (.getfield 10, 3) := by decide +kernel
theorem dX6_told_115 : decode cX6_told 115 = .ok (.getfield 248, 3) := by decide +kernel
theorem dX6_told_118 : decode cX6_told 118 = .ok (.ireturn, 1) := by decide +kernel
theorem dX6_told_119 : decode cX6_told 119 = .ok (.aload_n 0, 1) := by decide +kernel
theorem dX6_told_120 : decode cX6_told 120 = .ok (.getfield 218, 3) := by decide +kernel
theorem dX6_told_123 : decode cX6_told 123 = .ok (.ireturn, 1) := by decide +kernel
theorem dX6_told_124 : decode cX6_told 124 = .ok (.aload_n 0, 1) := by decide +kernel
theorem dX6_told_125 : decode cX6_told 125 = .ok (.bipush (-2), 2) := by decide +kernel
theorem dX6_told_127 : decode cX6_told 127 = .ok (.invokevirtual 42, 3) := by decide +kernel
theorem dX6_told_130 : decode cX6_told 130 = .ok (.ireturn, 1) := by decide +kernel
theorem dX6_digest_0 : decode cX6_digest 0 = .ok (.ldc2_w 251, 3) := by decide +kernel
theorem dX6_digest_3 : decode cX6_digest 3 = .ok (.lstore_n 1, 1) := by decide +kernel
theorem dX6_digest_4 : decode cX6_digest 4 = .ok (.iconst 0, 1) := by decide +kernel
theorem dX6_digest_5 : decode cX6_digest 5 = .ok (.istore_n 3, 1) := by decide +kernel
theorem dX6_digest_6 : decode cX6_digest 6 = .ok (.iload_n 3, 1) := by decide +kernel
theorem dX6_digest_7 : decode cX6_digest 7 = .ok (.bipush 9, 2) := by decide +kernel
theorem dX6_digest_9 : decode cX6_digest 9 = .ok (.if_icmp .gt 22, 3) := by decide +kernel
theorem dX6_digest_12 : decode cX6_digest 12 = .ok (.ldc2_w 253, 3) := by decide +kernel
theorem dX6_digest_15 : decode cX6_digest 15 = .ok (.lload_n 1, 1) := by decide +kernel
theorem dX6_digest_16 : decode cX6_digest 16 = .ok (.lmul, 1) := by decide +kernel
theorem dX6_digest_17 : decode cX6_digest 17 = .ok (.aload_n 0, 1) := by decide +kernel
theorem dX6_digest_18 : decode cX6_digest 18 = .ok (.iload_n 3, 1) := by decide +kernel
theorem dX6_digest_19 : decode cX6_digest 19 = .ok (.invokevirtual 255, 3) := by decide +kernel
theorem dX6_digest_22 : decode cX6_digest 22 = .ok (.i2l, 1) := by decide +kernel
theorem dX6_digest_23 : decode cX6_digest 23 = .ok (.ladd, 1) := by decide +kernel
theorem dX6_digest_24 : decode cX6_digest 24 = .ok (.lstore_n 1, 1) := by decide +kernel
theorem dX6_digest_25 : decode cX6_digest 25 = .ok (.iinc 3 1, 3) := by decide +kernel
theorem dX6_digest_28 : decode cX6_digest 28 = .ok (.goto (-22), 3) := by decide +kernel
theorem dX6_digest_31 : decode cX6_digest 31 = .ok (.iconst 0, 1) := by decide +kernel
theorem dX6_digest_32 : decode cX6_digest 32 = .ok (.istore_n 3, 1) := by decide +kernel
theorem dX6_digest_33 : decode cX6_digest 33 = .ok (.iload_n 3, 1) := by decide +kernel
theorem dX6_digest_34 : decode cX6_digest 34 = .ok (.bipush 6, 2) := by decide +kernel
theorem dX6_digest_36 : decode cX6_digest 36 = .ok (.if_icmp .gt 22, 3) := by decide +kernel
theorem dX6_digest_39 : decode cX6_digest 39 = .ok (.ldc2_w 253, 3) := by decide +kernel
theorem dX6_digest_42 : decode cX6_digest 42 = .ok (.lload_n 1, 1) := by decide +kernel
theorem dX6_digest_43 : decode cX6_digest 43 = .ok (.lmul, 1) := by decide +kernel
theorem dX6_digest_44 : decode cX6_digest 44 = .ok (.aload_n 0, 1) := by decide +kernel
theorem dX6_digest_45 : decode cX6_digest 45 = .ok (.iload_n 3, 1) := by decide +kernel
theorem dX6_digest_46 : decode cX6_digest 46 = .ok (.invokevirtual 258, 3) := by decide +kernel
theorem dX6_digest_49 : decode cX6_digest 49 = .ok (.i2l, 1) := by decide +kernel
theorem dX6_digest_50 : decode cX6_digest 50 = .ok (.ladd, 1) := by decide +kernel
theorem dX6_digest_51 : decode cX6_digest 51 = .ok (.lstore_n 1, 1) := by decide +kernel
theorem dX6_digest_52 : decode cX6_digest 52 = .ok (.iinc 3 1, 3) := by decide +kernel
theorem dX6_digest_55 : decode cX6_digest 55 = .ok (.goto (-22), 3) := by decide +kernel
theorem dX6_digest_58 : decode cX6_digest 58 = .ok (.iconst 1, 1) := by decide +kernel
theorem dX6_digest_59 : decode cX6_digest 59 = .ok (.istore_n 3, 1) := by decide +kernel
theorem dX6_digest_60 : decode cX6_digest 60 = .ok (.iload_n 3, 1) := by decide +kernel
theorem dX6_digest_61 : decode cX6_digest 61 = .ok (.bipush 12, 2) := by decide +kernel
theorem dX6_digest_63 : decode cX6_digest 63 = .ok (.if_icmp .gt 27, 3) := by decide +kernel
theorem dX6_digest_66 : decode cX6_digest 66 = .ok (.aload_n 0, 1) := by decide +kernel
theorem dX6_digest_67 : decode cX6_digest 67 = .ok (.getfield 10, 3) := by decide +kernel
theorem dX6_digest_70 : decode cX6_digest 70 = .ok (.iload_n 3, 1) := by decide +kernel
theorem dX6_digest_71 : decode cX6_digest 71 = .ok (.invokevirtual 46, 3) := by decide +kernel
theorem dX6_digest_74 : decode cX6_digest 74 = .ok (.ifCond .eq 10, 3) := by decide +kernel
theorem dX6_digest_77 : decode cX6_digest 77 = .ok (.aload_n 0, 1) := by decide +kernel
theorem dX6_digest_78 : decode cX6_digest 78 = .ok (.lload_n 1, 1) := by decide +kernel
theorem dX6_digest_79 : decode cX6_digest 79 = .ok (.iload_n 3, 1) := by decide +kernel
theorem dX6_digest_80 : decode cX6_digest 80 = .ok (.invokevirtual 261, 3) := by decide +kernel
theorem dX6_digest_83 : decode cX6_digest 83 = .ok (.lstore_n 1, 1) := by decide +kernel
theorem dX6_digest_84 : decode cX6_digest 84 = .ok (.iinc 3 1, 3) := by decide +kernel
theorem dX6_digest_87 : decode cX6_digest 87 = .ok (.goto (-27), 3) := by decide +kernel
theorem dX6_digest_90 : decode cX6_digest 90 = .ok (.ldc2_w 253, 3) := by decide +kernel
theorem dX6_digest_93 : decode cX6_digest 93 = .ok (.lload_n 1, 1) := by decide +kernel
theorem dX6_digest_94 : decode cX6_digest 94 = .ok (.lmul, 1) := by decide +kernel
theorem dX6_digest_95 : decode cX6_digest 95 = .ok (.aload_n 0, 1) := by decide +kernel
theorem dX6_digest_96 : decode cX6_digest 96 = .ok (.iconst 0, 1) := by decide +kernel
theorem dX6_digest_97 : decode cX6_digest 97 = .ok (.iconst 1, 1) := by decide +kernel
theorem dX6_digest_98 : decode cX6_digest 98 = .ok (.invokevirtual 265, 3) := by decide +kernel
theorem dX6_digest_101 : decode cX6_digest 101 = .ok (.ladd, 1) := by decide +kernel
theorem dX6_digest_102 : decode cX6_digest 102 = .ok (.lstore_n 1, 1) := by decide +kernel
theorem dX6_digest_103 : decode cX6_digest 103 = .ok (.ldc2_w 253, 3) := by decide +kernel
theorem dX6_digest_106 : decode cX6_digest 106 = .ok (.lload_n 1, 1) := by decide +kernel
theorem dX6_digest_107 : decode cX6_digest 107 = .ok (.lmul, 1) := by decide +kernel
theorem dX6_digest_108 : decode cX6_digest 108 = .ok (.aload_n 0, 1) := by decide +kernel
theorem dX6_digest_109 : decode cX6_digest 109 = .ok (.invokevirtual 268, 3) := by decide +kernel
theorem dX6_digest_112 : decode cX6_digest 112 = .ok (.i2l, 1) := by decide +kernel
theorem dX6_digest_113 : decode cX6_digest 113 = .ok (.ladd, 1) := by decide +kernel
theorem dX6_digest_114 : decode cX6_digest 114 = .ok (.lreturn, 1) := by decide +kernel
theorem dX6_digestStream_0 : decode cX6_digestStream 0 = .ok (.ldc2_w 253, 3) := by decide +kernel
theorem dX6_digestStream_3 : decode cX6_digestStream 3 = .ok (.lload_n 1, 1) := by decide +kernel
theorem dX6_digestStream_4 : decode cX6_digestStream 4 = .ok (.lmul, 1) := by decide +kernel
theorem dX6_digestStream_5 : decode cX6_digestStream 5 = .ok (.iload_n 3, 1) := by decide +kernel
theorem dX6_digestStream_6 : decode cX6_digestStream 6 = .ok (.i2l, 1) := by decide +kernel
theorem dX6_digestStream_7 : decode cX6_digestStream 7 = .ok (.ladd, 1) := by decide +kernel
theorem dX6_digestStream_8 : decode cX6_digestStream 8 = .ok (.lstore 4, 2) := by decide +kernel
theorem dX6_digestStream_10 : decode cX6_digestStream 10 = .ok (.iconst 0, 1) := by decide +kernel
theorem dX6_digestStream_11 : decode cX6_digestStream 11 = .ok (.istore 6, 2) := by decide +kernel
theorem dX6_digestStream_13 : decode cX6_digestStream 13 = .ok (.iload 6, 2) := by decide +kernel
theorem dX6_digestStream_15 : decode cX6_digestStream 15 = .ok (.bipush 15, 2) := by decide +kernel
theorem dX6_digestStream_17 : decode cX6_digestStream 17 = .ok (.if_icmp .gt 26, 3) := by decide +kernel
theorem dX6_digestStream_20 : decode cX6_digestStream 20 = .ok (.ldc2_w 253, 3) := by decide +kernel
theorem dX6_digestStream_23 : decode cX6_digestStream 23 = .ok (.lload 4, 2) := by decide +kernel
theorem dX6_digestStream_25 : decode cX6_digestStream 25 = .ok (.lmul, 1) := by decide +kernel
theorem dX6_digestStream_26 : decode cX6_digestStream 26 = .ok (.aload_n 0, 1) := by decide +kernel
theorem dX6_digestStream_27 : decode cX6_digestStream 27 = .ok (.iload_n 3, 1) := by decide +kernel
theorem dX6_digestStream_28 : decode cX6_digestStream 28 = .ok (.iload 6, 2) := by decide +kernel
theorem dX6_digestStream_30 : decode cX6_digestStream 30 = .ok (.invokevirtual 271, 3) := by decide +kernel
theorem dX6_digestStream_33 : decode cX6_digestStream 33 = .ok (.i2l, 1) := by decide +kernel
theorem dX6_digestStream_34 : decode cX6_digestStream 34 = .ok (.ladd, 1) := by decide +kernel
theorem dX6_digestStream_35 : decode cX6_digestStream 35 = .ok (.lstore 4, 2) := by decide +kernel
theorem dX6_digestStream_37 : decode cX6_digestStream 37 = .ok (.iinc 6 1, 3) := by decide +kernel
theorem dX6_digestStream_40 : decode cX6_digestStream 40 = .ok (.goto (-27), 3) := by decide +kernel
theorem dX6_digestStream_43 : decode cX6_digestStream 43 = .ok (.ldc2_w 253, 3) := by decide +kernel
theorem dX6_digestStream_46 : decode cX6_digestStream 46 = .ok (.lload 4, 2) := by decide +kernel
theorem dX6_digestStream_48 : decode cX6_digestStream 48 = .ok (.lmul, 1) := by decide +kernel
theorem dX6_digestStream_49 : decode cX6_digestStream 49 = .ok (.aload_n 0, 1) := by decide +kernel
theorem dX6_digestStream_50 : decode cX6_digestStream 50 = .ok (.iload_n 3, 1) := by decide +kernel
theorem dX6_digestStream_51 : decode cX6_digestStream 51 = .ok (.iconst 0, 1) := by decide +kernel
theorem dX6_digestStream_52 : decode cX6_digestStream 52 = .ok (.invokevirtual 265, 3) := by decide +kernel
theorem dX6_digestStream_55 : decode cX6_digestStream 55 = .ok (.ladd, 1) := by decide +kernel
theorem dX6_digestStream_56 : decode cX6_digestStream 56 = .ok (.lstore 4, 2) := by decide +kernel
theorem dX6_digestStream_58 : decode cX6_digestStream 58 = .ok (.ldc2_w 253, 3) := by decide +kernel
theorem dX6_digestStream_61 : decode cX6_digestStream 61 = .ok (.lload 4, 2) := by decide +kernel
theorem dX6_digestStream_63 : decode cX6_digestStream 63 = .ok (.lmul, 1) := by decide +kernel
theorem dX6_digestStream_64 : decode cX6_digestStream 64 = .ok (.aload_n 0, 1) := by decide +kernel
theorem dX6_digestStream_65 : decode cX6_digestStream 65 = .ok (.iload_n 3, 1) := by decide +kernel
theorem dX6_digestStream_66 : decode cX6_digestStream 66 = .ok (.iconst 1, 1) := by decide +kernel
theorem dX6_digestStream_67 : decode cX6_digestStream 67 = .ok (.invokevirtual 265, 3) := by decide +kernel
theorem dX6_digestStream_70 : decode cX6_digestStream 70 = .ok (.ladd, 1) := by decide +kernel
theorem dX6_digestStream_71 : decode cX6_digestStream 71 = .ok (.lreturn, 1) := by decide +kernel
theorem dX6_refuse_0 : decode cX6_refuse 0 = .ok (.iload_n 1, 1) := by decide +kernel
theorem dX6_refuse_1 : decode cX6_refuse 1 = .ok (.bipush (-2), 2) := by decide +kernel
theorem dX6_refuse_3 : decode cX6_refuse 3 = .ok (.if_icmp .ne 16, 3) := by decide +kernel
theorem dX6_refuse_6 : decode cX6_refuse 6 = .ok (.aload_n 0, 1) := by decide +kernel
theorem dX6_refuse_7 : decode cX6_refuse 7 = .ok (.dup, 1) := by decide +kernel
theorem dX6_refuse_8 : decode cX6_refuse 8 = .ok (.getfield 227, 3) := by decide +kernel
theorem dX6_refuse_11 : decode cX6_refuse 11 = .ok (.iconst 1, 1) := by decide +kernel
theorem dX6_refuse_12 : decode cX6_refuse 12 = .ok (.iadd, 1) := by decide +kernel
theorem dX6_refuse_13 : decode cX6_refuse 13 = .ok (.putfield 227, 3) := by decide +kernel
theorem dX6_refuse_16 : decode cX6_refuse 16 = .ok (.goto 32, 3) := by decide +kernel
theorem dX6_refuse_19 : decode cX6_refuse 19 = .ok (.iload_n 1, 1) := by decide +kernel
theorem dX6_refuse_20 : decode cX6_refuse 20 = .ok (.bipush (-3), 2) := by decide +kernel
theorem dX6_refuse_22 : decode cX6_refuse 22 = .ok (.if_icmp .ne 16, 3) := by decide +kernel
theorem dX6_refuse_25 : decode cX6_refuse 25 = .ok (.aload_n 0, 1) := by decide +kernel
theorem dX6_refuse_26 : decode cX6_refuse 26 = .ok (.dup, 1) := by decide +kernel
theorem dX6_refuse_27 : decode cX6_refuse 27 = .ok (.getfield 230, 3) := by decide +kernel
theorem dX6_refuse_30 : decode cX6_refuse 30 = .ok (.iconst 1, 1) := by decide +kernel
theorem dX6_refuse_31 : decode cX6_refuse 31 = .ok (.iadd, 1) := by decide +kernel
theorem dX6_refuse_32 : decode cX6_refuse 32 = .ok (.putfield 230, 3) := by decide +kernel
theorem dX6_refuse_35 : decode cX6_refuse 35 = .ok (.goto 13, 3) := by decide +kernel
theorem dX6_refuse_38 : decode cX6_refuse 38 = .ok (.aload_n 0, 1) := by decide +kernel
theorem dX6_refuse_39 : decode cX6_refuse 39 = .ok (.dup, 1) := by decide +kernel
theorem dX6_refuse_40 : decode cX6_refuse 40 = .ok (.getfield 233, 3) := by decide +kernel
theorem dX6_refuse_43 : decode cX6_refuse 43 = .ok (.iconst 1, 1) := by decide +kernel
theorem dX6_refuse_44 : decode cX6_refuse 44 = .ok (.iadd, 1) := by decide +kernel
theorem dX6_refuse_45 : decode cX6_refuse 45 = .ok (.putfield 233, 3) := by decide +kernel
theorem dX6_refuse_48 : decode cX6_refuse 48 = .ok (.iload_n 1, 1) := by decide +kernel
theorem dX6_refuse_49 : decode cX6_refuse 49 = .ok (.ireturn, 1) := by decide +kernel
theorem dX6_leaveState_0 : decode cX6_leaveState 0 = .ok (.aload_n 0, 1) := by decide +kernel
theorem dX6_leaveState_1 : decode cX6_leaveState 1 = .ok (.getfield 218, 3) := by decide +kernel
theorem dX6_leaveState_4 : decode cX6_leaveState 4 = .ok (.iconst 5, 1) := by decide +kernel
theorem dX6_leaveState_5 : decode cX6_leaveState 5 = .ok (.if_icmp .ne 25, 3) := by decide +kernel
theorem dX6_leaveState_8 : decode cX6_leaveState 8 = .ok (.aload_n 0, 1) := by decide +kernel
theorem dX6_leaveState_9 : decode cX6_leaveState 9 = .ok (.aload_n 0, 1) := by decide +kernel
theorem dX6_leaveState_10 : decode cX6_leaveState 10 = .ok (.getfield 221, 3) := by decide +kernel
theorem dX6_leaveState_13 : decode cX6_leaveState 13 = .ok (.iconst 1, 1) := by decide +kernel
theorem dX6_leaveState_14 : decode cX6_leaveState 14 = .ok (.iadd, 1) := by decide +kernel
theorem dX6_leaveState_15 : decode cX6_leaveState 15 = .ok (.iconst 5, 1) := by decide +kernel
theorem dX6_leaveState_16 : decode cX6_leaveState 16 = .ok (.irem, 1) := by decide +kernel
theorem dX6_leaveState_17 : decode cX6_leaveState 17 = .ok (.putfield 221, 3) := by decide +kernel
theorem dX6_leaveState_20 : decode cX6_leaveState 20 = .ok (.aload_n 0, 1) := by decide +kernel
theorem dX6_leaveState_21 : decode cX6_leaveState 21 = .ok (.dup, 1) := by decide +kernel
theorem dX6_leaveState_22 : decode cX6_leaveState 22 = .ok (.getfield 218, 3) := by decide +kernel
theorem dX6_leaveState_25 : decode cX6_leaveState 25 = .ok (.iconst 1, 1) := by decide +kernel
theorem dX6_leaveState_26 : decode cX6_leaveState 26 = .ok (.isub, 1) := by decide +kernel
theorem dX6_leaveState_27 : decode cX6_leaveState 27 = .ok (.putfield 218, 3) := by decide +kernel
theorem dX6_leaveState_30 : decode cX6_leaveState 30 = .ok (.aload_n 0, 1) := by decide +kernel
theorem dX6_leaveState_31 : decode cX6_leaveState 31 = .ok (.getfield 16, 3) := by decide +kernel
theorem dX6_leaveState_34 : decode cX6_leaveState 34 = .ok (.aload_n 0, 1) := by decide +kernel
theorem dX6_leaveState_35 : decode cX6_leaveState 35 = .ok (.getfield 221, 3) := by decide +kernel
theorem dX6_leaveState_38 : decode cX6_leaveState 38 = .ok (.aload_n 0, 1) := by decide +kernel
theorem dX6_leaveState_39 : decode cX6_leaveState 39 = .ok (.getfield 218, 3) := by decide +kernel
theorem dX6_leaveState_42 : decode cX6_leaveState 42 = .ok (.iadd, 1) := by decide +kernel
theorem dX6_leaveState_43 : decode cX6_leaveState 43 = .ok (.iconst 5, 1) := by decide +kernel
theorem dX6_leaveState_44 : decode cX6_leaveState 44 = .ok (.irem, 1) := by decide +kernel
theorem dX6_leaveState_45 : decode cX6_leaveState 45 = .ok (.aaload, 1) := by decide +kernel
theorem dX6_leaveState_46 : decode cX6_leaveState 46 = .ok (.aload_n 0, 1) := by decide +kernel
theorem dX6_leaveState_47 : decode cX6_leaveState 47 = .ok (.getfield 10, 3) := by decide +kernel
theorem dX6_leaveState_50 : decode cX6_leaveState 50 = .ok (.invokevirtual 224, 3) := by decide +kernel
theorem dX6_leaveState_53 : decode cX6_leaveState 53 = .ok (.aload_n 0, 1) := by decide +kernel
theorem dX6_leaveState_54 : decode cX6_leaveState 54 = .ok (.dup, 1) := by decide +kernel
theorem dX6_leaveState_55 : decode cX6_leaveState 55 = .ok (.getfield 218, 3) := by decide +kernel
theorem dX6_leaveState_58 : decode cX6_leaveState 58 = .ok (.iconst 1, 1) := by decide +kernel
theorem dX6_leaveState_59 : decode cX6_leaveState 59 = .ok (.iadd, 1) := by decide +kernel
theorem dX6_leaveState_60 : decode cX6_leaveState 60 = .ok (.putfield 218, 3) := by decide +kernel
theorem dX6_leaveState_63 : decode cX6_leaveState 63 = .ok (.return_, 1) := by decide +kernel
theorem dX6_within_0 : decode cX6_within 0 = .ok (.iload_n 0, 1) := by decide +kernel
theorem dX6_within_1 : decode cX6_within 1 = .ok (.iload_n 1, 1) := by decide +kernel
theorem dX6_within_2 : decode cX6_within 2 = .ok (.if_icmp .lt 12, 3) := by decide +kernel
theorem dX6_within_5 : decode cX6_within 5 = .ok (.iload_n 0, 1) := by decide +kernel
theorem dX6_within_6 : decode cX6_within 6 = .ok (.iload_n 2, 1) := by decide +kernel
theorem dX6_within_7 : decode cX6_within 7 = .ok (.if_icmp .gt 7, 3) := by decide +kernel
theorem dX6_within_10 : decode cX6_within 10 = .ok (.iconst 1, 1) := by decide +kernel
theorem dX6_within_11 : decode cX6_within 11 = .ok (.goto 4, 3) := by decide +kernel
theorem dX6_within_14 : decode cX6_within 14 = .ok (.iconst 0, 1) := by decide +kernel
theorem dX6_within_15 : decode cX6_within 15 = .ok (.ireturn, 1) := by decide +kernel
theorem dX6_has_0 : decode cX6_has 0 = .ok (.iload_n 0, 1) := by decide +kernel
theorem dX6_has_1 : decode cX6_has 1 = .ok (.iload_n 1, 1) := by decide +kernel
theorem dX6_has_2 : decode cX6_has 2 = .ok (.ishr, 1) := by decide +kernel
theorem dX6_has_3 : decode cX6_has 3 = .ok (.iconst 1, 1) := by decide +kernel
theorem dX6_has_4 : decode cX6_has 4 = .ok (.iand, 1) := by decide +kernel
theorem dX6_has_5 : decode cX6_has 5 = .ok (.iconst 1, 1) := by decide +kernel
theorem dX6_has_6 : decode cX6_has 6 = .ok (.if_icmp .ne 7, 3) := by decide +kernel
theorem dX6_has_9 : decode cX6_has 9 = .ok (.iconst 1, 1) := by decide +kernel
theorem dX6_has_10 : decode cX6_has 10 = .ok (.goto 4, 3) := by decide +kernel
theorem dX6_has_13 : decode cX6_has 13 = .ok (.iconst 0, 1) := by decide +kernel
theorem dX6_has_14 : decode cX6_has 14 = .ok (.ireturn, 1) := by decide +kernel
theorem dX6_cut_0 : decode cX6_cut 0 = .ok (.lload_n 2, 1) := by decide +kernel
theorem dX6_cut_1 : decode cX6_cut 1 = .ok (.lconst 1, 1) := by decide +kernel
theorem dX6_cut_2 : decode cX6_cut 2 = .ok (.lcmp, 1) := by decide +kernel
theorem dX6_cut_3 : decode cX6_cut 3 = .ok (.ifCond .ge 7, 3) := by decide +kernel
theorem dX6_cut_6 : decode cX6_cut 6 = .ok (.lconst 0, 1) := by decide +kernel
theorem dX6_cut_7 : decode cX6_cut 7 = .ok (.goto 6, 3) := by decide +kernel
theorem dX6_cut_10 : decode cX6_cut 10 = .ok (.lload_n 0, 1) := by decide +kernel
theorem dX6_cut_11 : decode cX6_cut 11 = .ok (.lload_n 2, 1) := by decide +kernel
theorem dX6_cut_12 : decode cX6_cut 12 = .ok (.ldiv, 1) := by decide +kernel
theorem dX6_cut_13 : decode cX6_cut 13 = .ok (.lreturn, 1) := by decide +kernel
theorem dX7_init_0 : decode cX7_init 0 = .ok (.aload_n 0, 1) := by decide +kernel
theorem dX7_init_1 : decode cX7_init 1 = .ok (.invokespecial 1, 3) := by decide +kernel
theorem dX7_init_4 : decode cX7_init 4 = .ok (.aload_n 0, 1) := by decide +kernel
theorem dX7_init_5 : decode cX7_init 5 = .ok (.sipush 215, 3) := by decide +kernel
theorem dX7_init_8 : decode cX7_init 8 = .ok (.newarray .long, 2) := by decide +kernel
theorem dX7_init_10 : decode cX7_init 10 = .ok (.putfield 7, 3) := by decide +kernel
theorem dX7_init_13 : decode cX7_init 13 = .ok (.aload_n 0, 1) := by decide +kernel
theorem dX7_init_14 : decode cX7_init 14 = .ok (.sipush 1075, 3) := by decide +kernel
theorem dX7_init_17 : decode cX7_init 17 = .ok (.newarray .long, 2) := by decide +kernel
theorem dX7_init_19 : decode cX7_init 19 = .ok (.putfield 13, 3) := by decide +kernel
theorem dX7_init_22 : decode cX7_init 22 = .ok (.aload_n 0, 1) := by decide +kernel
theorem dX7_init_23 : decode cX7_init 23 = .ok (.iconst 3, 1) := by decide +kernel
theorem dX7_init_24 : decode cX7_init 24 = .ok (.newarray .int, 2) := by decide +kernel
theorem dX7_init_26 : decode cX7_init 26 = .ok (.putfield 16, 3) := by decide +kernel
theorem dX7_init_29 : decode cX7_init 29 = .ok (.aload_n 0, 1) := by decide +kernel
theorem dX7_init_30 : decode cX7_init 30 = .ok (.bipush 120, 2) := by decide +kernel
theorem dX7_init_32 : decode cX7_init 32 = .ok (.newarray .int, 2) := by decide +kernel
theorem dX7_init_34 : decode cX7_init 34 = .ok (.putfield 20, 3) := by decide +kernel
theorem dX7_init_37 : decode cX7_init 37 = .ok (.aload_n 0, 1) := by decide +kernel
theorem dX7_init_38 : decode cX7_init 38 = .ok (.bipush 12, 2) := by decide +kernel
theorem dX7_init_40 : decode cX7_init 40 = .ok (.newarray .int, 2) := by decide +kernel
theorem dX7_init_42 : decode cX7_init 42 = .ok (.putfield 23, 3) := by decide +kernel
theorem dX7_init_45 : decode cX7_init 45 = .ok (.aload_n 0, 1) := by decide +kernel
theorem dX7_init_46 : decode cX7_init 46 = .ok (.bipush 12, 2) := by decide +kernel
theorem dX7_init_48 : decode cX7_init 48 = .ok (.newarray .int, 2) := by decide +kernel
theorem dX7_init_50 : decode cX7_init 50 = .ok (.putfield 26, 3) := by decide +kernel
theorem dX7_init_53 : decode cX7_init 53 = .ok (.aload_n 0, 1) := by decide +kernel
theorem dX7_init_54 : decode cX7_init 54 = .ok (.bipush 12, 2) := by decide +kernel
theorem dX7_init_56 : decode cX7_init 56 = .ok (.newarray .int, 2) := by decide +kernel
theorem dX7_init_58 : decode cX7_init 58 = .ok (.putfield 29, 3) := by decide +kernel
theorem dX7_init_61 : decode cX7_init 61 = .ok (.aload_n 0, 1) := by decide +kernel
theorem dX7_init_62 : decode cX7_init 62 = .ok (.getfield 7, 3) := by decide +kernel
theorem dX7_init_65 : decode cX7_init 65 = .ok (.sipush 208, 3) := by decide +kernel
theorem dX7_init_68 : decode cX7_init 68 = .ok (.ldc2_w 32, 3) := by decide +kernel
theorem dX7_init_71 : decode cX7_init 71 = .ok (.lastore, 1) := by decide +kernel
theorem dX7_init_72 : decode cX7_init 72 = .ok (.aload_n 0, 1) := by decide +kernel
theorem dX7_init_73 : decode cX7_init 73 = .ok (.getfield 7, 3) := by decide +kernel
theorem dX7_init_76 : decode cX7_init 76 = .ok (.sipush 209, 3) := by decide +kernel
theorem dX7_init_79 : decode cX7_init 79 = .ok (.ldc2_w 34, 3) := by decide +kernel
theorem dX7_init_82 : decode cX7_init 82 = .ok (.lastore, 1) := by decide +kernel
theorem dX7_init_83 : decode cX7_init 83 = .ok (.aload_n 0, 1) := by decide +kernel
theorem dX7_init_84 : decode cX7_init 84 = .ok (.getfield 7, 3) := by decide +kernel
theorem dX7_init_87 : decode cX7_init 87 = .ok (.sipush 210, 3) := by decide +kernel
theorem dX7_init_90 : decode cX7_init 90 = .ok (.ldc2_w 36, 3) := by decide +kernel
theorem dX7_init_93 : decode cX7_init 93 = .ok (.lastore, 1) := by decide +kernel
theorem dX7_init_94 : decode cX7_init 94 = .ok (.aload_n 0, 1) := by decide +kernel
theorem dX7_init_95 : decode cX7_init 95 = .ok (.getfield 7, 3) := by decide +kernel
theorem dX7_init_98 : decode cX7_init 98 = .ok (.sipush 214, 3) := by decide +kernel
theorem dX7_init_101 : decode cX7_init 101 = .ok (.ldc2_w 38, 3) := by decide +kernel
theorem dX7_init_104 : decode cX7_init 104 = .ok (.lastore, 1) := by decide +kernel
theorem dX7_init_105 : decode cX7_init 105 = .ok (.return_, 1) := by decide +kernel
theorem dX7_in_0 : decode cX7_in 0 = .ok (.lload_n 0, 1) := by decide +kernel
theorem dX7_in_1 : decode cX7_in 1 = .ok (.lload_n 2, 1) := by decide +kernel
theorem dX7_in_2 : decode cX7_in 2 = .ok (.lcmp, 1) := by decide +kernel
theorem dX7_in_3 : decode cX7_in 3 = .ok (.ifCond .lt 14, 3) := by decide +kernel
theorem dX7_in_6 : decode cX7_in 6 = .ok (.lload_n 0, 1) := by decide +kernel
theorem dX7_in_7 : decode cX7_in 7 = .ok (.lload 4, 2) := by decide +kernel
theorem dX7_in_9 : decode cX7_in 9 = .ok (.lcmp, 1) := by decide +kernel
theorem dX7_in_10 : decode cX7_in 10 = .ok (.ifCond .gt 7, 3) := by decide +kernel
theorem dX7_in_13 : decode cX7_in 13 = .ok (.iconst 1, 1) := by decide +kernel
theorem dX7_in_14 : decode cX7_in 14 = .ok (.goto 4, 3) := by decide +kernel
theorem dX7_in_17 : decode cX7_in 17 = .ok (.iconst 0, 1) := by decide +kernel
theorem dX7_in_18 : decode cX7_in 18 = .ok (.ireturn, 1) := by decide +kernel
theorem dX7_refuses_0 : decode cX7_refuses 0 = .ok (.aload_n 0, 1) := by decide +kernel
theorem dX7_refuses_1 : decode cX7_refuses 1 = .ok (.getfield 16, 3) := by decide +kernel
theorem dX7_refuses_4 : decode cX7_refuses 4 = .ok (.bipush (-2), 2) := by decide +kernel
theorem dX7_refuses_6 : decode cX7_refuses 6 = .ok (.iload_n 1, 1) := by decide +kernel
theorem dX7_refuses_7 : decode cX7_refuses 7 = .ok (.isub, 1) := by decide +kernel
theorem dX7_refuses_8 : decode cX7_refuses 8 = .ok (.dup2, 1) := by decide +kernel
theorem dX7_refuses_9 : decode cX7_refuses 9 = .ok (.iaload, 1) := by decide +kernel
theorem dX7_refuses_10 : decode cX7_refuses 10 = .ok (.iconst 1, 1) := by decide +kernel
theorem dX7_refuses_11 : decode cX7_refuses 11 = .ok (.iadd, 1) := by decide +kernel
theorem dX7_refuses_12 : decode cX7_refuses 12 = .ok (.iastore, 1) := by decide +kernel
theorem dX7_refuses_13 : decode cX7_refuses 13 = .ok (.iload_n 1, 1) := by decide +kernel
theorem dX7_refuses_14 : decode cX7_refuses 14 = .ok (.ireturn, 1) := by decide +kernel
theorem dX7_keep_0 : decode cX7_keep 0 = .ok (.aload_n 0, 1) := by decide +kernel
theorem dX7_keep_1 : decode cX7_keep 1 = .ok (.getfield 40, 3) := by decide +kernel
theorem dX7_keep_4 : decode cX7_keep 4 = .ok (.iconst 5, 1) := by decide +kernel
theorem dX7_keep_5 : decode cX7_keep 5 = .ok (.if_icmp .ne 44, 3) := by decide +kernel
theorem dX7_keep_8 : decode cX7_keep 8 = .ok (.iconst 0, 1) := by decide +kernel
theorem dX7_keep_9 : decode cX7_keep 9 = .ok (.istore_n 1, 1) := by decide +kernel
theorem dX7_keep_10 : decode cX7_keep 10 = .ok (.iload_n 1, 1) := by decide +kernel
theorem dX7_keep_11 : decode cX7_keep 11 = .ok (.sipush 860, 3) := by decide +kernel
theorem dX7_keep_14 : decode cX7_keep 14 = .ok (.if_icmp .ge 25, 3) := by decide +kernel
theorem dX7_keep_17 : decode cX7_keep 17 = .ok (.aload_n 0, 1) := by decide +kernel
theorem dX7_keep_18 : decode cX7_keep 18 = .ok (.getfield 13, 3) := by decide +kernel
theorem dX7_keep_21 : decode cX7_keep 21 = .ok (.iload_n 1, 1) := by decide +kernel
theorem dX7_keep_22 : decode cX7_keep 22 = .ok (.aload_n 0, 1) := by decide +kernel
theorem dX7_keep_23 : decode cX7_keep 23 = .ok (.getfield 13, 3) := by decide +kernel
theorem dX7_keep_26 : decode cX7_keep 26 = .ok (.iload_n 1, 1) := by decide +kernel
theorem dX7_keep_27 : decode cX7_keep 27 = .ok (.sipush 215, 3) := by decide +kernel
theorem dX7_keep_30 : decode cX7_keep 30 = .ok (.iadd, 1) := by decide +kernel
theorem dX7_keep_31 : decode cX7_keep 31 = .ok (.laload, 1) := by decide +kernel
theorem dX7_keep_32 : decode cX7_keep 32 = .ok (.lastore, 1) := by decide +kernel
theorem dX7_keep_33 : decode cX7_keep 33 = .ok (.iinc 1 1, 3) := by decide +kernel
theorem dX7_keep_36 : decode cX7_keep 36 = .ok (.goto (-26), 3) := by decide +kernel
theorem dX7_keep_39 : decode cX7_keep 39 = .ok (.aload_n 0, 1) := by decide +kernel
theorem dX7_keep_40 : decode cX7_keep 40 = .ok (.dup, 1) := by decide +kernel
theorem dX7_keep_41 : decode cX7_keep 41 = .ok (.getfield 40, 3) := by decide +kernel
theorem dX7_keep_44 : decode cX7_keep 44 = .ok (.iconst 1, 1) := by decide +kernel
theorem dX7_keep_45 : decode cX7_keep 45 = .ok (.isub, 1) := by decide +kernel
theorem dX7_keep_46 : decode cX7_keep 46 = .ok (.putfield 40, 3) := by decide +kernel
theorem dX7_keep_49 : decode cX7_keep 49 = .ok (.iconst 0, 1) := by decide +kernel
theorem dX7_keep_50 : decode cX7_keep 50 = .ok (.istore_n 1, 1) := by decide +kernel
theorem dX7_keep_51 : decode cX7_keep 51 = .ok (.iload_n 1, 1) := by decide +kernel
theorem dX7_keep_52 : decode cX7_keep 52 = .ok (.sipush 215, 3) := by decide +kernel
theorem dX7_keep_55 : decode cX7_keep 55 = .ok (.if_icmp .ge 30, 3) := by decide +kernel
theorem dX7_keep_58 : decode cX7_keep 58 = .ok (.aload_n 0, 1) := by decide +kernel
theorem dX7_keep_59 : decode cX7_keep 59 = .ok (.getfield 13, 3) := by decide +kernel
theorem dX7_keep_62 : decode cX7_keep 62 = .ok (.sipush 215, 3) := by decide +kernel
theorem dX7_keep_65 : decode cX7_keep 65 = .ok (.aload_n 0, 1) := by decide +kernel
theorem dX7_keep_66 : decode cX7_keep 66 = .ok (.getfield 40, 3) := by decide +kernel
theorem dX7_keep_69 : decode cX7_keep 69 = .ok (.imul, 1) := by decide +kernel
theorem dX7_keep_70 : decode cX7_keep 70 = .ok (.iload_n 1, 1) := by decide +kernel
theorem dX7_keep_71 : decode cX7_keep 71 = .ok (.iadd, 1) := by decide +kernel
theorem dX7_keep_72 : decode cX7_keep 72 = .ok (.aload_n 0, 1) := by decide +kernel
theorem dX7_keep_73 : decode cX7_keep 73 = .ok (.getfield 7, 3) := by decide +kernel
theorem dX7_keep_76 : decode cX7_keep 76 = .ok (.iload_n 1, 1) := by decide +kernel
theorem dX7_keep_77 : decode cX7_keep 77 = .ok (.laload, 1) := by decide +kernel
theorem dX7_keep_78 : decode cX7_keep 78 = .ok (.lastore, 1) := by decide +kernel
theorem dX7_keep_79 : decode cX7_keep 79 = .ok (.iinc 1 1, 3) := by decide +kernel
theorem dX7_keep_82 : decode cX7_keep 82 = .ok (.goto (-31), 3) := by decide +kernel
theorem dX7_keep_85 : decode cX7_keep 85 = .ok (.aload_n 0, 1) := by decide +kernel
theorem dX7_keep_86 : decode cX7_keep 86 = .ok (.dup, 1) := by decide +kernel
theorem dX7_keep_87 : decode cX7_keep 87 = .ok (.getfield 40, 3) := by decide +kernel
theorem dX7_keep_90 : decode cX7_keep 90 = .ok (.iconst 1, 1) := by decide +kernel
theorem dX7_keep_91 : decode cX7_keep 91 = .ok (.iadd, 1) := by decide +kernel
theorem dX7_keep_92 : decode cX7_keep 92 = .ok (.putfield 40, 3) := by decide +kernel
theorem dX7_keep_95 : decode cX7_keep 95 = .ok (.return_, 1) := by decide +kernel
theorem dX7_its_0 : decode cX7_its 0 = .ok (.aload_n 0, 1) := by decide +kernel
theorem dX7_its_1 : decode cX7_its 1 = .ok (.getfield 7, 3) := by decide +kernel
theorem dX7_its_4 : decode cX7_its 4 = .ok (.bipush 16, 2) := by decide +kernel
theorem dX7_its_6 : decode cX7_its 6 = .ok (.iload_n 1, 1) := by decide +kernel
theorem dX7_its_7 : decode cX7_its 7 = .ok (.imul, 1) := by decide +kernel
theorem dX7_its_8 : decode cX7_its 8 = .ok (.iload_n 2, 1) := by decide +kernel
theorem dX7_its_9 : decode cX7_its 9 = .ok (.iadd, 1) := by decide +kernel
theorem dX7_its_10 : decode cX7_its 10 = .ok (.laload, 1) := by decide +kernel
theorem dX7_its_11 : decode cX7_its 11 = .ok (.lreturn, 1) := by decide +kernel
theorem dX7_puts_0 : decode cX7_puts 0 = .ok (.aload_n 0, 1) := by decide +kernel
theorem dX7_puts_1 : decode cX7_puts 1 = .ok (.getfield 7, 3) := by decide +kernel
theorem dX7_puts_4 : decode cX7_puts 4 = .ok (.bipush 16, 2) := by decide +kernel
theorem dX7_puts_6 : decode cX7_puts 6 = .ok (.iload_n 1, 1) := by decide +kernel
theorem dX7_puts_7 : decode cX7_puts 7 = .ok (.imul, 1) := by decide +kernel
theorem dX7_puts_8 : decode cX7_puts 8 = .ok (.iload_n 2, 1) := by decide +kernel
theorem dX7_puts_9 : decode cX7_puts 9 = .ok (.iadd, 1) := by decide +kernel
theorem dX7_puts_10 : decode cX7_puts 10 = .ok (.lload_n 3, 1) := by decide +kernel
theorem dX7_puts_11 : decode cX7_puts 11 = .ok (.lastore, 1) := by decide +kernel
theorem dX7_puts_12 : decode cX7_puts 12 = .ok (.return_, 1) := by decide +kernel
theorem dX7_isStream_0 : decode cX7_isStream 0 = .ok (.iload_n 1, 1) := by decide +kernel
theorem dX7_isStream_1 : decode cX7_isStream 1 = .ok (.i2l, 1) := by decide +kernel
theorem dX7_isStream_2 : decode cX7_isStream 2 = .ok (.lconst 1, 1) := by decide +kernel
theorem dX7_isStream_3 : decode cX7_isStream 3 = .ok (.ldc2_w 44, 3) := by decide +kernel
theorem dX7_isStream_6 : decode cX7_isStream 6 = .ok (.invokestatic 46, 3) := by decide +kernel
theorem dX7_isStream_9 : decode cX7_isStream 9 = .ok (.ifCond .eq 18, 3) := by decide +kernel
theorem dX7_isStream_12 : decode cX7_isStream 12 = .ok (.aload_n 0, 1) := by decide +kernel
theorem dX7_isStream_13 : decode cX7_isStream 13 = .ok (.iload_n 1, 1) := by decide +kernel
theorem dX7_isStream_14 : decode cX7_isStream 14 = .ok (.iconst 0, 1) := by decide +kernel
theorem dX7_isStream_15 : decode cX7_isStream 15 = .ok (.invokevirtual 50, 3) := by decide +kernel
theorem dX7_isStream_18 : decode cX7_isStream 18 = .ok (.lconst 1, 1) := by decide +kernel
theorem dX7_isStream_19 : decode cX7_isStream 19 = .ok (.lcmp, 1) := by decide +kernel
theorem dX7_isStream_20 : decode cX7_isStream 20 = .ok (.ifCond .ne 7, 3) := by decide +kernel
theorem dX7_isStream_23 : decode cX7_isStream 23 = .ok (.iconst 1, 1) := by decide +kernel
theorem dX7_isStream_24 : decode cX7_isStream 24 = .ok (.goto 4, 3) := by decide +kernel
theorem dX7_isStream_27 : decode cX7_isStream 27 = .ok (.iconst 0, 1) := by decide +kernel
theorem dX7_isStream_28 : decode cX7_isStream 28 = .ok (.ireturn, 1) := by decide +kernel
theorem dX7_isPlace_0 : decode cX7_isPlace 0 = .ok (.iload_n 1, 1) := by decide +kernel
theorem dX7_isPlace_1 : decode cX7_isPlace 1 = .ok (.ifCond .eq 11, 3) := by decide +kernel
theorem dX7_isPlace_4 : decode cX7_isPlace 4 = .ok (.aload_n 0, 1) := by decide +kernel
theorem dX7_isPlace_5 : decode cX7_isPlace 5 = .ok (.iload_n 1, 1) := by decide +kernel
theorem dX7_isPlace_6 : decode cX7_isPlace 6 = .ok (.invokevirtual 54, 3) := by decide +kernel
theorem dX7_isPlace_9 : decode cX7_isPlace 9 = .ok (.ifCond .eq 7, 3) := by decide +kernel
theorem dX7_isPlace_12 : decode cX7_isPlace 12 = .ok (.iconst 1, 1) := by decide +kernel
theorem dX7_isPlace_13 : decode cX7_isPlace 13 = .ok (.goto 4, 3) := by decide +kernel
theorem dX7_isPlace_16 : decode cX7_isPlace 16 = .ok (.iconst 0, 1) := by decide +kernel
theorem dX7_isPlace_17 : decode cX7_isPlace 17 = .ok (.ireturn, 1) := by decide +kernel
theorem dX7_parent_0 : decode cX7_parent 0 = .ok (.aload_n 0, 1) := by decide +kernel
theorem dX7_parent_1 : decode cX7_parent 1 = .ok (.iload_n 1, 1) := by decide +kernel
theorem dX7_parent_2 : decode cX7_parent 2 = .ok (.iconst 1, 1) := by decide +kernel
theorem dX7_parent_3 : decode cX7_parent 3 = .ok (.invokevirtual 50, 3) := by decide +kernel
theorem dX7_parent_6 : decode cX7_parent 6 = .ok (.l2i, 1) := by decide +kernel
theorem dX7_parent_7 : decode cX7_parent 7 = .ok (.ireturn, 1) := by decide +kernel
theorem dX7_isChild_0 : decode cX7_isChild 0 = .ok (.aload_n 0, 1) := by decide +kernel
theorem dX7_isChild_1 : decode cX7_isChild 1 = .ok (.iload_n 1, 1) := by decide +kernel
theorem dX7_isChild_2 : decode cX7_isChild 2 = .ok (.invokevirtual 54, 3) := by decide +kernel
theorem dX7_isChild_5 : decode cX7_isChild 5 = .ok (.ifCond .eq 16, 3) := by decide +kernel
theorem dX7_isChild_8 : decode cX7_isChild 8 = .ok (.aload_n 0, 1) := by decide +kernel
theorem dX7_isChild_9 : decode cX7_isChild 9 = .ok (.iload_n 1, 1) := by decide +kernel
theorem dX7_isChild_10 : decode cX7_isChild 10 = .ok (.invokevirtual 58, 3) := by decide +kernel
theorem dX7_isChild_13 : decode cX7_isChild 13 = .ok (.iload_n 2, 1) := by decide +kernel
theorem dX7_isChild_14 : decode cX7_isChild 14 = .ok (.if_icmp .ne 7, 3) := by decide +kernel
theorem dX7_isChild_17 : decode cX7_isChild 17 = .ok (.iconst 1, 1) := by decide +kernel
theorem dX7_isChild_18 : decode cX7_isChild 18 = .ok (.goto 4, 3) := by decide +kernel
theorem dX7_isChild_21 : decode cX7_isChild 21 = .ok (.iconst 0, 1) := by decide +kernel
theorem dX7_isChild_22 : decode cX7_isChild 22 = .ok (.ireturn, 1) := by decide +kernel
theorem dX7_isBelow_0 : decode cX7_isBelow 0 = .ok (.iload_n 1, 1) := by decide +kernel
theorem dX7_isBelow_1 : decode cX7_isBelow 1 = .ok (.istore_n 3, 1) := by decide +kernel
theorem dX7_isBelow_2 : decode cX7_isBelow 2 = .ok (.iload_n 3, 1) := by decide +kernel
theorem dX7_isBelow_3 : decode cX7_isBelow 3 = .ok (.ifCond .eq 16, 3) := by decide +kernel
theorem dX7_isBelow_6 : decode cX7_isBelow 6 = .ok (.aload_n 0, 1) := by decide +kernel
theorem dX7_isBelow_7 : decode cX7_isBelow 7 = .ok (.iload_n 3, 1) := by decide +kernel
theorem dX7_isBelow_8 : decode cX7_isBelow 8 = .ok (.invokevirtual 58, 3) := by decide +kernel
theorem dX7_isBelow_11 : decode cX7_isBelow 11 = .ok (.istore_n 3, 1) := by decide +kernel
theorem dX7_isBelow_12 : decode cX7_isBelow 12 = .ok (.iload_n 3, 1) := by decide +kernel
theorem dX7_isBelow_13 : decode cX7_isBelow 13 = .ok (.iload_n 2, 1) := by decide +kernel
theorem dX7_isBelow_14 : decode cX7_isBelow 14 = .ok (.if_icmp .ne (-12), 3) := by decide +kernel
theorem dX7_isBelow_17 : decode cX7_isBelow 17 = .ok (.iconst 1, 1) := by decide +kernel
theorem dX7_isBelow_18 : decode cX7_isBelow 18 = .ok (.ireturn, 1) := by decide +kernel
theorem dX7_isBelow_19 : decode cX7_isBelow 19 = .ok (.iconst 0, 1) := by decide +kernel
theorem dX7_isBelow_20 : decode cX7_isBelow 20 = .ok (.ireturn, 1) := by decide +kernel
theorem dX7_children_0 : decode cX7_children 0 = .ok (.iconst 0, 1) := by decide +kernel
theorem dX7_children_1 : decode cX7_children 1 = .ok (.istore_n 2, 1) := by decide +kernel
theorem dX7_children_2 : decode cX7_children 2 = .ok (.iconst 1, 1) := by decide +kernel
theorem dX7_children_3 : decode cX7_children 3 = .ok (.istore_n 3, 1) := by decide +kernel
theorem dX7_children_4 : decode cX7_children 4 = .ok (.iload_n 3, 1) := by decide +kernel
theorem dX7_children_5 : decode cX7_children 5 = .ok (.bipush 12, 2) := by decide +kernel
theorem dX7_children_7 : decode cX7_children 7 = .ok (.if_icmp .gt 26, 3) := by decide +kernel
theorem dX7_children_10 : decode cX7_children 10 = .ok (.iload_n 2, 1) := by decide +kernel
theorem dX7_children_11 : decode cX7_children 11 = .ok (.aload_n 0, 1) := by decide +kernel
theorem dX7_children_12 : decode cX7_children 12 = .ok (.iload_n 3, 1) := by decide +kernel
theorem dX7_children_13 : decode cX7_children 13 = .ok (.iload_n 1, 1) := by decide +kernel
theorem dX7_children_14 : decode cX7_children 14 = .ok (.invokevirtual 62, 3) := by decide +kernel
theorem dX7_children_17 : decode cX7_children 17 = .ok (.ifCond .eq 7, 3) := by decide +kernel
theorem dX7_children_20 : decode cX7_children 20 = .ok (.iconst 1, 1) := by decide +kernel
theorem dX7_children_21 : decode cX7_children 21 = .ok (.goto 4, 3) := by decide +kernel
theorem dX7_children_24 : decode cX7_children 24 = .ok (.iconst 0, 1) := by decide +kernel
theorem dX7_children_25 : decode cX7_children 25 = .ok (.iadd, 1) := by decide +kernel
theorem dX7_children_26 : decode cX7_children 26 = .ok (.istore_n 2, 1) := by decide +kernel
theorem dX7_children_27 : decode cX7_children 27 = .ok (.iinc 3 1, 3) := by decide +kernel
theorem dX7_children_30 : decode cX7_children 30 = .ok (.goto (-26), 3) := by decide +kernel
theorem dX7_children_33 : decode cX7_children 33 = .ok (.iload_n 2, 1) := by decide +kernel
theorem dX7_children_34 : decode cX7_children 34 = .ok (.ireturn, 1) := by decide +kernel
theorem dX7_hangs_0 : decode cX7_hangs 0 = .ok (.aload_n 0, 1) := by decide +kernel
theorem dX7_hangs_1 : decode cX7_hangs 1 = .ok (.iload_n 1, 1) := by decide +kernel
theorem dX7_hangs_2 : decode cX7_hangs 2 = .ok (.iconst 1, 1) := by decide +kernel
theorem dX7_hangs_3 : decode cX7_hangs 3 = .ok (.iload_n 2, 1) := by decide +kernel
theorem dX7_hangs_4 : decode cX7_hangs 4 = .ok (.i2l, 1) := by decide +kernel
theorem dX7_hangs_5 : decode cX7_hangs 5 = .ok (.invokevirtual 66, 3) := by decide +kernel
theorem dX7_hangs_8 : decode cX7_hangs 8 = .ok (.aload_n 0, 1) := by decide +kernel
theorem dX7_hangs_9 : decode cX7_hangs 9 = .ok (.iload_n 1, 1) := by decide +kernel
theorem dX7_hangs_10 : decode cX7_hangs 10 = .ok (.bipush 9, 2) := by decide +kernel
theorem dX7_hangs_12 : decode cX7_hangs 12 = .ok (.aload_n 0, 1) := by decide +kernel
theorem dX7_hangs_13 : decode cX7_hangs 13 = .ok (.iload_n 2, 1) := by decide +kernel
theorem dX7_hangs_14 : decode cX7_hangs 14 = .ok (.bipush 10, 2) := by decide +kernel
theorem dX7_hangs_16 : decode cX7_hangs 16 = .ok (.invokevirtual 50, 3) := by decide +kernel
theorem dX7_hangs_19 : decode cX7_hangs 19 = .ok (.invokevirtual 66, 3) := by decide +kernel
theorem dX7_hangs_22 : decode cX7_hangs 22 = .ok (.return_, 1) := by decide +kernel
theorem dX7_comesTo_0 : decode cX7_comesTo 0 = .ok (.iconst 1, 1) := by decide +kernel
theorem dX7_comesTo_1 : decode cX7_comesTo 1 = .ok (.istore 4, 2) := by decide +kernel
theorem dX7_comesTo_3 : decode cX7_comesTo 3 = .ok (.iload 4, 2) := by decide +kernel
theorem dX7_comesTo_5 : decode cX7_comesTo 5 = .ok (.bipush 12, 2) := by decide +kernel
theorem dX7_comesTo_7 : decode cX7_comesTo 7 = .ok (.if_icmp .gt 36, 3) := by decide +kernel
theorem dX7_comesTo_10 : decode cX7_comesTo 10 = .ok (.iload_n 3, 1) := by decide +kernel
theorem dX7_comesTo_11 : decode cX7_comesTo 11 = .ok (.ifCond .eq 32, 3) := by decide +kernel
theorem dX7_comesTo_14 : decode cX7_comesTo 14 = .ok (.iload 4, 2) := by decide +kernel
theorem dX7_comesTo_16 : decode cX7_comesTo 16 = .ok (.iload_n 1, 1) := by decide +kernel
theorem dX7_comesTo_17 : decode cX7_comesTo 17 = .ok (.if_icmp .eq 20, 3) := by decide +kernel
theorem dX7_comesTo_20 : decode cX7_comesTo 20 = .ok (.aload_n 0, 1) := by decide +kernel
theorem dX7_comesTo_21 : decode cX7_comesTo 21 = .ok (.iload 4, 2) := by decide +kernel
theorem dX7_comesTo_23 : decode cX7_comesTo 23 = .ok (.iload_n 2, 1) := by decide +kernel
theorem dX7_comesTo_24 : decode cX7_comesTo 24 = .ok (.invokevirtual 62, 3) := by decide +kernel
theorem dX7_comesTo_27 : decode cX7_comesTo 27 = .ok (.ifCond .eq 10, 3) := by decide +kernel
theorem dX7_comesTo_30 : decode cX7_comesTo 30 = .ok (.aload_n 0, 1) := by decide +kernel
theorem dX7_comesTo_31 : decode cX7_comesTo 31 = .ok (.iload 4, 2) := by decide +kernel
theorem dX7_comesTo_33 : decode cX7_comesTo 33 = .ok (.iload_n 1, 1) := by decide +kernel
theorem dX7_comesTo_34 : decode cX7_comesTo 34 = .ok (.invokevirtual 70, 3) := by decide +kernel
theorem dX7_comesTo_37 : decode cX7_comesTo 37 = .ok (.iinc 4 1, 3) := by decide +kernel
theorem dX7_comesTo_40 : decode cX7_comesTo 40 = .ok (.goto (-37), 3) := by decide +kernel
theorem dX7_comesTo_43 : decode cX7_comesTo 43 = .ok (.aload_n 0, 1) := by decide +kernel
theorem dX7_comesTo_44 : decode cX7_comesTo 44 = .ok (.iload_n 1, 1) := by decide +kernel
theorem dX7_comesTo_45 : decode cX7_comesTo 45 = .ok (.iload_n 2, 1) := by decide +kernel
theorem dX7_comesTo_46 : decode cX7_comesTo 46 = .ok (.invokevirtual 70, 3) := by decide +kernel
theorem dX7_comesTo_49 : decode cX7_comesTo 49 = .ok (.return_, 1) := by decide +kernel
theorem dX7_begins_0 : decode cX7_begins 0 = .ok (.iconst 0, 1) := by decide +kernel
theorem dX7_begins_1 : decode cX7_begins 1 = .ok (.istore_n 3, 1) := by decide +kernel
theorem dX7_begins_2 : decode cX7_begins 2 = .ok (.iload_n 3, 1) := by decide +kernel
theorem dX7_begins_3 : decode cX7_begins 3 = .ok (.bipush 16, 2) := by decide +kernel
theorem dX7_begins_5 : decode cX7_begins 5 = .ok (.if_icmp .ge 16, 3) := by decide +kernel
theorem dX7_begins_8 : decode cX7_begins 8 = .ok (.aload_n 0, 1) := by decide +kernel
theorem dX7_begins_9 : decode cX7_begins 9 = .ok (.iload_n 1, 1) := by decide +kernel
theorem dX7_begins_10 : decode cX7_begins 10 = .ok (.iload_n 3, 1) := by decide +kernel
theorem dX7_begins_11 : decode cX7_begins 11 = .ok (.lconst 0, 1) := by decide +kernel
theorem dX7_begins_12 : decode cX7_begins 12 = .ok (.invokevirtual 66, 3) := by decide +kernel
theorem dX7_begins_15 : decode cX7_begins 15 = .ok (.iinc 3 1, 3) := by decide +kernel
theorem dX7_begins_18 : decode cX7_begins 18 = .ok (.goto (-16), 3) := by decide +kernel
end
section
theorem dX7_begins_21 : decode cX7_begins 21 = .ok (.aload_n 0, 1) := by decide +kernel
theorem dX7_begins_22 : decode cX7_begins 22 = .ok (.iload_n 1, 1) := by decide +kernel
theorem dX7_begins_23 : decode cX7_begins 23 = .ok (.iconst 0, 1) := by decide +kernel
theorem dX7_begins_24 : decode cX7_begins 24 = .ok (.lconst 1, 1) := by decide +kernel
theorem dX7_begins_25 : decode cX7_begins 25 = .ok (.invokevirtual 66, 3) := by decide +kernel
theorem dX7_begins_28 : decode cX7_begins 28 = .ok (.aload_n 0, 1) := by decide +kernel
theorem dX7_begins_29 : decode cX7_begins 29 = .ok (.iload_n 1, 1) := by decide +kernel
theorem dX7_begins_30 : decode cX7_begins 30 = .ok (.iconst 2, 1) := by decide +kernel
theorem dX7_begins_31 : decode cX7_begins 31 = .ok (.iload_n 2, 1) := by decide +kernel
theorem dX7_begins_32 : decode cX7_begins 32 = .ok (.i2l, 1) := by decide +kernel
theorem dX7_begins_33 : decode cX7_begins 33 = .ok (.invokevirtual 66, 3) := by decide +kernel
theorem dX7_begins_36 : decode cX7_begins 36 = .ok (.aload_n 0, 1) := by decide +kernel
theorem dX7_begins_37 : decode cX7_begins 37 = .ok (.iload_n 1, 1) := by decide +kernel
theorem dX7_begins_38 : decode cX7_begins 38 = .ok (.iconst 4, 1) := by decide +kernel
theorem dX7_begins_39 : decode cX7_begins 39 = .ok (.ldc2_w 74, 3) := by decide +kernel
theorem dX7_begins_42 : decode cX7_begins 42 = .ok (.invokevirtual 66, 3) := by decide +kernel
theorem dX7_begins_45 : decode cX7_begins 45 = .ok (.aload_n 0, 1) := by decide +kernel
theorem dX7_begins_46 : decode cX7_begins 46 = .ok (.iload_n 1, 1) := by decide +kernel
theorem dX7_begins_47 : decode cX7_begins 47 = .ok (.iconst 5, 1) := by decide +kernel
theorem dX7_begins_48 : decode cX7_begins 48 = .ok (.ldc2_w 76, 3) := by decide +kernel
theorem dX7_begins_51 : decode cX7_begins 51 = .ok (.invokevirtual 66, 3) := by decide +kernel
theorem dX7_begins_54 : decode cX7_begins 54 = .ok (.aload_n 0, 1) := by decide +kernel
theorem dX7_begins_55 : decode cX7_begins 55 = .ok (.iload_n 1, 1) := by decide +kernel
theorem dX7_begins_56 : decode cX7_begins 56 = .ok (.bipush 7, 2) := by decide +kernel
theorem dX7_begins_58 : decode cX7_begins 58 = .ok (.lconst 1, 1) := by decide +kernel
theorem dX7_begins_59 : decode cX7_begins 59 = .ok (.invokevirtual 66, 3) := by decide +kernel
theorem dX7_begins_62 : decode cX7_begins 62 = .ok (.aload_n 0, 1) := by decide +kernel
theorem dX7_begins_63 : decode cX7_begins 63 = .ok (.iload_n 1, 1) := by decide +kernel
theorem dX7_begins_64 : decode cX7_begins 64 = .ok (.bipush 14, 2) := by decide +kernel
theorem dX7_begins_66 : decode cX7_begins 66 = .ok (.ldc2_w 38, 3) := by decide +kernel
theorem dX7_begins_69 : decode cX7_begins 69 = .ok (.invokevirtual 66, 3) := by decide +kernel
theorem dX7_begins_72 : decode cX7_begins 72 = .ok (.aload_n 0, 1) := by decide +kernel
theorem dX7_begins_73 : decode cX7_begins 73 = .ok (.iload_n 1, 1) := by decide +kernel
theorem dX7_begins_74 : decode cX7_begins 74 = .ok (.iconst 1, 1) := by decide +kernel
theorem dX7_begins_75 : decode cX7_begins 75 = .ok (.iload_n 1, 1) := by decide +kernel
theorem dX7_begins_76 : decode cX7_begins 76 = .ok (.i2l, 1) := by decide +kernel
theorem dX7_begins_77 : decode cX7_begins 77 = .ok (.invokevirtual 66, 3) := by decide +kernel
theorem dX7_begins_80 : decode cX7_begins 80 = .ok (.return_, 1) := by decide +kernel
theorem dX7_comes_0 : decode cX7_comes 0 = .ok (.iload_n 1, 1) := by decide +kernel
theorem dX7_comes_1 : decode cX7_comes 1 = .ok (.i2l, 1) := by decide +kernel
theorem dX7_comes_2 : decode cX7_comes 2 = .ok (.lconst 1, 1) := by decide +kernel
theorem dX7_comes_3 : decode cX7_comes 3 = .ok (.ldc2_w 44, 3) := by decide +kernel
theorem dX7_comes_6 : decode cX7_comes 6 = .ok (.invokestatic 46, 3) := by decide +kernel
theorem dX7_comes_9 : decode cX7_comes 9 = .ok (.ifCond .eq 34, 3) := by decide +kernel
theorem dX7_comes_12 : decode cX7_comes 12 = .ok (.aload_n 0, 1) := by decide +kernel
theorem dX7_comes_13 : decode cX7_comes 13 = .ok (.iload_n 2, 1) := by decide +kernel
theorem dX7_comes_14 : decode cX7_comes 14 = .ok (.invokevirtual 78, 3) := by decide +kernel
theorem dX7_comes_17 : decode cX7_comes 17 = .ok (.ifCond .eq 26, 3) := by decide +kernel
theorem dX7_comes_20 : decode cX7_comes 20 = .ok (.iload_n 3, 1) := by decide +kernel
theorem dX7_comes_21 : decode cX7_comes 21 = .ok (.i2l, 1) := by decide +kernel
theorem dX7_comes_22 : decode cX7_comes 22 = .ok (.lconst 1, 1) := by decide +kernel
theorem dX7_comes_23 : decode cX7_comes 23 = .ok (.ldc2_w 81, 3) := by decide +kernel
theorem dX7_comes_26 : decode cX7_comes 26 = .ok (.invokestatic 46, 3) := by decide +kernel
theorem dX7_comes_29 : decode cX7_comes 29 = .ok (.ifCond .eq 14, 3) := by decide +kernel
theorem dX7_comes_32 : decode cX7_comes 32 = .ok (.iload 4, 2) := by decide +kernel
theorem dX7_comes_34 : decode cX7_comes 34 = .ok (.i2l, 1) := by decide +kernel
theorem dX7_comes_35 : decode cX7_comes 35 = .ok (.lconst 0, 1) := by decide +kernel
theorem dX7_comes_36 : decode cX7_comes 36 = .ok (.lconst 1, 1) := by decide +kernel
theorem dX7_comes_37 : decode cX7_comes 37 = .ok (.invokestatic 46, 3) := by decide +kernel
theorem dX7_comes_40 : decode cX7_comes 40 = .ok (.ifCond .ne 10, 3) := by decide +kernel
theorem dX7_comes_43 : decode cX7_comes 43 = .ok (.aload_n 0, 1) := by decide +kernel
theorem dX7_comes_44 : decode cX7_comes 44 = .ok (.bipush (-2), 2) := by decide +kernel
theorem dX7_comes_46 : decode cX7_comes 46 = .ok (.invokevirtual 83, 3) := by decide +kernel
theorem dX7_comes_49 : decode cX7_comes 49 = .ok (.ireturn, 1) := by decide +kernel
theorem dX7_comes_50 : decode cX7_comes 50 = .ok (.aload_n 0, 1) := by decide +kernel
theorem dX7_comes_51 : decode cX7_comes 51 = .ok (.iload_n 1, 1) := by decide +kernel
theorem dX7_comes_52 : decode cX7_comes 52 = .ok (.invokevirtual 54, 3) := by decide +kernel
theorem dX7_comes_55 : decode cX7_comes 55 = .ok (.ifCond .eq 10, 3) := by decide +kernel
theorem dX7_comes_58 : decode cX7_comes 58 = .ok (.aload_n 0, 1) := by decide +kernel
theorem dX7_comes_59 : decode cX7_comes 59 = .ok (.bipush (-3), 2) := by decide +kernel
theorem dX7_comes_61 : decode cX7_comes 61 = .ok (.invokevirtual 83, 3) := by decide +kernel
theorem dX7_comes_64 : decode cX7_comes 64 = .ok (.ireturn, 1) := by decide +kernel
theorem dX7_comes_65 : decode cX7_comes 65 = .ok (.aload_n 0, 1) := by decide +kernel
theorem dX7_comes_66 : decode cX7_comes 66 = .ok (.invokevirtual 86, 3) := by decide +kernel
theorem dX7_comes_69 : decode cX7_comes 69 = .ok (.aload_n 0, 1) := by decide +kernel
theorem dX7_comes_70 : decode cX7_comes 70 = .ok (.iload_n 1, 1) := by decide +kernel
theorem dX7_comes_71 : decode cX7_comes 71 = .ok (.iload_n 3, 1) := by decide +kernel
theorem dX7_comes_72 : decode cX7_comes 72 = .ok (.invokevirtual 89, 3) := by decide +kernel
theorem dX7_comes_75 : decode cX7_comes 75 = .ok (.aload_n 0, 1) := by decide +kernel
theorem dX7_comes_76 : decode cX7_comes 76 = .ok (.iload_n 1, 1) := by decide +kernel
theorem dX7_comes_77 : decode cX7_comes 77 = .ok (.iload_n 2, 1) := by decide +kernel
theorem dX7_comes_78 : decode cX7_comes 78 = .ok (.iload 4, 2) := by decide +kernel
theorem dX7_comes_80 : decode cX7_comes 80 = .ok (.iconst 1, 1) := by decide +kernel
theorem dX7_comes_81 : decode cX7_comes 81 = .ok (.if_icmp .ne 7, 3) := by decide +kernel
theorem dX7_comes_84 : decode cX7_comes 84 = .ok (.iconst 1, 1) := by decide +kernel
theorem dX7_comes_85 : decode cX7_comes 85 = .ok (.goto 4, 3) := by decide +kernel
theorem dX7_comes_88 : decode cX7_comes 88 = .ok (.iconst 0, 1) := by decide +kernel
theorem dX7_comes_89 : decode cX7_comes 89 = .ok (.invokevirtual 92, 3) := by decide +kernel
theorem dX7_comes_92 : decode cX7_comes 92 = .ok (.aload_n 0, 1) := by decide +kernel
theorem dX7_comes_93 : decode cX7_comes 93 = .ok (.iload_n 1, 1) := by decide +kernel
theorem dX7_comes_94 : decode cX7_comes 94 = .ok (.invokevirtual 96, 3) := by decide +kernel
theorem dX7_comes_97 : decode cX7_comes 97 = .ok (.ireturn, 1) := by decide +kernel
theorem dX7_moves_0 : decode cX7_moves 0 = .ok (.aload_n 0, 1) := by decide +kernel
theorem dX7_moves_1 : decode cX7_moves 1 = .ok (.iload_n 1, 1) := by decide +kernel
theorem dX7_moves_2 : decode cX7_moves 2 = .ok (.invokevirtual 54, 3) := by decide +kernel
theorem dX7_moves_5 : decode cX7_moves 5 = .ok (.ifCond .eq 39, 3) := by decide +kernel
theorem dX7_moves_8 : decode cX7_moves 8 = .ok (.aload_n 0, 1) := by decide +kernel
theorem dX7_moves_9 : decode cX7_moves 9 = .ok (.iload_n 2, 1) := by decide +kernel
theorem dX7_moves_10 : decode cX7_moves 10 = .ok (.invokevirtual 78, 3) := by decide +kernel
theorem dX7_moves_13 : decode cX7_moves 13 = .ok (.ifCond .eq 31, 3) := by decide +kernel
theorem dX7_moves_16 : decode cX7_moves 16 = .ok (.iload_n 2, 1) := by decide +kernel
theorem dX7_moves_17 : decode cX7_moves 17 = .ok (.iload_n 1, 1) := by decide +kernel
theorem dX7_moves_18 : decode cX7_moves 18 = .ok (.if_icmp .eq 26, 3) := by decide +kernel
theorem dX7_moves_21 : decode cX7_moves 21 = .ok (.iload_n 3, 1) := by decide +kernel
theorem dX7_moves_22 : decode cX7_moves 22 = .ok (.i2l, 1) := by decide +kernel
theorem dX7_moves_23 : decode cX7_moves 23 = .ok (.lconst 1, 1) := by decide +kernel
theorem dX7_moves_24 : decode cX7_moves 24 = .ok (.ldc2_w 81, 3) := by decide +kernel
theorem dX7_moves_27 : decode cX7_moves 27 = .ok (.invokestatic 46, 3) := by decide +kernel
theorem dX7_moves_30 : decode cX7_moves 30 = .ok (.ifCond .eq 14, 3) := by decide +kernel
theorem dX7_moves_33 : decode cX7_moves 33 = .ok (.iload 4, 2) := by decide +kernel
theorem dX7_moves_35 : decode cX7_moves 35 = .ok (.i2l, 1) := by decide +kernel
theorem dX7_moves_36 : decode cX7_moves 36 = .ok (.lconst 0, 1) := by decide +kernel
theorem dX7_moves_37 : decode cX7_moves 37 = .ok (.lconst 1, 1) := by decide +kernel
theorem dX7_moves_38 : decode cX7_moves 38 = .ok (.invokestatic 46, 3) := by decide +kernel
theorem dX7_moves_41 : decode cX7_moves 41 = .ok (.ifCond .ne 10, 3) := by decide +kernel
theorem dX7_moves_44 : decode cX7_moves 44 = .ok (.aload_n 0, 1) := by decide +kernel
theorem dX7_moves_45 : decode cX7_moves 45 = .ok (.bipush (-2), 2) := by decide +kernel
theorem dX7_moves_47 : decode cX7_moves 47 = .ok (.invokevirtual 83, 3) := by decide +kernel
theorem dX7_moves_50 : decode cX7_moves 50 = .ok (.ireturn, 1) := by decide +kernel
theorem dX7_moves_51 : decode cX7_moves 51 = .ok (.aload_n 0, 1) := by decide +kernel
theorem dX7_moves_52 : decode cX7_moves 52 = .ok (.invokevirtual 86, 3) := by decide +kernel
theorem dX7_moves_55 : decode cX7_moves 55 = .ok (.aload_n 0, 1) := by decide +kernel
theorem dX7_moves_56 : decode cX7_moves 56 = .ok (.iload_n 1, 1) := by decide +kernel
theorem dX7_moves_57 : decode cX7_moves 57 = .ok (.iconst 2, 1) := by decide +kernel
theorem dX7_moves_58 : decode cX7_moves 58 = .ok (.iload_n 3, 1) := by decide +kernel
theorem dX7_moves_59 : decode cX7_moves 59 = .ok (.i2l, 1) := by decide +kernel
theorem dX7_moves_60 : decode cX7_moves 60 = .ok (.invokevirtual 66, 3) := by decide +kernel
theorem dX7_moves_63 : decode cX7_moves 63 = .ok (.iload_n 2, 1) := by decide +kernel
theorem dX7_moves_64 : decode cX7_moves 64 = .ok (.ifCond .eq 22, 3) := by decide +kernel
theorem dX7_moves_67 : decode cX7_moves 67 = .ok (.aload_n 0, 1) := by decide +kernel
theorem dX7_moves_68 : decode cX7_moves 68 = .ok (.iload_n 2, 1) := by decide +kernel
theorem dX7_moves_69 : decode cX7_moves 69 = .ok (.iload_n 1, 1) := by decide +kernel
theorem dX7_moves_70 : decode cX7_moves 70 = .ok (.invokevirtual 99, 3) := by decide +kernel
theorem dX7_moves_73 : decode cX7_moves 73 = .ok (.ifCond .eq 13, 3) := by decide +kernel
theorem dX7_moves_76 : decode cX7_moves 76 = .ok (.aload_n 0, 1) := by decide +kernel
theorem dX7_moves_77 : decode cX7_moves 77 = .ok (.iload_n 2, 1) := by decide +kernel
theorem dX7_moves_78 : decode cX7_moves 78 = .ok (.aload_n 0, 1) := by decide +kernel
theorem dX7_moves_79 : decode cX7_moves 79 = .ok (.iload_n 1, 1) := by decide +kernel
theorem dX7_moves_80 : decode cX7_moves 80 = .ok (.invokevirtual 58, 3) := by decide +kernel
theorem dX7_moves_83 : decode cX7_moves 83 = .ok (.invokevirtual 70, 3) := by decide +kernel
theorem dX7_moves_86 : decode cX7_moves 86 = .ok (.aload_n 0, 1) := by decide +kernel
theorem dX7_moves_87 : decode cX7_moves 87 = .ok (.iload_n 1, 1) := by decide +kernel
theorem dX7_moves_88 : decode cX7_moves 88 = .ok (.iload_n 2, 1) := by decide +kernel
theorem dX7_moves_89 : decode cX7_moves 89 = .ok (.iload 4, 2) := by decide +kernel
theorem dX7_moves_91 : decode cX7_moves 91 = .ok (.iconst 1, 1) := by decide +kernel
theorem dX7_moves_92 : decode cX7_moves 92 = .ok (.if_icmp .ne 7, 3) := by decide +kernel
theorem dX7_moves_95 : decode cX7_moves 95 = .ok (.iconst 1, 1) := by decide +kernel
theorem dX7_moves_96 : decode cX7_moves 96 = .ok (.goto 4, 3) := by decide +kernel
theorem dX7_moves_99 : decode cX7_moves 99 = .ok (.iconst 0, 1) := by decide +kernel
theorem dX7_moves_100 : decode cX7_moves 100 = .ok (.invokevirtual 92, 3) := by decide +kernel
theorem dX7_moves_103 : decode cX7_moves 103 = .ok (.aload_n 0, 1) := by decide +kernel
theorem dX7_moves_104 : decode cX7_moves 104 = .ok (.iload_n 1, 1) := by decide +kernel
theorem dX7_moves_105 : decode cX7_moves 105 = .ok (.invokevirtual 96, 3) := by decide +kernel
theorem dX7_moves_108 : decode cX7_moves 108 = .ok (.ireturn, 1) := by decide +kernel
theorem dX7_isSetting_0 : decode cX7_isSetting 0 = .ok (.iload_n 0, 1) := by decide +kernel
theorem dX7_isSetting_1 : decode cX7_isSetting 1 = .ok (.ifCond .ne 15, 3) := by decide +kernel
theorem dX7_isSetting_4 : decode cX7_isSetting 4 = .ok (.iload_n 1, 1) := by decide +kernel
theorem dX7_isSetting_5 : decode cX7_isSetting 5 = .ok (.i2l, 1) := by decide +kernel
theorem dX7_isSetting_6 : decode cX7_isSetting 6 = .ok (.lconst 1, 1) := by decide +kernel
theorem dX7_isSetting_7 : decode cX7_isSetting 7 = .ok (.ldc2_w 81, 3) := by decide +kernel
theorem dX7_isSetting_10 : decode cX7_isSetting 10 = .ok (.invokestatic 46, 3) := by decide +kernel
theorem dX7_isSetting_13 : decode cX7_isSetting 13 = .ok (.goto 40, 3) := by decide +kernel
theorem dX7_isSetting_16 : decode cX7_isSetting 16 = .ok (.iload_n 0, 1) := by decide +kernel
theorem dX7_isSetting_17 : decode cX7_isSetting 17 = .ok (.iconst 1, 1) := by decide +kernel
theorem dX7_isSetting_18 : decode cX7_isSetting 18 = .ok (.if_icmp .ne 15, 3) := by decide +kernel
theorem dX7_isSetting_21 : decode cX7_isSetting 21 = .ok (.iload_n 1, 1) := by decide +kernel
theorem dX7_isSetting_22 : decode cX7_isSetting 22 = .ok (.i2l, 1) := by decide +kernel
theorem dX7_isSetting_23 : decode cX7_isSetting 23 = .ok (.lconst 0, 1) := by decide +kernel
theorem dX7_isSetting_24 : decode cX7_isSetting 24 = .ok (.ldc2_w 102, 3) := by decide +kernel
theorem dX7_isSetting_27 : decode cX7_isSetting 27 = .ok (.invokestatic 46, 3) := by decide +kernel
theorem dX7_isSetting_30 : decode cX7_isSetting 30 = .ok (.goto 23, 3) := by decide +kernel
theorem dX7_isSetting_33 : decode cX7_isSetting 33 = .ok (.iload_n 0, 1) := by decide +kernel
theorem dX7_isSetting_34 : decode cX7_isSetting 34 = .ok (.iconst 2, 1) := by decide +kernel
theorem dX7_isSetting_35 : decode cX7_isSetting 35 = .ok (.if_icmp .ne 17, 3) := by decide +kernel
theorem dX7_isSetting_38 : decode cX7_isSetting 38 = .ok (.iload_n 1, 1) := by decide +kernel
theorem dX7_isSetting_39 : decode cX7_isSetting 39 = .ok (.i2l, 1) := by decide +kernel
theorem dX7_isSetting_40 : decode cX7_isSetting 40 = .ok (.lconst 0, 1) := by decide +kernel
theorem dX7_isSetting_41 : decode cX7_isSetting 41 = .ok (.lconst 1, 1) := by decide +kernel
theorem dX7_isSetting_42 : decode cX7_isSetting 42 = .ok (.invokestatic 46, 3) := by decide +kernel
theorem dX7_isSetting_45 : decode cX7_isSetting 45 = .ok (.ifCond .eq 7, 3) := by decide +kernel
theorem dX7_isSetting_48 : decode cX7_isSetting 48 = .ok (.iconst 1, 1) := by decide +kernel
theorem dX7_isSetting_49 : decode cX7_isSetting 49 = .ok (.goto 4, 3) := by decide +kernel
theorem dX7_isSetting_52 : decode cX7_isSetting 52 = .ok (.iconst 0, 1) := by decide +kernel
theorem dX7_isSetting_53 : decode cX7_isSetting 53 = .ok (.ireturn, 1) := by decide +kernel
theorem dX7_placeOf_0 : decode cX7_placeOf 0 = .ok (.iload_n 0, 1) := by decide +kernel
theorem dX7_placeOf_1 : decode cX7_placeOf 1 = .ok (.ifCond .ne 7, 3) := by decide +kernel
theorem dX7_placeOf_4 : decode cX7_placeOf 4 = .ok (.iconst 2, 1) := by decide +kernel
theorem dX7_placeOf_5 : decode cX7_placeOf 5 = .ok (.goto 14, 3) := by decide +kernel
theorem dX7_placeOf_8 : decode cX7_placeOf 8 = .ok (.iload_n 0, 1) := by decide +kernel
theorem dX7_placeOf_9 : decode cX7_placeOf 9 = .ok (.iconst 1, 1) := by decide +kernel
theorem dX7_placeOf_10 : decode cX7_placeOf 10 = .ok (.if_icmp .ne 7, 3) := by decide +kernel
theorem dX7_placeOf_13 : decode cX7_placeOf 13 = .ok (.iconst 5, 1) := by decide +kernel
theorem dX7_placeOf_14 : decode cX7_placeOf 14 = .ok (.goto 5, 3) := by decide +kernel
theorem dX7_placeOf_17 : decode cX7_placeOf 17 = .ok (.bipush 6, 2) := by decide +kernel
theorem dX7_placeOf_19 : decode cX7_placeOf 19 = .ok (.ireturn, 1) := by decide +kernel
theorem dX7_sets_0 : decode cX7_sets 0 = .ok (.aload_n 0, 1) := by decide +kernel
theorem dX7_sets_1 : decode cX7_sets 1 = .ok (.iload_n 1, 1) := by decide +kernel
theorem dX7_sets_2 : decode cX7_sets 2 = .ok (.invokevirtual 54, 3) := by decide +kernel
theorem dX7_sets_5 : decode cX7_sets 5 = .ok (.ifCond .eq 11, 3) := by decide +kernel
theorem dX7_sets_8 : decode cX7_sets 8 = .ok (.iload_n 2, 1) := by decide +kernel
theorem dX7_sets_9 : decode cX7_sets 9 = .ok (.iload_n 3, 1) := by decide +kernel
theorem dX7_sets_10 : decode cX7_sets 10 = .ok (.invokestatic 104, 3) := by decide +kernel
theorem dX7_sets_13 : decode cX7_sets 13 = .ok (.ifCond .ne 10, 3) := by decide +kernel
theorem dX7_sets_16 : decode cX7_sets 16 = .ok (.aload_n 0, 1) := by decide +kernel
theorem dX7_sets_17 : decode cX7_sets 17 = .ok (.bipush (-2), 2) := by decide +kernel
theorem dX7_sets_19 : decode cX7_sets 19 = .ok (.invokevirtual 83, 3) := by decide +kernel
theorem dX7_sets_22 : decode cX7_sets 22 = .ok (.ireturn, 1) := by decide +kernel
theorem dX7_sets_23 : decode cX7_sets 23 = .ok (.aload_n 0, 1) := by decide +kernel
theorem dX7_sets_24 : decode cX7_sets 24 = .ok (.invokevirtual 86, 3) := by decide +kernel
theorem dX7_sets_27 : decode cX7_sets 27 = .ok (.aload_n 0, 1) := by decide +kernel
theorem dX7_sets_28 : decode cX7_sets 28 = .ok (.iload_n 1, 1) := by decide +kernel
theorem dX7_sets_29 : decode cX7_sets 29 = .ok (.iload_n 2, 1) := by decide +kernel
theorem dX7_sets_30 : decode cX7_sets 30 = .ok (.invokestatic 107, 3) := by decide +kernel
theorem dX7_sets_33 : decode cX7_sets 33 = .ok (.invokevirtual 50, 3) := by decide +kernel
theorem dX7_sets_36 : decode cX7_sets 36 = .ok (.l2i, 1) := by decide +kernel
theorem dX7_sets_37 : decode cX7_sets 37 = .ok (.istore 4, 2) := by decide +kernel
theorem dX7_sets_39 : decode cX7_sets 39 = .ok (.aload_n 0, 1) := by decide +kernel
theorem dX7_sets_40 : decode cX7_sets 40 = .ok (.iload_n 1, 1) := by decide +kernel
theorem dX7_sets_41 : decode cX7_sets 41 = .ok (.iload_n 2, 1) := by decide +kernel
theorem dX7_sets_42 : decode cX7_sets 42 = .ok (.invokestatic 107, 3) := by decide +kernel
theorem dX7_sets_45 : decode cX7_sets 45 = .ok (.iload_n 3, 1) := by decide +kernel
theorem dX7_sets_46 : decode cX7_sets 46 = .ok (.i2l, 1) := by decide +kernel
theorem dX7_sets_47 : decode cX7_sets 47 = .ok (.invokevirtual 66, 3) := by decide +kernel
theorem dX7_sets_50 : decode cX7_sets 50 = .ok (.iload 4, 2) := by decide +kernel
theorem dX7_sets_52 : decode cX7_sets 52 = .ok (.ireturn, 1) := by decide +kernel
theorem dX7_there_0 : decode cX7_there 0 = .ok (.iconst 0, 1) := by decide +kernel
theorem dX7_there_1 : decode cX7_there 1 = .ok (.istore_n 1, 1) := by decide +kernel
theorem dX7_there_2 : decode cX7_there 2 = .ok (.iconst 1, 1) := by decide +kernel
theorem dX7_there_3 : decode cX7_there 3 = .ok (.istore_n 2, 1) := by decide +kernel
theorem dX7_there_4 : decode cX7_there 4 = .ok (.iload_n 2, 1) := by decide +kernel
theorem dX7_there_5 : decode cX7_there 5 = .ok (.bipush 12, 2) := by decide +kernel
theorem dX7_there_7 : decode cX7_there 7 = .ok (.if_icmp .gt 27, 3) := by decide +kernel
theorem dX7_there_10 : decode cX7_there 10 = .ok (.iload_n 1, 1) := by decide +kernel
theorem dX7_there_11 : decode cX7_there 11 = .ok (.aload_n 0, 1) := by decide +kernel
theorem dX7_there_12 : decode cX7_there 12 = .ok (.iload_n 2, 1) := by decide +kernel
theorem dX7_there_13 : decode cX7_there 13 = .ok (.invokevirtual 54, 3) := by decide +kernel
theorem dX7_there_16 : decode cX7_there 16 = .ok (.ifCond .eq 9, 3) := by decide +kernel
theorem dX7_there_19 : decode cX7_there 19 = .ok (.iconst 1, 1) := by decide +kernel
theorem dX7_there_20 : decode cX7_there 20 = .ok (.iload_n 2, 1) := by decide +kernel
theorem dX7_there_21 : decode cX7_there 21 = .ok (.ishl, 1) := by decide +kernel
theorem dX7_there_22 : decode cX7_there 22 = .ok (.goto 4, 3) := by decide +kernel
theorem dX7_there_25 : decode cX7_there 25 = .ok (.iconst 0, 1) := by decide +kernel
theorem dX7_there_26 : decode cX7_there 26 = .ok (.ior, 1) := by decide +kernel
theorem dX7_there_27 : decode cX7_there 27 = .ok (.istore_n 1, 1) := by decide +kernel
theorem dX7_there_28 : decode cX7_there 28 = .ok (.iinc 2 1, 3) := by decide +kernel
theorem dX7_there_31 : decode cX7_there 31 = .ok (.goto (-27), 3) := by decide +kernel
theorem dX7_there_34 : decode cX7_there 34 = .ok (.iload_n 1, 1) := by decide +kernel
theorem dX7_there_35 : decode cX7_there 35 = .ok (.ireturn, 1) := by decide +kernel
theorem dX7_size_0 : decode cX7_size 0 = .ok (.iconst 0, 1) := by decide +kernel
theorem dX7_size_1 : decode cX7_size 1 = .ok (.istore_n 1, 1) := by decide +kernel
theorem dX7_size_2 : decode cX7_size 2 = .ok (.iconst 0, 1) := by decide +kernel
theorem dX7_size_3 : decode cX7_size 3 = .ok (.istore_n 2, 1) := by decide +kernel
theorem dX7_size_4 : decode cX7_size 4 = .ok (.iload_n 2, 1) := by decide +kernel
theorem dX7_size_5 : decode cX7_size 5 = .ok (.bipush 12, 2) := by decide +kernel
theorem dX7_size_7 : decode cX7_size 7 = .ok (.if_icmp .gt 17, 3) := by decide +kernel
theorem dX7_size_10 : decode cX7_size 10 = .ok (.iload_n 1, 1) := by decide +kernel
theorem dX7_size_11 : decode cX7_size 11 = .ok (.iload_n 0, 1) := by decide +kernel
theorem dX7_size_12 : decode cX7_size 12 = .ok (.iload_n 2, 1) := by decide +kernel
theorem dX7_size_13 : decode cX7_size 13 = .ok (.ishr, 1) := by decide +kernel
theorem dX7_size_14 : decode cX7_size 14 = .ok (.iconst 1, 1) := by decide +kernel
theorem dX7_size_15 : decode cX7_size 15 = .ok (.iand, 1) := by decide +kernel
theorem dX7_size_16 : decode cX7_size 16 = .ok (.iadd, 1) := by decide +kernel
theorem dX7_size_17 : decode cX7_size 17 = .ok (.istore_n 1, 1) := by decide +kernel
theorem dX7_size_18 : decode cX7_size 18 = .ok (.iinc 2 1, 3) := by decide +kernel
theorem dX7_size_21 : decode cX7_size 21 = .ok (.goto (-17), 3) := by decide +kernel
theorem dX7_size_24 : decode cX7_size 24 = .ok (.iload_n 1, 1) := by decide +kernel
theorem dX7_size_25 : decode cX7_size 25 = .ok (.ireturn, 1) := by decide +kernel
theorem dX7_goes_0 : decode cX7_goes 0 = .ok (.lconst 0, 1) := by decide +kernel
theorem dX7_goes_1 : decode cX7_goes 1 = .ok (.lstore_n 2, 1) := by decide +kernel
theorem dX7_goes_2 : decode cX7_goes 2 = .ok (.iconst 1, 1) := by decide +kernel
theorem dX7_goes_3 : decode cX7_goes 3 = .ok (.istore 4, 2) := by decide +kernel
theorem dX7_goes_5 : decode cX7_goes 5 = .ok (.iload 4, 2) := by decide +kernel
theorem dX7_goes_7 : decode cX7_goes 7 = .ok (.bipush 12, 2) := by decide +kernel
theorem dX7_goes_9 : decode cX7_goes 9 = .ok (.if_icmp .gt 33, 3) := by decide +kernel
theorem dX7_goes_12 : decode cX7_goes 12 = .ok (.lload_n 2, 1) := by decide +kernel
theorem dX7_goes_13 : decode cX7_goes 13 = .ok (.aload_n 0, 1) := by decide +kernel
theorem dX7_goes_14 : decode cX7_goes 14 = .ok (.iload 4, 2) := by decide +kernel
theorem dX7_goes_16 : decode cX7_goes 16 = .ok (.iload_n 1, 1) := by decide +kernel
theorem dX7_goes_17 : decode cX7_goes 17 = .ok (.invokevirtual 62, 3) := by decide +kernel
theorem dX7_goes_20 : decode cX7_goes 20 = .ok (.ifCond .eq 13, 3) := by decide +kernel
theorem dX7_goes_23 : decode cX7_goes 23 = .ok (.aload_n 0, 1) := by decide +kernel
theorem dX7_goes_24 : decode cX7_goes 24 = .ok (.iload 4, 2) := by decide +kernel
theorem dX7_goes_26 : decode cX7_goes 26 = .ok (.iconst 2, 1) := by decide +kernel
theorem dX7_goes_27 : decode cX7_goes 27 = .ok (.invokevirtual 50, 3) := by decide +kernel
theorem dX7_goes_30 : decode cX7_goes 30 = .ok (.goto 4, 3) := by decide +kernel
theorem dX7_goes_33 : decode cX7_goes 33 = .ok (.lconst 0, 1) := by decide +kernel
theorem dX7_goes_34 : decode cX7_goes 34 = .ok (.ladd, 1) := by decide +kernel
theorem dX7_goes_35 : decode cX7_goes 35 = .ok (.lstore_n 2, 1) := by decide +kernel
theorem dX7_goes_36 : decode cX7_goes 36 = .ok (.iinc 4 1, 3) := by decide +kernel
theorem dX7_goes_39 : decode cX7_goes 39 = .ok (.goto (-34), 3) := by decide +kernel
theorem dX7_goes_42 : decode cX7_goes 42 = .ok (.iconst 1, 1) := by decide +kernel
theorem dX7_goes_43 : decode cX7_goes 43 = .ok (.istore 4, 2) := by decide +kernel
theorem dX7_goes_45 : decode cX7_goes 45 = .ok (.iload 4, 2) := by decide +kernel
theorem dX7_goes_47 : decode cX7_goes 47 = .ok (.bipush 12, 2) := by decide +kernel
theorem dX7_goes_49 : decode cX7_goes 49 = .ok (.if_icmp .gt 68, 3) := by decide +kernel
theorem dX7_goes_52 : decode cX7_goes 52 = .ok (.aload_n 0, 1) := by decide +kernel
theorem dX7_goes_53 : decode cX7_goes 53 = .ok (.iload 4, 2) := by decide +kernel
theorem dX7_goes_55 : decode cX7_goes 55 = .ok (.iload_n 1, 1) := by decide +kernel
theorem dX7_goes_56 : decode cX7_goes 56 = .ok (.invokevirtual 62, 3) := by decide +kernel
theorem dX7_goes_59 : decode cX7_goes 59 = .ok (.ifCond .eq 52, 3) := by decide +kernel
theorem dX7_goes_62 : decode cX7_goes 62 = .ok (.aload_n 0, 1) := by decide +kernel
theorem dX7_goes_63 : decode cX7_goes 63 = .ok (.iload 4, 2) := by decide +kernel
theorem dX7_goes_65 : decode cX7_goes 65 = .ok (.iconst 2, 1) := by decide +kernel
theorem dX7_goes_66 : decode cX7_goes 66 = .ok (.invokevirtual 50, 3) := by decide +kernel
theorem dX7_goes_69 : decode cX7_goes 69 = .ok (.aload_n 0, 1) := by decide +kernel
theorem dX7_goes_70 : decode cX7_goes 70 = .ok (.iload_n 1, 1) := by decide +kernel
theorem dX7_goes_71 : decode cX7_goes 71 = .ok (.iconst 2, 1) := by decide +kernel
theorem dX7_goes_72 : decode cX7_goes 72 = .ok (.invokevirtual 50, 3) := by decide +kernel
theorem dX7_goes_75 : decode cX7_goes 75 = .ok (.lmul, 1) := by decide +kernel
theorem dX7_goes_76 : decode cX7_goes 76 = .ok (.lload_n 2, 1) := by decide +kernel
theorem dX7_goes_77 : decode cX7_goes 77 = .ok (.ldiv, 1) := by decide +kernel
theorem dX7_goes_78 : decode cX7_goes 78 = .ok (.lstore 5, 2) := by decide +kernel
theorem dX7_goes_80 : decode cX7_goes 80 = .ok (.aload_n 0, 1) := by decide +kernel
theorem dX7_goes_81 : decode cX7_goes 81 = .ok (.iload 4, 2) := by decide +kernel
theorem dX7_goes_83 : decode cX7_goes 83 = .ok (.iconst 2, 1) := by decide +kernel
theorem dX7_goes_84 : decode cX7_goes 84 = .ok (.lload 5, 2) := by decide +kernel
theorem dX7_goes_86 : decode cX7_goes 86 = .ok (.lconst 1, 1) := by decide +kernel
theorem dX7_goes_87 : decode cX7_goes 87 = .ok (.lcmp, 1) := by decide +kernel
theorem dX7_goes_88 : decode cX7_goes 88 = .ok (.ifCond .ge 7, 3) := by decide +kernel
theorem dX7_goes_91 : decode cX7_goes 91 = .ok (.lconst 1, 1) := by decide +kernel
theorem dX7_goes_92 : decode cX7_goes 92 = .ok (.goto 5, 3) := by decide +kernel
theorem dX7_goes_95 : decode cX7_goes 95 = .ok (.lload 5, 2) := by decide +kernel
theorem dX7_goes_97 : decode cX7_goes 97 = .ok (.invokevirtual 66, 3) := by decide +kernel
theorem dX7_goes_100 : decode cX7_goes 100 = .ok (.aload_n 0, 1) := by decide +kernel
theorem dX7_goes_101 : decode cX7_goes 101 = .ok (.iload 4, 2) := by decide +kernel
theorem dX7_goes_103 : decode cX7_goes 103 = .ok (.aload_n 0, 1) := by decide +kernel
theorem dX7_goes_104 : decode cX7_goes 104 = .ok (.iload_n 1, 1) := by decide +kernel
theorem dX7_goes_105 : decode cX7_goes 105 = .ok (.invokevirtual 58, 3) := by decide +kernel
theorem dX7_goes_108 : decode cX7_goes 108 = .ok (.invokevirtual 70, 3) := by decide +kernel
theorem dX7_goes_111 : decode cX7_goes 111 = .ok (.iinc 4 1, 3) := by decide +kernel
theorem dX7_goes_114 : decode cX7_goes 114 = .ok (.goto (-69), 3) := by decide +kernel
theorem dX7_goes_117 : decode cX7_goes 117 = .ok (.aload_n 0, 1) := by decide +kernel
theorem dX7_goes_118 : decode cX7_goes 118 = .ok (.iload_n 1, 1) := by decide +kernel
theorem dX7_goes_119 : decode cX7_goes 119 = .ok (.iconst 0, 1) := by decide +kernel
theorem dX7_goes_120 : decode cX7_goes 120 = .ok (.lconst 0, 1) := by decide +kernel
theorem dX7_goes_121 : decode cX7_goes 121 = .ok (.invokevirtual 66, 3) := by decide +kernel
theorem dX7_goes_124 : decode cX7_goes 124 = .ok (.return_, 1) := by decide +kernel
theorem dX7_goesAll_0 : decode cX7_goesAll 0 = .ok (.iconst 1, 1) := by decide +kernel
theorem dX7_goesAll_1 : decode cX7_goesAll 1 = .ok (.istore_n 1, 1) := by decide +kernel
theorem dX7_goesAll_2 : decode cX7_goesAll 2 = .ok (.iload_n 1, 1) := by decide +kernel
theorem dX7_goesAll_3 : decode cX7_goesAll 3 = .ok (.bipush 12, 2) := by decide +kernel
theorem dX7_goesAll_5 : decode cX7_goesAll 5 = .ok (.if_icmp .gt 53, 3) := by decide +kernel
theorem dX7_goesAll_8 : decode cX7_goesAll 8 = .ok (.aload_n 0, 1) := by decide +kernel
theorem dX7_goesAll_9 : decode cX7_goesAll 9 = .ok (.iload_n 1, 1) := by decide +kernel
theorem dX7_goesAll_10 : decode cX7_goesAll 10 = .ok (.invokevirtual 54, 3) := by decide +kernel
theorem dX7_goesAll_13 : decode cX7_goesAll 13 = .ok (.ifCond .eq 39, 3) := by decide +kernel
theorem dX7_goesAll_16 : decode cX7_goesAll 16 = .ok (.aload_n 0, 1) := by decide +kernel
theorem dX7_goesAll_17 : decode cX7_goesAll 17 = .ok (.iload_n 1, 1) := by decide +kernel
theorem dX7_goesAll_18 : decode cX7_goesAll 18 = .ok (.bipush 7, 2) := by decide +kernel
theorem dX7_goesAll_20 : decode cX7_goesAll 20 = .ok (.invokevirtual 50, 3) := by decide +kernel
theorem dX7_goesAll_23 : decode cX7_goesAll 23 = .ok (.lconst 0, 1) := by decide +kernel
theorem dX7_goesAll_24 : decode cX7_goesAll 24 = .ok (.lcmp, 1) := by decide +kernel
theorem dX7_goesAll_25 : decode cX7_goesAll 25 = .ok (.ifCond .ne 27, 3) := by decide +kernel
theorem dX7_goesAll_28 : decode cX7_goesAll 28 = .ok (.aload_n 0, 1) := by decide +kernel
theorem dX7_goesAll_29 : decode cX7_goesAll 29 = .ok (.iload_n 1, 1) := by decide +kernel
theorem dX7_goesAll_30 : decode cX7_goesAll 30 = .ok (.bipush 8, 2) := by decide +kernel
theorem dX7_goesAll_32 : decode cX7_goesAll 32 = .ok (.invokevirtual 50, 3) := by decide +kernel
theorem dX7_goesAll_35 : decode cX7_goesAll 35 = .ok (.aload_n 0, 1) := by decide +kernel
theorem dX7_goesAll_36 : decode cX7_goesAll 36 = .ok (.getfield 7, 3) := by decide +kernel
theorem dX7_goesAll_39 : decode cX7_goesAll 39 = .ok (.sipush 210, 3) := by decide +kernel
theorem dX7_goesAll_42 : decode cX7_goesAll 42 = .ok (.laload, 1) := by decide +kernel
theorem dX7_goesAll_43 : decode cX7_goesAll 43 = .ok (.lcmp, 1) := by decide +kernel
theorem dX7_goesAll_44 : decode cX7_goesAll 44 = .ok (.ifCond .lt 8, 3) := by decide +kernel
theorem dX7_goesAll_47 : decode cX7_goesAll 47 = .ok (.aload_n 0, 1) := by decide +kernel
theorem dX7_goesAll_48 : decode cX7_goesAll 48 = .ok (.iload_n 1, 1) := by decide +kernel
theorem dX7_goesAll_49 : decode cX7_goesAll 49 = .ok (.invokevirtual 110, 3) := by decide +kernel
theorem dX7_goesAll_52 : decode cX7_goesAll 52 = .ok (.iinc 1 1, 3) := by decide +kernel
theorem dX7_goesAll_55 : decode cX7_goesAll 55 = .ok (.goto (-53), 3) := by decide +kernel
theorem dX7_goesAll_58 : decode cX7_goesAll 58 = .ok (.return_, 1) := by decide +kernel
theorem dX7_closes_0 : decode cX7_closes 0 = .ok (.aload_n 0, 1) := by decide +kernel
theorem dX7_closes_1 : decode cX7_closes 1 = .ok (.iload_n 1, 1) := by decide +kernel
theorem dX7_closes_2 : decode cX7_closes 2 = .ok (.invokevirtual 54, 3) := by decide +kernel
theorem dX7_closes_5 : decode cX7_closes 5 = .ok (.ifCond .ne 10, 3) := by decide +kernel
theorem dX7_closes_8 : decode cX7_closes 8 = .ok (.aload_n 0, 1) := by decide +kernel
theorem dX7_closes_9 : decode cX7_closes 9 = .ok (.bipush (-2), 2) := by decide +kernel
theorem dX7_closes_11 : decode cX7_closes 11 = .ok (.invokevirtual 83, 3) := by decide +kernel
theorem dX7_closes_14 : decode cX7_closes 14 = .ok (.ireturn, 1) := by decide +kernel
theorem dX7_closes_15 : decode cX7_closes 15 = .ok (.aload_n 0, 1) := by decide +kernel
theorem dX7_closes_16 : decode cX7_closes 16 = .ok (.iload_n 1, 1) := by decide +kernel
theorem dX7_closes_17 : decode cX7_closes 17 = .ok (.bipush 7, 2) := by decide +kernel
theorem dX7_closes_19 : decode cX7_closes 19 = .ok (.invokevirtual 50, 3) := by decide +kernel
theorem dX7_closes_22 : decode cX7_closes 22 = .ok (.lconst 0, 1) := by decide +kernel
theorem dX7_closes_23 : decode cX7_closes 23 = .ok (.lcmp, 1) := by decide +kernel
theorem dX7_closes_24 : decode cX7_closes 24 = .ok (.ifCond .ne 10, 3) := by decide +kernel
theorem dX7_closes_27 : decode cX7_closes 27 = .ok (.aload_n 0, 1) := by decide +kernel
theorem dX7_closes_28 : decode cX7_closes 28 = .ok (.bipush (-3), 2) := by decide +kernel
theorem dX7_closes_30 : decode cX7_closes 30 = .ok (.invokevirtual 83, 3) := by decide +kernel
theorem dX7_closes_33 : decode cX7_closes 33 = .ok (.ireturn, 1) := by decide +kernel
theorem dX7_closes_34 : decode cX7_closes 34 = .ok (.aload_n 0, 1) := by decide +kernel
theorem dX7_closes_35 : decode cX7_closes 35 = .ok (.invokevirtual 86, 3) := by decide +kernel
theorem dX7_closes_38 : decode cX7_closes 38 = .ok (.aload_n 0, 1) := by decide +kernel
theorem dX7_closes_39 : decode cX7_closes 39 = .ok (.iload_n 1, 1) := by decide +kernel
theorem dX7_closes_40 : decode cX7_closes 40 = .ok (.bipush 7, 2) := by decide +kernel
theorem dX7_closes_42 : decode cX7_closes 42 = .ok (.lconst 0, 1) := by decide +kernel
theorem dX7_closes_43 : decode cX7_closes 43 = .ok (.invokevirtual 66, 3) := by decide +kernel
theorem dX7_closes_46 : decode cX7_closes 46 = .ok (.aload_n 0, 1) := by decide +kernel
theorem dX7_closes_47 : decode cX7_closes 47 = .ok (.iload_n 1, 1) := by decide +kernel
theorem dX7_closes_48 : decode cX7_closes 48 = .ok (.iconst 3, 1) := by decide +kernel
theorem dX7_closes_49 : decode cX7_closes 49 = .ok (.lconst 0, 1) := by decide +kernel
theorem dX7_closes_50 : decode cX7_closes 50 = .ok (.invokevirtual 66, 3) := by decide +kernel
theorem dX7_closes_53 : decode cX7_closes 53 = .ok (.aload_n 0, 1) := by decide +kernel
theorem dX7_closes_54 : decode cX7_closes 54 = .ok (.invokevirtual 114, 3) := by decide +kernel
theorem dX7_closes_57 : decode cX7_closes 57 = .ok (.aload_n 0, 1) := by decide +kernel
theorem dX7_closes_58 : decode cX7_closes 58 = .ok (.invokevirtual 117, 3) := by decide +kernel
theorem dX7_closes_61 : decode cX7_closes 61 = .ok (.invokestatic 121, 3) := by decide +kernel
theorem dX7_closes_64 : decode cX7_closes 64 = .ok (.ireturn, 1) := by decide +kernel
theorem dX7_can_0 : decode cX7_can 0 = .ok (.aload_n 0, 1) := by decide +kernel
theorem dX7_can_1 : decode cX7_can 1 = .ok (.iload_n 1, 1) := by decide +kernel
theorem dX7_can_2 : decode cX7_can 2 = .ok (.invokevirtual 54, 3) := by decide +kernel
theorem dX7_can_5 : decode cX7_can 5 = .ok (.ifCond .eq 41, 3) := by decide +kernel
theorem dX7_can_8 : decode cX7_can 8 = .ok (.aload_n 0, 1) := by decide +kernel
theorem dX7_can_9 : decode cX7_can 9 = .ok (.iload_n 1, 1) := by decide +kernel
theorem dX7_can_10 : decode cX7_can 10 = .ok (.bipush 7, 2) := by decide +kernel
theorem dX7_can_12 : decode cX7_can 12 = .ok (.invokevirtual 50, 3) := by decide +kernel
theorem dX7_can_15 : decode cX7_can 15 = .ok (.lconst 1, 1) := by decide +kernel
theorem dX7_can_16 : decode cX7_can 16 = .ok (.lcmp, 1) := by decide +kernel
theorem dX7_can_17 : decode cX7_can 17 = .ok (.ifCond .ne 29, 3) := by decide +kernel
theorem dX7_can_20 : decode cX7_can 20 = .ok (.aload_n 0, 1) := by decide +kernel
theorem dX7_can_21 : decode cX7_can 21 = .ok (.iload_n 1, 1) := by decide +kernel
theorem dX7_can_22 : decode cX7_can 22 = .ok (.iconst 3, 1) := by decide +kernel
theorem dX7_can_23 : decode cX7_can 23 = .ok (.invokevirtual 50, 3) := by decide +kernel
theorem dX7_can_26 : decode cX7_can 26 = .ok (.lconst 0, 1) := by decide +kernel
theorem dX7_can_27 : decode cX7_can 27 = .ok (.lcmp, 1) := by decide +kernel
theorem dX7_can_28 : decode cX7_can 28 = .ok (.ifCond .le 18, 3) := by decide +kernel
theorem dX7_can_31 : decode cX7_can 31 = .ok (.aload_n 0, 1) := by decide +kernel
theorem dX7_can_32 : decode cX7_can 32 = .ok (.iload_n 1, 1) := by decide +kernel
theorem dX7_can_33 : decode cX7_can 33 = .ok (.iconst 4, 1) := by decide +kernel
theorem dX7_can_34 : decode cX7_can 34 = .ok (.invokevirtual 50, 3) := by decide +kernel
theorem dX7_can_37 : decode cX7_can 37 = .ok (.lconst 0, 1) := by decide +kernel
theorem dX7_can_38 : decode cX7_can 38 = .ok (.lcmp, 1) := by decide +kernel
theorem dX7_can_39 : decode cX7_can 39 = .ok (.ifCond .le 7, 3) := by decide +kernel
theorem dX7_can_42 : decode cX7_can 42 = .ok (.iconst 1, 1) := by decide +kernel
theorem dX7_can_43 : decode cX7_can 43 = .ok (.goto 4, 3) := by decide +kernel
theorem dX7_can_46 : decode cX7_can 46 = .ok (.iconst 0, 1) := by decide +kernel
theorem dX7_can_47 : decode cX7_can 47 = .ok (.ireturn, 1) := by decide +kernel
theorem dX7_canSet_0 : decode cX7_canSet 0 = .ok (.iconst 0, 1) := by decide +kernel
theorem dX7_canSet_1 : decode cX7_canSet 1 = .ok (.istore_n 1, 1) := by decide +kernel
theorem dX7_canSet_2 : decode cX7_canSet 2 = .ok (.iconst 1, 1) := by decide +kernel
theorem dX7_canSet_3 : decode cX7_canSet 3 = .ok (.istore_n 2, 1) := by decide +kernel
theorem dX7_canSet_4 : decode cX7_canSet 4 = .ok (.iload_n 2, 1) := by decide +kernel
theorem dX7_canSet_5 : decode cX7_canSet 5 = .ok (.bipush 12, 2) := by decide +kernel
theorem dX7_canSet_7 : decode cX7_canSet 7 = .ok (.if_icmp .gt 27, 3) := by decide +kernel
theorem dX7_canSet_10 : decode cX7_canSet 10 = .ok (.iload_n 1, 1) := by decide +kernel
theorem dX7_canSet_11 : decode cX7_canSet 11 = .ok (.aload_n 0, 1) := by decide +kernel
theorem dX7_canSet_12 : decode cX7_canSet 12 = .ok (.iload_n 2, 1) := by decide +kernel
theorem dX7_canSet_13 : decode cX7_canSet 13 = .ok (.invokevirtual 124, 3) := by decide +kernel
theorem dX7_canSet_16 : decode cX7_canSet 16 = .ok (.ifCond .eq 9, 3) := by decide +kernel
theorem dX7_canSet_19 : decode cX7_canSet 19 = .ok (.iconst 1, 1) := by decide +kernel
theorem dX7_canSet_20 : decode cX7_canSet 20 = .ok (.iload_n 2, 1) := by decide +kernel
theorem dX7_canSet_21 : decode cX7_canSet 21 = .ok (.ishl, 1) := by decide +kernel
theorem dX7_canSet_22 : decode cX7_canSet 22 = .ok (.goto 4, 3) := by decide +kernel
theorem dX7_canSet_25 : decode cX7_canSet 25 = .ok (.iconst 0, 1) := by decide +kernel
theorem dX7_canSet_26 : decode cX7_canSet 26 = .ok (.ior, 1) := by decide +kernel
theorem dX7_canSet_27 : decode cX7_canSet 27 = .ok (.istore_n 1, 1) := by decide +kernel
theorem dX7_canSet_28 : decode cX7_canSet 28 = .ok (.iinc 2 1, 3) := by decide +kernel
theorem dX7_canSet_31 : decode cX7_canSet 31 = .ok (.goto (-27), 3) := by decide +kernel
theorem dX7_canSet_34 : decode cX7_canSet 34 = .ok (.iload_n 1, 1) := by decide +kernel
theorem dX7_canSet_35 : decode cX7_canSet 35 = .ok (.ireturn, 1) := by decide +kernel
theorem dX7_isLive_0 : decode cX7_isLive 0 = .ok (.aload_n 0, 1) := by decide +kernel
theorem dX7_isLive_1 : decode cX7_isLive 1 = .ok (.iload_n 1, 1) := by decide +kernel
theorem dX7_isLive_2 : decode cX7_isLive 2 = .ok (.invokevirtual 124, 3) := by decide +kernel
theorem dX7_isLive_5 : decode cX7_isLive 5 = .ok (.istore_n 2, 1) := by decide +kernel
theorem dX7_isLive_6 : decode cX7_isLive 6 = .ok (.iconst 1, 1) := by decide +kernel
theorem dX7_isLive_7 : decode cX7_isLive 7 = .ok (.istore_n 3, 1) := by decide +kernel
theorem dX7_isLive_8 : decode cX7_isLive 8 = .ok (.iload_n 3, 1) := by decide +kernel
theorem dX7_isLive_9 : decode cX7_isLive 9 = .ok (.bipush 12, 2) := by decide +kernel
theorem dX7_isLive_11 : decode cX7_isLive 11 = .ok (.if_icmp .gt 36, 3) := by decide +kernel
theorem dX7_isLive_14 : decode cX7_isLive 14 = .ok (.iload_n 2, 1) := by decide +kernel
theorem dX7_isLive_15 : decode cX7_isLive 15 = .ok (.ifCond .ne 32, 3) := by decide +kernel
theorem dX7_isLive_18 : decode cX7_isLive 18 = .ok (.aload_n 0, 1) := by decide +kernel
theorem dX7_isLive_19 : decode cX7_isLive 19 = .ok (.iload_n 3, 1) := by decide +kernel
theorem dX7_isLive_20 : decode cX7_isLive 20 = .ok (.invokevirtual 124, 3) := by decide +kernel
theorem dX7_isLive_23 : decode cX7_isLive 23 = .ok (.ifCond .eq 16, 3) := by decide +kernel
theorem dX7_isLive_26 : decode cX7_isLive 26 = .ok (.aload_n 0, 1) := by decide +kernel
theorem dX7_isLive_27 : decode cX7_isLive 27 = .ok (.iload_n 3, 1) := by decide +kernel
theorem dX7_isLive_28 : decode cX7_isLive 28 = .ok (.iload_n 1, 1) := by decide +kernel
theorem dX7_isLive_29 : decode cX7_isLive 29 = .ok (.invokevirtual 99, 3) := by decide +kernel
theorem dX7_isLive_32 : decode cX7_isLive 32 = .ok (.ifCond .eq 7, 3) := by decide +kernel
theorem dX7_isLive_35 : decode cX7_isLive 35 = .ok (.iconst 1, 1) := by decide +kernel
theorem dX7_isLive_36 : decode cX7_isLive 36 = .ok (.goto 4, 3) := by decide +kernel
theorem dX7_isLive_39 : decode cX7_isLive 39 = .ok (.iconst 0, 1) := by decide +kernel
theorem dX7_isLive_40 : decode cX7_isLive 40 = .ok (.istore_n 2, 1) := by decide +kernel
theorem dX7_isLive_41 : decode cX7_isLive 41 = .ok (.iinc 3 1, 3) := by decide +kernel
theorem dX7_isLive_44 : decode cX7_isLive 44 = .ok (.goto (-36), 3) := by decide +kernel
theorem dX7_isLive_47 : decode cX7_isLive 47 = .ok (.iload_n 2, 1) := by decide +kernel
theorem dX7_isLive_48 : decode cX7_isLive 48 = .ok (.ifCond .eq 15, 3) := by decide +kernel
theorem dX7_isLive_51 : decode cX7_isLive 51 = .ok (.aload_n 0, 1) := by decide +kernel
theorem dX7_isLive_52 : decode cX7_isLive 52 = .ok (.iload_n 1, 1) := by decide +kernel
theorem dX7_isLive_53 : decode cX7_isLive 53 = .ok (.invokevirtual 54, 3) := by decide +kernel
theorem dX7_isLive_56 : decode cX7_isLive 56 = .ok (.ifCond .eq 7, 3) := by decide +kernel
theorem dX7_isLive_59 : decode cX7_isLive 59 = .ok (.iconst 1, 1) := by decide +kernel
theorem dX7_isLive_60 : decode cX7_isLive 60 = .ok (.goto 4, 3) := by decide +kernel
theorem dX7_isLive_63 : decode cX7_isLive 63 = .ok (.iconst 0, 1) := by decide +kernel
theorem dX7_isLive_64 : decode cX7_isLive 64 = .ok (.ireturn, 1) := by decide +kernel
theorem dX7_liveSet_0 : decode cX7_liveSet 0 = .ok (.iconst 0, 1) := by decide +kernel
theorem dX7_liveSet_1 : decode cX7_liveSet 1 = .ok (.istore_n 1, 1) := by decide +kernel
theorem dX7_liveSet_2 : decode cX7_liveSet 2 = .ok (.iconst 1, 1) := by decide +kernel
theorem dX7_liveSet_3 : decode cX7_liveSet 3 = .ok (.istore_n 2, 1) := by decide +kernel
theorem dX7_liveSet_4 : decode cX7_liveSet 4 = .ok (.iload_n 2, 1) := by decide +kernel
theorem dX7_liveSet_5 : decode cX7_liveSet 5 = .ok (.bipush 12, 2) := by decide +kernel
theorem dX7_liveSet_7 : decode cX7_liveSet 7 = .ok (.if_icmp .gt 27, 3) := by decide +kernel
theorem dX7_liveSet_10 : decode cX7_liveSet 10 = .ok (.iload_n 1, 1) := by decide +kernel
theorem dX7_liveSet_11 : decode cX7_liveSet 11 = .ok (.aload_n 0, 1) := by decide +kernel
theorem dX7_liveSet_12 : decode cX7_liveSet 12 = .ok (.iload_n 2, 1) := by decide +kernel
theorem dX7_liveSet_13 : decode cX7_liveSet 13 = .ok (.invokevirtual 127, 3) := by decide +kernel
theorem dX7_liveSet_16 : decode cX7_liveSet 16 = .ok (.ifCond .eq 9, 3) := by decide +kernel
theorem dX7_liveSet_19 : decode cX7_liveSet 19 = .ok (.iconst 1, 1) := by decide +kernel
theorem dX7_liveSet_20 : decode cX7_liveSet 20 = .ok (.iload_n 2, 1) := by decide +kernel
theorem dX7_liveSet_21 : decode cX7_liveSet 21 = .ok (.ishl, 1) := by decide +kernel
theorem dX7_liveSet_22 : decode cX7_liveSet 22 = .ok (.goto 4, 3) := by decide +kernel
theorem dX7_liveSet_25 : decode cX7_liveSet 25 = .ok (.iconst 0, 1) := by decide +kernel
theorem dX7_liveSet_26 : decode cX7_liveSet 26 = .ok (.ior, 1) := by decide +kernel
theorem dX7_liveSet_27 : decode cX7_liveSet 27 = .ok (.istore_n 1, 1) := by decide +kernel
theorem dX7_liveSet_28 : decode cX7_liveSet 28 = .ok (.iinc 2 1, 3) := by decide +kernel
theorem dX7_liveSet_31 : decode cX7_liveSet 31 = .ok (.goto (-27), 3) := by decide +kernel
theorem dX7_liveSet_34 : decode cX7_liveSet 34 = .ok (.iload_n 1, 1) := by decide +kernel
theorem dX7_liveSet_35 : decode cX7_liveSet 35 = .ok (.ireturn, 1) := by decide +kernel
theorem dX7_below_0 : decode cX7_below 0 = .ok (.iconst 0, 1) := by decide +kernel
theorem dX7_below_1 : decode cX7_below 1 = .ok (.istore_n 2, 1) := by decide +kernel
theorem dX7_below_2 : decode cX7_below 2 = .ok (.iconst 1, 1) := by decide +kernel
theorem dX7_below_3 : decode cX7_below 3 = .ok (.istore_n 3, 1) := by decide +kernel
theorem dX7_below_4 : decode cX7_below 4 = .ok (.iload_n 3, 1) := by decide +kernel
theorem dX7_below_5 : decode cX7_below 5 = .ok (.bipush 12, 2) := by decide +kernel
theorem dX7_below_7 : decode cX7_below 7 = .ok (.if_icmp .gt 34, 3) := by decide +kernel
theorem dX7_below_10 : decode cX7_below 10 = .ok (.iload_n 2, 1) := by decide +kernel
theorem dX7_below_11 : decode cX7_below 11 = .ok (.aload_n 0, 1) := by decide +kernel
theorem dX7_below_12 : decode cX7_below 12 = .ok (.iload_n 3, 1) := by decide +kernel
theorem dX7_below_13 : decode cX7_below 13 = .ok (.invokevirtual 54, 3) := by decide +kernel
theorem dX7_below_16 : decode cX7_below 16 = .ok (.ifCond .eq 16, 3) := by decide +kernel
theorem dX7_below_19 : decode cX7_below 19 = .ok (.aload_n 0, 1) := by decide +kernel
theorem dX7_below_20 : decode cX7_below 20 = .ok (.iload_n 3, 1) := by decide +kernel
theorem dX7_below_21 : decode cX7_below 21 = .ok (.iload_n 1, 1) := by decide +kernel
theorem dX7_below_22 : decode cX7_below 22 = .ok (.invokevirtual 99, 3) := by decide +kernel
theorem dX7_below_25 : decode cX7_below 25 = .ok (.ifCond .eq 7, 3) := by decide +kernel
theorem dX7_below_28 : decode cX7_below 28 = .ok (.iconst 1, 1) := by decide +kernel
theorem dX7_below_29 : decode cX7_below 29 = .ok (.goto 4, 3) := by decide +kernel
theorem dX7_below_32 : decode cX7_below 32 = .ok (.iconst 0, 1) := by decide +kernel
theorem dX7_below_33 : decode cX7_below 33 = .ok (.iadd, 1) := by decide +kernel
theorem dX7_below_34 : decode cX7_below 34 = .ok (.istore_n 2, 1) := by decide +kernel
theorem dX7_below_35 : decode cX7_below 35 = .ok (.iinc 3 1, 3) := by decide +kernel
theorem dX7_below_38 : decode cX7_below 38 = .ok (.goto (-34), 3) := by decide +kernel
theorem dX7_below_41 : decode cX7_below 41 = .ok (.iload_n 2, 1) := by decide +kernel
theorem dX7_below_42 : decode cX7_below 42 = .ok (.ireturn, 1) := by decide +kernel
theorem dX7_ofNow_0 : decode cX7_ofNow 0 = .ok (.iload_n 2, 1) := by decide +kernel
theorem dX7_ofNow_1 : decode cX7_ofNow 1 = .ok (.tableswitch 71 12 15 #[31, 37, 43, 57], 31) := by decide +kernel
theorem dX7_ofNow_32 : decode cX7_ofNow 32 = .ok (.aload_n 0, 1) := by decide +kernel
theorem dX7_ofNow_33 : decode cX7_ofNow 33 = .ok (.iload_n 1, 1) := by decide +kernel
theorem dX7_ofNow_34 : decode cX7_ofNow 34 = .ok (.invokevirtual 96, 3) := by decide +kernel
theorem dX7_ofNow_37 : decode cX7_ofNow 37 = .ok (.ireturn, 1) := by decide +kernel
theorem dX7_ofNow_38 : decode cX7_ofNow 38 = .ok (.aload_n 0, 1) := by decide +kernel
theorem dX7_ofNow_39 : decode cX7_ofNow 39 = .ok (.iload_n 1, 1) := by decide +kernel
theorem dX7_ofNow_40 : decode cX7_ofNow 40 = .ok (.invokevirtual 130, 3) := by decide +kernel
theorem dX7_ofNow_43 : decode cX7_ofNow 43 = .ok (.ireturn, 1) := by decide +kernel
theorem dX7_ofNow_44 : decode cX7_ofNow 44 = .ok (.aload_n 0, 1) := by decide +kernel
theorem dX7_ofNow_45 : decode cX7_ofNow 45 = .ok (.iload_n 1, 1) := by decide +kernel
theorem dX7_ofNow_46 : decode cX7_ofNow 46 = .ok (.invokevirtual 124, 3) := by decide +kernel
theorem dX7_ofNow_49 : decode cX7_ofNow 49 = .ok (.ifCond .eq 7, 3) := by decide +kernel
theorem dX7_ofNow_52 : decode cX7_ofNow 52 = .ok (.iconst 1, 1) := by decide +kernel
theorem dX7_ofNow_53 : decode cX7_ofNow 53 = .ok (.goto 4, 3) := by decide +kernel
theorem dX7_ofNow_56 : decode cX7_ofNow 56 = .ok (.iconst 0, 1) := by decide +kernel
theorem dX7_ofNow_57 : decode cX7_ofNow 57 = .ok (.ireturn, 1) := by decide +kernel
theorem dX7_ofNow_58 : decode cX7_ofNow 58 = .ok (.aload_n 0, 1) := by decide +kernel
theorem dX7_ofNow_59 : decode cX7_ofNow 59 = .ok (.iload_n 1, 1) := by decide +kernel
theorem dX7_ofNow_60 : decode cX7_ofNow 60 = .ok (.invokevirtual 127, 3) := by decide +kernel
theorem dX7_ofNow_63 : decode cX7_ofNow 63 = .ok (.ifCond .eq 7, 3) := by decide +kernel
theorem dX7_ofNow_66 : decode cX7_ofNow 66 = .ok (.iconst 1, 1) := by decide +kernel
theorem dX7_ofNow_67 : decode cX7_ofNow 67 = .ok (.goto 4, 3) := by decide +kernel
theorem dX7_ofNow_70 : decode cX7_ofNow 70 = .ok (.iconst 0, 1) := by decide +kernel
theorem dX7_ofNow_71 : decode cX7_ofNow 71 = .ok (.ireturn, 1) := by decide +kernel
theorem dX7_ofNow_72 : decode cX7_ofNow 72 = .ok (.aload_n 0, 1) := by decide +kernel
theorem dX7_ofNow_73 : decode cX7_ofNow 73 = .ok (.iload_n 1, 1) := by decide +kernel
theorem dX7_ofNow_74 : decode cX7_ofNow 74 = .ok (.iload_n 2, 1) := by decide +kernel
theorem dX7_ofNow_75 : decode cX7_ofNow 75 = .ok (.bipush 8, 2) := by decide +kernel
theorem dX7_ofNow_77 : decode cX7_ofNow 77 = .ok (.if_icmp .ge 9, 3) := by decide +kernel
theorem dX7_ofNow_80 : decode cX7_ofNow 80 = .ok (.iload_n 2, 1) := by decide +kernel
theorem dX7_ofNow_81 : decode cX7_ofNow 81 = .ok (.iconst 1, 1) := by decide +kernel
theorem dX7_ofNow_82 : decode cX7_ofNow 82 = .ok (.iadd, 1) := by decide +kernel
theorem dX7_ofNow_83 : decode cX7_ofNow 83 = .ok (.goto 38, 3) := by decide +kernel
theorem dX7_ofNow_86 : decode cX7_ofNow 86 = .ok (.iload_n 2, 1) := by decide +kernel
theorem dX7_ofNow_87 : decode cX7_ofNow 87 = .ok (.bipush 8, 2) := by decide +kernel
theorem dX7_ofNow_89 : decode cX7_ofNow 89 = .ok (.if_icmp .ne 8, 3) := by decide +kernel
theorem dX7_ofNow_92 : decode cX7_ofNow 92 = .ok (.bipush 11, 2) := by decide +kernel
theorem dX7_ofNow_94 : decode cX7_ofNow 94 = .ok (.goto 27, 3) := by decide +kernel
theorem dX7_ofNow_97 : decode cX7_ofNow 97 = .ok (.iload_n 2, 1) := by decide +kernel
theorem dX7_ofNow_98 : decode cX7_ofNow 98 = .ok (.bipush 9, 2) := by decide +kernel
theorem dX7_ofNow_100 : decode cX7_ofNow 100 = .ok (.if_icmp .ne 8, 3) := by decide +kernel
theorem dX7_ofNow_103 : decode cX7_ofNow 103 = .ok (.bipush 12, 2) := by decide +kernel
theorem dX7_ofNow_105 : decode cX7_ofNow 105 = .ok (.goto 16, 3) := by decide +kernel
theorem dX7_ofNow_108 : decode cX7_ofNow 108 = .ok (.iload_n 2, 1) := by decide +kernel
theorem dX7_ofNow_109 : decode cX7_ofNow 109 = .ok (.bipush 10, 2) := by decide +kernel
theorem dX7_ofNow_111 : decode cX7_ofNow 111 = .ok (.if_icmp .ne 8, 3) := by decide +kernel
theorem dX7_ofNow_114 : decode cX7_ofNow 114 = .ok (.bipush 13, 2) := by decide +kernel
theorem dX7_ofNow_116 : decode cX7_ofNow 116 = .ok (.goto 5, 3) := by decide +kernel
theorem dX7_ofNow_119 : decode cX7_ofNow 119 = .ok (.bipush 14, 2) := by decide +kernel
theorem dX7_ofNow_121 : decode cX7_ofNow 121 = .ok (.invokevirtual 50, 3) := by decide +kernel
theorem dX7_ofNow_124 : decode cX7_ofNow 124 = .ok (.l2i, 1) := by decide +kernel
theorem dX7_ofNow_125 : decode cX7_ofNow 125 = .ok (.ireturn, 1) := by decide +kernel
theorem dX7_of_0 : decode cX7_of 0 = .ok (.aload_n 0, 1) := by decide +kernel
theorem dX7_of_1 : decode cX7_of 1 = .ok (.iload_n 1, 1) := by decide +kernel
theorem dX7_of_2 : decode cX7_of 2 = .ok (.invokevirtual 54, 3) := by decide +kernel
theorem dX7_of_5 : decode cX7_of 5 = .ok (.ifCond .eq 24, 3) := by decide +kernel
theorem dX7_of_8 : decode cX7_of 8 = .ok (.iload_n 2, 1) := by decide +kernel
theorem dX7_of_9 : decode cX7_of 9 = .ok (.i2l, 1) := by decide +kernel
theorem dX7_of_10 : decode cX7_of 10 = .ok (.lconst 0, 1) := by decide +kernel
theorem dX7_of_11 : decode cX7_of 11 = .ok (.ldc2_w 133, 3) := by decide +kernel
theorem dX7_of_14 : decode cX7_of 14 = .ok (.invokestatic 46, 3) := by decide +kernel
theorem dX7_of_17 : decode cX7_of 17 = .ok (.ifCond .eq 12, 3) := by decide +kernel
theorem dX7_of_20 : decode cX7_of 20 = .ok (.aload_n 0, 1) := by decide +kernel
theorem dX7_of_21 : decode cX7_of 21 = .ok (.iload_n 1, 1) := by decide +kernel
theorem dX7_of_22 : decode cX7_of 22 = .ok (.iload_n 2, 1) := by decide +kernel
theorem dX7_of_23 : decode cX7_of 23 = .ok (.invokevirtual 135, 3) := by decide +kernel
theorem dX7_of_26 : decode cX7_of 26 = .ok (.goto 9, 3) := by decide +kernel
theorem dX7_of_29 : decode cX7_of 29 = .ok (.aload_n 0, 1) := by decide +kernel
theorem dX7_of_30 : decode cX7_of 30 = .ok (.bipush (-2), 2) := by decide +kernel
theorem dX7_of_32 : decode cX7_of 32 = .ok (.invokevirtual 83, 3) := by decide +kernel
theorem dX7_of_35 : decode cX7_of 35 = .ok (.ireturn, 1) := by decide +kernel
theorem dX7_turn_0 : decode cX7_turn 0 = .ok (.aload_n 0, 1) := by decide +kernel
theorem dX7_turn_1 : decode cX7_turn 1 = .ok (.iload_n 1, 1) := by decide +kernel
theorem dX7_turn_2 : decode cX7_turn 2 = .ok (.invokevirtual 54, 3) := by decide +kernel
theorem dX7_turn_5 : decode cX7_turn 5 = .ok (.ifCond .eq 13, 3) := by decide +kernel
theorem dX7_turn_8 : decode cX7_turn 8 = .ok (.iload_n 2, 1) := by decide +kernel
theorem dX7_turn_9 : decode cX7_turn 9 = .ok (.i2l, 1) := by decide +kernel
theorem dX7_turn_10 : decode cX7_turn 10 = .ok (.lconst 0, 1) := by decide +kernel
theorem dX7_turn_11 : decode cX7_turn 11 = .ok (.lconst 1, 1) := by decide +kernel
theorem dX7_turn_12 : decode cX7_turn 12 = .ok (.invokestatic 46, 3) := by decide +kernel
theorem dX7_turn_15 : decode cX7_turn 15 = .ok (.ifCond .ne 12, 3) := by decide +kernel
theorem dX7_turn_18 : decode cX7_turn 18 = .ok (.iload_n 1, 1) := by decide +kernel
theorem dX7_turn_19 : decode cX7_turn 19 = .ok (.ifCond .ne 12, 3) := by decide +kernel
theorem dX7_turn_22 : decode cX7_turn 22 = .ok (.iload_n 2, 1) := by decide +kernel
theorem dX7_turn_23 : decode cX7_turn 23 = .ok (.iconst 1, 1) := by decide +kernel
theorem dX7_turn_24 : decode cX7_turn 24 = .ok (.if_icmp .ne 7, 3) := by decide +kernel
theorem dX7_turn_27 : decode cX7_turn 27 = .ok (.iconst 1, 1) := by decide +kernel
theorem dX7_turn_28 : decode cX7_turn 28 = .ok (.goto 4, 3) := by decide +kernel
theorem dX7_turn_31 : decode cX7_turn 31 = .ok (.iconst 0, 1) := by decide +kernel
theorem dX7_turn_32 : decode cX7_turn 32 = .ok (.istore_n 3, 1) := by decide +kernel
theorem dX7_turn_33 : decode cX7_turn 33 = .ok (.iload_n 3, 1) := by decide +kernel
theorem dX7_turn_34 : decode cX7_turn 34 = .ok (.ifCond .eq 22, 3) := by decide +kernel
theorem dX7_turn_37 : decode cX7_turn 37 = .ok (.aload_n 0, 1) := by decide +kernel
theorem dX7_turn_38 : decode cX7_turn 38 = .ok (.iload_n 1, 1) := by decide +kernel
theorem dX7_turn_39 : decode cX7_turn 39 = .ok (.iload_n 2, 1) := by decide +kernel
theorem dX7_turn_40 : decode cX7_turn 40 = .ok (.ifCond .ne 8, 3) := by decide +kernel
theorem dX7_turn_43 : decode cX7_turn 43 = .ok (.bipush 9, 2) := by decide +kernel
theorem dX7_turn_45 : decode cX7_turn 45 = .ok (.goto 5, 3) := by decide +kernel
theorem dX7_turn_48 : decode cX7_turn 48 = .ok (.bipush 10, 2) := by decide +kernel
theorem dX7_turn_50 : decode cX7_turn 50 = .ok (.invokevirtual 50, 3) := by decide +kernel
theorem dX7_turn_53 : decode cX7_turn 53 = .ok (.goto 10, 3) := by decide +kernel
theorem dX7_turn_56 : decode cX7_turn 56 = .ok (.aload_n 0, 1) := by decide +kernel
theorem dX7_turn_57 : decode cX7_turn 57 = .ok (.bipush (-2), 2) := by decide +kernel
theorem dX7_turn_59 : decode cX7_turn 59 = .ok (.invokevirtual 83, 3) := by decide +kernel
theorem dX7_turn_62 : decode cX7_turn 62 = .ok (.i2l, 1) := by decide +kernel
theorem dX7_turn_63 : decode cX7_turn 63 = .ok (.lreturn, 1) := by decide +kernel
theorem dX7_child_0 : decode cX7_child 0 = .ok (.aload_n 0, 1) := by decide +kernel
theorem dX7_child_1 : decode cX7_child 1 = .ok (.iload_n 1, 1) := by decide +kernel
theorem dX7_child_2 : decode cX7_child 2 = .ok (.invokevirtual 78, 3) := by decide +kernel
theorem dX7_child_5 : decode cX7_child 5 = .ok (.ifCond .eq 7, 3) := by decide +kernel
theorem dX7_child_8 : decode cX7_child 8 = .ok (.iload_n 2, 1) := by decide +kernel
theorem dX7_child_9 : decode cX7_child 9 = .ok (.ifCond .ge 10, 3) := by decide +kernel
theorem dX7_child_12 : decode cX7_child 12 = .ok (.aload_n 0, 1) := by decide +kernel
theorem dX7_child_13 : decode cX7_child 13 = .ok (.bipush (-2), 2) := by decide +kernel
theorem dX7_child_15 : decode cX7_child 15 = .ok (.invokevirtual 83, 3) := by decide +kernel
theorem dX7_child_18 : decode cX7_child 18 = .ok (.ireturn, 1) := by decide +kernel
theorem dX7_child_19 : decode cX7_child 19 = .ok (.iload_n 2, 1) := by decide +kernel
theorem dX7_child_20 : decode cX7_child 20 = .ok (.istore_n 3, 1) := by decide +kernel
theorem dX7_child_21 : decode cX7_child 21 = .ok (.iconst 1, 1) := by decide +kernel
theorem dX7_child_22 : decode cX7_child 22 = .ok (.istore 4, 2) := by decide +kernel
theorem dX7_child_24 : decode cX7_child 24 = .ok (.iload 4, 2) := by decide +kernel
theorem dX7_child_26 : decode cX7_child 26 = .ok (.bipush 12, 2) := by decide +kernel
theorem dX7_child_28 : decode cX7_child 28 = .ok (.if_icmp .gt 29, 3) := by decide +kernel
theorem dX7_child_31 : decode cX7_child 31 = .ok (.aload_n 0, 1) := by decide +kernel
theorem dX7_child_32 : decode cX7_child 32 = .ok (.iload 4, 2) := by decide +kernel
theorem dX7_child_34 : decode cX7_child 34 = .ok (.iload_n 1, 1) := by decide +kernel
theorem dX7_child_35 : decode cX7_child 35 = .ok (.invokevirtual 62, 3) := by decide +kernel
theorem dX7_child_38 : decode cX7_child 38 = .ok (.ifCond .eq 13, 3) := by decide +kernel
theorem dX7_child_41 : decode cX7_child 41 = .ok (.iload_n 3, 1) := by decide +kernel
theorem dX7_child_42 : decode cX7_child 42 = .ok (.ifCond .ne 6, 3) := by decide +kernel
theorem dX7_child_45 : decode cX7_child 45 = .ok (.iload 4, 2) := by decide +kernel
theorem dX7_child_47 : decode cX7_child 47 = .ok (.ireturn, 1) := by decide +kernel
theorem dX7_child_48 : decode cX7_child 48 = .ok (.iinc 3 (-1), 3) := by decide +kernel
theorem dX7_child_51 : decode cX7_child 51 = .ok (.iinc 4 1, 3) := by decide +kernel
theorem dX7_child_54 : decode cX7_child 54 = .ok (.goto (-30), 3) := by decide +kernel
theorem dX7_child_57 : decode cX7_child 57 = .ok (.iconst (-1), 1) := by decide +kernel
theorem dX7_child_58 : decode cX7_child 58 = .ok (.ireturn, 1) := by decide +kernel
theorem dX7_common_0 : decode cX7_common 0 = .ok (.aload_n 0, 1) := by decide +kernel
theorem dX7_common_1 : decode cX7_common 1 = .ok (.iload_n 1, 1) := by decide +kernel
theorem dX7_common_2 : decode cX7_common 2 = .ok (.invokevirtual 54, 3) := by decide +kernel
theorem dX7_common_5 : decode cX7_common 5 = .ok (.ifCond .eq 11, 3) := by decide +kernel
theorem dX7_common_8 : decode cX7_common 8 = .ok (.aload_n 0, 1) := by decide +kernel
theorem dX7_common_9 : decode cX7_common 9 = .ok (.iload_n 2, 1) := by decide +kernel
theorem dX7_common_10 : decode cX7_common 10 = .ok (.invokevirtual 54, 3) := by decide +kernel
theorem dX7_common_13 : decode cX7_common 13 = .ok (.ifCond .ne 10, 3) := by decide +kernel
theorem dX7_common_16 : decode cX7_common 16 = .ok (.aload_n 0, 1) := by decide +kernel
theorem dX7_common_17 : decode cX7_common 17 = .ok (.bipush (-2), 2) := by decide +kernel
theorem dX7_common_19 : decode cX7_common 19 = .ok (.invokevirtual 83, 3) := by decide +kernel
theorem dX7_common_22 : decode cX7_common 22 = .ok (.ireturn, 1) := by decide +kernel
theorem dX7_common_23 : decode cX7_common 23 = .ok (.iload_n 1, 1) := by decide +kernel
theorem dX7_common_24 : decode cX7_common 24 = .ok (.istore_n 3, 1) := by decide +kernel
theorem dX7_common_25 : decode cX7_common 25 = .ok (.iload_n 3, 1) := by decide +kernel
theorem dX7_common_26 : decode cX7_common 26 = .ok (.ifCond .eq 26, 3) := by decide +kernel
theorem dX7_common_29 : decode cX7_common 29 = .ok (.iload_n 3, 1) := by decide +kernel
theorem dX7_common_30 : decode cX7_common 30 = .ok (.iload_n 2, 1) := by decide +kernel
theorem dX7_common_31 : decode cX7_common 31 = .ok (.if_icmp .eq 21, 3) := by decide +kernel
theorem dX7_common_34 : decode cX7_common 34 = .ok (.aload_n 0, 1) := by decide +kernel
theorem dX7_common_35 : decode cX7_common 35 = .ok (.iload_n 2, 1) := by decide +kernel
theorem dX7_common_36 : decode cX7_common 36 = .ok (.iload_n 3, 1) := by decide +kernel
theorem dX7_common_37 : decode cX7_common 37 = .ok (.invokevirtual 99, 3) := by decide +kernel
theorem dX7_common_40 : decode cX7_common 40 = .ok (.ifCond .ne 12, 3) := by decide +kernel
theorem dX7_common_43 : decode cX7_common 43 = .ok (.aload_n 0, 1) := by decide +kernel
theorem dX7_common_44 : decode cX7_common 44 = .ok (.iload_n 3, 1) := by decide +kernel
theorem dX7_common_45 : decode cX7_common 45 = .ok (.invokevirtual 58, 3) := by decide +kernel
theorem dX7_common_48 : decode cX7_common 48 = .ok (.istore_n 3, 1) := by decide +kernel
theorem dX7_common_49 : decode cX7_common 49 = .ok (.goto (-24), 3) := by decide +kernel
theorem dX7_common_52 : decode cX7_common 52 = .ok (.iload_n 3, 1) := by decide +kernel
theorem dX7_common_53 : decode cX7_common 53 = .ok (.ireturn, 1) := by decide +kernel
theorem dX7_readies_0 : decode cX7_readies 0 = .ok (.aload_n 0, 1) := by decide +kernel
theorem dX7_readies_1 : decode cX7_readies 1 = .ok (.iload_n 1, 1) := by decide +kernel
theorem dX7_readies_2 : decode cX7_readies 2 = .ok (.invokevirtual 54, 3) := by decide +kernel
theorem dX7_readies_5 : decode cX7_readies 5 = .ok (.ifCond .eq 15, 3) := by decide +kernel
theorem dX7_readies_8 : decode cX7_readies 8 = .ok (.iload_n 2, 1) := by decide +kernel
theorem dX7_readies_9 : decode cX7_readies 9 = .ok (.i2l, 1) := by decide +kernel
theorem dX7_readies_10 : decode cX7_readies 10 = .ok (.lconst 1, 1) := by decide +kernel
theorem dX7_readies_11 : decode cX7_readies 11 = .ok (.ldc2_w 139, 3) := by decide +kernel
theorem dX7_readies_14 : decode cX7_readies 14 = .ok (.invokestatic 46, 3) := by decide +kernel
theorem dX7_readies_17 : decode cX7_readies 17 = .ok (.ifCond .ne 10, 3) := by decide +kernel
theorem dX7_readies_20 : decode cX7_readies 20 = .ok (.aload_n 0, 1) := by decide +kernel
theorem dX7_readies_21 : decode cX7_readies 21 = .ok (.bipush (-2), 2) := by decide +kernel
theorem dX7_readies_23 : decode cX7_readies 23 = .ok (.invokevirtual 83, 3) := by decide +kernel
theorem dX7_readies_26 : decode cX7_readies 26 = .ok (.ireturn, 1) := by decide +kernel
theorem dX7_readies_27 : decode cX7_readies 27 = .ok (.aload_n 0, 1) := by decide +kernel
theorem dX7_readies_28 : decode cX7_readies 28 = .ok (.iload_n 1, 1) := by decide +kernel
theorem dX7_readies_29 : decode cX7_readies 29 = .ok (.bipush 7, 2) := by decide +kernel
theorem dX7_readies_31 : decode cX7_readies 31 = .ok (.invokevirtual 50, 3) := by decide +kernel
theorem dX7_readies_34 : decode cX7_readies 34 = .ok (.lconst 0, 1) := by decide +kernel
theorem dX7_readies_35 : decode cX7_readies 35 = .ok (.lcmp, 1) := by decide +kernel
theorem dX7_readies_36 : decode cX7_readies 36 = .ok (.ifCond .eq 19, 3) := by decide +kernel
theorem dX7_readies_39 : decode cX7_readies 39 = .ok (.aload_n 0, 1) := by decide +kernel
theorem dX7_readies_40 : decode cX7_readies 40 = .ok (.iload_n 1, 1) := by decide +kernel
theorem dX7_readies_41 : decode cX7_readies 41 = .ok (.iconst 3, 1) := by decide +kernel
theorem dX7_readies_42 : decode cX7_readies 42 = .ok (.invokevirtual 50, 3) := by decide +kernel
theorem dX7_readies_45 : decode cX7_readies 45 = .ok (.iload_n 2, 1) := by decide +kernel
theorem dX7_readies_46 : decode cX7_readies 46 = .ok (.i2l, 1) := by decide +kernel
theorem dX7_readies_47 : decode cX7_readies 47 = .ok (.ladd, 1) := by decide +kernel
theorem dX7_readies_48 : decode cX7_readies 48 = .ok (.ldc2_w 139, 3) := by decide +kernel
theorem dX7_readies_51 : decode cX7_readies 51 = .ok (.lcmp, 1) := by decide +kernel
theorem dX7_readies_52 : decode cX7_readies 52 = .ok (.ifCond .le 10, 3) := by decide +kernel
theorem dX7_readies_55 : decode cX7_readies 55 = .ok (.aload_n 0, 1) := by decide +kernel
theorem dX7_readies_56 : decode cX7_readies 56 = .ok (.bipush (-3), 2) := by decide +kernel
theorem dX7_readies_58 : decode cX7_readies 58 = .ok (.invokevirtual 83, 3) := by decide +kernel
theorem dX7_readies_61 : decode cX7_readies 61 = .ok (.ireturn, 1) := by decide +kernel
theorem dX7_readies_62 : decode cX7_readies 62 = .ok (.aload_n 0, 1) := by decide +kernel
theorem dX7_readies_63 : decode cX7_readies 63 = .ok (.invokevirtual 86, 3) := by decide +kernel
theorem dX7_readies_66 : decode cX7_readies 66 = .ok (.aload_n 0, 1) := by decide +kernel
theorem dX7_readies_67 : decode cX7_readies 67 = .ok (.iload_n 1, 1) := by decide +kernel
theorem dX7_readies_68 : decode cX7_readies 68 = .ok (.iconst 3, 1) := by decide +kernel
theorem dX7_readies_69 : decode cX7_readies 69 = .ok (.aload_n 0, 1) := by decide +kernel
theorem dX7_readies_70 : decode cX7_readies 70 = .ok (.iload_n 1, 1) := by decide +kernel
theorem dX7_readies_71 : decode cX7_readies 71 = .ok (.iconst 3, 1) := by decide +kernel
theorem dX7_readies_72 : decode cX7_readies 72 = .ok (.invokevirtual 50, 3) := by decide +kernel
theorem dX7_readies_75 : decode cX7_readies 75 = .ok (.iload_n 2, 1) := by decide +kernel
theorem dX7_readies_76 : decode cX7_readies 76 = .ok (.i2l, 1) := by decide +kernel
theorem dX7_readies_77 : decode cX7_readies 77 = .ok (.ladd, 1) := by decide +kernel
theorem dX7_readies_78 : decode cX7_readies 78 = .ok (.invokevirtual 66, 3) := by decide +kernel
theorem dX7_readies_81 : decode cX7_readies 81 = .ok (.aload_n 0, 1) := by decide +kernel
theorem dX7_readies_82 : decode cX7_readies 82 = .ok (.iload_n 1, 1) := by decide +kernel
theorem dX7_readies_83 : decode cX7_readies 83 = .ok (.iconst 3, 1) := by decide +kernel
theorem dX7_readies_84 : decode cX7_readies 84 = .ok (.invokevirtual 50, 3) := by decide +kernel
theorem dX7_readies_87 : decode cX7_readies 87 = .ok (.l2i, 1) := by decide +kernel
theorem dX7_readies_88 : decode cX7_readies 88 = .ok (.ireturn, 1) := by decide +kernel
theorem dX7_window_0 : decode cX7_window 0 = .ok (.aload_n 0, 1) := by decide +kernel
theorem dX7_window_1 : decode cX7_window 1 = .ok (.iload_n 1, 1) := by decide +kernel
theorem dX7_window_2 : decode cX7_window 2 = .ok (.invokevirtual 54, 3) := by decide +kernel
theorem dX7_window_5 : decode cX7_window 5 = .ok (.ifCond .eq 15, 3) := by decide +kernel
theorem dX7_window_8 : decode cX7_window 8 = .ok (.iload_n 2, 1) := by decide +kernel
theorem dX7_window_9 : decode cX7_window 9 = .ok (.i2l, 1) := by decide +kernel
theorem dX7_window_10 : decode cX7_window 10 = .ok (.lconst 0, 1) := by decide +kernel
theorem dX7_window_11 : decode cX7_window 11 = .ok (.ldc2_w 139, 3) := by decide +kernel
theorem dX7_window_14 : decode cX7_window 14 = .ok (.invokestatic 46, 3) := by decide +kernel
theorem dX7_window_17 : decode cX7_window 17 = .ok (.ifCond .ne 10, 3) := by decide +kernel
theorem dX7_window_20 : decode cX7_window 20 = .ok (.aload_n 0, 1) := by decide +kernel
theorem dX7_window_21 : decode cX7_window 21 = .ok (.bipush (-2), 2) := by decide +kernel
theorem dX7_window_23 : decode cX7_window 23 = .ok (.invokevirtual 83, 3) := by decide +kernel
theorem dX7_window_26 : decode cX7_window 26 = .ok (.ireturn, 1) := by decide +kernel
theorem dX7_window_27 : decode cX7_window 27 = .ok (.aload_n 0, 1) := by decide +kernel
theorem dX7_window_28 : decode cX7_window 28 = .ok (.invokevirtual 86, 3) := by decide +kernel
theorem dX7_window_31 : decode cX7_window 31 = .ok (.aload_n 0, 1) := by decide +kernel
theorem dX7_window_32 : decode cX7_window 32 = .ok (.iload_n 1, 1) := by decide +kernel
theorem dX7_window_33 : decode cX7_window 33 = .ok (.iconst 4, 1) := by decide +kernel
theorem dX7_window_34 : decode cX7_window 34 = .ok (.invokevirtual 50, 3) := by decide +kernel
theorem dX7_window_37 : decode cX7_window 37 = .ok (.l2i, 1) := by decide +kernel
theorem dX7_window_38 : decode cX7_window 38 = .ok (.istore_n 3, 1) := by decide +kernel
theorem dX7_window_39 : decode cX7_window 39 = .ok (.aload_n 0, 1) := by decide +kernel
theorem dX7_window_40 : decode cX7_window 40 = .ok (.iload_n 1, 1) := by decide +kernel
theorem dX7_window_41 : decode cX7_window 41 = .ok (.iconst 4, 1) := by decide +kernel
theorem dX7_window_42 : decode cX7_window 42 = .ok (.iload_n 2, 1) := by decide +kernel
theorem dX7_window_43 : decode cX7_window 43 = .ok (.i2l, 1) := by decide +kernel
theorem dX7_window_44 : decode cX7_window 44 = .ok (.invokevirtual 66, 3) := by decide +kernel
theorem dX7_window_47 : decode cX7_window 47 = .ok (.iload_n 3, 1) := by decide +kernel
theorem dX7_window_48 : decode cX7_window 48 = .ok (.ireturn, 1) := by decide +kernel
theorem dX7_settings_0 : decode cX7_settings 0 = .ok (.iload_n 1, 1) := by decide +kernel
theorem dX7_settings_1 : decode cX7_settings 1 = .ok (.ifCond .ne 15, 3) := by decide +kernel
theorem dX7_settings_4 : decode cX7_settings 4 = .ok (.iload_n 2, 1) := by decide +kernel
theorem dX7_settings_5 : decode cX7_settings 5 = .ok (.i2l, 1) := by decide +kernel
theorem dX7_settings_6 : decode cX7_settings 6 = .ok (.lconst 0, 1) := by decide +kernel
theorem dX7_settings_7 : decode cX7_settings 7 = .ok (.ldc2_w 141, 3) := by decide +kernel
theorem dX7_settings_10 : decode cX7_settings 10 = .ok (.invokestatic 46, 3) := by decide +kernel
theorem dX7_settings_13 : decode cX7_settings 13 = .ok (.goto 57, 3) := by decide +kernel
theorem dX7_settings_16 : decode cX7_settings 16 = .ok (.iload_n 1, 1) := by decide +kernel
theorem dX7_settings_17 : decode cX7_settings 17 = .ok (.iconst 1, 1) := by decide +kernel
theorem dX7_settings_18 : decode cX7_settings 18 = .ok (.if_icmp .ne 15, 3) := by decide +kernel
theorem dX7_settings_21 : decode cX7_settings 21 = .ok (.iload_n 2, 1) := by decide +kernel
theorem dX7_settings_22 : decode cX7_settings 22 = .ok (.i2l, 1) := by decide +kernel
theorem dX7_settings_23 : decode cX7_settings 23 = .ok (.lconst 1, 1) := by decide +kernel
theorem dX7_settings_24 : decode cX7_settings 24 = .ok (.ldc2_w 143, 3) := by decide +kernel
theorem dX7_settings_27 : decode cX7_settings 27 = .ok (.invokestatic 46, 3) := by decide +kernel
theorem dX7_settings_30 : decode cX7_settings 30 = .ok (.goto 40, 3) := by decide +kernel
theorem dX7_settings_33 : decode cX7_settings 33 = .ok (.iload_n 1, 1) := by decide +kernel
theorem dX7_settings_34 : decode cX7_settings 34 = .ok (.iconst 2, 1) := by decide +kernel
theorem dX7_settings_35 : decode cX7_settings 35 = .ok (.if_icmp .ne 15, 3) := by decide +kernel
theorem dX7_settings_38 : decode cX7_settings 38 = .ok (.iload_n 2, 1) := by decide +kernel
theorem dX7_settings_39 : decode cX7_settings 39 = .ok (.i2l, 1) := by decide +kernel
theorem dX7_settings_40 : decode cX7_settings 40 = .ok (.lconst 0, 1) := by decide +kernel
theorem dX7_settings_41 : decode cX7_settings 41 = .ok (.ldc2_w 145, 3) := by decide +kernel
theorem dX7_settings_44 : decode cX7_settings 44 = .ok (.invokestatic 46, 3) := by decide +kernel
theorem dX7_settings_47 : decode cX7_settings 47 = .ok (.goto 23, 3) := by decide +kernel
theorem dX7_settings_50 : decode cX7_settings 50 = .ok (.iload_n 1, 1) := by decide +kernel
theorem dX7_settings_51 : decode cX7_settings 51 = .ok (.iconst 3, 1) := by decide +kernel
theorem dX7_settings_52 : decode cX7_settings 52 = .ok (.if_icmp .ne 17, 3) := by decide +kernel
theorem dX7_settings_55 : decode cX7_settings 55 = .ok (.iload_n 2, 1) := by decide +kernel
theorem dX7_settings_56 : decode cX7_settings 56 = .ok (.i2l, 1) := by decide +kernel
theorem dX7_settings_57 : decode cX7_settings 57 = .ok (.lconst 0, 1) := by decide +kernel
theorem dX7_settings_58 : decode cX7_settings 58 = .ok (.lconst 1, 1) := by decide +kernel
theorem dX7_settings_59 : decode cX7_settings 59 = .ok (.invokestatic 46, 3) := by decide +kernel
theorem dX7_settings_62 : decode cX7_settings 62 = .ok (.ifCond .eq 7, 3) := by decide +kernel
theorem dX7_settings_65 : decode cX7_settings 65 = .ok (.iconst 1, 1) := by decide +kernel
theorem dX7_settings_66 : decode cX7_settings 66 = .ok (.goto 4, 3) := by decide +kernel
theorem dX7_settings_69 : decode cX7_settings 69 = .ok (.iconst 0, 1) := by decide +kernel
theorem dX7_settings_70 : decode cX7_settings 70 = .ok (.istore_n 3, 1) := by decide +kernel
theorem dX7_settings_71 : decode cX7_settings 71 = .ok (.iload_n 3, 1) := by decide +kernel
theorem dX7_settings_72 : decode cX7_settings 72 = .ok (.ifCond .ne 10, 3) := by decide +kernel
theorem dX7_settings_75 : decode cX7_settings 75 = .ok (.aload_n 0, 1) := by decide +kernel
theorem dX7_settings_76 : decode cX7_settings 76 = .ok (.bipush (-2), 2) := by decide +kernel
theorem dX7_settings_78 : decode cX7_settings 78 = .ok (.invokevirtual 83, 3) := by decide +kernel
theorem dX7_settings_81 : decode cX7_settings 81 = .ok (.ireturn, 1) := by decide +kernel
theorem dX7_settings_82 : decode cX7_settings 82 = .ok (.aload_n 0, 1) := by decide +kernel
theorem dX7_settings_83 : decode cX7_settings 83 = .ok (.invokevirtual 86, 3) := by decide +kernel
theorem dX7_settings_86 : decode cX7_settings 86 = .ok (.aload_n 0, 1) := by decide +kernel
theorem dX7_settings_87 : decode cX7_settings 87 = .ok (.getfield 7, 3) := by decide +kernel
theorem dX7_settings_90 : decode cX7_settings 90 = .ok (.sipush 208, 3) := by decide +kernel
theorem dX7_settings_93 : decode cX7_settings 93 = .ok (.iload_n 1, 1) := by decide +kernel
theorem dX7_settings_94 : decode cX7_settings 94 = .ok (.iadd, 1) := by decide +kernel
theorem dX7_settings_95 : decode cX7_settings 95 = .ok (.laload, 1) := by decide +kernel
theorem dX7_settings_96 : decode cX7_settings 96 = .ok (.l2i, 1) := by decide +kernel
theorem dX7_settings_97 : decode cX7_settings 97 = .ok (.istore 4, 2) := by decide +kernel
theorem dX7_settings_99 : decode cX7_settings 99 = .ok (.aload_n 0, 1) := by decide +kernel
theorem dX7_settings_100 : decode cX7_settings 100 = .ok (.getfield 7, 3) := by decide +kernel
theorem dX7_settings_103 : decode cX7_settings 103 = .ok (.sipush 208, 3) := by decide +kernel
theorem dX7_settings_106 : decode cX7_settings 106 = .ok (.iload_n 1, 1) := by decide +kernel
theorem dX7_settings_107 : decode cX7_settings 107 = .ok (.iadd, 1) := by decide +kernel
theorem dX7_settings_108 : decode cX7_settings 108 = .ok (.iload_n 2, 1) := by decide +kernel
theorem dX7_settings_109 : decode cX7_settings 109 = .ok (.i2l, 1) := by decide +kernel
theorem dX7_settings_110 : decode cX7_settings 110 = .ok (.lastore, 1) := by decide +kernel
theorem dX7_settings_111 : decode cX7_settings 111 = .ok (.iload_n 1, 1) := by decide +kernel
theorem dX7_settings_112 : decode cX7_settings 112 = .ok (.iconst 2, 1) := by decide +kernel
theorem dX7_settings_113 : decode cX7_settings 113 = .ok (.if_icmp .ne 7, 3) := by decide +kernel
theorem dX7_settings_116 : decode cX7_settings 116 = .ok (.aload_n 0, 1) := by decide +kernel
theorem dX7_settings_117 : decode cX7_settings 117 = .ok (.invokevirtual 114, 3) := by decide +kernel
theorem dX7_settings_120 : decode cX7_settings 120 = .ok (.iload 4, 2) := by decide +kernel
theorem dX7_settings_122 : decode cX7_settings 122 = .ok (.ireturn, 1) := by decide +kernel
theorem dX7_turnThen_0 : decode cX7_turnThen 0 = .ok (.iload_n 2, 1) := by decide +kernel
theorem dX7_turnThen_1 : decode cX7_turnThen 1 = .ok (.iload_n 1, 1) := by decide +kernel
theorem dX7_turnThen_2 : decode cX7_turnThen 2 = .ok (.ishr, 1) := by decide +kernel
theorem dX7_turnThen_3 : decode cX7_turnThen 3 = .ok (.iconst 1, 1) := by decide +kernel
theorem dX7_turnThen_4 : decode cX7_turnThen 4 = .ok (.iand, 1) := by decide +kernel
theorem dX7_turnThen_5 : decode cX7_turnThen 5 = .ok (.iconst 1, 1) := by decide +kernel
theorem dX7_turnThen_6 : decode cX7_turnThen 6 = .ok (.if_icmp .ne 19, 3) := by decide +kernel
theorem dX7_turnThen_9 : decode cX7_turnThen 9 = .ok (.aload_n 0, 1) := by decide +kernel
theorem dX7_turnThen_10 : decode cX7_turnThen 10 = .ok (.iload_n 1, 1) := by decide +kernel
theorem dX7_turnThen_11 : decode cX7_turnThen 11 = .ok (.bipush 15, 2) := by decide +kernel
theorem dX7_turnThen_13 : decode cX7_turnThen 13 = .ok (.invokevirtual 50, 3) := by decide +kernel
theorem dX7_turnThen_16 : decode cX7_turnThen 16 = .ok (.lconst 0, 1) := by decide +kernel
theorem dX7_turnThen_17 : decode cX7_turnThen 17 = .ok (.lcmp, 1) := by decide +kernel
theorem dX7_turnThen_18 : decode cX7_turnThen 18 = .ok (.ifCond .ne 7, 3) := by decide +kernel
theorem dX7_turnThen_21 : decode cX7_turnThen 21 = .ok (.iconst 1, 1) := by decide +kernel
theorem dX7_turnThen_22 : decode cX7_turnThen 22 = .ok (.goto 4, 3) := by decide +kernel
theorem dX7_turnThen_25 : decode cX7_turnThen 25 = .ok (.iconst 0, 1) := by decide +kernel
theorem dX7_turnThen_26 : decode cX7_turnThen 26 = .ok (.istore_n 3, 1) := by decide +kernel
theorem dX7_turnThen_27 : decode cX7_turnThen 27 = .ok (.aload_n 0, 1) := by decide +kernel
theorem dX7_turnThen_28 : decode cX7_turnThen 28 = .ok (.aload_n 0, 1) := by decide +kernel
theorem dX7_turnThen_29 : decode cX7_turnThen 29 = .ok (.iload_n 1, 1) := by decide +kernel
theorem dX7_turnThen_30 : decode cX7_turnThen 30 = .ok (.invokevirtual 58, 3) := by decide +kernel
theorem dX7_turnThen_33 : decode cX7_turnThen 33 = .ok (.bipush 10, 2) := by decide +kernel
theorem dX7_turnThen_35 : decode cX7_turnThen 35 = .ok (.invokevirtual 50, 3) := by decide +kernel
theorem dX7_turnThen_38 : decode cX7_turnThen 38 = .ok (.lstore 4, 2) := by decide +kernel
theorem dX7_turnThen_40 : decode cX7_turnThen 40 = .ok (.iload_n 3, 1) := by decide +kernel
theorem dX7_turnThen_41 : decode cX7_turnThen 41 = .ok (.ifCond .eq 21, 3) := by decide +kernel
theorem dX7_turnThen_44 : decode cX7_turnThen 44 = .ok (.lload 4, 2) := by decide +kernel
theorem dX7_turnThen_46 : decode cX7_turnThen 46 = .ok (.aload_n 0, 1) := by decide +kernel
theorem dX7_turnThen_47 : decode cX7_turnThen 47 = .ok (.iload_n 1, 1) := by decide +kernel
theorem dX7_turnThen_48 : decode cX7_turnThen 48 = .ok (.bipush 9, 2) := by decide +kernel
theorem dX7_turnThen_50 : decode cX7_turnThen 50 = .ok (.invokevirtual 50, 3) := by decide +kernel
theorem dX7_turnThen_53 : decode cX7_turnThen 53 = .ok (.lcmp, 1) := by decide +kernel
theorem dX7_turnThen_54 : decode cX7_turnThen 54 = .ok (.ifCond .le 8, 3) := by decide +kernel
theorem dX7_turnThen_57 : decode cX7_turnThen 57 = .ok (.lload 4, 2) := by decide +kernel
theorem dX7_turnThen_59 : decode cX7_turnThen 59 = .ok (.goto 10, 3) := by decide +kernel
theorem dX7_turnThen_62 : decode cX7_turnThen 62 = .ok (.aload_n 0, 1) := by decide +kernel
theorem dX7_turnThen_63 : decode cX7_turnThen 63 = .ok (.iload_n 1, 1) := by decide +kernel
theorem dX7_turnThen_64 : decode cX7_turnThen 64 = .ok (.bipush 9, 2) := by decide +kernel
theorem dX7_turnThen_66 : decode cX7_turnThen 66 = .ok (.invokevirtual 50, 3) := by decide +kernel
theorem dX7_turnThen_69 : decode cX7_turnThen 69 = .ok (.lreturn, 1) := by decide +kernel
theorem dX7_first_0 : decode cX7_first 0 = .ok (.iconst (-1), 1) := by decide +kernel
theorem dX7_first_1 : decode cX7_first 1 = .ok (.istore_n 3, 1) := by decide +kernel
theorem dX7_first_2 : decode cX7_first 2 = .ok (.iconst 1, 1) := by decide +kernel
theorem dX7_first_3 : decode cX7_first 3 = .ok (.istore 4, 2) := by decide +kernel
theorem dX7_first_5 : decode cX7_first 5 = .ok (.iload 4, 2) := by decide +kernel
theorem dX7_first_7 : decode cX7_first 7 = .ok (.bipush 12, 2) := by decide +kernel
theorem dX7_first_9 : decode cX7_first 9 = .ok (.if_icmp .gt 54, 3) := by decide +kernel
theorem dX7_first_12 : decode cX7_first 12 = .ok (.aload_n 0, 1) := by decide +kernel
theorem dX7_first_13 : decode cX7_first 13 = .ok (.iload 4, 2) := by decide +kernel
theorem dX7_first_15 : decode cX7_first 15 = .ok (.iload_n 1, 1) := by decide +kernel
theorem dX7_first_16 : decode cX7_first 16 = .ok (.invokevirtual 62, 3) := by decide +kernel
theorem dX7_first_19 : decode cX7_first 19 = .ok (.ifCond .eq 38, 3) := by decide +kernel
theorem dX7_first_22 : decode cX7_first 22 = .ok (.iload_n 2, 1) := by decide +kernel
theorem dX7_first_23 : decode cX7_first 23 = .ok (.iload 4, 2) := by decide +kernel
theorem dX7_first_25 : decode cX7_first 25 = .ok (.ishr, 1) := by decide +kernel
theorem dX7_first_26 : decode cX7_first 26 = .ok (.iconst 1, 1) := by decide +kernel
theorem dX7_first_27 : decode cX7_first 27 = .ok (.iand, 1) := by decide +kernel
theorem dX7_first_28 : decode cX7_first 28 = .ok (.iconst 1, 1) := by decide +kernel
theorem dX7_first_29 : decode cX7_first 29 = .ok (.if_icmp .ne 28, 3) := by decide +kernel
theorem dX7_first_32 : decode cX7_first 32 = .ok (.iload_n 3, 1) := by decide +kernel
theorem dX7_first_33 : decode cX7_first 33 = .ok (.iconst (-1), 1) := by decide +kernel
theorem dX7_first_34 : decode cX7_first 34 = .ok (.if_icmp .eq 20, 3) := by decide +kernel
theorem dX7_first_37 : decode cX7_first 37 = .ok (.aload_n 0, 1) := by decide +kernel
theorem dX7_first_38 : decode cX7_first 38 = .ok (.iload 4, 2) := by decide +kernel
theorem dX7_first_40 : decode cX7_first 40 = .ok (.iload_n 2, 1) := by decide +kernel
theorem dX7_first_41 : decode cX7_first 41 = .ok (.invokevirtual 147, 3) := by decide +kernel
theorem dX7_first_44 : decode cX7_first 44 = .ok (.aload_n 0, 1) := by decide +kernel
theorem dX7_first_45 : decode cX7_first 45 = .ok (.iload_n 3, 1) := by decide +kernel
theorem dX7_first_46 : decode cX7_first 46 = .ok (.iload_n 2, 1) := by decide +kernel
theorem dX7_first_47 : decode cX7_first 47 = .ok (.invokevirtual 147, 3) := by decide +kernel
theorem dX7_first_50 : decode cX7_first 50 = .ok (.lcmp, 1) := by decide +kernel
theorem dX7_first_51 : decode cX7_first 51 = .ok (.ifCond .ge 6, 3) := by decide +kernel
theorem dX7_first_54 : decode cX7_first 54 = .ok (.iload 4, 2) := by decide +kernel
theorem dX7_first_56 : decode cX7_first 56 = .ok (.istore_n 3, 1) := by decide +kernel
theorem dX7_first_57 : decode cX7_first 57 = .ok (.iinc 4 1, 3) := by decide +kernel
theorem dX7_first_60 : decode cX7_first 60 = .ok (.goto (-55), 3) := by decide +kernel
theorem dX7_first_63 : decode cX7_first 63 = .ok (.iload_n 3, 1) := by decide +kernel
theorem dX7_first_64 : decode cX7_first 64 = .ok (.ireturn, 1) := by decide +kernel
theorem dX7_byTree_0 : decode cX7_byTree 0 = .ok (.aload_n 0, 1) := by decide +kernel
theorem dX7_byTree_1 : decode cX7_byTree 1 = .ok (.invokevirtual 150, 3) := by decide +kernel
theorem dX7_byTree_4 : decode cX7_byTree 4 = .ok (.istore_n 1, 1) := by decide +kernel
theorem dX7_byTree_5 : decode cX7_byTree 5 = .ok (.aload_n 0, 1) := by decide +kernel
theorem dX7_byTree_6 : decode cX7_byTree 6 = .ok (.iconst 0, 1) := by decide +kernel
theorem dX7_byTree_7 : decode cX7_byTree 7 = .ok (.iload_n 1, 1) := by decide +kernel
theorem dX7_byTree_8 : decode cX7_byTree 8 = .ok (.invokevirtual 153, 3) := by decide +kernel
theorem dX7_byTree_11 : decode cX7_byTree 11 = .ok (.istore_n 2, 1) := by decide +kernel
theorem dX7_byTree_12 : decode cX7_byTree 12 = .ok (.iload_n 2, 1) := by decide +kernel
theorem dX7_byTree_13 : decode cX7_byTree 13 = .ok (.iconst (-1), 1) := by decide +kernel
theorem dX7_byTree_14 : decode cX7_byTree 14 = .ok (.if_icmp .eq 21, 3) := by decide +kernel
theorem dX7_byTree_17 : decode cX7_byTree 17 = .ok (.aload_n 0, 1) := by decide +kernel
theorem dX7_byTree_18 : decode cX7_byTree 18 = .ok (.iload_n 2, 1) := by decide +kernel
theorem dX7_byTree_19 : decode cX7_byTree 19 = .ok (.invokevirtual 124, 3) := by decide +kernel
theorem dX7_byTree_22 : decode cX7_byTree 22 = .ok (.ifCond .ne 13, 3) := by decide +kernel
theorem dX7_byTree_25 : decode cX7_byTree 25 = .ok (.aload_n 0, 1) := by decide +kernel
theorem dX7_byTree_26 : decode cX7_byTree 26 = .ok (.iload_n 2, 1) := by decide +kernel
theorem dX7_byTree_27 : decode cX7_byTree 27 = .ok (.iload_n 1, 1) := by decide +kernel
theorem dX7_byTree_28 : decode cX7_byTree 28 = .ok (.invokevirtual 153, 3) := by decide +kernel
theorem dX7_byTree_31 : decode cX7_byTree 31 = .ok (.istore_n 2, 1) := by decide +kernel
theorem dX7_byTree_32 : decode cX7_byTree 32 = .ok (.goto (-20), 3) := by decide +kernel
theorem dX7_byTree_35 : decode cX7_byTree 35 = .ok (.iload_n 2, 1) := by decide +kernel
theorem dX7_byTree_36 : decode cX7_byTree 36 = .ok (.ireturn, 1) := by decide +kernel
theorem dX7_isAhead_0 : decode cX7_isAhead 0 = .ok (.aload_n 0, 1) := by decide +kernel
theorem dX7_isAhead_1 : decode cX7_isAhead 1 = .ok (.iload_n 1, 1) := by decide +kernel
theorem dX7_isAhead_2 : decode cX7_isAhead 2 = .ok (.iconst 5, 1) := by decide +kernel
theorem dX7_isAhead_3 : decode cX7_isAhead 3 = .ok (.invokevirtual 50, 3) := by decide +kernel
theorem dX7_isAhead_6 : decode cX7_isAhead 6 = .ok (.aload_n 0, 1) := by decide +kernel
theorem dX7_isAhead_7 : decode cX7_isAhead 7 = .ok (.iload_n 2, 1) := by decide +kernel
theorem dX7_isAhead_8 : decode cX7_isAhead 8 = .ok (.iconst 5, 1) := by decide +kernel
theorem dX7_isAhead_9 : decode cX7_isAhead 9 = .ok (.invokevirtual 50, 3) := by decide +kernel
theorem dX7_isAhead_12 : decode cX7_isAhead 12 = .ok (.lcmp, 1) := by decide +kernel
theorem dX7_isAhead_13 : decode cX7_isAhead 13 = .ok (.ifCond .eq 25, 3) := by decide +kernel
theorem dX7_isAhead_16 : decode cX7_isAhead 16 = .ok (.aload_n 0, 1) := by decide +kernel
theorem dX7_isAhead_17 : decode cX7_isAhead 17 = .ok (.iload_n 1, 1) := by decide +kernel
theorem dX7_isAhead_18 : decode cX7_isAhead 18 = .ok (.iconst 5, 1) := by decide +kernel
theorem dX7_isAhead_19 : decode cX7_isAhead 19 = .ok (.invokevirtual 50, 3) := by decide +kernel
theorem dX7_isAhead_22 : decode cX7_isAhead 22 = .ok (.aload_n 0, 1) := by decide +kernel
theorem dX7_isAhead_23 : decode cX7_isAhead 23 = .ok (.iload_n 2, 1) := by decide +kernel
theorem dX7_isAhead_24 : decode cX7_isAhead 24 = .ok (.iconst 5, 1) := by decide +kernel
theorem dX7_isAhead_25 : decode cX7_isAhead 25 = .ok (.invokevirtual 50, 3) := by decide +kernel
theorem dX7_isAhead_28 : decode cX7_isAhead 28 = .ok (.lcmp, 1) := by decide +kernel
theorem dX7_isAhead_29 : decode cX7_isAhead 29 = .ok (.ifCond .ge 7, 3) := by decide +kernel
theorem dX7_isAhead_32 : decode cX7_isAhead 32 = .ok (.iconst 1, 1) := by decide +kernel
theorem dX7_isAhead_33 : decode cX7_isAhead 33 = .ok (.goto 4, 3) := by decide +kernel
theorem dX7_isAhead_36 : decode cX7_isAhead 36 = .ok (.iconst 0, 1) := by decide +kernel
theorem dX7_isAhead_37 : decode cX7_isAhead 37 = .ok (.ireturn, 1) := by decide +kernel
theorem dX7_isAhead_38 : decode cX7_isAhead 38 = .ok (.aload_n 0, 1) := by decide +kernel
theorem dX7_isAhead_39 : decode cX7_isAhead 39 = .ok (.iload_n 1, 1) := by decide +kernel
theorem dX7_isAhead_40 : decode cX7_isAhead 40 = .ok (.bipush 6, 2) := by decide +kernel
theorem dX7_isAhead_42 : decode cX7_isAhead 42 = .ok (.invokevirtual 50, 3) := by decide +kernel
theorem dX7_isAhead_45 : decode cX7_isAhead 45 = .ok (.aload_n 0, 1) := by decide +kernel
theorem dX7_isAhead_46 : decode cX7_isAhead 46 = .ok (.iload_n 2, 1) := by decide +kernel
theorem dX7_isAhead_47 : decode cX7_isAhead 47 = .ok (.bipush 6, 2) := by decide +kernel
theorem dX7_isAhead_49 : decode cX7_isAhead 49 = .ok (.invokevirtual 50, 3) := by decide +kernel
theorem dX7_isAhead_52 : decode cX7_isAhead 52 = .ok (.lcmp, 1) := by decide +kernel
theorem dX7_isAhead_53 : decode cX7_isAhead 53 = .ok (.ifCond .eq 21, 3) := by decide +kernel
theorem dX7_isAhead_56 : decode cX7_isAhead 56 = .ok (.aload_n 0, 1) := by decide +kernel
theorem dX7_isAhead_57 : decode cX7_isAhead 57 = .ok (.iload_n 1, 1) := by decide +kernel
theorem dX7_isAhead_58 : decode cX7_isAhead 58 = .ok (.bipush 6, 2) := by decide +kernel
theorem dX7_isAhead_60 : decode cX7_isAhead 60 = .ok (.invokevirtual 50, 3) := by decide +kernel
theorem dX7_isAhead_63 : decode cX7_isAhead 63 = .ok (.lconst 0, 1) := by decide +kernel
theorem dX7_isAhead_64 : decode cX7_isAhead 64 = .ok (.lcmp, 1) := by decide +kernel
theorem dX7_isAhead_65 : decode cX7_isAhead 65 = .ok (.ifCond .ne 7, 3) := by decide +kernel
theorem dX7_isAhead_68 : decode cX7_isAhead 68 = .ok (.iconst 1, 1) := by decide +kernel
theorem dX7_isAhead_69 : decode cX7_isAhead 69 = .ok (.goto 4, 3) := by decide +kernel
theorem dX7_isAhead_72 : decode cX7_isAhead 72 = .ok (.iconst 0, 1) := by decide +kernel
theorem dX7_isAhead_73 : decode cX7_isAhead 73 = .ok (.ireturn, 1) := by decide +kernel
theorem dX7_isAhead_74 : decode cX7_isAhead 74 = .ok (.aload_n 0, 1) := by decide +kernel
theorem dX7_isAhead_75 : decode cX7_isAhead 75 = .ok (.iload_n 1, 1) := by decide +kernel
theorem dX7_isAhead_76 : decode cX7_isAhead 76 = .ok (.bipush 6, 2) := by decide +kernel
theorem dX7_isAhead_78 : decode cX7_isAhead 78 = .ok (.invokevirtual 50, 3) := by decide +kernel
theorem dX7_isAhead_81 : decode cX7_isAhead 81 = .ok (.lconst 1, 1) := by decide +kernel
theorem dX7_isAhead_82 : decode cX7_isAhead 82 = .ok (.lcmp, 1) := by decide +kernel
theorem dX7_isAhead_83 : decode cX7_isAhead 83 = .ok (.ifCond .ne 25, 3) := by decide +kernel
theorem dX7_isAhead_86 : decode cX7_isAhead 86 = .ok (.aload_n 0, 1) := by decide +kernel
theorem dX7_isAhead_87 : decode cX7_isAhead 87 = .ok (.iload_n 1, 1) := by decide +kernel
theorem dX7_isAhead_88 : decode cX7_isAhead 88 = .ok (.bipush 14, 2) := by decide +kernel
theorem dX7_isAhead_90 : decode cX7_isAhead 90 = .ok (.invokevirtual 50, 3) := by decide +kernel
theorem dX7_isAhead_93 : decode cX7_isAhead 93 = .ok (.aload_n 0, 1) := by decide +kernel
theorem dX7_isAhead_94 : decode cX7_isAhead 94 = .ok (.iload_n 2, 1) := by decide +kernel
theorem dX7_isAhead_95 : decode cX7_isAhead 95 = .ok (.bipush 14, 2) := by decide +kernel
theorem dX7_isAhead_97 : decode cX7_isAhead 97 = .ok (.invokevirtual 50, 3) := by decide +kernel
theorem dX7_isAhead_100 : decode cX7_isAhead 100 = .ok (.lcmp, 1) := by decide +kernel
theorem dX7_isAhead_101 : decode cX7_isAhead 101 = .ok (.ifCond .ge 7, 3) := by decide +kernel
theorem dX7_isAhead_104 : decode cX7_isAhead 104 = .ok (.iconst 1, 1) := by decide +kernel
theorem dX7_isAhead_105 : decode cX7_isAhead 105 = .ok (.goto 4, 3) := by decide +kernel
theorem dX7_isAhead_108 : decode cX7_isAhead 108 = .ok (.iconst 0, 1) := by decide +kernel
theorem dX7_isAhead_109 : decode cX7_isAhead 109 = .ok (.ireturn, 1) := by decide +kernel
theorem dX7_byUrgency_0 : decode cX7_byUrgency 0 = .ok (.iconst (-1), 1) := by decide +kernel
theorem dX7_byUrgency_1 : decode cX7_byUrgency 1 = .ok (.istore_n 1, 1) := by decide +kernel
theorem dX7_byUrgency_2 : decode cX7_byUrgency 2 = .ok (.iconst 1, 1) := by decide +kernel
theorem dX7_byUrgency_3 : decode cX7_byUrgency 3 = .ok (.istore_n 2, 1) := by decide +kernel
theorem dX7_byUrgency_4 : decode cX7_byUrgency 4 = .ok (.iload_n 2, 1) := by decide +kernel
theorem dX7_byUrgency_5 : decode cX7_byUrgency 5 = .ok (.bipush 12, 2) := by decide +kernel
theorem dX7_byUrgency_7 : decode cX7_byUrgency 7 = .ok (.if_icmp .gt 33, 3) := by decide +kernel
theorem dX7_byUrgency_10 : decode cX7_byUrgency 10 = .ok (.aload_n 0, 1) := by decide +kernel
theorem dX7_byUrgency_11 : decode cX7_byUrgency 11 = .ok (.iload_n 2, 1) := by decide +kernel
theorem dX7_byUrgency_12 : decode cX7_byUrgency 12 = .ok (.invokevirtual 124, 3) := by decide +kernel
theorem dX7_byUrgency_15 : decode cX7_byUrgency 15 = .ok (.ifCond .eq 19, 3) := by decide +kernel
theorem dX7_byUrgency_18 : decode cX7_byUrgency 18 = .ok (.iload_n 1, 1) := by decide +kernel
theorem dX7_byUrgency_19 : decode cX7_byUrgency 19 = .ok (.iconst (-1), 1) := by decide +kernel
theorem dX7_byUrgency_20 : decode cX7_byUrgency 20 = .ok (.if_icmp .eq 12, 3) := by decide +kernel
theorem dX7_byUrgency_23 : decode cX7_byUrgency 23 = .ok (.aload_n 0, 1) := by decide +kernel
theorem dX7_byUrgency_24 : decode cX7_byUrgency 24 = .ok (.iload_n 2, 1) := by decide +kernel
theorem dX7_byUrgency_25 : decode cX7_byUrgency 25 = .ok (.iload_n 1, 1) := by decide +kernel
theorem dX7_byUrgency_26 : decode cX7_byUrgency 26 = .ok (.invokevirtual 156, 3) := by decide +kernel
theorem dX7_byUrgency_29 : decode cX7_byUrgency 29 = .ok (.ifCond .eq 5, 3) := by decide +kernel
theorem dX7_byUrgency_32 : decode cX7_byUrgency 32 = .ok (.iload_n 2, 1) := by decide +kernel
theorem dX7_byUrgency_33 : decode cX7_byUrgency 33 = .ok (.istore_n 1, 1) := by decide +kernel
theorem dX7_byUrgency_34 : decode cX7_byUrgency 34 = .ok (.iinc 2 1, 3) := by decide +kernel
theorem dX7_byUrgency_37 : decode cX7_byUrgency 37 = .ok (.goto (-33), 3) := by decide +kernel
theorem dX7_byUrgency_40 : decode cX7_byUrgency 40 = .ok (.iload_n 1, 1) := by decide +kernel
theorem dX7_byUrgency_41 : decode cX7_byUrgency 41 = .ok (.ireturn, 1) := by decide +kernel
theorem dX7_nextNow_0 : decode cX7_nextNow 0 = .ok (.aload_n 0, 1) := by decide +kernel
theorem dX7_nextNow_1 : decode cX7_nextNow 1 = .ok (.getfield 7, 3) := by decide +kernel
theorem dX7_nextNow_4 : decode cX7_nextNow 4 = .ok (.sipush 208, 3) := by decide +kernel
theorem dX7_nextNow_7 : decode cX7_nextNow 7 = .ok (.laload, 1) := by decide +kernel
theorem dX7_nextNow_8 : decode cX7_nextNow 8 = .ok (.lconst 0, 1) := by decide +kernel
theorem dX7_nextNow_9 : decode cX7_nextNow 9 = .ok (.lcmp, 1) := by decide +kernel
theorem dX7_nextNow_10 : decode cX7_nextNow 10 = .ok (.ifCond .ne 7, 3) := by decide +kernel
theorem dX7_nextNow_13 : decode cX7_nextNow 13 = .ok (.iconst (-1), 1) := by decide +kernel
theorem dX7_nextNow_14 : decode cX7_nextNow 14 = .ok (.goto 27, 3) := by decide +kernel
theorem dX7_nextNow_17 : decode cX7_nextNow 17 = .ok (.aload_n 0, 1) := by decide +kernel
theorem dX7_nextNow_18 : decode cX7_nextNow 18 = .ok (.getfield 7, 3) := by decide +kernel
theorem dX7_nextNow_21 : decode cX7_nextNow 21 = .ok (.sipush 211, 3) := by decide +kernel
theorem dX7_nextNow_24 : decode cX7_nextNow 24 = .ok (.laload, 1) := by decide +kernel
theorem dX7_nextNow_25 : decode cX7_nextNow 25 = .ok (.lconst 0, 1) := by decide +kernel
theorem dX7_nextNow_26 : decode cX7_nextNow 26 = .ok (.lcmp, 1) := by decide +kernel
theorem dX7_nextNow_27 : decode cX7_nextNow 27 = .ok (.ifCond .ne 10, 3) := by decide +kernel
theorem dX7_nextNow_30 : decode cX7_nextNow 30 = .ok (.aload_n 0, 1) := by decide +kernel
theorem dX7_nextNow_31 : decode cX7_nextNow 31 = .ok (.invokevirtual 159, 3) := by decide +kernel
theorem dX7_nextNow_34 : decode cX7_nextNow 34 = .ok (.goto 7, 3) := by decide +kernel
theorem dX7_nextNow_37 : decode cX7_nextNow 37 = .ok (.aload_n 0, 1) := by decide +kernel
theorem dX7_nextNow_38 : decode cX7_nextNow 38 = .ok (.invokevirtual 162, 3) := by decide +kernel
theorem dX7_nextNow_41 : decode cX7_nextNow 41 = .ok (.ireturn, 1) := by decide +kernel
theorem dX7_next_0 : decode cX7_next 0 = .ok (.aload_n 0, 1) := by decide +kernel
theorem dX7_next_1 : decode cX7_next 1 = .ok (.invokevirtual 165, 3) := by decide +kernel
theorem dX7_next_4 : decode cX7_next 4 = .ok (.ireturn, 1) := by decide +kernel
theorem dX7_looks_0 : decode cX7_looks 0 = .ok (.aload_n 0, 1) := by decide +kernel
theorem dX7_looks_1 : decode cX7_looks 1 = .ok (.invokevirtual 150, 3) := by decide +kernel
theorem dX7_looks_4 : decode cX7_looks 4 = .ok (.istore_n 1, 1) := by decide +kernel
theorem dX7_looks_5 : decode cX7_looks 5 = .ok (.iconst 1, 1) := by decide +kernel
theorem dX7_looks_6 : decode cX7_looks 6 = .ok (.istore_n 2, 1) := by decide +kernel
theorem dX7_looks_7 : decode cX7_looks 7 = .ok (.iload_n 2, 1) := by decide +kernel
theorem dX7_looks_8 : decode cX7_looks 8 = .ok (.bipush 12, 2) := by decide +kernel
theorem dX7_looks_10 : decode cX7_looks 10 = .ok (.if_icmp .gt 30, 3) := by decide +kernel
theorem dX7_looks_13 : decode cX7_looks 13 = .ok (.aload_n 0, 1) := by decide +kernel
theorem dX7_looks_14 : decode cX7_looks 14 = .ok (.iload_n 2, 1) := by decide +kernel
theorem dX7_looks_15 : decode cX7_looks 15 = .ok (.invokevirtual 54, 3) := by decide +kernel
theorem dX7_looks_18 : decode cX7_looks 18 = .ok (.ifCond .eq 16, 3) := by decide +kernel
theorem dX7_looks_21 : decode cX7_looks 21 = .ok (.aload_n 0, 1) := by decide +kernel
theorem dX7_looks_22 : decode cX7_looks 22 = .ok (.iload_n 2, 1) := by decide +kernel
theorem dX7_looks_23 : decode cX7_looks 23 = .ok (.bipush 9, 2) := by decide +kernel
theorem dX7_looks_25 : decode cX7_looks 25 = .ok (.aload_n 0, 1) := by decide +kernel
theorem dX7_looks_26 : decode cX7_looks 26 = .ok (.iload_n 2, 1) := by decide +kernel
theorem dX7_looks_27 : decode cX7_looks 27 = .ok (.iload_n 1, 1) := by decide +kernel
theorem dX7_looks_28 : decode cX7_looks 28 = .ok (.invokevirtual 147, 3) := by decide +kernel
theorem dX7_looks_31 : decode cX7_looks 31 = .ok (.invokevirtual 66, 3) := by decide +kernel
theorem dX7_looks_34 : decode cX7_looks 34 = .ok (.iinc 2 1, 3) := by decide +kernel
theorem dX7_looks_37 : decode cX7_looks 37 = .ok (.goto (-30), 3) := by decide +kernel
theorem dX7_looks_40 : decode cX7_looks 40 = .ok (.iconst 1, 1) := by decide +kernel
theorem dX7_looks_41 : decode cX7_looks 41 = .ok (.istore_n 2, 1) := by decide +kernel
theorem dX7_looks_42 : decode cX7_looks 42 = .ok (.iload_n 2, 1) := by decide +kernel
theorem dX7_looks_43 : decode cX7_looks 43 = .ok (.bipush 12, 2) := by decide +kernel
theorem dX7_looks_45 : decode cX7_looks 45 = .ok (.if_icmp .gt 22, 3) := by decide +kernel
theorem dX7_looks_48 : decode cX7_looks 48 = .ok (.aload_n 0, 1) := by decide +kernel
theorem dX7_looks_49 : decode cX7_looks 49 = .ok (.iload_n 2, 1) := by decide +kernel
theorem dX7_looks_50 : decode cX7_looks 50 = .ok (.bipush 15, 2) := by decide +kernel
theorem dX7_looks_52 : decode cX7_looks 52 = .ok (.iload_n 1, 1) := by decide +kernel
theorem dX7_looks_53 : decode cX7_looks 53 = .ok (.iload_n 2, 1) := by decide +kernel
theorem dX7_looks_54 : decode cX7_looks 54 = .ok (.ishr, 1) := by decide +kernel
theorem dX7_looks_55 : decode cX7_looks 55 = .ok (.iconst 1, 1) := by decide +kernel
theorem dX7_looks_56 : decode cX7_looks 56 = .ok (.iand, 1) := by decide +kernel
theorem dX7_looks_57 : decode cX7_looks 57 = .ok (.i2l, 1) := by decide +kernel
theorem dX7_looks_58 : decode cX7_looks 58 = .ok (.invokevirtual 66, 3) := by decide +kernel
theorem dX7_looks_61 : decode cX7_looks 61 = .ok (.iinc 2 1, 3) := by decide +kernel
theorem dX7_looks_64 : decode cX7_looks 64 = .ok (.goto (-22), 3) := by decide +kernel
theorem dX7_looks_67 : decode cX7_looks 67 = .ok (.return_, 1) := by decide +kernel
theorem dX7_bytesOf_0 : decode cX7_bytesOf 0 = .ok (.aload_n 0, 1) := by decide +kernel
theorem dX7_bytesOf_1 : decode cX7_bytesOf 1 = .ok (.getfield 7, 3) := by decide +kernel
theorem dX7_bytesOf_4 : decode cX7_bytesOf 4 = .ok (.sipush 209, 3) := by decide +kernel
theorem dX7_bytesOf_7 : decode cX7_bytesOf 7 = .ok (.laload, 1) := by decide +kernel
theorem dX7_bytesOf_8 : decode cX7_bytesOf 8 = .ok (.lstore_n 2, 1) := by decide +kernel
theorem dX7_bytesOf_9 : decode cX7_bytesOf 9 = .ok (.aload_n 0, 1) := by decide +kernel
theorem dX7_bytesOf_10 : decode cX7_bytesOf 10 = .ok (.getfield 7, 3) := by decide +kernel
theorem dX7_bytesOf_13 : decode cX7_bytesOf 13 = .ok (.sipush 208, 3) := by decide +kernel
theorem dX7_bytesOf_16 : decode cX7_bytesOf 16 = .ok (.laload, 1) := by decide +kernel
theorem dX7_bytesOf_17 : decode cX7_bytesOf 17 = .ok (.lload_n 2, 1) := by decide +kernel
theorem dX7_bytesOf_18 : decode cX7_bytesOf 18 = .ok (.lcmp, 1) := by decide +kernel
theorem dX7_bytesOf_19 : decode cX7_bytesOf 19 = .ok (.ifCond .ge 14, 3) := by decide +kernel
theorem dX7_bytesOf_22 : decode cX7_bytesOf 22 = .ok (.aload_n 0, 1) := by decide +kernel
theorem dX7_bytesOf_23 : decode cX7_bytesOf 23 = .ok (.getfield 7, 3) := by decide +kernel
theorem dX7_bytesOf_26 : decode cX7_bytesOf 26 = .ok (.sipush 208, 3) := by decide +kernel
theorem dX7_bytesOf_29 : decode cX7_bytesOf 29 = .ok (.laload, 1) := by decide +kernel
theorem dX7_bytesOf_30 : decode cX7_bytesOf 30 = .ok (.goto 4, 3) := by decide +kernel
theorem dX7_bytesOf_33 : decode cX7_bytesOf 33 = .ok (.lload_n 2, 1) := by decide +kernel
theorem dX7_bytesOf_34 : decode cX7_bytesOf 34 = .ok (.lstore_n 2, 1) := by decide +kernel
theorem dX7_bytesOf_35 : decode cX7_bytesOf 35 = .ok (.aload_n 0, 1) := by decide +kernel
theorem dX7_bytesOf_36 : decode cX7_bytesOf 36 = .ok (.iload_n 1, 1) := by decide +kernel
theorem dX7_bytesOf_37 : decode cX7_bytesOf 37 = .ok (.iconst 3, 1) := by decide +kernel
theorem dX7_bytesOf_38 : decode cX7_bytesOf 38 = .ok (.invokevirtual 50, 3) := by decide +kernel
theorem dX7_bytesOf_41 : decode cX7_bytesOf 41 = .ok (.lload_n 2, 1) := by decide +kernel
theorem dX7_bytesOf_42 : decode cX7_bytesOf 42 = .ok (.lcmp, 1) := by decide +kernel
theorem dX7_bytesOf_43 : decode cX7_bytesOf 43 = .ok (.ifCond .ge 12, 3) := by decide +kernel
theorem dX7_bytesOf_46 : decode cX7_bytesOf 46 = .ok (.aload_n 0, 1) := by decide +kernel
theorem dX7_bytesOf_47 : decode cX7_bytesOf 47 = .ok (.iload_n 1, 1) := by decide +kernel
theorem dX7_bytesOf_48 : decode cX7_bytesOf 48 = .ok (.iconst 3, 1) := by decide +kernel
theorem dX7_bytesOf_49 : decode cX7_bytesOf 49 = .ok (.invokevirtual 50, 3) := by decide +kernel
theorem dX7_bytesOf_52 : decode cX7_bytesOf 52 = .ok (.goto 4, 3) := by decide +kernel
theorem dX7_bytesOf_55 : decode cX7_bytesOf 55 = .ok (.lload_n 2, 1) := by decide +kernel
theorem dX7_bytesOf_56 : decode cX7_bytesOf 56 = .ok (.lstore_n 2, 1) := by decide +kernel
theorem dX7_bytesOf_57 : decode cX7_bytesOf 57 = .ok (.aload_n 0, 1) := by decide +kernel
theorem dX7_bytesOf_58 : decode cX7_bytesOf 58 = .ok (.iload_n 1, 1) := by decide +kernel
theorem dX7_bytesOf_59 : decode cX7_bytesOf 59 = .ok (.iconst 4, 1) := by decide +kernel
theorem dX7_bytesOf_60 : decode cX7_bytesOf 60 = .ok (.invokevirtual 50, 3) := by decide +kernel
theorem dX7_bytesOf_63 : decode cX7_bytesOf 63 = .ok (.lload_n 2, 1) := by decide +kernel
theorem dX7_bytesOf_64 : decode cX7_bytesOf 64 = .ok (.lcmp, 1) := by decide +kernel
theorem dX7_bytesOf_65 : decode cX7_bytesOf 65 = .ok (.ifCond .ge 12, 3) := by decide +kernel
theorem dX7_bytesOf_68 : decode cX7_bytesOf 68 = .ok (.aload_n 0, 1) := by decide +kernel
theorem dX7_bytesOf_69 : decode cX7_bytesOf 69 = .ok (.iload_n 1, 1) := by decide +kernel
theorem dX7_bytesOf_70 : decode cX7_bytesOf 70 = .ok (.iconst 4, 1) := by decide +kernel
theorem dX7_bytesOf_71 : decode cX7_bytesOf 71 = .ok (.invokevirtual 50, 3) := by decide +kernel
theorem dX7_bytesOf_74 : decode cX7_bytesOf 74 = .ok (.goto 4, 3) := by decide +kernel
theorem dX7_bytesOf_77 : decode cX7_bytesOf 77 = .ok (.lload_n 2, 1) := by decide +kernel
theorem dX7_bytesOf_78 : decode cX7_bytesOf 78 = .ok (.lreturn, 1) := by decide +kernel
theorem dX7_turns_0 : decode cX7_turns 0 = .ok (.iload_n 1, 1) := by decide +kernel
theorem dX7_turns_1 : decode cX7_turns 1 = .ok (.istore 4, 2) := by decide +kernel
theorem dX7_turns_3 : decode cX7_turns 3 = .ok (.iload 4, 2) := by decide +kernel
theorem dX7_turns_5 : decode cX7_turns 5 = .ok (.ifCond .eq 64, 3) := by decide +kernel
theorem dX7_turns_8 : decode cX7_turns 8 = .ok (.aload_n 0, 1) := by decide +kernel
theorem dX7_turns_9 : decode cX7_turns 9 = .ok (.aload_n 0, 1) := by decide +kernel
theorem dX7_turns_10 : decode cX7_turns 10 = .ok (.iload 4, 2) := by decide +kernel
theorem dX7_turns_12 : decode cX7_turns 12 = .ok (.invokevirtual 58, 3) := by decide +kernel
theorem dX7_turns_15 : decode cX7_turns 15 = .ok (.bipush 10, 2) := by decide +kernel
theorem dX7_turns_17 : decode cX7_turns 17 = .ok (.aload_n 0, 1) := by decide +kernel
theorem dX7_turns_18 : decode cX7_turns 18 = .ok (.iload 4, 2) := by decide +kernel
theorem dX7_turns_20 : decode cX7_turns 20 = .ok (.bipush 9, 2) := by decide +kernel
theorem dX7_turns_22 : decode cX7_turns 22 = .ok (.invokevirtual 50, 3) := by decide +kernel
theorem dX7_turns_25 : decode cX7_turns 25 = .ok (.invokevirtual 66, 3) := by decide +kernel
theorem dX7_turns_28 : decode cX7_turns 28 = .ok (.aload_n 0, 1) := by decide +kernel
theorem dX7_turns_29 : decode cX7_turns 29 = .ok (.iload 4, 2) := by decide +kernel
theorem dX7_turns_31 : decode cX7_turns 31 = .ok (.bipush 9, 2) := by decide +kernel
theorem dX7_turns_33 : decode cX7_turns 33 = .ok (.aload_n 0, 1) := by decide +kernel
theorem dX7_turns_34 : decode cX7_turns 34 = .ok (.iload 4, 2) := by decide +kernel
theorem dX7_turns_36 : decode cX7_turns 36 = .ok (.bipush 9, 2) := by decide +kernel
theorem dX7_turns_38 : decode cX7_turns 38 = .ok (.invokevirtual 50, 3) := by decide +kernel
theorem dX7_turns_41 : decode cX7_turns 41 = .ok (.lload_n 2, 1) := by decide +kernel
theorem dX7_turns_42 : decode cX7_turns 42 = .ok (.ldc2_w 168, 3) := by decide +kernel
theorem dX7_turns_45 : decode cX7_turns 45 = .ok (.lmul, 1) := by decide +kernel
theorem dX7_turns_46 : decode cX7_turns 46 = .ok (.aload_n 0, 1) := by decide +kernel
theorem dX7_turns_47 : decode cX7_turns 47 = .ok (.iload 4, 2) := by decide +kernel
theorem dX7_turns_49 : decode cX7_turns 49 = .ok (.iconst 2, 1) := by decide +kernel
theorem dX7_turns_50 : decode cX7_turns 50 = .ok (.invokevirtual 50, 3) := by decide +kernel
theorem dX7_turns_53 : decode cX7_turns 53 = .ok (.ldiv, 1) := by decide +kernel
theorem dX7_turns_54 : decode cX7_turns 54 = .ok (.ladd, 1) := by decide +kernel
theorem dX7_turns_55 : decode cX7_turns 55 = .ok (.invokevirtual 66, 3) := by decide +kernel
theorem dX7_turns_58 : decode cX7_turns 58 = .ok (.aload_n 0, 1) := by decide +kernel
theorem dX7_turns_59 : decode cX7_turns 59 = .ok (.iload 4, 2) := by decide +kernel
theorem dX7_turns_61 : decode cX7_turns 61 = .ok (.invokevirtual 58, 3) := by decide +kernel
theorem dX7_turns_64 : decode cX7_turns 64 = .ok (.istore 4, 2) := by decide +kernel
theorem dX7_turns_66 : decode cX7_turns 66 = .ok (.goto (-63), 3) := by decide +kernel
theorem dX7_turns_69 : decode cX7_turns 69 = .ok (.return_, 1) := by decide +kernel
theorem dX7_isSent_0 : decode cX7_isSent 0 = .ok (.aload_n 0, 1) := by decide +kernel
theorem dX7_isSent_1 : decode cX7_isSent 1 = .ok (.invokevirtual 170, 3) := by decide +kernel
theorem dX7_isSent_4 : decode cX7_isSent 4 = .ok (.aload_n 0, 1) := by decide +kernel
theorem dX7_isSent_5 : decode cX7_isSent 5 = .ok (.invokevirtual 165, 3) := by decide +kernel
theorem dX7_isSent_8 : decode cX7_isSent 8 = .ok (.istore_n 1, 1) := by decide +kernel
theorem dX7_isSent_9 : decode cX7_isSent 9 = .ok (.iload_n 1, 1) := by decide +kernel
theorem dX7_isSent_10 : decode cX7_isSent 10 = .ok (.iconst (-1), 1) := by decide +kernel
theorem dX7_isSent_11 : decode cX7_isSent 11 = .ok (.if_icmp .ne 5, 3) := by decide +kernel
theorem dX7_isSent_14 : decode cX7_isSent 14 = .ok (.iconst 0, 1) := by decide +kernel
theorem dX7_isSent_15 : decode cX7_isSent 15 = .ok (.ireturn, 1) := by decide +kernel
theorem dX7_isSent_16 : decode cX7_isSent 16 = .ok (.aload_n 0, 1) := by decide +kernel
theorem dX7_isSent_17 : decode cX7_isSent 17 = .ok (.invokevirtual 173, 3) := by decide +kernel
theorem dX7_isSent_20 : decode cX7_isSent 20 = .ok (.istore_n 2, 1) := by decide +kernel
theorem dX7_isSent_21 : decode cX7_isSent 21 = .ok (.aload_n 0, 1) := by decide +kernel
theorem dX7_isSent_22 : decode cX7_isSent 22 = .ok (.iload_n 1, 1) := by decide +kernel
theorem dX7_isSent_23 : decode cX7_isSent 23 = .ok (.invokevirtual 176, 3) := by decide +kernel
theorem dX7_isSent_26 : decode cX7_isSent 26 = .ok (.lstore_n 3, 1) := by decide +kernel
theorem dX7_isSent_27 : decode cX7_isSent 27 = .ok (.aload_n 0, 1) := by decide +kernel
theorem dX7_isSent_28 : decode cX7_isSent 28 = .ok (.getfield 7, 3) := by decide +kernel
theorem dX7_isSent_31 : decode cX7_isSent 31 = .ok (.sipush 211, 3) := by decide +kernel
theorem dX7_isSent_34 : decode cX7_isSent 34 = .ok (.laload, 1) := by decide +kernel
theorem dX7_isSent_35 : decode cX7_isSent 35 = .ok (.lconst 0, 1) := by decide +kernel
theorem dX7_isSent_36 : decode cX7_isSent 36 = .ok (.lcmp, 1) := by decide +kernel
theorem dX7_isSent_37 : decode cX7_isSent 37 = .ok (.ifCond .ne 9, 3) := by decide +kernel
theorem dX7_isSent_40 : decode cX7_isSent 40 = .ok (.aload_n 0, 1) := by decide +kernel
theorem dX7_isSent_41 : decode cX7_isSent 41 = .ok (.iload_n 1, 1) := by decide +kernel
theorem dX7_isSent_42 : decode cX7_isSent 42 = .ok (.lload_n 3, 1) := by decide +kernel
theorem dX7_isSent_43 : decode cX7_isSent 43 = .ok (.invokevirtual 180, 3) := by decide +kernel
theorem dX7_isSent_46 : decode cX7_isSent 46 = .ok (.aload_n 0, 1) := by decide +kernel
theorem dX7_isSent_47 : decode cX7_isSent 47 = .ok (.getfield 7, 3) := by decide +kernel
theorem dX7_isSent_50 : decode cX7_isSent 50 = .ok (.sipush 208, 3) := by decide +kernel
theorem dX7_isSent_53 : decode cX7_isSent 53 = .ok (.dup2, 1) := by decide +kernel
theorem dX7_isSent_54 : decode cX7_isSent 54 = .ok (.laload, 1) := by decide +kernel
theorem dX7_isSent_55 : decode cX7_isSent 55 = .ok (.lload_n 3, 1) := by decide +kernel
theorem dX7_isSent_56 : decode cX7_isSent 56 = .ok (.lsub, 1) := by decide +kernel
theorem dX7_isSent_57 : decode cX7_isSent 57 = .ok (.lastore, 1) := by decide +kernel
theorem dX7_isSent_58 : decode cX7_isSent 58 = .ok (.aload_n 0, 1) := by decide +kernel
theorem dX7_isSent_59 : decode cX7_isSent 59 = .ok (.iload_n 1, 1) := by decide +kernel
theorem dX7_isSent_60 : decode cX7_isSent 60 = .ok (.iconst 3, 1) := by decide +kernel
theorem dX7_isSent_61 : decode cX7_isSent 61 = .ok (.aload_n 0, 1) := by decide +kernel
theorem dX7_isSent_62 : decode cX7_isSent 62 = .ok (.iload_n 1, 1) := by decide +kernel
theorem dX7_isSent_63 : decode cX7_isSent 63 = .ok (.iconst 3, 1) := by decide +kernel
theorem dX7_isSent_64 : decode cX7_isSent 64 = .ok (.invokevirtual 50, 3) := by decide +kernel
theorem dX7_isSent_67 : decode cX7_isSent 67 = .ok (.lload_n 3, 1) := by decide +kernel
theorem dX7_isSent_68 : decode cX7_isSent 68 = .ok (.lsub, 1) := by decide +kernel
theorem dX7_isSent_69 : decode cX7_isSent 69 = .ok (.invokevirtual 66, 3) := by decide +kernel
theorem dX7_isSent_72 : decode cX7_isSent 72 = .ok (.aload_n 0, 1) := by decide +kernel
theorem dX7_isSent_73 : decode cX7_isSent 73 = .ok (.iload_n 1, 1) := by decide +kernel
theorem dX7_isSent_74 : decode cX7_isSent 74 = .ok (.iconst 4, 1) := by decide +kernel
theorem dX7_isSent_75 : decode cX7_isSent 75 = .ok (.aload_n 0, 1) := by decide +kernel
theorem dX7_isSent_76 : decode cX7_isSent 76 = .ok (.iload_n 1, 1) := by decide +kernel
theorem dX7_isSent_77 : decode cX7_isSent 77 = .ok (.iconst 4, 1) := by decide +kernel
theorem dX7_isSent_78 : decode cX7_isSent 78 = .ok (.invokevirtual 50, 3) := by decide +kernel
theorem dX7_isSent_81 : decode cX7_isSent 81 = .ok (.lload_n 3, 1) := by decide +kernel
theorem dX7_isSent_82 : decode cX7_isSent 82 = .ok (.lsub, 1) := by decide +kernel
theorem dX7_isSent_83 : decode cX7_isSent 83 = .ok (.invokevirtual 66, 3) := by decide +kernel
theorem dX7_isSent_86 : decode cX7_isSent 86 = .ok (.aload_n 0, 1) := by decide +kernel
theorem dX7_isSent_87 : decode cX7_isSent 87 = .ok (.iload_n 1, 1) := by decide +kernel
theorem dX7_isSent_88 : decode cX7_isSent 88 = .ok (.bipush 11, 2) := by decide +kernel
theorem dX7_isSent_90 : decode cX7_isSent 90 = .ok (.aload_n 0, 1) := by decide +kernel
theorem dX7_isSent_91 : decode cX7_isSent 91 = .ok (.iload_n 1, 1) := by decide +kernel
theorem dX7_isSent_92 : decode cX7_isSent 92 = .ok (.bipush 11, 2) := by decide +kernel
theorem dX7_isSent_94 : decode cX7_isSent 94 = .ok (.invokevirtual 50, 3) := by decide +kernel
theorem dX7_isSent_97 : decode cX7_isSent 97 = .ok (.lload_n 3, 1) := by decide +kernel
theorem dX7_isSent_98 : decode cX7_isSent 98 = .ok (.ladd, 1) := by decide +kernel
theorem dX7_isSent_99 : decode cX7_isSent 99 = .ok (.invokevirtual 66, 3) := by decide +kernel
theorem dX7_isSent_102 : decode cX7_isSent 102 = .ok (.aload_n 0, 1) := by decide +kernel
theorem dX7_isSent_103 : decode cX7_isSent 103 = .ok (.getfield 7, 3) := by decide +kernel
theorem dX7_isSent_106 : decode cX7_isSent 106 = .ok (.sipush 212, 3) := by decide +kernel
theorem dX7_isSent_109 : decode cX7_isSent 109 = .ok (.dup2, 1) := by decide +kernel
theorem dX7_isSent_110 : decode cX7_isSent 110 = .ok (.laload, 1) := by decide +kernel
theorem dX7_isSent_111 : decode cX7_isSent 111 = .ok (.lconst 1, 1) := by decide +kernel
theorem dX7_isSent_112 : decode cX7_isSent 112 = .ok (.ladd, 1) := by decide +kernel
theorem dX7_isSent_113 : decode cX7_isSent 113 = .ok (.lastore, 1) := by decide +kernel
theorem dX7_isSent_114 : decode cX7_isSent 114 = .ok (.aload_n 0, 1) := by decide +kernel
theorem dX7_isSent_115 : decode cX7_isSent 115 = .ok (.iload_n 1, 1) := by decide +kernel
theorem dX7_isSent_116 : decode cX7_isSent 116 = .ok (.bipush 14, 2) := by decide +kernel
theorem dX7_isSent_118 : decode cX7_isSent 118 = .ok (.aload_n 0, 1) := by decide +kernel
theorem dX7_isSent_119 : decode cX7_isSent 119 = .ok (.getfield 7, 3) := by decide +kernel
theorem dX7_isSent_122 : decode cX7_isSent 122 = .ok (.sipush 212, 3) := by decide +kernel
theorem dX7_isSent_125 : decode cX7_isSent 125 = .ok (.laload, 1) := by decide +kernel
theorem dX7_isSent_126 : decode cX7_isSent 126 = .ok (.invokevirtual 66, 3) := by decide +kernel
theorem dX7_isSent_129 : decode cX7_isSent 129 = .ok (.aload_n 0, 1) := by decide +kernel
theorem dX7_isSent_130 : decode cX7_isSent 130 = .ok (.getfield 7, 3) := by decide +kernel
theorem dX7_isSent_133 : decode cX7_isSent 133 = .ok (.sipush 213, 3) := by decide +kernel
theorem dX7_isSent_136 : decode cX7_isSent 136 = .ok (.lload_n 3, 1) := by decide +kernel
theorem dX7_isSent_137 : decode cX7_isSent 137 = .ok (.lastore, 1) := by decide +kernel
theorem dX7_isSent_138 : decode cX7_isSent 138 = .ok (.aload_n 0, 1) := by decide +kernel
theorem dX7_isSent_139 : decode cX7_isSent 139 = .ok (.getfield 7, 3) := by decide +kernel
theorem dX7_isSent_142 : decode cX7_isSent 142 = .ok (.sipush 214, 3) := by decide +kernel
theorem dX7_isSent_145 : decode cX7_isSent 145 = .ok (.iload_n 1, 1) := by decide +kernel
theorem dX7_isSent_146 : decode cX7_isSent 146 = .ok (.i2l, 1) := by decide +kernel
theorem dX7_isSent_147 : decode cX7_isSent 147 = .ok (.lastore, 1) := by decide +kernel
theorem dX7_isSent_148 : decode cX7_isSent 148 = .ok (.iconst 1, 1) := by decide +kernel
theorem dX7_isSent_149 : decode cX7_isSent 149 = .ok (.istore 5, 2) := by decide +kernel
theorem dX7_isSent_151 : decode cX7_isSent 151 = .ok (.iload 5, 2) := by decide +kernel
theorem dX7_isSent_153 : decode cX7_isSent 153 = .ok (.bipush 12, 2) := by decide +kernel
theorem dX7_isSent_155 : decode cX7_isSent 155 = .ok (.if_icmp .gt 86, 3) := by decide +kernel
theorem dX7_isSent_158 : decode cX7_isSent 158 = .ok (.iload_n 2, 1) := by decide +kernel
theorem dX7_isSent_159 : decode cX7_isSent 159 = .ok (.iload 5, 2) := by decide +kernel
theorem dX7_isSent_161 : decode cX7_isSent 161 = .ok (.ishr, 1) := by decide +kernel
theorem dX7_isSent_162 : decode cX7_isSent 162 = .ok (.iconst 1, 1) := by decide +kernel
theorem dX7_isSent_163 : decode cX7_isSent 163 = .ok (.iand, 1) := by decide +kernel
theorem dX7_isSent_164 : decode cX7_isSent 164 = .ok (.iconst 1, 1) := by decide +kernel
theorem dX7_isSent_165 : decode cX7_isSent 165 = .ok (.if_icmp .ne 70, 3) := by decide +kernel
theorem dX7_isSent_168 : decode cX7_isSent 168 = .ok (.iload 5, 2) := by decide +kernel
theorem dX7_isSent_170 : decode cX7_isSent 170 = .ok (.iload_n 1, 1) := by decide +kernel
theorem dX7_isSent_171 : decode cX7_isSent 171 = .ok (.if_icmp .ne 7, 3) := by decide +kernel
theorem dX7_isSent_174 : decode cX7_isSent 174 = .ok (.lconst 0, 1) := by decide +kernel
theorem dX7_isSent_175 : decode cX7_isSent 175 = .ok (.goto 13, 3) := by decide +kernel
theorem dX7_isSent_178 : decode cX7_isSent 178 = .ok (.aload_n 0, 1) := by decide +kernel
theorem dX7_isSent_179 : decode cX7_isSent 179 = .ok (.iload 5, 2) := by decide +kernel
theorem dX7_isSent_181 : decode cX7_isSent 181 = .ok (.bipush 12, 2) := by decide +kernel
theorem dX7_isSent_183 : decode cX7_isSent 183 = .ok (.invokevirtual 50, 3) := by decide +kernel
theorem dX7_isSent_186 : decode cX7_isSent 186 = .ok (.lconst 1, 1) := by decide +kernel
theorem dX7_isSent_187 : decode cX7_isSent 187 = .ok (.ladd, 1) := by decide +kernel
theorem dX7_isSent_188 : decode cX7_isSent 188 = .ok (.lstore 6, 2) := by decide +kernel
theorem dX7_isSent_190 : decode cX7_isSent 190 = .ok (.aload_n 0, 1) := by decide +kernel
theorem dX7_isSent_191 : decode cX7_isSent 191 = .ok (.iload 5, 2) := by decide +kernel
theorem dX7_isSent_193 : decode cX7_isSent 193 = .ok (.bipush 12, 2) := by decide +kernel
theorem dX7_isSent_195 : decode cX7_isSent 195 = .ok (.lload 6, 2) := by decide +kernel
theorem dX7_isSent_197 : decode cX7_isSent 197 = .ok (.invokevirtual 66, 3) := by decide +kernel
theorem dX7_isSent_200 : decode cX7_isSent 200 = .ok (.aload_n 0, 1) := by decide +kernel
theorem dX7_isSent_201 : decode cX7_isSent 201 = .ok (.iload 5, 2) := by decide +kernel
theorem dX7_isSent_203 : decode cX7_isSent 203 = .ok (.bipush 13, 2) := by decide +kernel
theorem dX7_isSent_205 : decode cX7_isSent 205 = .ok (.lload 6, 2) := by decide +kernel
theorem dX7_isSent_207 : decode cX7_isSent 207 = .ok (.aload_n 0, 1) := by decide +kernel
theorem dX7_isSent_208 : decode cX7_isSent 208 = .ok (.iload 5, 2) := by decide +kernel
theorem dX7_isSent_210 : decode cX7_isSent 210 = .ok (.bipush 13, 2) := by decide +kernel
theorem dX7_isSent_212 : decode cX7_isSent 212 = .ok (.invokevirtual 50, 3) := by decide +kernel
theorem dX7_isSent_215 : decode cX7_isSent 215 = .ok (.lcmp, 1) := by decide +kernel
theorem dX7_isSent_216 : decode cX7_isSent 216 = .ok (.ifCond .le 8, 3) := by decide +kernel
theorem dX7_isSent_219 : decode cX7_isSent 219 = .ok (.lload 6, 2) := by decide +kernel
theorem dX7_isSent_221 : decode cX7_isSent 221 = .ok (.goto 11, 3) := by decide +kernel
theorem dX7_isSent_224 : decode cX7_isSent 224 = .ok (.aload_n 0, 1) := by decide +kernel
theorem dX7_isSent_225 : decode cX7_isSent 225 = .ok (.iload 5, 2) := by decide +kernel
theorem dX7_isSent_227 : decode cX7_isSent 227 = .ok (.bipush 13, 2) := by decide +kernel
theorem dX7_isSent_229 : decode cX7_isSent 229 = .ok (.invokevirtual 50, 3) := by decide +kernel
theorem dX7_isSent_232 : decode cX7_isSent 232 = .ok (.invokevirtual 66, 3) := by decide +kernel
theorem dX7_isSent_235 : decode cX7_isSent 235 = .ok (.iinc 5 1, 3) := by decide +kernel
theorem dX7_isSent_238 : decode cX7_isSent 238 = .ok (.goto (-87), 3) := by decide +kernel
theorem dX7_isSent_241 : decode cX7_isSent 241 = .ok (.iconst 1, 1) := by decide +kernel
theorem dX7_isSent_242 : decode cX7_isSent 242 = .ok (.istore 5, 2) := by decide +kernel
theorem dX7_isSent_244 : decode cX7_isSent 244 = .ok (.iload 5, 2) := by decide +kernel
theorem dX7_isSent_246 : decode cX7_isSent 246 = .ok (.bipush 12, 2) := by decide +kernel
theorem dX7_isSent_248 : decode cX7_isSent 248 = .ok (.if_icmp .gt 49, 3) := by decide +kernel
theorem dX7_isSent_251 : decode cX7_isSent 251 = .ok (.aload_n 0, 1) := by decide +kernel
theorem dX7_isSent_252 : decode cX7_isSent 252 = .ok (.iload 5, 2) := by decide +kernel
theorem dX7_isSent_254 : decode cX7_isSent 254 = .ok (.invokevirtual 54, 3) := by decide +kernel
theorem dX7_isSent_257 : decode cX7_isSent 257 = .ok (.ifCond .eq 34, 3) := by decide +kernel
theorem dX7_isSent_260 : decode cX7_isSent 260 = .ok (.aload_n 0, 1) := by decide +kernel
theorem dX7_isSent_261 : decode cX7_isSent 261 = .ok (.iload 5, 2) := by decide +kernel
theorem dX7_isSent_263 : decode cX7_isSent 263 = .ok (.bipush 7, 2) := by decide +kernel
theorem dX7_isSent_265 : decode cX7_isSent 265 = .ok (.invokevirtual 50, 3) := by decide +kernel
theorem dX7_isSent_268 : decode cX7_isSent 268 = .ok (.lconst 0, 1) := by decide +kernel
theorem dX7_isSent_269 : decode cX7_isSent 269 = .ok (.lcmp, 1) := by decide +kernel
theorem dX7_isSent_270 : decode cX7_isSent 270 = .ok (.ifCond .ne 21, 3) := by decide +kernel
theorem dX7_isSent_273 : decode cX7_isSent 273 = .ok (.aload_n 0, 1) := by decide +kernel
theorem dX7_isSent_274 : decode cX7_isSent 274 = .ok (.iload 5, 2) := by decide +kernel
theorem dX7_isSent_276 : decode cX7_isSent 276 = .ok (.bipush 8, 2) := by decide +kernel
theorem dX7_isSent_278 : decode cX7_isSent 278 = .ok (.aload_n 0, 1) := by decide +kernel
theorem dX7_isSent_279 : decode cX7_isSent 279 = .ok (.iload 5, 2) := by decide +kernel
theorem dX7_isSent_281 : decode cX7_isSent 281 = .ok (.bipush 8, 2) := by decide +kernel
theorem dX7_isSent_283 : decode cX7_isSent 283 = .ok (.invokevirtual 50, 3) := by decide +kernel
theorem dX7_isSent_286 : decode cX7_isSent 286 = .ok (.lconst 1, 1) := by decide +kernel
theorem dX7_isSent_287 : decode cX7_isSent 287 = .ok (.ladd, 1) := by decide +kernel
theorem dX7_isSent_288 : decode cX7_isSent 288 = .ok (.invokevirtual 66, 3) := by decide +kernel
theorem dX7_isSent_291 : decode cX7_isSent 291 = .ok (.iinc 5 1, 3) := by decide +kernel
theorem dX7_isSent_294 : decode cX7_isSent 294 = .ok (.goto (-50), 3) := by decide +kernel
theorem dX7_isSent_297 : decode cX7_isSent 297 = .ok (.aload_n 0, 1) := by decide +kernel
theorem dX7_isSent_298 : decode cX7_isSent 298 = .ok (.invokevirtual 114, 3) := by decide +kernel
theorem dX7_isSent_301 : decode cX7_isSent 301 = .ok (.iconst 1, 1) := by decide +kernel
theorem dX7_isSent_302 : decode cX7_isSent 302 = .ok (.ireturn, 1) := by decide +kernel
theorem dX7_sends_0 : decode cX7_sends 0 = .ok (.iload_n 1, 1) := by decide +kernel
theorem dX7_sends_1 : decode cX7_sends 1 = .ok (.i2l, 1) := by decide +kernel
theorem dX7_sends_2 : decode cX7_sends 2 = .ok (.lconst 1, 1) := by decide +kernel
theorem dX7_sends_3 : decode cX7_sends 3 = .ok (.ldc2_w 34, 3) := by decide +kernel
theorem dX7_sends_6 : decode cX7_sends 6 = .ok (.invokestatic 46, 3) := by decide +kernel
theorem dX7_sends_9 : decode cX7_sends 9 = .ok (.ifCond .ne 10, 3) := by decide +kernel
theorem dX7_sends_12 : decode cX7_sends 12 = .ok (.aload_n 0, 1) := by decide +kernel
theorem dX7_sends_13 : decode cX7_sends 13 = .ok (.bipush (-2), 2) := by decide +kernel
theorem dX7_sends_15 : decode cX7_sends 15 = .ok (.invokevirtual 83, 3) := by decide +kernel
theorem dX7_sends_18 : decode cX7_sends 18 = .ok (.ireturn, 1) := by decide +kernel
theorem dX7_sends_19 : decode cX7_sends 19 = .ok (.aload_n 0, 1) := by decide +kernel
theorem dX7_sends_20 : decode cX7_sends 20 = .ok (.invokevirtual 86, 3) := by decide +kernel
theorem dX7_sends_23 : decode cX7_sends 23 = .ok (.iconst 0, 1) := by decide +kernel
theorem dX7_sends_24 : decode cX7_sends 24 = .ok (.istore_n 2, 1) := by decide +kernel
theorem dX7_sends_25 : decode cX7_sends 25 = .ok (.iload_n 2, 1) := by decide +kernel
theorem dX7_sends_26 : decode cX7_sends 26 = .ok (.iload_n 1, 1) := by decide +kernel
theorem dX7_sends_27 : decode cX7_sends 27 = .ok (.if_icmp .ge 16, 3) := by decide +kernel
theorem dX7_sends_30 : decode cX7_sends 30 = .ok (.aload_n 0, 1) := by decide +kernel
theorem dX7_sends_31 : decode cX7_sends 31 = .ok (.invokevirtual 184, 3) := by decide +kernel
theorem dX7_sends_34 : decode cX7_sends 34 = .ok (.ifCond .eq 9, 3) := by decide +kernel
theorem dX7_sends_37 : decode cX7_sends 37 = .ok (.iinc 2 1, 3) := by decide +kernel
theorem dX7_sends_40 : decode cX7_sends 40 = .ok (.goto (-15), 3) := by decide +kernel
theorem dX7_sends_43 : decode cX7_sends 43 = .ok (.iload_n 2, 1) := by decide +kernel
theorem dX7_sends_44 : decode cX7_sends 44 = .ok (.ireturn, 1) := by decide +kernel
theorem dX7_divisor_0 : decode cX7_divisor 0 = .ok (.lload_n 0, 1) := by decide +kernel
theorem dX7_divisor_1 : decode cX7_divisor 1 = .ok (.lstore 4, 2) := by decide +kernel
theorem dX7_divisor_3 : decode cX7_divisor 3 = .ok (.lload_n 2, 1) := by decide +kernel
theorem dX7_divisor_4 : decode cX7_divisor 4 = .ok (.lstore 6, 2) := by decide +kernel
theorem dX7_divisor_6 : decode cX7_divisor 6 = .ok (.lload 6, 2) := by decide +kernel
theorem dX7_divisor_8 : decode cX7_divisor 8 = .ok (.lconst 0, 1) := by decide +kernel
theorem dX7_divisor_9 : decode cX7_divisor 9 = .ok (.lcmp, 1) := by decide +kernel
theorem dX7_divisor_10 : decode cX7_divisor 10 = .ok (.ifCond .eq 21, 3) := by decide +kernel
theorem dX7_divisor_13 : decode cX7_divisor 13 = .ok (.lload 4, 2) := by decide +kernel
theorem dX7_divisor_15 : decode cX7_divisor 15 = .ok (.lload 6, 2) := by decide +kernel
theorem dX7_divisor_17 : decode cX7_divisor 17 = .ok (.lrem, 1) := by decide +kernel
theorem dX7_divisor_18 : decode cX7_divisor 18 = .ok (.lstore 8, 2) := by decide +kernel
theorem dX7_divisor_20 : decode cX7_divisor 20 = .ok (.lload 6, 2) := by decide +kernel
theorem dX7_divisor_22 : decode cX7_divisor 22 = .ok (.lstore 4, 2) := by decide +kernel
theorem dX7_divisor_24 : decode cX7_divisor 24 = .ok (.lload 8, 2) := by decide +kernel
theorem dX7_divisor_26 : decode cX7_divisor 26 = .ok (.lstore 6, 2) := by decide +kernel
theorem dX7_divisor_28 : decode cX7_divisor 28 = .ok (.goto (-22), 3) := by decide +kernel
theorem dX7_divisor_31 : decode cX7_divisor 31 = .ok (.lload 4, 2) := by decide +kernel
theorem dX7_divisor_33 : decode cX7_divisor 33 = .ok (.lreturn, 1) := by decide +kernel
theorem dX7_shares_0 : decode cX7_shares 0 = .ok (.aload_n 0, 1) := by decide +kernel
theorem dX7_shares_1 : decode cX7_shares 1 = .ok (.invokevirtual 150, 3) := by decide +kernel
theorem dX7_shares_4 : decode cX7_shares 4 = .ok (.istore_n 2, 1) := by decide +kernel
theorem dX7_shares_5 : decode cX7_shares 5 = .ok (.aload_n 0, 1) := by decide +kernel
theorem dX7_shares_6 : decode cX7_shares 6 = .ok (.iload_n 2, 1) := by decide +kernel
theorem dX7_shares_7 : decode cX7_shares 7 = .ok (.iload_n 1, 1) := by decide +kernel
theorem dX7_shares_8 : decode cX7_shares 8 = .ok (.ishr, 1) := by decide +kernel
theorem dX7_shares_9 : decode cX7_shares 9 = .ok (.iconst 1, 1) := by decide +kernel
theorem dX7_shares_10 : decode cX7_shares 10 = .ok (.iand, 1) := by decide +kernel
theorem dX7_shares_11 : decode cX7_shares 11 = .ok (.i2l, 1) := by decide +kernel
theorem dX7_shares_12 : decode cX7_shares 12 = .ok (.putfield 188, 3) := by decide +kernel
theorem dX7_shares_15 : decode cX7_shares 15 = .ok (.aload_n 0, 1) := by decide +kernel
theorem dX7_shares_16 : decode cX7_shares 16 = .ok (.lconst 1, 1) := by decide +kernel
theorem dX7_shares_17 : decode cX7_shares 17 = .ok (.putfield 192, 3) := by decide +kernel
theorem dX7_shares_20 : decode cX7_shares 20 = .ok (.iload_n 1, 1) := by decide +kernel
theorem dX7_shares_21 : decode cX7_shares 21 = .ok (.istore_n 3, 1) := by decide +kernel
theorem dX7_shares_22 : decode cX7_shares 22 = .ok (.iload_n 3, 1) := by decide +kernel
theorem dX7_shares_23 : decode cX7_shares 23 = .ok (.ifCond .eq 160, 3) := by decide +kernel
theorem dX7_shares_26 : decode cX7_shares 26 = .ok (.lconst 0, 1) := by decide +kernel
theorem dX7_shares_27 : decode cX7_shares 27 = .ok (.lstore 4, 2) := by decide +kernel
theorem dX7_shares_29 : decode cX7_shares 29 = .ok (.iconst 1, 1) := by decide +kernel
theorem dX7_shares_30 : decode cX7_shares 30 = .ok (.istore 6, 2) := by decide +kernel
theorem dX7_shares_32 : decode cX7_shares 32 = .ok (.iload 6, 2) := by decide +kernel
theorem dX7_shares_34 : decode cX7_shares 34 = .ok (.bipush 12, 2) := by decide +kernel
theorem dX7_shares_36 : decode cX7_shares 36 = .ok (.if_icmp .gt 49, 3) := by decide +kernel
theorem dX7_shares_39 : decode cX7_shares 39 = .ok (.lload 4, 2) := by decide +kernel
theorem dX7_shares_41 : decode cX7_shares 41 = .ok (.aload_n 0, 1) := by decide +kernel
theorem dX7_shares_42 : decode cX7_shares 42 = .ok (.iload 6, 2) := by decide +kernel
theorem dX7_shares_44 : decode cX7_shares 44 = .ok (.aload_n 0, 1) := by decide +kernel
theorem dX7_shares_45 : decode cX7_shares 45 = .ok (.iload_n 3, 1) := by decide +kernel
theorem dX7_shares_46 : decode cX7_shares 46 = .ok (.invokevirtual 58, 3) := by decide +kernel
theorem dX7_shares_49 : decode cX7_shares 49 = .ok (.invokevirtual 62, 3) := by decide +kernel
theorem dX7_shares_52 : decode cX7_shares 52 = .ok (.ifCond .eq 23, 3) := by decide +kernel
theorem dX7_shares_55 : decode cX7_shares 55 = .ok (.iload_n 2, 1) := by decide +kernel
theorem dX7_shares_56 : decode cX7_shares 56 = .ok (.iload 6, 2) := by decide +kernel
theorem dX7_shares_58 : decode cX7_shares 58 = .ok (.ishr, 1) := by decide +kernel
theorem dX7_shares_59 : decode cX7_shares 59 = .ok (.iconst 1, 1) := by decide +kernel
theorem dX7_shares_60 : decode cX7_shares 60 = .ok (.iand, 1) := by decide +kernel
theorem dX7_shares_61 : decode cX7_shares 61 = .ok (.iconst 1, 1) := by decide +kernel
theorem dX7_shares_62 : decode cX7_shares 62 = .ok (.if_icmp .ne 13, 3) := by decide +kernel
theorem dX7_shares_65 : decode cX7_shares 65 = .ok (.aload_n 0, 1) := by decide +kernel
theorem dX7_shares_66 : decode cX7_shares 66 = .ok (.iload 6, 2) := by decide +kernel
theorem dX7_shares_68 : decode cX7_shares 68 = .ok (.iconst 2, 1) := by decide +kernel
theorem dX7_shares_69 : decode cX7_shares 69 = .ok (.invokevirtual 50, 3) := by decide +kernel
theorem dX7_shares_72 : decode cX7_shares 72 = .ok (.goto 4, 3) := by decide +kernel
theorem dX7_shares_75 : decode cX7_shares 75 = .ok (.lconst 0, 1) := by decide +kernel
theorem dX7_shares_76 : decode cX7_shares 76 = .ok (.ladd, 1) := by decide +kernel
theorem dX7_shares_77 : decode cX7_shares 77 = .ok (.lstore 4, 2) := by decide +kernel
theorem dX7_shares_79 : decode cX7_shares 79 = .ok (.iinc 6 1, 3) := by decide +kernel
theorem dX7_shares_82 : decode cX7_shares 82 = .ok (.goto (-50), 3) := by decide +kernel
theorem dX7_shares_85 : decode cX7_shares 85 = .ok (.aload_n 0, 1) := by decide +kernel
theorem dX7_shares_86 : decode cX7_shares 86 = .ok (.iload_n 3, 1) := by decide +kernel
theorem dX7_shares_87 : decode cX7_shares 87 = .ok (.iload_n 1, 1) := by decide +kernel
theorem dX7_shares_88 : decode cX7_shares 88 = .ok (.if_icmp .eq 15, 3) := by decide +kernel
theorem dX7_shares_91 : decode cX7_shares 91 = .ok (.aload_n 0, 1) := by decide +kernel
theorem dX7_shares_92 : decode cX7_shares 92 = .ok (.iload_n 3, 1) := by decide +kernel
theorem dX7_shares_93 : decode cX7_shares 93 = .ok (.invokevirtual 124, 3) := by decide +kernel
theorem dX7_shares_96 : decode cX7_shares 96 = .ok (.ifCond .eq 7, 3) := by decide +kernel
theorem dX7_shares_99 : decode cX7_shares 99 = .ok (.lconst 0, 1) := by decide +kernel
theorem dX7_shares_100 : decode cX7_shares 100 = .ok (.goto 14, 3) := by decide +kernel
theorem dX7_shares_103 : decode cX7_shares 103 = .ok (.aload_n 0, 1) := by decide +kernel
theorem dX7_shares_104 : decode cX7_shares 104 = .ok (.getfield 188, 3) := by decide +kernel
theorem dX7_shares_107 : decode cX7_shares 107 = .ok (.aload_n 0, 1) := by decide +kernel
theorem dX7_shares_108 : decode cX7_shares 108 = .ok (.iload_n 3, 1) := by decide +kernel
theorem dX7_shares_109 : decode cX7_shares 109 = .ok (.iconst 2, 1) := by decide +kernel
theorem dX7_shares_110 : decode cX7_shares 110 = .ok (.invokevirtual 50, 3) := by decide +kernel
theorem dX7_shares_113 : decode cX7_shares 113 = .ok (.lmul, 1) := by decide +kernel
theorem dX7_shares_114 : decode cX7_shares 114 = .ok (.putfield 188, 3) := by decide +kernel
theorem dX7_shares_117 : decode cX7_shares 117 = .ok (.aload_n 0, 1) := by decide +kernel
theorem dX7_shares_118 : decode cX7_shares 118 = .ok (.dup, 1) := by decide +kernel
theorem dX7_shares_119 : decode cX7_shares 119 = .ok (.getfield 192, 3) := by decide +kernel
theorem dX7_shares_122 : decode cX7_shares 122 = .ok (.lload 4, 2) := by decide +kernel
theorem dX7_shares_124 : decode cX7_shares 124 = .ok (.lconst 0, 1) := by decide +kernel
theorem dX7_shares_125 : decode cX7_shares 125 = .ok (.lcmp, 1) := by decide +kernel
theorem dX7_shares_126 : decode cX7_shares 126 = .ok (.ifCond .le 8, 3) := by decide +kernel
end
section
theorem dX7_shares_129 : decode cX7_shares 129 = .ok (.lload 4, 2) := by decide +kernel
theorem dX7_shares_131 : decode cX7_shares 131 = .ok (.goto 4, 3) := by decide +kernel
theorem dX7_shares_134 : decode cX7_shares 134 = .ok (.lconst 1, 1) := by decide +kernel
theorem dX7_shares_135 : decode cX7_shares 135 = .ok (.lmul, 1) := by decide +kernel
theorem dX7_shares_136 : decode cX7_shares 136 = .ok (.putfield 192, 3) := by decide +kernel
theorem dX7_shares_139 : decode cX7_shares 139 = .ok (.aload_n 0, 1) := by decide +kernel
theorem dX7_shares_140 : decode cX7_shares 140 = .ok (.getfield 188, 3) := by decide +kernel
theorem dX7_shares_143 : decode cX7_shares 143 = .ok (.aload_n 0, 1) := by decide +kernel
theorem dX7_shares_144 : decode cX7_shares 144 = .ok (.getfield 192, 3) := by decide +kernel
theorem dX7_shares_147 : decode cX7_shares 147 = .ok (.invokestatic 194, 3) := by decide +kernel
theorem dX7_shares_150 : decode cX7_shares 150 = .ok (.lstore 6, 2) := by decide +kernel
theorem dX7_shares_152 : decode cX7_shares 152 = .ok (.aload_n 0, 1) := by decide +kernel
theorem dX7_shares_153 : decode cX7_shares 153 = .ok (.dup, 1) := by decide +kernel
theorem dX7_shares_154 : decode cX7_shares 154 = .ok (.getfield 188, 3) := by decide +kernel
theorem dX7_shares_157 : decode cX7_shares 157 = .ok (.lload 6, 2) := by decide +kernel
theorem dX7_shares_159 : decode cX7_shares 159 = .ok (.ldiv, 1) := by decide +kernel
theorem dX7_shares_160 : decode cX7_shares 160 = .ok (.putfield 188, 3) := by decide +kernel
theorem dX7_shares_163 : decode cX7_shares 163 = .ok (.aload_n 0, 1) := by decide +kernel
theorem dX7_shares_164 : decode cX7_shares 164 = .ok (.dup, 1) := by decide +kernel
theorem dX7_shares_165 : decode cX7_shares 165 = .ok (.getfield 192, 3) := by decide +kernel
theorem dX7_shares_168 : decode cX7_shares 168 = .ok (.lload 6, 2) := by decide +kernel
theorem dX7_shares_170 : decode cX7_shares 170 = .ok (.ldiv, 1) := by decide +kernel
theorem dX7_shares_171 : decode cX7_shares 171 = .ok (.putfield 192, 3) := by decide +kernel
theorem dX7_shares_174 : decode cX7_shares 174 = .ok (.aload_n 0, 1) := by decide +kernel
theorem dX7_shares_175 : decode cX7_shares 175 = .ok (.iload_n 3, 1) := by decide +kernel
theorem dX7_shares_176 : decode cX7_shares 176 = .ok (.invokevirtual 58, 3) := by decide +kernel
theorem dX7_shares_179 : decode cX7_shares 179 = .ok (.istore_n 3, 1) := by decide +kernel
theorem dX7_shares_180 : decode cX7_shares 180 = .ok (.goto (-158), 3) := by decide +kernel
theorem dX7_shares_183 : decode cX7_shares 183 = .ok (.return_, 1) := by decide +kernel
theorem dX7_share_0 : decode cX7_share 0 = .ok (.aload_n 0, 1) := by decide +kernel
theorem dX7_share_1 : decode cX7_share 1 = .ok (.iload_n 1, 1) := by decide +kernel
theorem dX7_share_2 : decode cX7_share 2 = .ok (.invokevirtual 54, 3) := by decide +kernel
theorem dX7_share_5 : decode cX7_share 5 = .ok (.ifCond .eq 13, 3) := by decide +kernel
theorem dX7_share_8 : decode cX7_share 8 = .ok (.iload_n 2, 1) := by decide +kernel
theorem dX7_share_9 : decode cX7_share 9 = .ok (.i2l, 1) := by decide +kernel
theorem dX7_share_10 : decode cX7_share 10 = .ok (.lconst 0, 1) := by decide +kernel
theorem dX7_share_11 : decode cX7_share 11 = .ok (.lconst 1, 1) := by decide +kernel
theorem dX7_share_12 : decode cX7_share 12 = .ok (.invokestatic 46, 3) := by decide +kernel
theorem dX7_share_15 : decode cX7_share 15 = .ok (.ifCond .ne 11, 3) := by decide +kernel
theorem dX7_share_18 : decode cX7_share 18 = .ok (.aload_n 0, 1) := by decide +kernel
theorem dX7_share_19 : decode cX7_share 19 = .ok (.bipush (-2), 2) := by decide +kernel
theorem dX7_share_21 : decode cX7_share 21 = .ok (.invokevirtual 83, 3) := by decide +kernel
theorem dX7_share_24 : decode cX7_share 24 = .ok (.i2l, 1) := by decide +kernel
theorem dX7_share_25 : decode cX7_share 25 = .ok (.lreturn, 1) := by decide +kernel
theorem dX7_share_26 : decode cX7_share 26 = .ok (.aload_n 0, 1) := by decide +kernel
theorem dX7_share_27 : decode cX7_share 27 = .ok (.iload_n 1, 1) := by decide +kernel
theorem dX7_share_28 : decode cX7_share 28 = .ok (.invokevirtual 198, 3) := by decide +kernel
theorem dX7_share_31 : decode cX7_share 31 = .ok (.iload_n 2, 1) := by decide +kernel
theorem dX7_share_32 : decode cX7_share 32 = .ok (.ifCond .ne 10, 3) := by decide +kernel
theorem dX7_share_35 : decode cX7_share 35 = .ok (.aload_n 0, 1) := by decide +kernel
theorem dX7_share_36 : decode cX7_share 36 = .ok (.getfield 188, 3) := by decide +kernel
theorem dX7_share_39 : decode cX7_share 39 = .ok (.goto 7, 3) := by decide +kernel
theorem dX7_share_42 : decode cX7_share 42 = .ok (.aload_n 0, 1) := by decide +kernel
theorem dX7_share_43 : decode cX7_share 43 = .ok (.getfield 192, 3) := by decide +kernel
theorem dX7_share_46 : decode cX7_share 46 = .ok (.lreturn, 1) := by decide +kernel
theorem dX7_allNow_0 : decode cX7_allNow 0 = .ok (.lconst 0, 1) := by decide +kernel
theorem dX7_allNow_1 : decode cX7_allNow 1 = .ok (.lstore_n 2, 1) := by decide +kernel
theorem dX7_allNow_2 : decode cX7_allNow 2 = .ok (.lconst 0, 1) := by decide +kernel
theorem dX7_allNow_3 : decode cX7_allNow 3 = .ok (.lstore 4, 2) := by decide +kernel
theorem dX7_allNow_5 : decode cX7_allNow 5 = .ok (.iconst 1, 1) := by decide +kernel
theorem dX7_allNow_6 : decode cX7_allNow 6 = .ok (.istore 6, 2) := by decide +kernel
theorem dX7_allNow_8 : decode cX7_allNow 8 = .ok (.iload 6, 2) := by decide +kernel
theorem dX7_allNow_10 : decode cX7_allNow 10 = .ok (.bipush 12, 2) := by decide +kernel
theorem dX7_allNow_12 : decode cX7_allNow 12 = .ok (.if_icmp .gt 71, 3) := by decide +kernel
theorem dX7_allNow_15 : decode cX7_allNow 15 = .ok (.lload_n 2, 1) := by decide +kernel
theorem dX7_allNow_16 : decode cX7_allNow 16 = .ok (.aload_n 0, 1) := by decide +kernel
theorem dX7_allNow_17 : decode cX7_allNow 17 = .ok (.iload 6, 2) := by decide +kernel
theorem dX7_allNow_19 : decode cX7_allNow 19 = .ok (.invokevirtual 54, 3) := by decide +kernel
theorem dX7_allNow_22 : decode cX7_allNow 22 = .ok (.ifCond .eq 14, 3) := by decide +kernel
theorem dX7_allNow_25 : decode cX7_allNow 25 = .ok (.aload_n 0, 1) := by decide +kernel
theorem dX7_allNow_26 : decode cX7_allNow 26 = .ok (.iload 6, 2) := by decide +kernel
theorem dX7_allNow_28 : decode cX7_allNow 28 = .ok (.bipush 11, 2) := by decide +kernel
theorem dX7_allNow_30 : decode cX7_allNow 30 = .ok (.invokevirtual 50, 3) := by decide +kernel
theorem dX7_allNow_33 : decode cX7_allNow 33 = .ok (.goto 4, 3) := by decide +kernel
theorem dX7_allNow_36 : decode cX7_allNow 36 = .ok (.lconst 0, 1) := by decide +kernel
theorem dX7_allNow_37 : decode cX7_allNow 37 = .ok (.ladd, 1) := by decide +kernel
theorem dX7_allNow_38 : decode cX7_allNow 38 = .ok (.lstore_n 2, 1) := by decide +kernel
theorem dX7_allNow_39 : decode cX7_allNow 39 = .ok (.aload_n 0, 1) := by decide +kernel
theorem dX7_allNow_40 : decode cX7_allNow 40 = .ok (.iload 6, 2) := by decide +kernel
theorem dX7_allNow_42 : decode cX7_allNow 42 = .ok (.invokevirtual 54, 3) := by decide +kernel
theorem dX7_allNow_45 : decode cX7_allNow 45 = .ok (.ifCond .eq 28, 3) := by decide +kernel
theorem dX7_allNow_48 : decode cX7_allNow 48 = .ok (.aload_n 0, 1) := by decide +kernel
theorem dX7_allNow_49 : decode cX7_allNow 49 = .ok (.iload 6, 2) := by decide +kernel
theorem dX7_allNow_51 : decode cX7_allNow 51 = .ok (.bipush 13, 2) := by decide +kernel
theorem dX7_allNow_53 : decode cX7_allNow 53 = .ok (.invokevirtual 50, 3) := by decide +kernel
theorem dX7_allNow_56 : decode cX7_allNow 56 = .ok (.lload 4, 2) := by decide +kernel
theorem dX7_allNow_58 : decode cX7_allNow 58 = .ok (.lcmp, 1) := by decide +kernel
theorem dX7_allNow_59 : decode cX7_allNow 59 = .ok (.ifCond .le 14, 3) := by decide +kernel
theorem dX7_allNow_62 : decode cX7_allNow 62 = .ok (.aload_n 0, 1) := by decide +kernel
theorem dX7_allNow_63 : decode cX7_allNow 63 = .ok (.iload 6, 2) := by decide +kernel
theorem dX7_allNow_65 : decode cX7_allNow 65 = .ok (.bipush 13, 2) := by decide +kernel
theorem dX7_allNow_67 : decode cX7_allNow 67 = .ok (.invokevirtual 50, 3) := by decide +kernel
theorem dX7_allNow_70 : decode cX7_allNow 70 = .ok (.goto 5, 3) := by decide +kernel
theorem dX7_allNow_73 : decode cX7_allNow 73 = .ok (.lload 4, 2) := by decide +kernel
theorem dX7_allNow_75 : decode cX7_allNow 75 = .ok (.lstore 4, 2) := by decide +kernel
theorem dX7_allNow_77 : decode cX7_allNow 77 = .ok (.iinc 6 1, 3) := by decide +kernel
theorem dX7_allNow_80 : decode cX7_allNow 80 = .ok (.goto (-72), 3) := by decide +kernel
theorem dX7_allNow_83 : decode cX7_allNow 83 = .ok (.iload_n 1, 1) := by decide +kernel
theorem dX7_allNow_84 : decode cX7_allNow 84 = .ok (.tableswitch 58 0 4 #[36, 41, 46, 51, 54], 36) := by decide +kernel
theorem dX7_allNow_120 : decode cX7_allNow 120 = .ok (.aload_n 0, 1) := by decide +kernel
theorem dX7_allNow_121 : decode cX7_allNow 121 = .ok (.invokevirtual 117, 3) := by decide +kernel
theorem dX7_allNow_124 : decode cX7_allNow 124 = .ok (.ireturn, 1) := by decide +kernel
theorem dX7_allNow_125 : decode cX7_allNow 125 = .ok (.aload_n 0, 1) := by decide +kernel
theorem dX7_allNow_126 : decode cX7_allNow 126 = .ok (.invokevirtual 173, 3) := by decide +kernel
theorem dX7_allNow_129 : decode cX7_allNow 129 = .ok (.ireturn, 1) := by decide +kernel
theorem dX7_allNow_130 : decode cX7_allNow 130 = .ok (.aload_n 0, 1) := by decide +kernel
theorem dX7_allNow_131 : decode cX7_allNow 131 = .ok (.invokevirtual 150, 3) := by decide +kernel
theorem dX7_allNow_134 : decode cX7_allNow 134 = .ok (.ireturn, 1) := by decide +kernel
theorem dX7_allNow_135 : decode cX7_allNow 135 = .ok (.lload_n 2, 1) := by decide +kernel
theorem dX7_allNow_136 : decode cX7_allNow 136 = .ok (.l2i, 1) := by decide +kernel
theorem dX7_allNow_137 : decode cX7_allNow 137 = .ok (.ireturn, 1) := by decide +kernel
theorem dX7_allNow_138 : decode cX7_allNow 138 = .ok (.lload 4, 2) := by decide +kernel
theorem dX7_allNow_140 : decode cX7_allNow 140 = .ok (.l2i, 1) := by decide +kernel
theorem dX7_allNow_141 : decode cX7_allNow 141 = .ok (.ireturn, 1) := by decide +kernel
theorem dX7_allNow_142 : decode cX7_allNow 142 = .ok (.aload_n 0, 1) := by decide +kernel
theorem dX7_allNow_143 : decode cX7_allNow 143 = .ok (.getfield 7, 3) := by decide +kernel
theorem dX7_allNow_146 : decode cX7_allNow 146 = .ok (.iload_n 1, 1) := by decide +kernel
theorem dX7_allNow_147 : decode cX7_allNow 147 = .ok (.iconst 5, 1) := by decide +kernel
theorem dX7_allNow_148 : decode cX7_allNow 148 = .ok (.if_icmp .ne 9, 3) := by decide +kernel
theorem dX7_allNow_151 : decode cX7_allNow 151 = .ok (.sipush 213, 3) := by decide +kernel
theorem dX7_allNow_154 : decode cX7_allNow 154 = .ok (.goto 6, 3) := by decide +kernel
theorem dX7_allNow_157 : decode cX7_allNow 157 = .ok (.sipush 214, 3) := by decide +kernel
theorem dX7_allNow_160 : decode cX7_allNow 160 = .ok (.laload, 1) := by decide +kernel
theorem dX7_allNow_161 : decode cX7_allNow 161 = .ok (.l2i, 1) := by decide +kernel
theorem dX7_allNow_162 : decode cX7_allNow 162 = .ok (.ireturn, 1) := by decide +kernel
theorem dX7_all_0 : decode cX7_all 0 = .ok (.iload_n 1, 1) := by decide +kernel
theorem dX7_all_1 : decode cX7_all 1 = .ok (.i2l, 1) := by decide +kernel
theorem dX7_all_2 : decode cX7_all 2 = .ok (.lconst 0, 1) := by decide +kernel
theorem dX7_all_3 : decode cX7_all 3 = .ok (.ldc2_w 201, 3) := by decide +kernel
theorem dX7_all_6 : decode cX7_all 6 = .ok (.invokestatic 46, 3) := by decide +kernel
theorem dX7_all_9 : decode cX7_all 9 = .ok (.ifCond .eq 11, 3) := by decide +kernel
theorem dX7_all_12 : decode cX7_all 12 = .ok (.aload_n 0, 1) := by decide +kernel
theorem dX7_all_13 : decode cX7_all 13 = .ok (.iload_n 1, 1) := by decide +kernel
theorem dX7_all_14 : decode cX7_all 14 = .ok (.invokevirtual 203, 3) := by decide +kernel
theorem dX7_all_17 : decode cX7_all 17 = .ok (.goto 9, 3) := by decide +kernel
theorem dX7_all_20 : decode cX7_all 20 = .ok (.aload_n 0, 1) := by decide +kernel
theorem dX7_all_21 : decode cX7_all 21 = .ok (.bipush (-2), 2) := by decide +kernel
theorem dX7_all_23 : decode cX7_all 23 = .ok (.invokevirtual 83, 3) := by decide +kernel
theorem dX7_all_26 : decode cX7_all 26 = .ok (.ireturn, 1) := by decide +kernel
theorem dX7_type_0 : decode cX7_type 0 = .ok (.iload_n 1, 1) := by decide +kernel
theorem dX7_type_1 : decode cX7_type 1 = .ok (.i2l, 1) := by decide +kernel
theorem dX7_type_2 : decode cX7_type 2 = .ok (.lconst 0, 1) := by decide +kernel
theorem dX7_type_3 : decode cX7_type 3 = .ok (.ldc2_w 206, 3) := by decide +kernel
theorem dX7_type_6 : decode cX7_type 6 = .ok (.invokestatic 46, 3) := by decide +kernel
theorem dX7_type_9 : decode cX7_type 9 = .ok (.ifCond .ne 10, 3) := by decide +kernel
theorem dX7_type_12 : decode cX7_type 12 = .ok (.aload_n 0, 1) := by decide +kernel
theorem dX7_type_13 : decode cX7_type 13 = .ok (.bipush (-2), 2) := by decide +kernel
theorem dX7_type_15 : decode cX7_type 15 = .ok (.invokevirtual 83, 3) := by decide +kernel
theorem dX7_type_18 : decode cX7_type 18 = .ok (.ireturn, 1) := by decide +kernel
theorem dX7_type_19 : decode cX7_type 19 = .ok (.aload_n 0, 1) := by decide +kernel
theorem dX7_type_20 : decode cX7_type 20 = .ok (.getfield 208, 3) := by decide +kernel
theorem dX7_type_23 : decode cX7_type 23 = .ok (.bipush 120, 2) := by decide +kernel
theorem dX7_type_25 : decode cX7_type 25 = .ok (.if_icmp .ne 10, 3) := by decide +kernel
theorem dX7_type_28 : decode cX7_type 28 = .ok (.aload_n 0, 1) := by decide +kernel
theorem dX7_type_29 : decode cX7_type 29 = .ok (.bipush (-4), 2) := by decide +kernel
theorem dX7_type_31 : decode cX7_type 31 = .ok (.invokevirtual 83, 3) := by decide +kernel
theorem dX7_type_34 : decode cX7_type 34 = .ok (.ireturn, 1) := by decide +kernel
theorem dX7_type_35 : decode cX7_type 35 = .ok (.aload_n 0, 1) := by decide +kernel
theorem dX7_type_36 : decode cX7_type 36 = .ok (.getfield 20, 3) := by decide +kernel
theorem dX7_type_39 : decode cX7_type 39 = .ok (.aload_n 0, 1) := by decide +kernel
theorem dX7_type_40 : decode cX7_type 40 = .ok (.getfield 208, 3) := by decide +kernel
theorem dX7_type_43 : decode cX7_type 43 = .ok (.iload_n 1, 1) := by decide +kernel
theorem dX7_type_44 : decode cX7_type 44 = .ok (.iastore, 1) := by decide +kernel
theorem dX7_type_45 : decode cX7_type 45 = .ok (.aload_n 0, 1) := by decide +kernel
theorem dX7_type_46 : decode cX7_type 46 = .ok (.dup, 1) := by decide +kernel
theorem dX7_type_47 : decode cX7_type 47 = .ok (.getfield 208, 3) := by decide +kernel
theorem dX7_type_50 : decode cX7_type 50 = .ok (.iconst 1, 1) := by decide +kernel
theorem dX7_type_51 : decode cX7_type 51 = .ok (.iadd, 1) := by decide +kernel
theorem dX7_type_52 : decode cX7_type 52 = .ok (.putfield 208, 3) := by decide +kernel
theorem dX7_type_55 : decode cX7_type 55 = .ok (.aload_n 0, 1) := by decide +kernel
theorem dX7_type_56 : decode cX7_type 56 = .ok (.getfield 208, 3) := by decide +kernel
theorem dX7_type_59 : decode cX7_type 59 = .ok (.ireturn, 1) := by decide +kernel
theorem dX7_clear_0 : decode cX7_clear 0 = .ok (.aload_n 0, 1) := by decide +kernel
theorem dX7_clear_1 : decode cX7_clear 1 = .ok (.getfield 208, 3) := by decide +kernel
theorem dX7_clear_4 : decode cX7_clear 4 = .ok (.istore_n 1, 1) := by decide +kernel
theorem dX7_clear_5 : decode cX7_clear 5 = .ok (.aload_n 0, 1) := by decide +kernel
theorem dX7_clear_6 : decode cX7_clear 6 = .ok (.iconst 0, 1) := by decide +kernel
theorem dX7_clear_7 : decode cX7_clear 7 = .ok (.putfield 208, 3) := by decide +kernel
theorem dX7_clear_10 : decode cX7_clear 10 = .ok (.iload_n 1, 1) := by decide +kernel
theorem dX7_clear_11 : decode cX7_clear 11 = .ok (.ireturn, 1) := by decide +kernel
theorem dX7_here_0 : decode cX7_here 0 = .ok (.aload_n 0, 1) := by decide +kernel
theorem dX7_here_1 : decode cX7_here 1 = .ok (.getfield 211, 3) := by decide +kernel
theorem dX7_here_4 : decode cX7_here 4 = .ok (.aload_n 0, 1) := by decide +kernel
theorem dX7_here_5 : decode cX7_here 5 = .ok (.getfield 208, 3) := by decide +kernel
theorem dX7_here_8 : decode cX7_here 8 = .ok (.if_icmp .ge 30, 3) := by decide +kernel
theorem dX7_here_11 : decode cX7_here 11 = .ok (.aload_n 0, 1) := by decide +kernel
theorem dX7_here_12 : decode cX7_here 12 = .ok (.getfield 20, 3) := by decide +kernel
theorem dX7_here_15 : decode cX7_here 15 = .ok (.aload_n 0, 1) := by decide +kernel
theorem dX7_here_16 : decode cX7_here 16 = .ok (.getfield 211, 3) := by decide +kernel
theorem dX7_here_19 : decode cX7_here 19 = .ok (.iaload, 1) := by decide +kernel
theorem dX7_here_20 : decode cX7_here 20 = .ok (.bipush 32, 2) := by decide +kernel
theorem dX7_here_22 : decode cX7_here 22 = .ok (.if_icmp .ne 16, 3) := by decide +kernel
theorem dX7_here_25 : decode cX7_here 25 = .ok (.aload_n 0, 1) := by decide +kernel
theorem dX7_here_26 : decode cX7_here 26 = .ok (.dup, 1) := by decide +kernel
theorem dX7_here_27 : decode cX7_here 27 = .ok (.getfield 211, 3) := by decide +kernel
theorem dX7_here_30 : decode cX7_here 30 = .ok (.iconst 1, 1) := by decide +kernel
theorem dX7_here_31 : decode cX7_here 31 = .ok (.iadd, 1) := by decide +kernel
theorem dX7_here_32 : decode cX7_here 32 = .ok (.putfield 211, 3) := by decide +kernel
theorem dX7_here_35 : decode cX7_here 35 = .ok (.goto (-35), 3) := by decide +kernel
theorem dX7_here_38 : decode cX7_here 38 = .ok (.aload_n 0, 1) := by decide +kernel
theorem dX7_here_39 : decode cX7_here 39 = .ok (.getfield 211, 3) := by decide +kernel
theorem dX7_here_42 : decode cX7_here 42 = .ok (.aload_n 0, 1) := by decide +kernel
theorem dX7_here_43 : decode cX7_here 43 = .ok (.getfield 208, 3) := by decide +kernel
theorem dX7_here_46 : decode cX7_here 46 = .ok (.if_icmp .ge 15, 3) := by decide +kernel
theorem dX7_here_49 : decode cX7_here 49 = .ok (.aload_n 0, 1) := by decide +kernel
theorem dX7_here_50 : decode cX7_here 50 = .ok (.getfield 20, 3) := by decide +kernel
theorem dX7_here_53 : decode cX7_here 53 = .ok (.aload_n 0, 1) := by decide +kernel
theorem dX7_here_54 : decode cX7_here 54 = .ok (.getfield 211, 3) := by decide +kernel
theorem dX7_here_57 : decode cX7_here 57 = .ok (.iaload, 1) := by decide +kernel
theorem dX7_here_58 : decode cX7_here 58 = .ok (.goto 4, 3) := by decide +kernel
theorem dX7_here_61 : decode cX7_here 61 = .ok (.iconst (-1), 1) := by decide +kernel
theorem dX7_here_62 : decode cX7_here 62 = .ok (.ireturn, 1) := by decide +kernel
theorem dX7_isFigure_0 : decode cX7_isFigure 0 = .ok (.iload_n 1, 1) := by decide +kernel
theorem dX7_isFigure_1 : decode cX7_isFigure 1 = .ok (.aload_n 0, 1) := by decide +kernel
theorem dX7_isFigure_2 : decode cX7_isFigure 2 = .ok (.getfield 208, 3) := by decide +kernel
theorem dX7_isFigure_5 : decode cX7_isFigure 5 = .ok (.if_icmp .ge 26, 3) := by decide +kernel
theorem dX7_isFigure_8 : decode cX7_isFigure 8 = .ok (.aload_n 0, 1) := by decide +kernel
theorem dX7_isFigure_9 : decode cX7_isFigure 9 = .ok (.getfield 20, 3) := by decide +kernel
theorem dX7_isFigure_12 : decode cX7_isFigure 12 = .ok (.iload_n 1, 1) := by decide +kernel
theorem dX7_isFigure_13 : decode cX7_isFigure 13 = .ok (.iaload, 1) := by decide +kernel
theorem dX7_isFigure_14 : decode cX7_isFigure 14 = .ok (.i2l, 1) := by decide +kernel
theorem dX7_isFigure_15 : decode cX7_isFigure 15 = .ok (.ldc2_w 214, 3) := by decide +kernel
theorem dX7_isFigure_18 : decode cX7_isFigure 18 = .ok (.ldc2_w 216, 3) := by decide +kernel
theorem dX7_isFigure_21 : decode cX7_isFigure 21 = .ok (.invokestatic 46, 3) := by decide +kernel
theorem dX7_isFigure_24 : decode cX7_isFigure 24 = .ok (.ifCond .eq 7, 3) := by decide +kernel
theorem dX7_isFigure_27 : decode cX7_isFigure 27 = .ok (.iconst 1, 1) := by decide +kernel
theorem dX7_isFigure_28 : decode cX7_isFigure 28 = .ok (.goto 4, 3) := by decide +kernel
theorem dX7_isFigure_31 : decode cX7_isFigure 31 = .ok (.iconst 0, 1) := by decide +kernel
theorem dX7_isFigure_32 : decode cX7_isFigure 32 = .ok (.ireturn, 1) := by decide +kernel
theorem dX7_takes_0 : decode cX7_takes 0 = .ok (.aload_n 0, 1) := by decide +kernel
theorem dX7_takes_1 : decode cX7_takes 1 = .ok (.invokevirtual 218, 3) := by decide +kernel
theorem dX7_takes_4 : decode cX7_takes 4 = .ok (.istore_n 2, 1) := by decide +kernel
theorem dX7_takes_5 : decode cX7_takes 5 = .ok (.aload_n 0, 1) := by decide +kernel
theorem dX7_takes_6 : decode cX7_takes 6 = .ok (.getfield 211, 3) := by decide +kernel
theorem dX7_takes_9 : decode cX7_takes 9 = .ok (.istore_n 3, 1) := by decide +kernel
theorem dX7_takes_10 : decode cX7_takes 10 = .ok (.iconst 0, 1) := by decide +kernel
theorem dX7_takes_11 : decode cX7_takes 11 = .ok (.istore 4, 2) := by decide +kernel
theorem dX7_takes_13 : decode cX7_takes 13 = .ok (.aload_n 0, 1) := by decide +kernel
theorem dX7_takes_14 : decode cX7_takes 14 = .ok (.iconst 0, 1) := by decide +kernel
theorem dX7_takes_15 : decode cX7_takes 15 = .ok (.putfield 221, 3) := by decide +kernel
theorem dX7_takes_18 : decode cX7_takes 18 = .ok (.aload_n 0, 1) := by decide +kernel
theorem dX7_takes_19 : decode cX7_takes 19 = .ok (.aload_n 0, 1) := by decide +kernel
theorem dX7_takes_20 : decode cX7_takes 20 = .ok (.getfield 211, 3) := by decide +kernel
theorem dX7_takes_23 : decode cX7_takes 23 = .ok (.invokevirtual 224, 3) := by decide +kernel
theorem dX7_takes_26 : decode cX7_takes 26 = .ok (.ifCond .eq 49, 3) := by decide +kernel
theorem dX7_takes_29 : decode cX7_takes 29 = .ok (.iload 4, 2) := by decide +kernel
theorem dX7_takes_31 : decode cX7_takes 31 = .ok (.iconst 2, 1) := by decide +kernel
theorem dX7_takes_32 : decode cX7_takes 32 = .ok (.if_icmp .ge 43, 3) := by decide +kernel
theorem dX7_takes_35 : decode cX7_takes 35 = .ok (.aload_n 0, 1) := by decide +kernel
theorem dX7_takes_36 : decode cX7_takes 36 = .ok (.bipush 10, 2) := by decide +kernel
theorem dX7_takes_38 : decode cX7_takes 38 = .ok (.aload_n 0, 1) := by decide +kernel
theorem dX7_takes_39 : decode cX7_takes 39 = .ok (.getfield 221, 3) := by decide +kernel
theorem dX7_takes_42 : decode cX7_takes 42 = .ok (.imul, 1) := by decide +kernel
theorem dX7_takes_43 : decode cX7_takes 43 = .ok (.aload_n 0, 1) := by decide +kernel
theorem dX7_takes_44 : decode cX7_takes 44 = .ok (.getfield 20, 3) := by decide +kernel
theorem dX7_takes_47 : decode cX7_takes 47 = .ok (.aload_n 0, 1) := by decide +kernel
theorem dX7_takes_48 : decode cX7_takes 48 = .ok (.getfield 211, 3) := by decide +kernel
theorem dX7_takes_51 : decode cX7_takes 51 = .ok (.iaload, 1) := by decide +kernel
theorem dX7_takes_52 : decode cX7_takes 52 = .ok (.iadd, 1) := by decide +kernel
theorem dX7_takes_53 : decode cX7_takes 53 = .ok (.bipush 48, 2) := by decide +kernel
theorem dX7_takes_55 : decode cX7_takes 55 = .ok (.isub, 1) := by decide +kernel
theorem dX7_takes_56 : decode cX7_takes 56 = .ok (.putfield 221, 3) := by decide +kernel
theorem dX7_takes_59 : decode cX7_takes 59 = .ok (.aload_n 0, 1) := by decide +kernel
theorem dX7_takes_60 : decode cX7_takes 60 = .ok (.dup, 1) := by decide +kernel
theorem dX7_takes_61 : decode cX7_takes 61 = .ok (.getfield 211, 3) := by decide +kernel
theorem dX7_takes_64 : decode cX7_takes 64 = .ok (.iconst 1, 1) := by decide +kernel
theorem dX7_takes_65 : decode cX7_takes 65 = .ok (.iadd, 1) := by decide +kernel
theorem dX7_takes_66 : decode cX7_takes 66 = .ok (.putfield 211, 3) := by decide +kernel
theorem dX7_takes_69 : decode cX7_takes 69 = .ok (.iinc 4 1, 3) := by decide +kernel
theorem dX7_takes_72 : decode cX7_takes 72 = .ok (.goto (-54), 3) := by decide +kernel
theorem dX7_takes_75 : decode cX7_takes 75 = .ok (.iload_n 2, 1) := by decide +kernel
theorem dX7_takes_76 : decode cX7_takes 76 = .ok (.iconst (-1), 1) := by decide +kernel
theorem dX7_takes_77 : decode cX7_takes 77 = .ok (.if_icmp .eq 19, 3) := by decide +kernel
theorem dX7_takes_80 : decode cX7_takes 80 = .ok (.iload 4, 2) := by decide +kernel
theorem dX7_takes_82 : decode cX7_takes 82 = .ok (.ifCond .eq 14, 3) := by decide +kernel
theorem dX7_takes_85 : decode cX7_takes 85 = .ok (.aload_n 0, 1) := by decide +kernel
theorem dX7_takes_86 : decode cX7_takes 86 = .ok (.aload_n 0, 1) := by decide +kernel
theorem dX7_takes_87 : decode cX7_takes 87 = .ok (.getfield 211, 3) := by decide +kernel
theorem dX7_takes_90 : decode cX7_takes 90 = .ok (.invokevirtual 224, 3) := by decide +kernel
theorem dX7_takes_93 : decode cX7_takes 93 = .ok (.ifCond .eq 5, 3) := by decide +kernel
theorem dX7_takes_96 : decode cX7_takes 96 = .ok (.iconst 0, 1) := by decide +kernel
theorem dX7_takes_97 : decode cX7_takes 97 = .ok (.ireturn, 1) := by decide +kernel
theorem dX7_takes_98 : decode cX7_takes 98 = .ok (.aload_n 0, 1) := by decide +kernel
theorem dX7_takes_99 : decode cX7_takes 99 = .ok (.getfield 221, 3) := by decide +kernel
theorem dX7_takes_102 : decode cX7_takes 102 = .ok (.i2l, 1) := by decide +kernel
theorem dX7_takes_103 : decode cX7_takes 103 = .ok (.lconst 1, 1) := by decide +kernel
theorem dX7_takes_104 : decode cX7_takes 104 = .ok (.iload_n 1, 1) := by decide +kernel
theorem dX7_takes_105 : decode cX7_takes 105 = .ok (.i2l, 1) := by decide +kernel
theorem dX7_takes_106 : decode cX7_takes 106 = .ok (.invokestatic 46, 3) := by decide +kernel
theorem dX7_takes_109 : decode cX7_takes 109 = .ok (.ifCond .ne 10, 3) := by decide +kernel
theorem dX7_takes_112 : decode cX7_takes 112 = .ok (.aload_n 0, 1) := by decide +kernel
theorem dX7_takes_113 : decode cX7_takes 113 = .ok (.iload_n 3, 1) := by decide +kernel
theorem dX7_takes_114 : decode cX7_takes 114 = .ok (.putfield 211, 3) := by decide +kernel
theorem dX7_takes_117 : decode cX7_takes 117 = .ok (.iconst 0, 1) := by decide +kernel
theorem dX7_takes_118 : decode cX7_takes 118 = .ok (.ireturn, 1) := by decide +kernel
theorem dX7_takes_119 : decode cX7_takes 119 = .ok (.iconst 1, 1) := by decide +kernel
theorem dX7_takes_120 : decode cX7_takes 120 = .ok (.ireturn, 1) := by decide +kernel
theorem dX7_takesStream_0 : decode cX7_takesStream 0 = .ok (.aload_n 0, 1) := by decide +kernel
theorem dX7_takesStream_1 : decode cX7_takesStream 1 = .ok (.invokevirtual 218, 3) := by decide +kernel
theorem dX7_takesStream_4 : decode cX7_takesStream 4 = .ok (.istore_n 2, 1) := by decide +kernel
theorem dX7_takesStream_5 : decode cX7_takesStream 5 = .ok (.aload_n 0, 1) := by decide +kernel
theorem dX7_takesStream_6 : decode cX7_takesStream 6 = .ok (.getfield 211, 3) := by decide +kernel
theorem dX7_takesStream_9 : decode cX7_takesStream 9 = .ok (.istore_n 3, 1) := by decide +kernel
theorem dX7_takesStream_10 : decode cX7_takesStream 10 = .ok (.aload_n 0, 1) := by decide +kernel
theorem dX7_takesStream_11 : decode cX7_takesStream 11 = .ok (.bipush 12, 2) := by decide +kernel
theorem dX7_takesStream_13 : decode cX7_takesStream 13 = .ok (.invokevirtual 227, 3) := by decide +kernel
theorem dX7_takesStream_16 : decode cX7_takesStream 16 = .ok (.ifCond .ne 5, 3) := by decide +kernel
theorem dX7_takesStream_19 : decode cX7_takesStream 19 = .ok (.iconst 0, 1) := by decide +kernel
theorem dX7_takesStream_20 : decode cX7_takesStream 20 = .ok (.ireturn, 1) := by decide +kernel
theorem dX7_takesStream_21 : decode cX7_takesStream 21 = .ok (.iconst 0, 1) := by decide +kernel
theorem dX7_takesStream_22 : decode cX7_takesStream 22 = .ok (.istore 4, 2) := by decide +kernel
theorem dX7_takesStream_24 : decode cX7_takesStream 24 = .ok (.iload 4, 2) := by decide +kernel
theorem dX7_takesStream_26 : decode cX7_takesStream 26 = .ok (.aload_n 0, 1) := by decide +kernel
theorem dX7_takesStream_27 : decode cX7_takesStream 27 = .ok (.getfield 230, 3) := by decide +kernel
theorem dX7_takesStream_30 : decode cX7_takesStream 30 = .ok (.if_icmp .ge 30, 3) := by decide +kernel
theorem dX7_takesStream_33 : decode cX7_takesStream 33 = .ok (.aload_n 0, 1) := by decide +kernel
theorem dX7_takesStream_34 : decode cX7_takesStream 34 = .ok (.getfield 23, 3) := by decide +kernel
theorem dX7_takesStream_37 : decode cX7_takesStream 37 = .ok (.iload 4, 2) := by decide +kernel
theorem dX7_takesStream_39 : decode cX7_takesStream 39 = .ok (.iaload, 1) := by decide +kernel
theorem dX7_takesStream_40 : decode cX7_takesStream 40 = .ok (.aload_n 0, 1) := by decide +kernel
theorem dX7_takesStream_41 : decode cX7_takesStream 41 = .ok (.getfield 221, 3) := by decide +kernel
theorem dX7_takesStream_44 : decode cX7_takesStream 44 = .ok (.if_icmp .ne 10, 3) := by decide +kernel
theorem dX7_takesStream_47 : decode cX7_takesStream 47 = .ok (.aload_n 0, 1) := by decide +kernel
theorem dX7_takesStream_48 : decode cX7_takesStream 48 = .ok (.iload_n 3, 1) := by decide +kernel
theorem dX7_takesStream_49 : decode cX7_takesStream 49 = .ok (.putfield 211, 3) := by decide +kernel
theorem dX7_takesStream_52 : decode cX7_takesStream 52 = .ok (.iconst 0, 1) := by decide +kernel
theorem dX7_takesStream_53 : decode cX7_takesStream 53 = .ok (.ireturn, 1) := by decide +kernel
theorem dX7_takesStream_54 : decode cX7_takesStream 54 = .ok (.iinc 4 1, 3) := by decide +kernel
theorem dX7_takesStream_57 : decode cX7_takesStream 57 = .ok (.goto (-33), 3) := by decide +kernel
theorem dX7_takesStream_60 : decode cX7_takesStream 60 = .ok (.aload_n 0, 1) := by decide +kernel
theorem dX7_takesStream_61 : decode cX7_takesStream 61 = .ok (.getfield 23, 3) := by decide +kernel
theorem dX7_takesStream_64 : decode cX7_takesStream 64 = .ok (.aload_n 0, 1) := by decide +kernel
theorem dX7_takesStream_65 : decode cX7_takesStream 65 = .ok (.getfield 230, 3) := by decide +kernel
theorem dX7_takesStream_68 : decode cX7_takesStream 68 = .ok (.aload_n 0, 1) := by decide +kernel
theorem dX7_takesStream_69 : decode cX7_takesStream 69 = .ok (.getfield 221, 3) := by decide +kernel
theorem dX7_takesStream_72 : decode cX7_takesStream 72 = .ok (.iastore, 1) := by decide +kernel
theorem dX7_takesStream_73 : decode cX7_takesStream 73 = .ok (.aload_n 0, 1) := by decide +kernel
theorem dX7_takesStream_74 : decode cX7_takesStream 74 = .ok (.getfield 29, 3) := by decide +kernel
theorem dX7_takesStream_77 : decode cX7_takesStream 77 = .ok (.aload_n 0, 1) := by decide +kernel
theorem dX7_takesStream_78 : decode cX7_takesStream 78 = .ok (.getfield 230, 3) := by decide +kernel
theorem dX7_takesStream_81 : decode cX7_takesStream 81 = .ok (.iload_n 1, 1) := by decide +kernel
theorem dX7_takesStream_82 : decode cX7_takesStream 82 = .ok (.iastore, 1) := by decide +kernel
theorem dX7_takesStream_83 : decode cX7_takesStream 83 = .ok (.aload_n 0, 1) := by decide +kernel
theorem dX7_takesStream_84 : decode cX7_takesStream 84 = .ok (.invokevirtual 218, 3) := by decide +kernel
theorem dX7_takesStream_87 : decode cX7_takesStream 87 = .ok (.bipush 58, 2) := by decide +kernel
theorem dX7_takesStream_89 : decode cX7_takesStream 89 = .ok (.if_icmp .eq 5, 3) := by decide +kernel
theorem dX7_takesStream_92 : decode cX7_takesStream 92 = .ok (.iconst 0, 1) := by decide +kernel
theorem dX7_takesStream_93 : decode cX7_takesStream 93 = .ok (.ireturn, 1) := by decide +kernel
theorem dX7_takesStream_94 : decode cX7_takesStream 94 = .ok (.aload_n 0, 1) := by decide +kernel
theorem dX7_takesStream_95 : decode cX7_takesStream 95 = .ok (.dup, 1) := by decide +kernel
theorem dX7_takesStream_96 : decode cX7_takesStream 96 = .ok (.getfield 211, 3) := by decide +kernel
theorem dX7_takesStream_99 : decode cX7_takesStream 99 = .ok (.iconst 1, 1) := by decide +kernel
theorem dX7_takesStream_100 : decode cX7_takesStream 100 = .ok (.iadd, 1) := by decide +kernel
theorem dX7_takesStream_101 : decode cX7_takesStream 101 = .ok (.putfield 211, 3) := by decide +kernel
theorem dX7_takesStream_104 : decode cX7_takesStream 104 = .ok (.aload_n 0, 1) := by decide +kernel
theorem dX7_takesStream_105 : decode cX7_takesStream 105 = .ok (.bipush 16, 2) := by decide +kernel
theorem dX7_takesStream_107 : decode cX7_takesStream 107 = .ok (.invokevirtual 227, 3) := by decide +kernel
theorem dX7_takesStream_110 : decode cX7_takesStream 110 = .ok (.ifCond .ne 5, 3) := by decide +kernel
theorem dX7_takesStream_113 : decode cX7_takesStream 113 = .ok (.iconst 0, 1) := by decide +kernel
theorem dX7_takesStream_114 : decode cX7_takesStream 114 = .ok (.ireturn, 1) := by decide +kernel
theorem dX7_takesStream_115 : decode cX7_takesStream 115 = .ok (.aload_n 0, 1) := by decide +kernel
theorem dX7_takesStream_116 : decode cX7_takesStream 116 = .ok (.getfield 26, 3) := by decide +kernel
theorem dX7_takesStream_119 : decode cX7_takesStream 119 = .ok (.aload_n 0, 1) := by decide +kernel
theorem dX7_takesStream_120 : decode cX7_takesStream 120 = .ok (.getfield 230, 3) := by decide +kernel
theorem dX7_takesStream_123 : decode cX7_takesStream 123 = .ok (.aload_n 0, 1) := by decide +kernel
theorem dX7_takesStream_124 : decode cX7_takesStream 124 = .ok (.getfield 221, 3) := by decide +kernel
theorem dX7_takesStream_127 : decode cX7_takesStream 127 = .ok (.iastore, 1) := by decide +kernel
theorem dX7_takesStream_128 : decode cX7_takesStream 128 = .ok (.aload_n 0, 1) := by decide +kernel
theorem dX7_takesStream_129 : decode cX7_takesStream 129 = .ok (.dup, 1) := by decide +kernel
theorem dX7_takesStream_130 : decode cX7_takesStream 130 = .ok (.getfield 230, 3) := by decide +kernel
theorem dX7_takesStream_133 : decode cX7_takesStream 133 = .ok (.iconst 1, 1) := by decide +kernel
theorem dX7_takesStream_134 : decode cX7_takesStream 134 = .ok (.iadd, 1) := by decide +kernel
theorem dX7_takesStream_135 : decode cX7_takesStream 135 = .ok (.putfield 230, 3) := by decide +kernel
theorem dX7_takesStream_138 : decode cX7_takesStream 138 = .ok (.iconst 1, 1) := by decide +kernel
theorem dX7_takesStream_139 : decode cX7_takesStream 139 = .ok (.ireturn, 1) := by decide +kernel
theorem dX7_standsIn_0 : decode cX7_standsIn 0 = .ok (.iconst 0, 1) := by decide +kernel
theorem dX7_standsIn_1 : decode cX7_standsIn 1 = .ok (.istore_n 2, 1) := by decide +kernel
theorem dX7_standsIn_2 : decode cX7_standsIn 2 = .ok (.iconst 0, 1) := by decide +kernel
theorem dX7_standsIn_3 : decode cX7_standsIn 3 = .ok (.istore_n 3, 1) := by decide +kernel
theorem dX7_standsIn_4 : decode cX7_standsIn 4 = .ok (.iload_n 3, 1) := by decide +kernel
theorem dX7_standsIn_5 : decode cX7_standsIn 5 = .ok (.aload_n 0, 1) := by decide +kernel
theorem dX7_standsIn_6 : decode cX7_standsIn 6 = .ok (.getfield 230, 3) := by decide +kernel
theorem dX7_standsIn_9 : decode cX7_standsIn 9 = .ok (.if_icmp .ge 30, 3) := by decide +kernel
theorem dX7_standsIn_12 : decode cX7_standsIn 12 = .ok (.aload_n 0, 1) := by decide +kernel
theorem dX7_standsIn_13 : decode cX7_standsIn 13 = .ok (.getfield 23, 3) := by decide +kernel
theorem dX7_standsIn_16 : decode cX7_standsIn 16 = .ok (.iload_n 3, 1) := by decide +kernel
theorem dX7_standsIn_17 : decode cX7_standsIn 17 = .ok (.iaload, 1) := by decide +kernel
theorem dX7_standsIn_18 : decode cX7_standsIn 18 = .ok (.iload_n 1, 1) := by decide +kernel
theorem dX7_standsIn_19 : decode cX7_standsIn 19 = .ok (.if_icmp .ne 12, 3) := by decide +kernel
theorem dX7_standsIn_22 : decode cX7_standsIn 22 = .ok (.aload_n 0, 1) := by decide +kernel
theorem dX7_standsIn_23 : decode cX7_standsIn 23 = .ok (.getfield 29, 3) := by decide +kernel
theorem dX7_standsIn_26 : decode cX7_standsIn 26 = .ok (.iload_n 3, 1) := by decide +kernel
theorem dX7_standsIn_27 : decode cX7_standsIn 27 = .ok (.iaload, 1) := by decide +kernel
theorem dX7_standsIn_28 : decode cX7_standsIn 28 = .ok (.goto 4, 3) := by decide +kernel
theorem dX7_standsIn_31 : decode cX7_standsIn 31 = .ok (.iload_n 2, 1) := by decide +kernel
theorem dX7_standsIn_32 : decode cX7_standsIn 32 = .ok (.istore_n 2, 1) := by decide +kernel
theorem dX7_standsIn_33 : decode cX7_standsIn 33 = .ok (.iinc 3 1, 3) := by decide +kernel
theorem dX7_standsIn_36 : decode cX7_standsIn 36 = .ok (.goto (-32), 3) := by decide +kernel
theorem dX7_standsIn_39 : decode cX7_standsIn 39 = .ok (.iload_n 2, 1) := by decide +kernel
theorem dX7_standsIn_40 : decode cX7_standsIn 40 = .ok (.ireturn, 1) := by decide +kernel
theorem dX7_isRead_0 : decode cX7_isRead 0 = .ok (.iconst 0, 1) := by decide +kernel
theorem dX7_isRead_1 : decode cX7_isRead 1 = .ok (.istore_n 1, 1) := by decide +kernel
theorem dX7_isRead_2 : decode cX7_isRead 2 = .ok (.aload_n 0, 1) := by decide +kernel
theorem dX7_isRead_3 : decode cX7_isRead 3 = .ok (.iconst 0, 1) := by decide +kernel
theorem dX7_isRead_4 : decode cX7_isRead 4 = .ok (.putfield 230, 3) := by decide +kernel
theorem dX7_isRead_7 : decode cX7_isRead 7 = .ok (.aload_n 0, 1) := by decide +kernel
theorem dX7_isRead_8 : decode cX7_isRead 8 = .ok (.iconst 0, 1) := by decide +kernel
theorem dX7_isRead_9 : decode cX7_isRead 9 = .ok (.putfield 211, 3) := by decide +kernel
theorem dX7_isRead_12 : decode cX7_isRead 12 = .ok (.iconst 0, 1) := by decide +kernel
theorem dX7_isRead_13 : decode cX7_isRead 13 = .ok (.istore_n 2, 1) := by decide +kernel
theorem dX7_isRead_14 : decode cX7_isRead 14 = .ok (.iload_n 2, 1) := by decide +kernel
theorem dX7_isRead_15 : decode cX7_isRead 15 = .ok (.ifCond .ne 11, 3) := by decide +kernel
theorem dX7_isRead_18 : decode cX7_isRead 18 = .ok (.aload_n 0, 1) := by decide +kernel
theorem dX7_isRead_19 : decode cX7_isRead 19 = .ok (.invokevirtual 218, 3) := by decide +kernel
theorem dX7_isRead_22 : decode cX7_isRead 22 = .ok (.iconst (-1), 1) := by decide +kernel
theorem dX7_isRead_23 : decode cX7_isRead 23 = .ok (.if_icmp .eq 93, 3) := by decide +kernel
theorem dX7_isRead_26 : decode cX7_isRead 26 = .ok (.iload_n 2, 1) := by decide +kernel
theorem dX7_isRead_27 : decode cX7_isRead 27 = .ok (.ifCond .ne 35, 3) := by decide +kernel
theorem dX7_isRead_30 : decode cX7_isRead 30 = .ok (.iload_n 1, 1) := by decide +kernel
theorem dX7_isRead_31 : decode cX7_isRead 31 = .ok (.ifCond .eq 31, 3) := by decide +kernel
theorem dX7_isRead_34 : decode cX7_isRead 34 = .ok (.aload_n 0, 1) := by decide +kernel
theorem dX7_isRead_35 : decode cX7_isRead 35 = .ok (.invokevirtual 218, 3) := by decide +kernel
theorem dX7_isRead_38 : decode cX7_isRead 38 = .ok (.bipush 41, 2) := by decide +kernel
theorem dX7_isRead_40 : decode cX7_isRead 40 = .ok (.if_icmp .ne 22, 3) := by decide +kernel
theorem dX7_isRead_43 : decode cX7_isRead 43 = .ok (.aload_n 0, 1) := by decide +kernel
theorem dX7_isRead_44 : decode cX7_isRead 44 = .ok (.dup, 1) := by decide +kernel
theorem dX7_isRead_45 : decode cX7_isRead 45 = .ok (.getfield 211, 3) := by decide +kernel
theorem dX7_isRead_48 : decode cX7_isRead 48 = .ok (.iconst 1, 1) := by decide +kernel
theorem dX7_isRead_49 : decode cX7_isRead 49 = .ok (.iadd, 1) := by decide +kernel
theorem dX7_isRead_50 : decode cX7_isRead 50 = .ok (.putfield 211, 3) := by decide +kernel
theorem dX7_isRead_53 : decode cX7_isRead 53 = .ok (.aload_n 0, 1) := by decide +kernel
theorem dX7_isRead_54 : decode cX7_isRead 54 = .ok (.iload_n 1, 1) := by decide +kernel
theorem dX7_isRead_55 : decode cX7_isRead 55 = .ok (.invokevirtual 233, 3) := by decide +kernel
theorem dX7_isRead_58 : decode cX7_isRead 58 = .ok (.istore_n 1, 1) := by decide +kernel
theorem dX7_isRead_59 : decode cX7_isRead 59 = .ok (.goto (-45), 3) := by decide +kernel
theorem dX7_isRead_62 : decode cX7_isRead 62 = .ok (.aload_n 0, 1) := by decide +kernel
theorem dX7_isRead_63 : decode cX7_isRead 63 = .ok (.iload_n 1, 1) := by decide +kernel
theorem dX7_isRead_64 : decode cX7_isRead 64 = .ok (.invokevirtual 236, 3) := by decide +kernel
theorem dX7_isRead_67 : decode cX7_isRead 67 = .ok (.ifCond .ne 5, 3) := by decide +kernel
theorem dX7_isRead_70 : decode cX7_isRead 70 = .ok (.iconst 0, 1) := by decide +kernel
theorem dX7_isRead_71 : decode cX7_isRead 71 = .ok (.ireturn, 1) := by decide +kernel
theorem dX7_isRead_72 : decode cX7_isRead 72 = .ok (.aload_n 0, 1) := by decide +kernel
theorem dX7_isRead_73 : decode cX7_isRead 73 = .ok (.invokevirtual 218, 3) := by decide +kernel
theorem dX7_isRead_76 : decode cX7_isRead 76 = .ok (.bipush 40, 2) := by decide +kernel
theorem dX7_isRead_78 : decode cX7_isRead 78 = .ok (.if_icmp .ne 7, 3) := by decide +kernel
theorem dX7_isRead_81 : decode cX7_isRead 81 = .ok (.iconst 1, 1) := by decide +kernel
theorem dX7_isRead_82 : decode cX7_isRead 82 = .ok (.goto 4, 3) := by decide +kernel
theorem dX7_isRead_85 : decode cX7_isRead 85 = .ok (.iconst 0, 1) := by decide +kernel
theorem dX7_isRead_86 : decode cX7_isRead 86 = .ok (.istore_n 2, 1) := by decide +kernel
theorem dX7_isRead_87 : decode cX7_isRead 87 = .ok (.iload_n 2, 1) := by decide +kernel
theorem dX7_isRead_88 : decode cX7_isRead 88 = .ok (.ifCond .eq (-74), 3) := by decide +kernel
theorem dX7_isRead_91 : decode cX7_isRead 91 = .ok (.aload_n 0, 1) := by decide +kernel
theorem dX7_isRead_92 : decode cX7_isRead 92 = .ok (.dup, 1) := by decide +kernel
theorem dX7_isRead_93 : decode cX7_isRead 93 = .ok (.getfield 211, 3) := by decide +kernel
theorem dX7_isRead_96 : decode cX7_isRead 96 = .ok (.iconst 1, 1) := by decide +kernel
theorem dX7_isRead_97 : decode cX7_isRead 97 = .ok (.iadd, 1) := by decide +kernel
theorem dX7_isRead_98 : decode cX7_isRead 98 = .ok (.putfield 211, 3) := by decide +kernel
theorem dX7_isRead_101 : decode cX7_isRead 101 = .ok (.aload_n 0, 1) := by decide +kernel
theorem dX7_isRead_102 : decode cX7_isRead 102 = .ok (.getfield 23, 3) := by decide +kernel
theorem dX7_isRead_105 : decode cX7_isRead 105 = .ok (.aload_n 0, 1) := by decide +kernel
theorem dX7_isRead_106 : decode cX7_isRead 106 = .ok (.getfield 230, 3) := by decide +kernel
theorem dX7_isRead_109 : decode cX7_isRead 109 = .ok (.iconst 1, 1) := by decide +kernel
theorem dX7_isRead_110 : decode cX7_isRead 110 = .ok (.isub, 1) := by decide +kernel
theorem dX7_isRead_111 : decode cX7_isRead 111 = .ok (.iaload, 1) := by decide +kernel
theorem dX7_isRead_112 : decode cX7_isRead 112 = .ok (.istore_n 1, 1) := by decide +kernel
theorem dX7_isRead_113 : decode cX7_isRead 113 = .ok (.goto (-99), 3) := by decide +kernel
theorem dX7_isRead_116 : decode cX7_isRead 116 = .ok (.iload_n 1, 1) := by decide +kernel
theorem dX7_isRead_117 : decode cX7_isRead 117 = .ok (.ifCond .ne 7, 3) := by decide +kernel
theorem dX7_isRead_120 : decode cX7_isRead 120 = .ok (.iconst 1, 1) := by decide +kernel
theorem dX7_isRead_121 : decode cX7_isRead 121 = .ok (.goto 4, 3) := by decide +kernel
theorem dX7_isRead_124 : decode cX7_isRead 124 = .ok (.iconst 0, 1) := by decide +kernel
theorem dX7_isRead_125 : decode cX7_isRead 125 = .ok (.ireturn, 1) := by decide +kernel
theorem dX7_builds_0 : decode cX7_builds 0 = .ok (.aload_n 0, 1) := by decide +kernel
theorem dX7_builds_1 : decode cX7_builds 1 = .ok (.invokevirtual 239, 3) := by decide +kernel
theorem dX7_builds_4 : decode cX7_builds 4 = .ok (.ifCond .ne 11, 3) := by decide +kernel
theorem dX7_builds_7 : decode cX7_builds 7 = .ok (.bipush (-10), 2) := by decide +kernel
theorem dX7_builds_9 : decode cX7_builds 9 = .ok (.aload_n 0, 1) := by decide +kernel
theorem dX7_builds_10 : decode cX7_builds 10 = .ok (.getfield 211, 3) := by decide +kernel
theorem dX7_builds_13 : decode cX7_builds 13 = .ok (.isub, 1) := by decide +kernel
theorem dX7_builds_14 : decode cX7_builds 14 = .ok (.ireturn, 1) := by decide +kernel
theorem dX7_builds_15 : decode cX7_builds 15 = .ok (.aload_n 0, 1) := by decide +kernel
theorem dX7_builds_16 : decode cX7_builds 16 = .ok (.invokevirtual 86, 3) := by decide +kernel
theorem dX7_builds_19 : decode cX7_builds 19 = .ok (.iconst 0, 1) := by decide +kernel
theorem dX7_builds_20 : decode cX7_builds 20 = .ok (.istore_n 1, 1) := by decide +kernel
theorem dX7_builds_21 : decode cX7_builds 21 = .ok (.iload_n 1, 1) := by decide +kernel
theorem dX7_builds_22 : decode cX7_builds 22 = .ok (.sipush 208, 3) := by decide +kernel
theorem dX7_builds_25 : decode cX7_builds 25 = .ok (.if_icmp .ge 16, 3) := by decide +kernel
theorem dX7_builds_28 : decode cX7_builds 28 = .ok (.aload_n 0, 1) := by decide +kernel
theorem dX7_builds_29 : decode cX7_builds 29 = .ok (.getfield 7, 3) := by decide +kernel
theorem dX7_builds_32 : decode cX7_builds 32 = .ok (.iload_n 1, 1) := by decide +kernel
theorem dX7_builds_33 : decode cX7_builds 33 = .ok (.lconst 0, 1) := by decide +kernel
theorem dX7_builds_34 : decode cX7_builds 34 = .ok (.lastore, 1) := by decide +kernel
theorem dX7_builds_35 : decode cX7_builds 35 = .ok (.iinc 1 1, 3) := by decide +kernel
theorem dX7_builds_38 : decode cX7_builds 38 = .ok (.goto (-17), 3) := by decide +kernel
theorem dX7_builds_41 : decode cX7_builds 41 = .ok (.iconst 0, 1) := by decide +kernel
theorem dX7_builds_42 : decode cX7_builds 42 = .ok (.istore_n 1, 1) := by decide +kernel
theorem dX7_builds_43 : decode cX7_builds 43 = .ok (.iload_n 1, 1) := by decide +kernel
theorem dX7_builds_44 : decode cX7_builds 44 = .ok (.aload_n 0, 1) := by decide +kernel
theorem dX7_builds_45 : decode cX7_builds 45 = .ok (.getfield 230, 3) := by decide +kernel
theorem dX7_builds_48 : decode cX7_builds 48 = .ok (.if_icmp .ge 41, 3) := by decide +kernel
theorem dX7_builds_51 : decode cX7_builds 51 = .ok (.aload_n 0, 1) := by decide +kernel
theorem dX7_builds_52 : decode cX7_builds 52 = .ok (.aload_n 0, 1) := by decide +kernel
theorem dX7_builds_53 : decode cX7_builds 53 = .ok (.getfield 23, 3) := by decide +kernel
theorem dX7_builds_56 : decode cX7_builds 56 = .ok (.iload_n 1, 1) := by decide +kernel
theorem dX7_builds_57 : decode cX7_builds 57 = .ok (.iaload, 1) := by decide +kernel
theorem dX7_builds_58 : decode cX7_builds 58 = .ok (.aload_n 0, 1) := by decide +kernel
theorem dX7_builds_59 : decode cX7_builds 59 = .ok (.getfield 26, 3) := by decide +kernel
theorem dX7_builds_62 : decode cX7_builds 62 = .ok (.iload_n 1, 1) := by decide +kernel
theorem dX7_builds_63 : decode cX7_builds 63 = .ok (.iaload, 1) := by decide +kernel
theorem dX7_builds_64 : decode cX7_builds 64 = .ok (.invokevirtual 89, 3) := by decide +kernel
theorem dX7_builds_67 : decode cX7_builds 67 = .ok (.aload_n 0, 1) := by decide +kernel
theorem dX7_builds_68 : decode cX7_builds 68 = .ok (.aload_n 0, 1) := by decide +kernel
theorem dX7_builds_69 : decode cX7_builds 69 = .ok (.getfield 23, 3) := by decide +kernel
theorem dX7_builds_72 : decode cX7_builds 72 = .ok (.iload_n 1, 1) := by decide +kernel
theorem dX7_builds_73 : decode cX7_builds 73 = .ok (.iaload, 1) := by decide +kernel
theorem dX7_builds_74 : decode cX7_builds 74 = .ok (.aload_n 0, 1) := by decide +kernel
theorem dX7_builds_75 : decode cX7_builds 75 = .ok (.getfield 29, 3) := by decide +kernel
theorem dX7_builds_78 : decode cX7_builds 78 = .ok (.iload_n 1, 1) := by decide +kernel
theorem dX7_builds_79 : decode cX7_builds 79 = .ok (.iaload, 1) := by decide +kernel
theorem dX7_builds_80 : decode cX7_builds 80 = .ok (.invokevirtual 70, 3) := by decide +kernel
theorem dX7_builds_83 : decode cX7_builds 83 = .ok (.iinc 1 1, 3) := by decide +kernel
theorem dX7_builds_86 : decode cX7_builds 86 = .ok (.goto (-43), 3) := by decide +kernel
theorem dX7_builds_89 : decode cX7_builds 89 = .ok (.aload_n 0, 1) := by decide +kernel
theorem dX7_builds_90 : decode cX7_builds 90 = .ok (.getfield 230, 3) := by decide +kernel
theorem dX7_builds_93 : decode cX7_builds 93 = .ok (.ireturn, 1) := by decide +kernel
theorem dX7_shows_0 : decode cX7_shows 0 = .ok (.aload_n 0, 1) := by decide +kernel
theorem dX7_shows_1 : decode cX7_shows 1 = .ok (.aload_n 0, 1) := by decide +kernel
theorem dX7_shows_2 : decode cX7_shows 2 = .ok (.getfield 242, 3) := by decide +kernel
theorem dX7_shows_5 : decode cX7_shows 5 = .ok (.aload_n 0, 1) := by decide +kernel
theorem dX7_shows_6 : decode cX7_shows 6 = .ok (.getfield 245, 3) := by decide +kernel
theorem dX7_shows_9 : decode cX7_shows 9 = .ok (.if_icmp .ne 7, 3) := by decide +kernel
theorem dX7_shows_12 : decode cX7_shows 12 = .ok (.iload_n 1, 1) := by decide +kernel
theorem dX7_shows_13 : decode cX7_shows 13 = .ok (.goto 7, 3) := by decide +kernel
theorem dX7_shows_16 : decode cX7_shows 16 = .ok (.aload_n 0, 1) := by decide +kernel
theorem dX7_shows_17 : decode cX7_shows 17 = .ok (.getfield 248, 3) := by decide +kernel
theorem dX7_shows_20 : decode cX7_shows 20 = .ok (.putfield 248, 3) := by decide +kernel
theorem dX7_shows_23 : decode cX7_shows 23 = .ok (.aload_n 0, 1) := by decide +kernel
theorem dX7_shows_24 : decode cX7_shows 24 = .ok (.dup, 1) := by decide +kernel
theorem dX7_shows_25 : decode cX7_shows 25 = .ok (.getfield 242, 3) := by decide +kernel
theorem dX7_shows_28 : decode cX7_shows 28 = .ok (.iconst 1, 1) := by decide +kernel
theorem dX7_shows_29 : decode cX7_shows 29 = .ok (.iadd, 1) := by decide +kernel
theorem dX7_shows_30 : decode cX7_shows 30 = .ok (.putfield 242, 3) := by decide +kernel
theorem dX7_shows_33 : decode cX7_shows 33 = .ok (.return_, 1) := by decide +kernel
theorem dX7_showsNumber_0 : decode cX7_showsNumber 0 = .ok (.iload_n 1, 1) := by decide +kernel
theorem dX7_showsNumber_1 : decode cX7_showsNumber 1 = .ok (.bipush 9, 2) := by decide +kernel
theorem dX7_showsNumber_3 : decode cX7_showsNumber 3 = .ok (.if_icmp .le 14, 3) := by decide +kernel
theorem dX7_showsNumber_6 : decode cX7_showsNumber 6 = .ok (.aload_n 0, 1) := by decide +kernel
theorem dX7_showsNumber_7 : decode cX7_showsNumber 7 = .ok (.bipush 48, 2) := by decide +kernel
theorem dX7_showsNumber_9 : decode cX7_showsNumber 9 = .ok (.iload_n 1, 1) := by decide +kernel
theorem dX7_showsNumber_10 : decode cX7_showsNumber 10 = .ok (.bipush 10, 2) := by decide +kernel
theorem dX7_showsNumber_12 : decode cX7_showsNumber 12 = .ok (.idiv, 1) := by decide +kernel
theorem dX7_showsNumber_13 : decode cX7_showsNumber 13 = .ok (.iadd, 1) := by decide +kernel
theorem dX7_showsNumber_14 : decode cX7_showsNumber 14 = .ok (.invokevirtual 251, 3) := by decide +kernel
theorem dX7_showsNumber_17 : decode cX7_showsNumber 17 = .ok (.aload_n 0, 1) := by decide +kernel
theorem dX7_showsNumber_18 : decode cX7_showsNumber 18 = .ok (.bipush 48, 2) := by decide +kernel
theorem dX7_showsNumber_20 : decode cX7_showsNumber 20 = .ok (.iload_n 1, 1) := by decide +kernel
theorem dX7_showsNumber_21 : decode cX7_showsNumber 21 = .ok (.bipush 10, 2) := by decide +kernel
theorem dX7_showsNumber_23 : decode cX7_showsNumber 23 = .ok (.irem, 1) := by decide +kernel
theorem dX7_showsNumber_24 : decode cX7_showsNumber 24 = .ok (.iadd, 1) := by decide +kernel
theorem dX7_showsNumber_25 : decode cX7_showsNumber 25 = .ok (.invokevirtual 251, 3) := by decide +kernel
theorem dX7_showsNumber_28 : decode cX7_showsNumber 28 = .ok (.return_, 1) := by decide +kernel
theorem dX7_nextChild_0 : decode cX7_nextChild 0 = .ok (.iload_n 2, 1) := by decide +kernel
theorem dX7_nextChild_1 : decode cX7_nextChild 1 = .ok (.iconst 1, 1) := by decide +kernel
theorem dX7_nextChild_2 : decode cX7_nextChild 2 = .ok (.iadd, 1) := by decide +kernel
theorem dX7_nextChild_3 : decode cX7_nextChild 3 = .ok (.istore_n 3, 1) := by decide +kernel
theorem dX7_nextChild_4 : decode cX7_nextChild 4 = .ok (.iload_n 3, 1) := by decide +kernel
theorem dX7_nextChild_5 : decode cX7_nextChild 5 = .ok (.bipush 12, 2) := by decide +kernel
theorem dX7_nextChild_7 : decode cX7_nextChild 7 = .ok (.if_icmp .gt 20, 3) := by decide +kernel
theorem dX7_nextChild_10 : decode cX7_nextChild 10 = .ok (.aload_n 0, 1) := by decide +kernel
theorem dX7_nextChild_11 : decode cX7_nextChild 11 = .ok (.iload_n 3, 1) := by decide +kernel
theorem dX7_nextChild_12 : decode cX7_nextChild 12 = .ok (.iload_n 1, 1) := by decide +kernel
theorem dX7_nextChild_13 : decode cX7_nextChild 13 = .ok (.invokevirtual 62, 3) := by decide +kernel
theorem dX7_nextChild_16 : decode cX7_nextChild 16 = .ok (.ifCond .eq 5, 3) := by decide +kernel
theorem dX7_nextChild_19 : decode cX7_nextChild 19 = .ok (.iload_n 3, 1) := by decide +kernel
theorem dX7_nextChild_20 : decode cX7_nextChild 20 = .ok (.ireturn, 1) := by decide +kernel
theorem dX7_nextChild_21 : decode cX7_nextChild 21 = .ok (.iinc 3 1, 3) := by decide +kernel
theorem dX7_nextChild_24 : decode cX7_nextChild 24 = .ok (.goto (-20), 3) := by decide +kernel
theorem dX7_nextChild_27 : decode cX7_nextChild 27 = .ok (.iconst (-1), 1) := by decide +kernel
theorem dX7_nextChild_28 : decode cX7_nextChild 28 = .ok (.ireturn, 1) := by decide +kernel
theorem dX7_showsAll_0 : decode cX7_showsAll 0 = .ok (.aload_n 0, 1) := by decide +kernel
theorem dX7_showsAll_1 : decode cX7_showsAll 1 = .ok (.iconst 0, 1) := by decide +kernel
theorem dX7_showsAll_2 : decode cX7_showsAll 2 = .ok (.iconst 0, 1) := by decide +kernel
theorem dX7_showsAll_3 : decode cX7_showsAll 3 = .ok (.invokevirtual 254, 3) := by decide +kernel
theorem dX7_showsAll_6 : decode cX7_showsAll 6 = .ok (.istore_n 1, 1) := by decide +kernel
theorem dX7_showsAll_7 : decode cX7_showsAll 7 = .ok (.iload_n 1, 1) := by decide +kernel
theorem dX7_showsAll_8 : decode cX7_showsAll 8 = .ok (.iconst (-1), 1) := by decide +kernel
theorem dX7_showsAll_9 : decode cX7_showsAll 9 = .ok (.if_icmp .eq 101, 3) := by decide +kernel
theorem dX7_showsAll_12 : decode cX7_showsAll 12 = .ok (.aload_n 0, 1) := by decide +kernel
theorem dX7_showsAll_13 : decode cX7_showsAll 13 = .ok (.iload_n 1, 1) := by decide +kernel
theorem dX7_showsAll_14 : decode cX7_showsAll 14 = .ok (.invokevirtual 257, 3) := by decide +kernel
theorem dX7_showsAll_17 : decode cX7_showsAll 17 = .ok (.aload_n 0, 1) := by decide +kernel
theorem dX7_showsAll_18 : decode cX7_showsAll 18 = .ok (.bipush 58, 2) := by decide +kernel
theorem dX7_showsAll_20 : decode cX7_showsAll 20 = .ok (.invokevirtual 251, 3) := by decide +kernel
theorem dX7_showsAll_23 : decode cX7_showsAll 23 = .ok (.aload_n 0, 1) := by decide +kernel
theorem dX7_showsAll_24 : decode cX7_showsAll 24 = .ok (.aload_n 0, 1) := by decide +kernel
theorem dX7_showsAll_25 : decode cX7_showsAll 25 = .ok (.iload_n 1, 1) := by decide +kernel
theorem dX7_showsAll_26 : decode cX7_showsAll 26 = .ok (.iconst 2, 1) := by decide +kernel
theorem dX7_showsAll_27 : decode cX7_showsAll 27 = .ok (.invokevirtual 50, 3) := by decide +kernel
theorem dX7_showsAll_30 : decode cX7_showsAll 30 = .ok (.l2i, 1) := by decide +kernel
theorem dX7_showsAll_31 : decode cX7_showsAll 31 = .ok (.invokevirtual 257, 3) := by decide +kernel
theorem dX7_showsAll_34 : decode cX7_showsAll 34 = .ok (.aload_n 0, 1) := by decide +kernel
theorem dX7_showsAll_35 : decode cX7_showsAll 35 = .ok (.iload_n 1, 1) := by decide +kernel
theorem dX7_showsAll_36 : decode cX7_showsAll 36 = .ok (.iconst 0, 1) := by decide +kernel
theorem dX7_showsAll_37 : decode cX7_showsAll 37 = .ok (.invokevirtual 254, 3) := by decide +kernel
theorem dX7_showsAll_40 : decode cX7_showsAll 40 = .ok (.istore_n 2, 1) := by decide +kernel
theorem dX7_showsAll_41 : decode cX7_showsAll 41 = .ok (.iload_n 2, 1) := by decide +kernel
theorem dX7_showsAll_42 : decode cX7_showsAll 42 = .ok (.iconst (-1), 1) := by decide +kernel
theorem dX7_showsAll_43 : decode cX7_showsAll 43 = .ok (.if_icmp .eq 9, 3) := by decide +kernel
theorem dX7_showsAll_46 : decode cX7_showsAll 46 = .ok (.aload_n 0, 1) := by decide +kernel
theorem dX7_showsAll_47 : decode cX7_showsAll 47 = .ok (.bipush 40, 2) := by decide +kernel
theorem dX7_showsAll_49 : decode cX7_showsAll 49 = .ok (.invokevirtual 251, 3) := by decide +kernel
theorem dX7_showsAll_52 : decode cX7_showsAll 52 = .ok (.iload_n 2, 1) := by decide +kernel
theorem dX7_showsAll_53 : decode cX7_showsAll 53 = .ok (.iconst (-1), 1) := by decide +kernel
theorem dX7_showsAll_54 : decode cX7_showsAll 54 = .ok (.if_icmp .ne 51, 3) := by decide +kernel
theorem dX7_showsAll_57 : decode cX7_showsAll 57 = .ok (.iload_n 1, 1) := by decide +kernel
theorem dX7_showsAll_58 : decode cX7_showsAll 58 = .ok (.ifCond .eq 47, 3) := by decide +kernel
theorem dX7_showsAll_61 : decode cX7_showsAll 61 = .ok (.aload_n 0, 1) := by decide +kernel
theorem dX7_showsAll_62 : decode cX7_showsAll 62 = .ok (.aload_n 0, 1) := by decide +kernel
theorem dX7_showsAll_63 : decode cX7_showsAll 63 = .ok (.iload_n 1, 1) := by decide +kernel
theorem dX7_showsAll_64 : decode cX7_showsAll 64 = .ok (.invokevirtual 58, 3) := by decide +kernel
theorem dX7_showsAll_67 : decode cX7_showsAll 67 = .ok (.iload_n 1, 1) := by decide +kernel
theorem dX7_showsAll_68 : decode cX7_showsAll 68 = .ok (.invokevirtual 254, 3) := by decide +kernel
theorem dX7_showsAll_71 : decode cX7_showsAll 71 = .ok (.istore_n 2, 1) := by decide +kernel
theorem dX7_showsAll_72 : decode cX7_showsAll 72 = .ok (.aload_n 0, 1) := by decide +kernel
theorem dX7_showsAll_73 : decode cX7_showsAll 73 = .ok (.iload_n 1, 1) := by decide +kernel
theorem dX7_showsAll_74 : decode cX7_showsAll 74 = .ok (.invokevirtual 58, 3) := by decide +kernel
theorem dX7_showsAll_77 : decode cX7_showsAll 77 = .ok (.istore_n 1, 1) := by decide +kernel
theorem dX7_showsAll_78 : decode cX7_showsAll 78 = .ok (.iload_n 2, 1) := by decide +kernel
theorem dX7_showsAll_79 : decode cX7_showsAll 79 = .ok (.iconst (-1), 1) := by decide +kernel
theorem dX7_showsAll_80 : decode cX7_showsAll 80 = .ok (.if_icmp .eq 12, 3) := by decide +kernel
theorem dX7_showsAll_83 : decode cX7_showsAll 83 = .ok (.aload_n 0, 1) := by decide +kernel
theorem dX7_showsAll_84 : decode cX7_showsAll 84 = .ok (.bipush 32, 2) := by decide +kernel
theorem dX7_showsAll_86 : decode cX7_showsAll 86 = .ok (.invokevirtual 251, 3) := by decide +kernel
theorem dX7_showsAll_89 : decode cX7_showsAll 89 = .ok (.goto (-37), 3) := by decide +kernel
theorem dX7_showsAll_92 : decode cX7_showsAll 92 = .ok (.iload_n 1, 1) := by decide +kernel
theorem dX7_showsAll_93 : decode cX7_showsAll 93 = .ok (.ifCond .eq (-41), 3) := by decide +kernel
theorem dX7_showsAll_96 : decode cX7_showsAll 96 = .ok (.aload_n 0, 1) := by decide +kernel
theorem dX7_showsAll_97 : decode cX7_showsAll 97 = .ok (.bipush 41, 2) := by decide +kernel
theorem dX7_showsAll_99 : decode cX7_showsAll 99 = .ok (.invokevirtual 251, 3) := by decide +kernel
theorem dX7_showsAll_102 : decode cX7_showsAll 102 = .ok (.goto (-50), 3) := by decide +kernel
theorem dX7_showsAll_105 : decode cX7_showsAll 105 = .ok (.iload_n 2, 1) := by decide +kernel
theorem dX7_showsAll_106 : decode cX7_showsAll 106 = .ok (.istore_n 1, 1) := by decide +kernel
theorem dX7_showsAll_107 : decode cX7_showsAll 107 = .ok (.goto (-100), 3) := by decide +kernel
theorem dX7_showsAll_110 : decode cX7_showsAll 110 = .ok (.return_, 1) := by decide +kernel
theorem dX7_shown_0 : decode cX7_shown 0 = .ok (.iload_n 1, 1) := by decide +kernel
theorem dX7_shown_1 : decode cX7_shown 1 = .ok (.ifCond .ge 10, 3) := by decide +kernel
theorem dX7_shown_4 : decode cX7_shown 4 = .ok (.aload_n 0, 1) := by decide +kernel
theorem dX7_shown_5 : decode cX7_shown 5 = .ok (.bipush (-2), 2) := by decide +kernel
theorem dX7_shown_7 : decode cX7_shown 7 = .ok (.invokevirtual 83, 3) := by decide +kernel
theorem dX7_shown_10 : decode cX7_shown 10 = .ok (.ireturn, 1) := by decide +kernel
theorem dX7_shown_11 : decode cX7_shown 11 = .ok (.aload_n 0, 1) := by decide +kernel
theorem dX7_shown_12 : decode cX7_shown 12 = .ok (.iconst 0, 1) := by decide +kernel
theorem dX7_shown_13 : decode cX7_shown 13 = .ok (.putfield 242, 3) := by decide +kernel
theorem dX7_shown_16 : decode cX7_shown 16 = .ok (.aload_n 0, 1) := by decide +kernel
theorem dX7_shown_17 : decode cX7_shown 17 = .ok (.iconst (-1), 1) := by decide +kernel
theorem dX7_shown_18 : decode cX7_shown 18 = .ok (.putfield 248, 3) := by decide +kernel
theorem dX7_shown_21 : decode cX7_shown 21 = .ok (.aload_n 0, 1) := by decide +kernel
theorem dX7_shown_22 : decode cX7_shown 22 = .ok (.iload_n 1, 1) := by decide +kernel
theorem dX7_shown_23 : decode cX7_shown 23 = .ok (.putfield 245, 3) := by decide +kernel
theorem dX7_shown_26 : decode cX7_shown 26 = .ok (.aload_n 0, 1) := by decide +kernel
theorem dX7_shown_27 : decode cX7_shown 27 = .ok (.invokevirtual 260, 3) := by decide +kernel
theorem dX7_shown_30 : decode cX7_shown 30 = .ok (.aload_n 0, 1) := by decide +kernel
theorem dX7_shown_31 : decode cX7_shown 31 = .ok (.getfield 248, 3) := by decide +kernel
theorem dX7_shown_34 : decode cX7_shown 34 = .ok (.ireturn, 1) := by decide +kernel
theorem dX7_back_0 : decode cX7_back 0 = .ok (.aload_n 0, 1) := by decide +kernel
theorem dX7_back_1 : decode cX7_back 1 = .ok (.getfield 40, 3) := by decide +kernel
theorem dX7_back_4 : decode cX7_back 4 = .ok (.ifCond .ne 10, 3) := by decide +kernel
theorem dX7_back_7 : decode cX7_back 7 = .ok (.aload_n 0, 1) := by decide +kernel
theorem dX7_back_8 : decode cX7_back 8 = .ok (.bipush (-3), 2) := by decide +kernel
theorem dX7_back_10 : decode cX7_back 10 = .ok (.invokevirtual 83, 3) := by decide +kernel
theorem dX7_back_13 : decode cX7_back 13 = .ok (.ireturn, 1) := by decide +kernel
theorem dX7_back_14 : decode cX7_back 14 = .ok (.aload_n 0, 1) := by decide +kernel
theorem dX7_back_15 : decode cX7_back 15 = .ok (.dup, 1) := by decide +kernel
theorem dX7_back_16 : decode cX7_back 16 = .ok (.getfield 40, 3) := by decide +kernel
theorem dX7_back_19 : decode cX7_back 19 = .ok (.iconst 1, 1) := by decide +kernel
theorem dX7_back_20 : decode cX7_back 20 = .ok (.isub, 1) := by decide +kernel
theorem dX7_back_21 : decode cX7_back 21 = .ok (.putfield 40, 3) := by decide +kernel
theorem dX7_back_24 : decode cX7_back 24 = .ok (.iconst 0, 1) := by decide +kernel
theorem dX7_back_25 : decode cX7_back 25 = .ok (.istore_n 1, 1) := by decide +kernel
theorem dX7_back_26 : decode cX7_back 26 = .ok (.iload_n 1, 1) := by decide +kernel
theorem dX7_back_27 : decode cX7_back 27 = .ok (.sipush 215, 3) := by decide +kernel
theorem dX7_back_30 : decode cX7_back 30 = .ok (.if_icmp .ge 30, 3) := by decide +kernel
theorem dX7_back_33 : decode cX7_back 33 = .ok (.aload_n 0, 1) := by decide +kernel
theorem dX7_back_34 : decode cX7_back 34 = .ok (.getfield 7, 3) := by decide +kernel
theorem dX7_back_37 : decode cX7_back 37 = .ok (.iload_n 1, 1) := by decide +kernel
theorem dX7_back_38 : decode cX7_back 38 = .ok (.aload_n 0, 1) := by decide +kernel
theorem dX7_back_39 : decode cX7_back 39 = .ok (.getfield 13, 3) := by decide +kernel
theorem dX7_back_42 : decode cX7_back 42 = .ok (.sipush 215, 3) := by decide +kernel
theorem dX7_back_45 : decode cX7_back 45 = .ok (.aload_n 0, 1) := by decide +kernel
theorem dX7_back_46 : decode cX7_back 46 = .ok (.getfield 40, 3) := by decide +kernel
theorem dX7_back_49 : decode cX7_back 49 = .ok (.imul, 1) := by decide +kernel
theorem dX7_back_50 : decode cX7_back 50 = .ok (.iload_n 1, 1) := by decide +kernel
theorem dX7_back_51 : decode cX7_back 51 = .ok (.iadd, 1) := by decide +kernel
theorem dX7_back_52 : decode cX7_back 52 = .ok (.laload, 1) := by decide +kernel
theorem dX7_back_53 : decode cX7_back 53 = .ok (.lastore, 1) := by decide +kernel
theorem dX7_back_54 : decode cX7_back 54 = .ok (.iinc 1 1, 3) := by decide +kernel
theorem dX7_back_57 : decode cX7_back 57 = .ok (.goto (-31), 3) := by decide +kernel
theorem dX7_back_60 : decode cX7_back 60 = .ok (.aload_n 0, 1) := by decide +kernel
theorem dX7_back_61 : decode cX7_back 61 = .ok (.getfield 40, 3) := by decide +kernel
theorem dX7_back_64 : decode cX7_back 64 = .ok (.ireturn, 1) := by decide +kernel
theorem dX7_toldOf_0 : decode cX7_toldOf 0 = .ok (.iload_n 1, 1) := by decide +kernel
theorem dX7_toldOf_1 : decode cX7_toldOf 1 = .ok (.iconst 3, 1) := by decide +kernel
theorem dX7_toldOf_2 : decode cX7_toldOf 2 = .ok (.if_icmp .ge 12, 3) := by decide +kernel
theorem dX7_toldOf_5 : decode cX7_toldOf 5 = .ok (.aload_n 0, 1) := by decide +kernel
theorem dX7_toldOf_6 : decode cX7_toldOf 6 = .ok (.getfield 16, 3) := by decide +kernel
theorem dX7_toldOf_9 : decode cX7_toldOf 9 = .ok (.iload_n 1, 1) := by decide +kernel
theorem dX7_toldOf_10 : decode cX7_toldOf 10 = .ok (.iaload, 1) := by decide +kernel
theorem dX7_toldOf_11 : decode cX7_toldOf 11 = .ok (.goto 41, 3) := by decide +kernel
theorem dX7_toldOf_14 : decode cX7_toldOf 14 = .ok (.iload_n 1, 1) := by decide +kernel
theorem dX7_toldOf_15 : decode cX7_toldOf 15 = .ok (.iconst 3, 1) := by decide +kernel
theorem dX7_toldOf_16 : decode cX7_toldOf 16 = .ok (.if_icmp .ne 10, 3) := by decide +kernel
theorem dX7_toldOf_19 : decode cX7_toldOf 19 = .ok (.aload_n 0, 1) := by decide +kernel
theorem dX7_toldOf_20 : decode cX7_toldOf 20 = .ok (.getfield 208, 3) := by decide +kernel
theorem dX7_toldOf_23 : decode cX7_toldOf 23 = .ok (.goto 29, 3) := by decide +kernel
theorem dX7_toldOf_26 : decode cX7_toldOf 26 = .ok (.iload_n 1, 1) := by decide +kernel
theorem dX7_toldOf_27 : decode cX7_toldOf 27 = .ok (.bipush 9, 2) := by decide +kernel
theorem dX7_toldOf_29 : decode cX7_toldOf 29 = .ok (.if_icmp .ne 10, 3) := by decide +kernel
theorem dX7_toldOf_32 : decode cX7_toldOf 32 = .ok (.aload_n 0, 1) := by decide +kernel
theorem dX7_toldOf_33 : decode cX7_toldOf 33 = .ok (.getfield 40, 3) := by decide +kernel
theorem dX7_toldOf_36 : decode cX7_toldOf 36 = .ok (.goto 16, 3) := by decide +kernel
theorem dX7_toldOf_39 : decode cX7_toldOf 39 = .ok (.aload_n 0, 1) := by decide +kernel
theorem dX7_toldOf_40 : decode cX7_toldOf 40 = .ok (.getfield 7, 3) := by decide +kernel
theorem dX7_toldOf_43 : decode cX7_toldOf 43 = .ok (.sipush 208, 3) := by decide +kernel
theorem dX7_toldOf_46 : decode cX7_toldOf 46 = .ok (.iload_n 1, 1) := by decide +kernel
theorem dX7_toldOf_47 : decode cX7_toldOf 47 = .ok (.iadd, 1) := by decide +kernel
theorem dX7_toldOf_48 : decode cX7_toldOf 48 = .ok (.iconst 4, 1) := by decide +kernel
theorem dX7_toldOf_49 : decode cX7_toldOf 49 = .ok (.isub, 1) := by decide +kernel
theorem dX7_toldOf_50 : decode cX7_toldOf 50 = .ok (.laload, 1) := by decide +kernel
theorem dX7_toldOf_51 : decode cX7_toldOf 51 = .ok (.l2i, 1) := by decide +kernel
theorem dX7_toldOf_52 : decode cX7_toldOf 52 = .ok (.ireturn, 1) := by decide +kernel
theorem dX7_told_0 : decode cX7_told 0 = .ok (.iload_n 1, 1) := by decide +kernel
theorem dX7_told_1 : decode cX7_told 1 = .ok (.i2l, 1) := by decide +kernel
theorem dX7_told_2 : decode cX7_told 2 = .ok (.lconst 0, 1) := by decide +kernel
theorem dX7_told_3 : decode cX7_told 3 = .ok (.ldc2_w 263, 3) := by decide +kernel
theorem dX7_told_6 : decode cX7_told 6 = .ok (.invokestatic 46, 3) := by decide +kernel
theorem dX7_told_9 : decode cX7_told 9 = .ok (.ifCond .eq 11, 3) := by decide +kernel
theorem dX7_told_12 : decode cX7_told 12 = .ok (.aload_n 0, 1) := by decide +kernel
theorem dX7_told_13 : decode cX7_told 13 = .ok (.iload_n 1, 1) := by decide +kernel
theorem dX7_told_14 : decode cX7_told 14 = .ok (.invokevirtual 265, 3) := by decide +kernel
theorem dX7_told_17 : decode cX7_told 17 = .ok (.goto 9, 3) := by decide +kernel
theorem dX7_told_20 : decode cX7_told 20 = .ok (.aload_n 0, 1) := by decide +kernel
theorem dX7_told_21 : decode cX7_told 21 = .ok (.bipush (-2), 2) := by decide +kernel
theorem dX7_told_23 : decode cX7_told 23 = .ok (.invokevirtual 83, 3) := by decide +kernel
theorem dX7_told_26 : decode cX7_told 26 = .ok (.ireturn, 1) := by decide +kernel
theorem dX7_digest_0 : decode cX7_digest 0 = .ok (.ldc2_w 268, 3) := by decide +kernel
theorem dX7_digest_3 : decode cX7_digest 3 = .ok (.lstore_n 1, 1) := by decide +kernel
theorem dX7_digest_4 : decode cX7_digest 4 = .ok (.iconst 0, 1) := by decide +kernel
theorem dX7_digest_5 : decode cX7_digest 5 = .ok (.istore_n 3, 1) := by decide +kernel
theorem dX7_digest_6 : decode cX7_digest 6 = .ok (.iload_n 3, 1) := by decide +kernel
theorem dX7_digest_7 : decode cX7_digest 7 = .ok (.bipush 10, 2) := by decide +kernel
theorem dX7_digest_9 : decode cX7_digest 9 = .ok (.if_icmp .ge 22, 3) := by decide +kernel
theorem dX7_digest_12 : decode cX7_digest 12 = .ok (.ldc2_w 270, 3) := by decide +kernel
theorem dX7_digest_15 : decode cX7_digest 15 = .ok (.lload_n 1, 1) := by decide +kernel
theorem dX7_digest_16 : decode cX7_digest 16 = .ok (.lmul, 1) := by decide +kernel
theorem dX7_digest_17 : decode cX7_digest 17 = .ok (.aload_n 0, 1) := by decide +kernel
theorem dX7_digest_18 : decode cX7_digest 18 = .ok (.iload_n 3, 1) := by decide +kernel
theorem dX7_digest_19 : decode cX7_digest 19 = .ok (.invokevirtual 265, 3) := by decide +kernel
theorem dX7_digest_22 : decode cX7_digest 22 = .ok (.i2l, 1) := by decide +kernel
theorem dX7_digest_23 : decode cX7_digest 23 = .ok (.ladd, 1) := by decide +kernel
theorem dX7_digest_24 : decode cX7_digest 24 = .ok (.lstore_n 1, 1) := by decide +kernel
theorem dX7_digest_25 : decode cX7_digest 25 = .ok (.iinc 3 1, 3) := by decide +kernel
theorem dX7_digest_28 : decode cX7_digest 28 = .ok (.goto (-22), 3) := by decide +kernel
theorem dX7_digest_31 : decode cX7_digest 31 = .ok (.iconst 0, 1) := by decide +kernel
theorem dX7_digest_32 : decode cX7_digest 32 = .ok (.istore_n 3, 1) := by decide +kernel
theorem dX7_digest_33 : decode cX7_digest 33 = .ok (.iload_n 3, 1) := by decide +kernel
theorem dX7_digest_34 : decode cX7_digest 34 = .ok (.bipush 7, 2) := by decide +kernel
theorem dX7_digest_36 : decode cX7_digest 36 = .ok (.if_icmp .ge 22, 3) := by decide +kernel
theorem dX7_digest_39 : decode cX7_digest 39 = .ok (.ldc2_w 270, 3) := by decide +kernel
theorem dX7_digest_42 : decode cX7_digest 42 = .ok (.lload_n 1, 1) := by decide +kernel
theorem dX7_digest_43 : decode cX7_digest 43 = .ok (.lmul, 1) := by decide +kernel
theorem dX7_digest_44 : decode cX7_digest 44 = .ok (.aload_n 0, 1) := by decide +kernel
theorem dX7_digest_45 : decode cX7_digest 45 = .ok (.iload_n 3, 1) := by decide +kernel
theorem dX7_digest_46 : decode cX7_digest 46 = .ok (.invokevirtual 203, 3) := by decide +kernel
theorem dX7_digest_49 : decode cX7_digest 49 = .ok (.i2l, 1) := by decide +kernel
theorem dX7_digest_50 : decode cX7_digest 50 = .ok (.ladd, 1) := by decide +kernel
theorem dX7_digest_51 : decode cX7_digest 51 = .ok (.lstore_n 1, 1) := by decide +kernel
theorem dX7_digest_52 : decode cX7_digest 52 = .ok (.iinc 3 1, 3) := by decide +kernel
theorem dX7_digest_55 : decode cX7_digest 55 = .ok (.goto (-22), 3) := by decide +kernel
theorem dX7_digest_58 : decode cX7_digest 58 = .ok (.iconst 1, 1) := by decide +kernel
theorem dX7_digest_59 : decode cX7_digest 59 = .ok (.istore_n 3, 1) := by decide +kernel
theorem dX7_digest_60 : decode cX7_digest 60 = .ok (.iload_n 3, 1) := by decide +kernel
theorem dX7_digest_61 : decode cX7_digest 61 = .ok (.bipush 12, 2) := by decide +kernel
theorem dX7_digest_63 : decode cX7_digest 63 = .ok (.if_icmp .gt 83, 3) := by decide +kernel
theorem dX7_digest_66 : decode cX7_digest 66 = .ok (.aload_n 0, 1) := by decide +kernel
theorem dX7_digest_67 : decode cX7_digest 67 = .ok (.iload_n 3, 1) := by decide +kernel
theorem dX7_digest_68 : decode cX7_digest 68 = .ok (.invokevirtual 54, 3) := by decide +kernel
theorem dX7_digest_71 : decode cX7_digest 71 = .ok (.ifCond .eq 69, 3) := by decide +kernel
theorem dX7_digest_74 : decode cX7_digest 74 = .ok (.ldc2_w 270, 3) := by decide +kernel
theorem dX7_digest_77 : decode cX7_digest 77 = .ok (.lload_n 1, 1) := by decide +kernel
theorem dX7_digest_78 : decode cX7_digest 78 = .ok (.lmul, 1) := by decide +kernel
theorem dX7_digest_79 : decode cX7_digest 79 = .ok (.iload_n 3, 1) := by decide +kernel
theorem dX7_digest_80 : decode cX7_digest 80 = .ok (.i2l, 1) := by decide +kernel
theorem dX7_digest_81 : decode cX7_digest 81 = .ok (.ladd, 1) := by decide +kernel
theorem dX7_digest_82 : decode cX7_digest 82 = .ok (.lstore_n 1, 1) := by decide +kernel
theorem dX7_digest_83 : decode cX7_digest 83 = .ok (.iconst 0, 1) := by decide +kernel
theorem dX7_digest_84 : decode cX7_digest 84 = .ok (.istore 4, 2) := by decide +kernel
theorem dX7_digest_86 : decode cX7_digest 86 = .ok (.iload 4, 2) := by decide +kernel
theorem dX7_digest_88 : decode cX7_digest 88 = .ok (.bipush 16, 2) := by decide +kernel
theorem dX7_digest_90 : decode cX7_digest 90 = .ok (.if_icmp .ge 24, 3) := by decide +kernel
theorem dX7_digest_93 : decode cX7_digest 93 = .ok (.ldc2_w 270, 3) := by decide +kernel
theorem dX7_digest_96 : decode cX7_digest 96 = .ok (.lload_n 1, 1) := by decide +kernel
theorem dX7_digest_97 : decode cX7_digest 97 = .ok (.lmul, 1) := by decide +kernel
theorem dX7_digest_98 : decode cX7_digest 98 = .ok (.aload_n 0, 1) := by decide +kernel
theorem dX7_digest_99 : decode cX7_digest 99 = .ok (.iload_n 3, 1) := by decide +kernel
theorem dX7_digest_100 : decode cX7_digest 100 = .ok (.iload 4, 2) := by decide +kernel
theorem dX7_digest_102 : decode cX7_digest 102 = .ok (.invokevirtual 135, 3) := by decide +kernel
theorem dX7_digest_105 : decode cX7_digest 105 = .ok (.i2l, 1) := by decide +kernel
theorem dX7_digest_106 : decode cX7_digest 106 = .ok (.ladd, 1) := by decide +kernel
theorem dX7_digest_107 : decode cX7_digest 107 = .ok (.lstore_n 1, 1) := by decide +kernel
theorem dX7_digest_108 : decode cX7_digest 108 = .ok (.iinc 4 1, 3) := by decide +kernel
theorem dX7_digest_111 : decode cX7_digest 111 = .ok (.goto (-25), 3) := by decide +kernel
theorem dX7_digest_114 : decode cX7_digest 114 = .ok (.ldc2_w 270, 3) := by decide +kernel
theorem dX7_digest_117 : decode cX7_digest 117 = .ok (.ldc2_w 270, 3) := by decide +kernel
theorem dX7_digest_120 : decode cX7_digest 120 = .ok (.lload_n 1, 1) := by decide +kernel
theorem dX7_digest_121 : decode cX7_digest 121 = .ok (.lmul, 1) := by decide +kernel
theorem dX7_digest_122 : decode cX7_digest 122 = .ok (.aload_n 0, 1) := by decide +kernel
theorem dX7_digest_123 : decode cX7_digest 123 = .ok (.iload_n 3, 1) := by decide +kernel
theorem dX7_digest_124 : decode cX7_digest 124 = .ok (.bipush 9, 2) := by decide +kernel
theorem dX7_digest_126 : decode cX7_digest 126 = .ok (.invokevirtual 50, 3) := by decide +kernel
theorem dX7_digest_129 : decode cX7_digest 129 = .ok (.ladd, 1) := by decide +kernel
theorem dX7_digest_130 : decode cX7_digest 130 = .ok (.lmul, 1) := by decide +kernel
theorem dX7_digest_131 : decode cX7_digest 131 = .ok (.aload_n 0, 1) := by decide +kernel
theorem dX7_digest_132 : decode cX7_digest 132 = .ok (.iload_n 3, 1) := by decide +kernel
theorem dX7_digest_133 : decode cX7_digest 133 = .ok (.bipush 10, 2) := by decide +kernel
theorem dX7_digest_135 : decode cX7_digest 135 = .ok (.invokevirtual 50, 3) := by decide +kernel
theorem dX7_digest_138 : decode cX7_digest 138 = .ok (.ladd, 1) := by decide +kernel
theorem dX7_digest_139 : decode cX7_digest 139 = .ok (.lstore_n 1, 1) := by decide +kernel
theorem dX7_digest_140 : decode cX7_digest 140 = .ok (.iinc 3 1, 3) := by decide +kernel
theorem dX7_digest_143 : decode cX7_digest 143 = .ok (.goto (-83), 3) := by decide +kernel
theorem dX7_digest_146 : decode cX7_digest 146 = .ok (.ldc2_w 270, 3) := by decide +kernel
theorem dX7_digest_149 : decode cX7_digest 149 = .ok (.ldc2_w 270, 3) := by decide +kernel
theorem dX7_digest_152 : decode cX7_digest 152 = .ok (.lload_n 1, 1) := by decide +kernel
theorem dX7_digest_153 : decode cX7_digest 153 = .ok (.lmul, 1) := by decide +kernel
theorem dX7_digest_154 : decode cX7_digest 154 = .ok (.aload_n 0, 1) := by decide +kernel
theorem dX7_digest_155 : decode cX7_digest 155 = .ok (.iconst 0, 1) := by decide +kernel
theorem dX7_digest_156 : decode cX7_digest 156 = .ok (.bipush 10, 2) := by decide +kernel
theorem dX7_digest_158 : decode cX7_digest 158 = .ok (.invokevirtual 50, 3) := by decide +kernel
theorem dX7_digest_161 : decode cX7_digest 161 = .ok (.ladd, 1) := by decide +kernel
theorem dX7_digest_162 : decode cX7_digest 162 = .ok (.lmul, 1) := by decide +kernel
theorem dX7_digest_163 : decode cX7_digest 163 = .ok (.aload_n 0, 1) := by decide +kernel
theorem dX7_digest_164 : decode cX7_digest 164 = .ok (.invokevirtual 165, 3) := by decide +kernel
theorem dX7_digest_167 : decode cX7_digest 167 = .ok (.i2l, 1) := by decide +kernel
theorem dX7_digest_168 : decode cX7_digest 168 = .ok (.ladd, 1) := by decide +kernel
theorem dX7_digest_169 : decode cX7_digest 169 = .ok (.lreturn, 1) := by decide +kernel
theorem dL_law_0 : decode cL_law 0 = .ok (.new 7, 3) := by decide +kernel
theorem dL_law_3 : decode cL_law 3 = .ok (.dup, 1) := by decide +kernel
theorem dL_law_4 : decode cL_law 4 = .ok (.invokespecial 9, 3) := by decide +kernel
theorem dL_law_7 : decode cL_law 7 = .ok (.astore_n 1, 1) := by decide +kernel
theorem dL_law_8 : decode cL_law 8 = .ok (.new 10, 3) := by decide +kernel
theorem dL_law_11 : decode cL_law 11 = .ok (.dup, 1) := by decide +kernel
theorem dL_law_12 : decode cL_law 12 = .ok (.invokespecial 12, 3) := by decide +kernel
theorem dL_law_15 : decode cL_law 15 = .ok (.astore_n 2, 1) := by decide +kernel
theorem dL_law_16 : decode cL_law 16 = .ok (.iconst 0, 1) := by decide +kernel
theorem dL_law_17 : decode cL_law 17 = .ok (.istore_n 3, 1) := by decide +kernel
theorem dL_law_18 : decode cL_law 18 = .ok (.iload_n 3, 1) := by decide +kernel
theorem dL_law_19 : decode cL_law 19 = .ok (.aload_n 0, 1) := by decide +kernel
theorem dL_law_20 : decode cL_law 20 = .ok (.arraylength, 1) := by decide +kernel
theorem dL_law_21 : decode cL_law 21 = .ok (.iconst 5, 1) := by decide +kernel
theorem dL_law_22 : decode cL_law 22 = .ok (.isub, 1) := by decide +kernel
theorem dL_law_23 : decode cL_law 23 = .ok (.if_icmp .gt 738, 3) := by decide +kernel
theorem dL_law_26 : decode cL_law 26 = .ok (.aload_n 0, 1) := by decide +kernel
theorem dL_law_27 : decode cL_law 27 = .ok (.iload_n 3, 1) := by decide +kernel
theorem dL_law_28 : decode cL_law 28 = .ok (.iaload, 1) := by decide +kernel
theorem dL_law_29 : decode cL_law 29 = .ok (.bipush 31, 2) := by decide +kernel
theorem dL_law_31 : decode cL_law 31 = .ok (.iand, 1) := by decide +kernel
theorem dL_law_32 : decode cL_law 32 = .ok (.tableswitch 723 0 21 #[104, 157, 210, 253, 276, 309, 343, 376, 409, 442, 475, 508, 531, 544, 578, 601, 624, 637, 650, 673, 686, 709], 104) := by decide +kernel
theorem dL_law_136 : decode cL_law 136 = .ok (.aload_n 1, 1) := by decide +kernel
theorem dL_law_137 : decode cL_law 137 = .ok (.aload_n 0, 1) := by decide +kernel
theorem dL_law_138 : decode cL_law 138 = .ok (.iload_n 3, 1) := by decide +kernel
theorem dL_law_139 : decode cL_law 139 = .ok (.iconst 1, 1) := by decide +kernel
theorem dL_law_140 : decode cL_law 140 = .ok (.iadd, 1) := by decide +kernel
theorem dL_law_141 : decode cL_law 141 = .ok (.iaload, 1) := by decide +kernel
theorem dL_law_142 : decode cL_law 142 = .ok (.aload_n 0, 1) := by decide +kernel
theorem dL_law_143 : decode cL_law 143 = .ok (.iload_n 3, 1) := by decide +kernel
theorem dL_law_144 : decode cL_law 144 = .ok (.iconst 2, 1) := by decide +kernel
theorem dL_law_145 : decode cL_law 145 = .ok (.iadd, 1) := by decide +kernel
theorem dL_law_146 : decode cL_law 146 = .ok (.iaload, 1) := by decide +kernel
theorem dL_law_147 : decode cL_law 147 = .ok (.aload_n 0, 1) := by decide +kernel
theorem dL_law_148 : decode cL_law 148 = .ok (.iload_n 3, 1) := by decide +kernel
theorem dL_law_149 : decode cL_law 149 = .ok (.iconst 3, 1) := by decide +kernel
theorem dL_law_150 : decode cL_law 150 = .ok (.iadd, 1) := by decide +kernel
theorem dL_law_151 : decode cL_law 151 = .ok (.iaload, 1) := by decide +kernel
theorem dL_law_152 : decode cL_law 152 = .ok (.aload_n 0, 1) := by decide +kernel
theorem dL_law_153 : decode cL_law 153 = .ok (.iload_n 3, 1) := by decide +kernel
theorem dL_law_154 : decode cL_law 154 = .ok (.iconst 4, 1) := by decide +kernel
theorem dL_law_155 : decode cL_law 155 = .ok (.iadd, 1) := by decide +kernel
theorem dL_law_156 : decode cL_law 156 = .ok (.iaload, 1) := by decide +kernel
theorem dL_law_157 : decode cL_law 157 = .ok (.invokevirtual 13, 3) := by decide +kernel
theorem dL_law_160 : decode cL_law 160 = .ok (.aload_n 2, 1) := by decide +kernel
theorem dL_law_161 : decode cL_law 161 = .ok (.aload_n 0, 1) := by decide +kernel
theorem dL_law_162 : decode cL_law 162 = .ok (.iload_n 3, 1) := by decide +kernel
theorem dL_law_163 : decode cL_law 163 = .ok (.iconst 1, 1) := by decide +kernel
theorem dL_law_164 : decode cL_law 164 = .ok (.iadd, 1) := by decide +kernel
theorem dL_law_165 : decode cL_law 165 = .ok (.iaload, 1) := by decide +kernel
theorem dL_law_166 : decode cL_law 166 = .ok (.aload_n 0, 1) := by decide +kernel
theorem dL_law_167 : decode cL_law 167 = .ok (.iload_n 3, 1) := by decide +kernel
theorem dL_law_168 : decode cL_law 168 = .ok (.iconst 2, 1) := by decide +kernel
theorem dL_law_169 : decode cL_law 169 = .ok (.iadd, 1) := by decide +kernel
theorem dL_law_170 : decode cL_law 170 = .ok (.iaload, 1) := by decide +kernel
theorem dL_law_171 : decode cL_law 171 = .ok (.aload_n 0, 1) := by decide +kernel
theorem dL_law_172 : decode cL_law 172 = .ok (.iload_n 3, 1) := by decide +kernel
theorem dL_law_173 : decode cL_law 173 = .ok (.iconst 3, 1) := by decide +kernel
theorem dL_law_174 : decode cL_law 174 = .ok (.iadd, 1) := by decide +kernel
theorem dL_law_175 : decode cL_law 175 = .ok (.iaload, 1) := by decide +kernel
theorem dL_law_176 : decode cL_law 176 = .ok (.aload_n 0, 1) := by decide +kernel
theorem dL_law_177 : decode cL_law 177 = .ok (.iload_n 3, 1) := by decide +kernel
theorem dL_law_178 : decode cL_law 178 = .ok (.iconst 4, 1) := by decide +kernel
theorem dL_law_179 : decode cL_law 179 = .ok (.iadd, 1) := by decide +kernel
theorem dL_law_180 : decode cL_law 180 = .ok (.iaload, 1) := by decide +kernel
theorem dL_law_181 : decode cL_law 181 = .ok (.invokevirtual 17, 3) := by decide +kernel
theorem dL_law_184 : decode cL_law 184 = .ok (.if_icmp .eq 571, 3) := by decide +kernel
theorem dL_law_187 : decode cL_law 187 = .ok (.iconst 0, 1) := by decide +kernel
theorem dL_law_188 : decode cL_law 188 = .ok (.ireturn, 1) := by decide +kernel
theorem dL_law_189 : decode cL_law 189 = .ok (.aload_n 1, 1) := by decide +kernel
theorem dL_law_190 : decode cL_law 190 = .ok (.aload_n 0, 1) := by decide +kernel
theorem dL_law_191 : decode cL_law 191 = .ok (.iload_n 3, 1) := by decide +kernel
theorem dL_law_192 : decode cL_law 192 = .ok (.iconst 1, 1) := by decide +kernel
theorem dL_law_193 : decode cL_law 193 = .ok (.iadd, 1) := by decide +kernel
theorem dL_law_194 : decode cL_law 194 = .ok (.iaload, 1) := by decide +kernel
theorem dL_law_195 : decode cL_law 195 = .ok (.aload_n 0, 1) := by decide +kernel
theorem dL_law_196 : decode cL_law 196 = .ok (.iload_n 3, 1) := by decide +kernel
theorem dL_law_197 : decode cL_law 197 = .ok (.iconst 2, 1) := by decide +kernel
theorem dL_law_198 : decode cL_law 198 = .ok (.iadd, 1) := by decide +kernel
theorem dL_law_199 : decode cL_law 199 = .ok (.iaload, 1) := by decide +kernel
theorem dL_law_200 : decode cL_law 200 = .ok (.aload_n 0, 1) := by decide +kernel
theorem dL_law_201 : decode cL_law 201 = .ok (.iload_n 3, 1) := by decide +kernel
theorem dL_law_202 : decode cL_law 202 = .ok (.iconst 3, 1) := by decide +kernel
theorem dL_law_203 : decode cL_law 203 = .ok (.iadd, 1) := by decide +kernel
theorem dL_law_204 : decode cL_law 204 = .ok (.iaload, 1) := by decide +kernel
theorem dL_law_205 : decode cL_law 205 = .ok (.aload_n 0, 1) := by decide +kernel
theorem dL_law_206 : decode cL_law 206 = .ok (.iload_n 3, 1) := by decide +kernel
theorem dL_law_207 : decode cL_law 207 = .ok (.iconst 4, 1) := by decide +kernel
theorem dL_law_208 : decode cL_law 208 = .ok (.iadd, 1) := by decide +kernel
theorem dL_law_209 : decode cL_law 209 = .ok (.iaload, 1) := by decide +kernel
theorem dL_law_210 : decode cL_law 210 = .ok (.invokevirtual 18, 3) := by decide +kernel
theorem dL_law_213 : decode cL_law 213 = .ok (.aload_n 2, 1) := by decide +kernel
theorem dL_law_214 : decode cL_law 214 = .ok (.aload_n 0, 1) := by decide +kernel
theorem dL_law_215 : decode cL_law 215 = .ok (.iload_n 3, 1) := by decide +kernel
theorem dL_law_216 : decode cL_law 216 = .ok (.iconst 1, 1) := by decide +kernel
theorem dL_law_217 : decode cL_law 217 = .ok (.iadd, 1) := by decide +kernel
theorem dL_law_218 : decode cL_law 218 = .ok (.iaload, 1) := by decide +kernel
theorem dL_law_219 : decode cL_law 219 = .ok (.aload_n 0, 1) := by decide +kernel
theorem dL_law_220 : decode cL_law 220 = .ok (.iload_n 3, 1) := by decide +kernel
theorem dL_law_221 : decode cL_law 221 = .ok (.iconst 2, 1) := by decide +kernel
theorem dL_law_222 : decode cL_law 222 = .ok (.iadd, 1) := by decide +kernel
theorem dL_law_223 : decode cL_law 223 = .ok (.iaload, 1) := by decide +kernel
theorem dL_law_224 : decode cL_law 224 = .ok (.aload_n 0, 1) := by decide +kernel
theorem dL_law_225 : decode cL_law 225 = .ok (.iload_n 3, 1) := by decide +kernel
theorem dL_law_226 : decode cL_law 226 = .ok (.iconst 3, 1) := by decide +kernel
theorem dL_law_227 : decode cL_law 227 = .ok (.iadd, 1) := by decide +kernel
theorem dL_law_228 : decode cL_law 228 = .ok (.iaload, 1) := by decide +kernel
theorem dL_law_229 : decode cL_law 229 = .ok (.aload_n 0, 1) := by decide +kernel
theorem dL_law_230 : decode cL_law 230 = .ok (.iload_n 3, 1) := by decide +kernel
theorem dL_law_231 : decode cL_law 231 = .ok (.iconst 4, 1) := by decide +kernel
theorem dL_law_232 : decode cL_law 232 = .ok (.iadd, 1) := by decide +kernel
theorem dL_law_233 : decode cL_law 233 = .ok (.iaload, 1) := by decide +kernel
theorem dL_law_234 : decode cL_law 234 = .ok (.invokevirtual 21, 3) := by decide +kernel
theorem dL_law_237 : decode cL_law 237 = .ok (.if_icmp .eq 518, 3) := by decide +kernel
theorem dL_law_240 : decode cL_law 240 = .ok (.iconst 0, 1) := by decide +kernel
theorem dL_law_241 : decode cL_law 241 = .ok (.ireturn, 1) := by decide +kernel
theorem dL_law_242 : decode cL_law 242 = .ok (.aload_n 1, 1) := by decide +kernel
theorem dL_law_243 : decode cL_law 243 = .ok (.aload_n 0, 1) := by decide +kernel
theorem dL_law_244 : decode cL_law 244 = .ok (.iload_n 3, 1) := by decide +kernel
theorem dL_law_245 : decode cL_law 245 = .ok (.iconst 1, 1) := by decide +kernel
theorem dL_law_246 : decode cL_law 246 = .ok (.iadd, 1) := by decide +kernel
theorem dL_law_247 : decode cL_law 247 = .ok (.iaload, 1) := by decide +kernel
theorem dL_law_248 : decode cL_law 248 = .ok (.aload_n 0, 1) := by decide +kernel
theorem dL_law_249 : decode cL_law 249 = .ok (.iload_n 3, 1) := by decide +kernel
theorem dL_law_250 : decode cL_law 250 = .ok (.iconst 2, 1) := by decide +kernel
theorem dL_law_251 : decode cL_law 251 = .ok (.iadd, 1) := by decide +kernel
theorem dL_law_252 : decode cL_law 252 = .ok (.iaload, 1) := by decide +kernel
theorem dL_law_253 : decode cL_law 253 = .ok (.aload_n 0, 1) := by decide +kernel
theorem dL_law_254 : decode cL_law 254 = .ok (.iload_n 3, 1) := by decide +kernel
theorem dL_law_255 : decode cL_law 255 = .ok (.iconst 3, 1) := by decide +kernel
theorem dL_law_256 : decode cL_law 256 = .ok (.iadd, 1) := by decide +kernel
theorem dL_law_257 : decode cL_law 257 = .ok (.iaload, 1) := by decide +kernel
theorem dL_law_258 : decode cL_law 258 = .ok (.invokevirtual 22, 3) := by decide +kernel
theorem dL_law_261 : decode cL_law 261 = .ok (.aload_n 2, 1) := by decide +kernel
theorem dL_law_262 : decode cL_law 262 = .ok (.aload_n 0, 1) := by decide +kernel
theorem dL_law_263 : decode cL_law 263 = .ok (.iload_n 3, 1) := by decide +kernel
theorem dL_law_264 : decode cL_law 264 = .ok (.iconst 1, 1) := by decide +kernel
theorem dL_law_265 : decode cL_law 265 = .ok (.iadd, 1) := by decide +kernel
theorem dL_law_266 : decode cL_law 266 = .ok (.iaload, 1) := by decide +kernel
theorem dL_law_267 : decode cL_law 267 = .ok (.aload_n 0, 1) := by decide +kernel
theorem dL_law_268 : decode cL_law 268 = .ok (.iload_n 3, 1) := by decide +kernel
theorem dL_law_269 : decode cL_law 269 = .ok (.iconst 2, 1) := by decide +kernel
theorem dL_law_270 : decode cL_law 270 = .ok (.iadd, 1) := by decide +kernel
theorem dL_law_271 : decode cL_law 271 = .ok (.iaload, 1) := by decide +kernel
theorem dL_law_272 : decode cL_law 272 = .ok (.aload_n 0, 1) := by decide +kernel
theorem dL_law_273 : decode cL_law 273 = .ok (.iload_n 3, 1) := by decide +kernel
theorem dL_law_274 : decode cL_law 274 = .ok (.iconst 3, 1) := by decide +kernel
theorem dL_law_275 : decode cL_law 275 = .ok (.iadd, 1) := by decide +kernel
theorem dL_law_276 : decode cL_law 276 = .ok (.iaload, 1) := by decide +kernel
theorem dL_law_277 : decode cL_law 277 = .ok (.invokevirtual 26, 3) := by decide +kernel
theorem dL_law_280 : decode cL_law 280 = .ok (.if_icmp .eq 475, 3) := by decide +kernel
theorem dL_law_283 : decode cL_law 283 = .ok (.iconst 0, 1) := by decide +kernel
theorem dL_law_284 : decode cL_law 284 = .ok (.ireturn, 1) := by decide +kernel
theorem dL_law_285 : decode cL_law 285 = .ok (.aload_n 1, 1) := by decide +kernel
theorem dL_law_286 : decode cL_law 286 = .ok (.aload_n 0, 1) := by decide +kernel
theorem dL_law_287 : decode cL_law 287 = .ok (.iload_n 3, 1) := by decide +kernel
theorem dL_law_288 : decode cL_law 288 = .ok (.iconst 1, 1) := by decide +kernel
theorem dL_law_289 : decode cL_law 289 = .ok (.iadd, 1) := by decide +kernel
theorem dL_law_290 : decode cL_law 290 = .ok (.iaload, 1) := by decide +kernel
theorem dL_law_291 : decode cL_law 291 = .ok (.invokevirtual 27, 3) := by decide +kernel
theorem dL_law_294 : decode cL_law 294 = .ok (.aload_n 2, 1) := by decide +kernel
theorem dL_law_295 : decode cL_law 295 = .ok (.aload_n 0, 1) := by decide +kernel
theorem dL_law_296 : decode cL_law 296 = .ok (.iload_n 3, 1) := by decide +kernel
theorem dL_law_297 : decode cL_law 297 = .ok (.iconst 1, 1) := by decide +kernel
theorem dL_law_298 : decode cL_law 298 = .ok (.iadd, 1) := by decide +kernel
theorem dL_law_299 : decode cL_law 299 = .ok (.iaload, 1) := by decide +kernel
theorem dL_law_300 : decode cL_law 300 = .ok (.invokevirtual 31, 3) := by decide +kernel
theorem dL_law_303 : decode cL_law 303 = .ok (.if_icmp .eq 452, 3) := by decide +kernel
theorem dL_law_306 : decode cL_law 306 = .ok (.iconst 0, 1) := by decide +kernel
theorem dL_law_307 : decode cL_law 307 = .ok (.ireturn, 1) := by decide +kernel
theorem dL_law_308 : decode cL_law 308 = .ok (.aload_n 1, 1) := by decide +kernel
theorem dL_law_309 : decode cL_law 309 = .ok (.aload_n 0, 1) := by decide +kernel
theorem dL_law_310 : decode cL_law 310 = .ok (.iload_n 3, 1) := by decide +kernel
theorem dL_law_311 : decode cL_law 311 = .ok (.iconst 1, 1) := by decide +kernel
theorem dL_law_312 : decode cL_law 312 = .ok (.iadd, 1) := by decide +kernel
theorem dL_law_313 : decode cL_law 313 = .ok (.iaload, 1) := by decide +kernel
theorem dL_law_314 : decode cL_law 314 = .ok (.aload_n 0, 1) := by decide +kernel
theorem dL_law_315 : decode cL_law 315 = .ok (.iload_n 3, 1) := by decide +kernel
theorem dL_law_316 : decode cL_law 316 = .ok (.iconst 2, 1) := by decide +kernel
theorem dL_law_317 : decode cL_law 317 = .ok (.iadd, 1) := by decide +kernel
theorem dL_law_318 : decode cL_law 318 = .ok (.iaload, 1) := by decide +kernel
theorem dL_law_319 : decode cL_law 319 = .ok (.invokevirtual 32, 3) := by decide +kernel
theorem dL_law_322 : decode cL_law 322 = .ok (.aload_n 2, 1) := by decide +kernel
theorem dL_law_323 : decode cL_law 323 = .ok (.aload_n 0, 1) := by decide +kernel
theorem dL_law_324 : decode cL_law 324 = .ok (.iload_n 3, 1) := by decide +kernel
theorem dL_law_325 : decode cL_law 325 = .ok (.iconst 1, 1) := by decide +kernel
theorem dL_law_326 : decode cL_law 326 = .ok (.iadd, 1) := by decide +kernel
theorem dL_law_327 : decode cL_law 327 = .ok (.iaload, 1) := by decide +kernel
theorem dL_law_328 : decode cL_law 328 = .ok (.aload_n 0, 1) := by decide +kernel
theorem dL_law_329 : decode cL_law 329 = .ok (.iload_n 3, 1) := by decide +kernel
theorem dL_law_330 : decode cL_law 330 = .ok (.iconst 2, 1) := by decide +kernel
theorem dL_law_331 : decode cL_law 331 = .ok (.iadd, 1) := by decide +kernel
theorem dL_law_332 : decode cL_law 332 = .ok (.iaload, 1) := by decide +kernel
theorem dL_law_333 : decode cL_law 333 = .ok (.invokevirtual 36, 3) := by decide +kernel
theorem dL_law_336 : decode cL_law 336 = .ok (.if_icmp .eq 419, 3) := by decide +kernel
theorem dL_law_339 : decode cL_law 339 = .ok (.iconst 0, 1) := by decide +kernel
theorem dL_law_340 : decode cL_law 340 = .ok (.ireturn, 1) := by decide +kernel
theorem dL_law_341 : decode cL_law 341 = .ok (.aload_n 1, 1) := by decide +kernel
theorem dL_law_342 : decode cL_law 342 = .ok (.aload_n 0, 1) := by decide +kernel
theorem dL_law_343 : decode cL_law 343 = .ok (.iload_n 3, 1) := by decide +kernel
theorem dL_law_344 : decode cL_law 344 = .ok (.iconst 1, 1) := by decide +kernel
theorem dL_law_345 : decode cL_law 345 = .ok (.iadd, 1) := by decide +kernel
theorem dL_law_346 : decode cL_law 346 = .ok (.iaload, 1) := by decide +kernel
theorem dL_law_347 : decode cL_law 347 = .ok (.aload_n 0, 1) := by decide +kernel
theorem dL_law_348 : decode cL_law 348 = .ok (.iload_n 3, 1) := by decide +kernel
theorem dL_law_349 : decode cL_law 349 = .ok (.iconst 2, 1) := by decide +kernel
theorem dL_law_350 : decode cL_law 350 = .ok (.iadd, 1) := by decide +kernel
theorem dL_law_351 : decode cL_law 351 = .ok (.iaload, 1) := by decide +kernel
theorem dL_law_352 : decode cL_law 352 = .ok (.invokevirtual 37, 3) := by decide +kernel
theorem dL_law_355 : decode cL_law 355 = .ok (.aload_n 2, 1) := by decide +kernel
theorem dL_law_356 : decode cL_law 356 = .ok (.aload_n 0, 1) := by decide +kernel
theorem dL_law_357 : decode cL_law 357 = .ok (.iload_n 3, 1) := by decide +kernel
theorem dL_law_358 : decode cL_law 358 = .ok (.iconst 1, 1) := by decide +kernel
theorem dL_law_359 : decode cL_law 359 = .ok (.iadd, 1) := by decide +kernel
theorem dL_law_360 : decode cL_law 360 = .ok (.iaload, 1) := by decide +kernel
theorem dL_law_361 : decode cL_law 361 = .ok (.aload_n 0, 1) := by decide +kernel
theorem dL_law_362 : decode cL_law 362 = .ok (.iload_n 3, 1) := by decide +kernel
theorem dL_law_363 : decode cL_law 363 = .ok (.iconst 2, 1) := by decide +kernel
theorem dL_law_364 : decode cL_law 364 = .ok (.iadd, 1) := by decide +kernel
theorem dL_law_365 : decode cL_law 365 = .ok (.iaload, 1) := by decide +kernel
theorem dL_law_366 : decode cL_law 366 = .ok (.invokevirtual 41, 3) := by decide +kernel
theorem dL_law_369 : decode cL_law 369 = .ok (.lcmp, 1) := by decide +kernel
theorem dL_law_370 : decode cL_law 370 = .ok (.ifCond .eq 385, 3) := by decide +kernel
theorem dL_law_373 : decode cL_law 373 = .ok (.iconst 0, 1) := by decide +kernel
theorem dL_law_374 : decode cL_law 374 = .ok (.ireturn, 1) := by decide +kernel
theorem dL_law_375 : decode cL_law 375 = .ok (.aload_n 1, 1) := by decide +kernel
theorem dL_law_376 : decode cL_law 376 = .ok (.aload_n 0, 1) := by decide +kernel
theorem dL_law_377 : decode cL_law 377 = .ok (.iload_n 3, 1) := by decide +kernel
theorem dL_law_378 : decode cL_law 378 = .ok (.iconst 1, 1) := by decide +kernel
theorem dL_law_379 : decode cL_law 379 = .ok (.iadd, 1) := by decide +kernel
theorem dL_law_380 : decode cL_law 380 = .ok (.iaload, 1) := by decide +kernel
theorem dL_law_381 : decode cL_law 381 = .ok (.aload_n 0, 1) := by decide +kernel
theorem dL_law_382 : decode cL_law 382 = .ok (.iload_n 3, 1) := by decide +kernel
theorem dL_law_383 : decode cL_law 383 = .ok (.iconst 2, 1) := by decide +kernel
theorem dL_law_384 : decode cL_law 384 = .ok (.iadd, 1) := by decide +kernel
theorem dL_law_385 : decode cL_law 385 = .ok (.iaload, 1) := by decide +kernel
theorem dL_law_386 : decode cL_law 386 = .ok (.invokevirtual 42, 3) := by decide +kernel
theorem dL_law_389 : decode cL_law 389 = .ok (.aload_n 2, 1) := by decide +kernel
theorem dL_law_390 : decode cL_law 390 = .ok (.aload_n 0, 1) := by decide +kernel
theorem dL_law_391 : decode cL_law 391 = .ok (.iload_n 3, 1) := by decide +kernel
theorem dL_law_392 : decode cL_law 392 = .ok (.iconst 1, 1) := by decide +kernel
theorem dL_law_393 : decode cL_law 393 = .ok (.iadd, 1) := by decide +kernel
theorem dL_law_394 : decode cL_law 394 = .ok (.iaload, 1) := by decide +kernel
theorem dL_law_395 : decode cL_law 395 = .ok (.aload_n 0, 1) := by decide +kernel
theorem dL_law_396 : decode cL_law 396 = .ok (.iload_n 3, 1) := by decide +kernel
theorem dL_law_397 : decode cL_law 397 = .ok (.iconst 2, 1) := by decide +kernel
theorem dL_law_398 : decode cL_law 398 = .ok (.iadd, 1) := by decide +kernel
theorem dL_law_399 : decode cL_law 399 = .ok (.iaload, 1) := by decide +kernel
theorem dL_law_400 : decode cL_law 400 = .ok (.invokevirtual 45, 3) := by decide +kernel
theorem dL_law_403 : decode cL_law 403 = .ok (.if_icmp .eq 352, 3) := by decide +kernel
theorem dL_law_406 : decode cL_law 406 = .ok (.iconst 0, 1) := by decide +kernel
theorem dL_law_407 : decode cL_law 407 = .ok (.ireturn, 1) := by decide +kernel
theorem dL_law_408 : decode cL_law 408 = .ok (.aload_n 1, 1) := by decide +kernel
theorem dL_law_409 : decode cL_law 409 = .ok (.aload_n 0, 1) := by decide +kernel
theorem dL_law_410 : decode cL_law 410 = .ok (.iload_n 3, 1) := by decide +kernel
theorem dL_law_411 : decode cL_law 411 = .ok (.iconst 1, 1) := by decide +kernel
theorem dL_law_412 : decode cL_law 412 = .ok (.iadd, 1) := by decide +kernel
theorem dL_law_413 : decode cL_law 413 = .ok (.iaload, 1) := by decide +kernel
theorem dL_law_414 : decode cL_law 414 = .ok (.aload_n 0, 1) := by decide +kernel
theorem dL_law_415 : decode cL_law 415 = .ok (.iload_n 3, 1) := by decide +kernel
theorem dL_law_416 : decode cL_law 416 = .ok (.iconst 2, 1) := by decide +kernel
theorem dL_law_417 : decode cL_law 417 = .ok (.iadd, 1) := by decide +kernel
theorem dL_law_418 : decode cL_law 418 = .ok (.iaload, 1) := by decide +kernel
theorem dL_law_419 : decode cL_law 419 = .ok (.invokevirtual 46, 3) := by decide +kernel
theorem dL_law_422 : decode cL_law 422 = .ok (.aload_n 2, 1) := by decide +kernel
theorem dL_law_423 : decode cL_law 423 = .ok (.aload_n 0, 1) := by decide +kernel
theorem dL_law_424 : decode cL_law 424 = .ok (.iload_n 3, 1) := by decide +kernel
theorem dL_law_425 : decode cL_law 425 = .ok (.iconst 1, 1) := by decide +kernel
theorem dL_law_426 : decode cL_law 426 = .ok (.iadd, 1) := by decide +kernel
theorem dL_law_427 : decode cL_law 427 = .ok (.iaload, 1) := by decide +kernel
theorem dL_law_428 : decode cL_law 428 = .ok (.aload_n 0, 1) := by decide +kernel
theorem dL_law_429 : decode cL_law 429 = .ok (.iload_n 3, 1) := by decide +kernel
theorem dL_law_430 : decode cL_law 430 = .ok (.iconst 2, 1) := by decide +kernel
theorem dL_law_431 : decode cL_law 431 = .ok (.iadd, 1) := by decide +kernel
theorem dL_law_432 : decode cL_law 432 = .ok (.iaload, 1) := by decide +kernel
theorem dL_law_433 : decode cL_law 433 = .ok (.invokevirtual 49, 3) := by decide +kernel
theorem dL_law_436 : decode cL_law 436 = .ok (.if_icmp .eq 319, 3) := by decide +kernel
theorem dL_law_439 : decode cL_law 439 = .ok (.iconst 0, 1) := by decide +kernel
theorem dL_law_440 : decode cL_law 440 = .ok (.ireturn, 1) := by decide +kernel
theorem dL_law_441 : decode cL_law 441 = .ok (.aload_n 1, 1) := by decide +kernel
theorem dL_law_442 : decode cL_law 442 = .ok (.aload_n 0, 1) := by decide +kernel
theorem dL_law_443 : decode cL_law 443 = .ok (.iload_n 3, 1) := by decide +kernel
theorem dL_law_444 : decode cL_law 444 = .ok (.iconst 1, 1) := by decide +kernel
theorem dL_law_445 : decode cL_law 445 = .ok (.iadd, 1) := by decide +kernel
theorem dL_law_446 : decode cL_law 446 = .ok (.iaload, 1) := by decide +kernel
theorem dL_law_447 : decode cL_law 447 = .ok (.aload_n 0, 1) := by decide +kernel
theorem dL_law_448 : decode cL_law 448 = .ok (.iload_n 3, 1) := by decide +kernel
theorem dL_law_449 : decode cL_law 449 = .ok (.iconst 2, 1) := by decide +kernel
theorem dL_law_450 : decode cL_law 450 = .ok (.iadd, 1) := by decide +kernel
theorem dL_law_451 : decode cL_law 451 = .ok (.iaload, 1) := by decide +kernel
theorem dL_law_452 : decode cL_law 452 = .ok (.invokevirtual 50, 3) := by decide +kernel
theorem dL_law_455 : decode cL_law 455 = .ok (.aload_n 2, 1) := by decide +kernel
theorem dL_law_456 : decode cL_law 456 = .ok (.aload_n 0, 1) := by decide +kernel
theorem dL_law_457 : decode cL_law 457 = .ok (.iload_n 3, 1) := by decide +kernel
theorem dL_law_458 : decode cL_law 458 = .ok (.iconst 1, 1) := by decide +kernel
theorem dL_law_459 : decode cL_law 459 = .ok (.iadd, 1) := by decide +kernel
theorem dL_law_460 : decode cL_law 460 = .ok (.iaload, 1) := by decide +kernel
theorem dL_law_461 : decode cL_law 461 = .ok (.aload_n 0, 1) := by decide +kernel
theorem dL_law_462 : decode cL_law 462 = .ok (.iload_n 3, 1) := by decide +kernel
theorem dL_law_463 : decode cL_law 463 = .ok (.iconst 2, 1) := by decide +kernel
theorem dL_law_464 : decode cL_law 464 = .ok (.iadd, 1) := by decide +kernel
theorem dL_law_465 : decode cL_law 465 = .ok (.iaload, 1) := by decide +kernel
theorem dL_law_466 : decode cL_law 466 = .ok (.invokevirtual 53, 3) := by decide +kernel
theorem dL_law_469 : decode cL_law 469 = .ok (.if_icmp .eq 286, 3) := by decide +kernel
theorem dL_law_472 : decode cL_law 472 = .ok (.iconst 0, 1) := by decide +kernel
theorem dL_law_473 : decode cL_law 473 = .ok (.ireturn, 1) := by decide +kernel
theorem dL_law_474 : decode cL_law 474 = .ok (.aload_n 1, 1) := by decide +kernel
theorem dL_law_475 : decode cL_law 475 = .ok (.aload_n 0, 1) := by decide +kernel
theorem dL_law_476 : decode cL_law 476 = .ok (.iload_n 3, 1) := by decide +kernel
theorem dL_law_477 : decode cL_law 477 = .ok (.iconst 1, 1) := by decide +kernel
theorem dL_law_478 : decode cL_law 478 = .ok (.iadd, 1) := by decide +kernel
theorem dL_law_479 : decode cL_law 479 = .ok (.iaload, 1) := by decide +kernel
theorem dL_law_480 : decode cL_law 480 = .ok (.aload_n 0, 1) := by decide +kernel
theorem dL_law_481 : decode cL_law 481 = .ok (.iload_n 3, 1) := by decide +kernel
theorem dL_law_482 : decode cL_law 482 = .ok (.iconst 2, 1) := by decide +kernel
theorem dL_law_483 : decode cL_law 483 = .ok (.iadd, 1) := by decide +kernel
theorem dL_law_484 : decode cL_law 484 = .ok (.iaload, 1) := by decide +kernel
theorem dL_law_485 : decode cL_law 485 = .ok (.invokevirtual 54, 3) := by decide +kernel
theorem dL_law_488 : decode cL_law 488 = .ok (.aload_n 2, 1) := by decide +kernel
theorem dL_law_489 : decode cL_law 489 = .ok (.aload_n 0, 1) := by decide +kernel
theorem dL_law_490 : decode cL_law 490 = .ok (.iload_n 3, 1) := by decide +kernel
theorem dL_law_491 : decode cL_law 491 = .ok (.iconst 1, 1) := by decide +kernel
theorem dL_law_492 : decode cL_law 492 = .ok (.iadd, 1) := by decide +kernel
theorem dL_law_493 : decode cL_law 493 = .ok (.iaload, 1) := by decide +kernel
theorem dL_law_494 : decode cL_law 494 = .ok (.aload_n 0, 1) := by decide +kernel
theorem dL_law_495 : decode cL_law 495 = .ok (.iload_n 3, 1) := by decide +kernel
theorem dL_law_496 : decode cL_law 496 = .ok (.iconst 2, 1) := by decide +kernel
theorem dL_law_497 : decode cL_law 497 = .ok (.iadd, 1) := by decide +kernel
theorem dL_law_498 : decode cL_law 498 = .ok (.iaload, 1) := by decide +kernel
theorem dL_law_499 : decode cL_law 499 = .ok (.invokevirtual 57, 3) := by decide +kernel
theorem dL_law_502 : decode cL_law 502 = .ok (.if_icmp .eq 253, 3) := by decide +kernel
theorem dL_law_505 : decode cL_law 505 = .ok (.iconst 0, 1) := by decide +kernel
theorem dL_law_506 : decode cL_law 506 = .ok (.ireturn, 1) := by decide +kernel
theorem dL_law_507 : decode cL_law 507 = .ok (.aload_n 1, 1) := by decide +kernel
theorem dL_law_508 : decode cL_law 508 = .ok (.aload_n 0, 1) := by decide +kernel
theorem dL_law_509 : decode cL_law 509 = .ok (.iload_n 3, 1) := by decide +kernel
theorem dL_law_510 : decode cL_law 510 = .ok (.iconst 1, 1) := by decide +kernel
theorem dL_law_511 : decode cL_law 511 = .ok (.iadd, 1) := by decide +kernel
theorem dL_law_512 : decode cL_law 512 = .ok (.iaload, 1) := by decide +kernel
theorem dL_law_513 : decode cL_law 513 = .ok (.aload_n 0, 1) := by decide +kernel
theorem dL_law_514 : decode cL_law 514 = .ok (.iload_n 3, 1) := by decide +kernel
theorem dL_law_515 : decode cL_law 515 = .ok (.iconst 2, 1) := by decide +kernel
theorem dL_law_516 : decode cL_law 516 = .ok (.iadd, 1) := by decide +kernel
theorem dL_law_517 : decode cL_law 517 = .ok (.iaload, 1) := by decide +kernel
theorem dL_law_518 : decode cL_law 518 = .ok (.invokevirtual 58, 3) := by decide +kernel
theorem dL_law_521 : decode cL_law 521 = .ok (.aload_n 2, 1) := by decide +kernel
theorem dL_law_522 : decode cL_law 522 = .ok (.aload_n 0, 1) := by decide +kernel
theorem dL_law_523 : decode cL_law 523 = .ok (.iload_n 3, 1) := by decide +kernel
theorem dL_law_524 : decode cL_law 524 = .ok (.iconst 1, 1) := by decide +kernel
theorem dL_law_525 : decode cL_law 525 = .ok (.iadd, 1) := by decide +kernel
theorem dL_law_526 : decode cL_law 526 = .ok (.iaload, 1) := by decide +kernel
theorem dL_law_527 : decode cL_law 527 = .ok (.aload_n 0, 1) := by decide +kernel
theorem dL_law_528 : decode cL_law 528 = .ok (.iload_n 3, 1) := by decide +kernel
theorem dL_law_529 : decode cL_law 529 = .ok (.iconst 2, 1) := by decide +kernel
theorem dL_law_530 : decode cL_law 530 = .ok (.iadd, 1) := by decide +kernel
theorem dL_law_531 : decode cL_law 531 = .ok (.iaload, 1) := by decide +kernel
theorem dL_law_532 : decode cL_law 532 = .ok (.invokevirtual 61, 3) := by decide +kernel
theorem dL_law_535 : decode cL_law 535 = .ok (.if_icmp .eq 220, 3) := by decide +kernel
theorem dL_law_538 : decode cL_law 538 = .ok (.iconst 0, 1) := by decide +kernel
theorem dL_law_539 : decode cL_law 539 = .ok (.ireturn, 1) := by decide +kernel
theorem dL_law_540 : decode cL_law 540 = .ok (.aload_n 1, 1) := by decide +kernel
theorem dL_law_541 : decode cL_law 541 = .ok (.aload_n 0, 1) := by decide +kernel
theorem dL_law_542 : decode cL_law 542 = .ok (.iload_n 3, 1) := by decide +kernel
theorem dL_law_543 : decode cL_law 543 = .ok (.iconst 1, 1) := by decide +kernel
theorem dL_law_544 : decode cL_law 544 = .ok (.iadd, 1) := by decide +kernel
theorem dL_law_545 : decode cL_law 545 = .ok (.iaload, 1) := by decide +kernel
theorem dL_law_546 : decode cL_law 546 = .ok (.invokevirtual 62, 3) := by decide +kernel
theorem dL_law_549 : decode cL_law 549 = .ok (.aload_n 2, 1) := by decide +kernel
theorem dL_law_550 : decode cL_law 550 = .ok (.aload_n 0, 1) := by decide +kernel
theorem dL_law_551 : decode cL_law 551 = .ok (.iload_n 3, 1) := by decide +kernel
theorem dL_law_552 : decode cL_law 552 = .ok (.iconst 1, 1) := by decide +kernel
theorem dL_law_553 : decode cL_law 553 = .ok (.iadd, 1) := by decide +kernel
theorem dL_law_554 : decode cL_law 554 = .ok (.iaload, 1) := by decide +kernel
theorem dL_law_555 : decode cL_law 555 = .ok (.invokevirtual 65, 3) := by decide +kernel
theorem dL_law_558 : decode cL_law 558 = .ok (.if_icmp .eq 197, 3) := by decide +kernel
theorem dL_law_561 : decode cL_law 561 = .ok (.iconst 0, 1) := by decide +kernel
theorem dL_law_562 : decode cL_law 562 = .ok (.ireturn, 1) := by decide +kernel
theorem dL_law_563 : decode cL_law 563 = .ok (.aload_n 1, 1) := by decide +kernel
theorem dL_law_564 : decode cL_law 564 = .ok (.invokevirtual 66, 3) := by decide +kernel
theorem dL_law_567 : decode cL_law 567 = .ok (.aload_n 2, 1) := by decide +kernel
theorem dL_law_568 : decode cL_law 568 = .ok (.invokevirtual 70, 3) := by decide +kernel
theorem dL_law_571 : decode cL_law 571 = .ok (.if_icmp .eq 184, 3) := by decide +kernel
theorem dL_law_574 : decode cL_law 574 = .ok (.iconst 0, 1) := by decide +kernel
theorem dL_law_575 : decode cL_law 575 = .ok (.ireturn, 1) := by decide +kernel
theorem dL_law_576 : decode cL_law 576 = .ok (.aload_n 1, 1) := by decide +kernel
theorem dL_law_577 : decode cL_law 577 = .ok (.aload_n 0, 1) := by decide +kernel
theorem dL_law_578 : decode cL_law 578 = .ok (.iload_n 3, 1) := by decide +kernel
theorem dL_law_579 : decode cL_law 579 = .ok (.iconst 1, 1) := by decide +kernel
theorem dL_law_580 : decode cL_law 580 = .ok (.iadd, 1) := by decide +kernel
theorem dL_law_581 : decode cL_law 581 = .ok (.iaload, 1) := by decide +kernel
theorem dL_law_582 : decode cL_law 582 = .ok (.aload_n 0, 1) := by decide +kernel
theorem dL_law_583 : decode cL_law 583 = .ok (.iload_n 3, 1) := by decide +kernel
theorem dL_law_584 : decode cL_law 584 = .ok (.iconst 2, 1) := by decide +kernel
theorem dL_law_585 : decode cL_law 585 = .ok (.iadd, 1) := by decide +kernel
theorem dL_law_586 : decode cL_law 586 = .ok (.iaload, 1) := by decide +kernel
theorem dL_law_587 : decode cL_law 587 = .ok (.invokevirtual 71, 3) := by decide +kernel
theorem dL_law_590 : decode cL_law 590 = .ok (.aload_n 2, 1) := by decide +kernel
theorem dL_law_591 : decode cL_law 591 = .ok (.aload_n 0, 1) := by decide +kernel
theorem dL_law_592 : decode cL_law 592 = .ok (.iload_n 3, 1) := by decide +kernel
theorem dL_law_593 : decode cL_law 593 = .ok (.iconst 1, 1) := by decide +kernel
theorem dL_law_594 : decode cL_law 594 = .ok (.iadd, 1) := by decide +kernel
theorem dL_law_595 : decode cL_law 595 = .ok (.iaload, 1) := by decide +kernel
theorem dL_law_596 : decode cL_law 596 = .ok (.aload_n 0, 1) := by decide +kernel
theorem dL_law_597 : decode cL_law 597 = .ok (.iload_n 3, 1) := by decide +kernel
theorem dL_law_598 : decode cL_law 598 = .ok (.iconst 2, 1) := by decide +kernel
theorem dL_law_599 : decode cL_law 599 = .ok (.iadd, 1) := by decide +kernel
theorem dL_law_600 : decode cL_law 600 = .ok (.iaload, 1) := by decide +kernel
theorem dL_law_601 : decode cL_law 601 = .ok (.invokevirtual 74, 3) := by decide +kernel
theorem dL_law_604 : decode cL_law 604 = .ok (.lcmp, 1) := by decide +kernel
theorem dL_law_605 : decode cL_law 605 = .ok (.ifCond .eq 150, 3) := by decide +kernel
theorem dL_law_608 : decode cL_law 608 = .ok (.iconst 0, 1) := by decide +kernel
theorem dL_law_609 : decode cL_law 609 = .ok (.ireturn, 1) := by decide +kernel
theorem dL_law_610 : decode cL_law 610 = .ok (.aload_n 1, 1) := by decide +kernel
theorem dL_law_611 : decode cL_law 611 = .ok (.aload_n 0, 1) := by decide +kernel
theorem dL_law_612 : decode cL_law 612 = .ok (.iload_n 3, 1) := by decide +kernel
theorem dL_law_613 : decode cL_law 613 = .ok (.iconst 1, 1) := by decide +kernel
theorem dL_law_614 : decode cL_law 614 = .ok (.iadd, 1) := by decide +kernel
theorem dL_law_615 : decode cL_law 615 = .ok (.iaload, 1) := by decide +kernel
theorem dL_law_616 : decode cL_law 616 = .ok (.invokevirtual 75, 3) := by decide +kernel
theorem dL_law_619 : decode cL_law 619 = .ok (.aload_n 2, 1) := by decide +kernel
theorem dL_law_620 : decode cL_law 620 = .ok (.aload_n 0, 1) := by decide +kernel
theorem dL_law_621 : decode cL_law 621 = .ok (.iload_n 3, 1) := by decide +kernel
theorem dL_law_622 : decode cL_law 622 = .ok (.iconst 1, 1) := by decide +kernel
theorem dL_law_623 : decode cL_law 623 = .ok (.iadd, 1) := by decide +kernel
theorem dL_law_624 : decode cL_law 624 = .ok (.iaload, 1) := by decide +kernel
theorem dL_law_625 : decode cL_law 625 = .ok (.invokevirtual 78, 3) := by decide +kernel
theorem dL_law_628 : decode cL_law 628 = .ok (.if_icmp .eq 127, 3) := by decide +kernel
theorem dL_law_631 : decode cL_law 631 = .ok (.iconst 0, 1) := by decide +kernel
theorem dL_law_632 : decode cL_law 632 = .ok (.ireturn, 1) := by decide +kernel
theorem dL_law_633 : decode cL_law 633 = .ok (.aload_n 1, 1) := by decide +kernel
theorem dL_law_634 : decode cL_law 634 = .ok (.aload_n 0, 1) := by decide +kernel
theorem dL_law_635 : decode cL_law 635 = .ok (.iload_n 3, 1) := by decide +kernel
theorem dL_law_636 : decode cL_law 636 = .ok (.iconst 1, 1) := by decide +kernel
theorem dL_law_637 : decode cL_law 637 = .ok (.iadd, 1) := by decide +kernel
theorem dL_law_638 : decode cL_law 638 = .ok (.iaload, 1) := by decide +kernel
theorem dL_law_639 : decode cL_law 639 = .ok (.invokevirtual 79, 3) := by decide +kernel
theorem dL_law_642 : decode cL_law 642 = .ok (.aload_n 2, 1) := by decide +kernel
theorem dL_law_643 : decode cL_law 643 = .ok (.aload_n 0, 1) := by decide +kernel
theorem dL_law_644 : decode cL_law 644 = .ok (.iload_n 3, 1) := by decide +kernel
theorem dL_law_645 : decode cL_law 645 = .ok (.iconst 1, 1) := by decide +kernel
theorem dL_law_646 : decode cL_law 646 = .ok (.iadd, 1) := by decide +kernel
theorem dL_law_647 : decode cL_law 647 = .ok (.iaload, 1) := by decide +kernel
theorem dL_law_648 : decode cL_law 648 = .ok (.invokevirtual 82, 3) := by decide +kernel
theorem dL_law_651 : decode cL_law 651 = .ok (.if_icmp .eq 104, 3) := by decide +kernel
theorem dL_law_654 : decode cL_law 654 = .ok (.iconst 0, 1) := by decide +kernel
theorem dL_law_655 : decode cL_law 655 = .ok (.ireturn, 1) := by decide +kernel
theorem dL_law_656 : decode cL_law 656 = .ok (.aload_n 1, 1) := by decide +kernel
theorem dL_law_657 : decode cL_law 657 = .ok (.invokevirtual 83, 3) := by decide +kernel
theorem dL_law_660 : decode cL_law 660 = .ok (.aload_n 2, 1) := by decide +kernel
theorem dL_law_661 : decode cL_law 661 = .ok (.invokevirtual 86, 3) := by decide +kernel
theorem dL_law_664 : decode cL_law 664 = .ok (.if_icmp .eq 91, 3) := by decide +kernel
theorem dL_law_667 : decode cL_law 667 = .ok (.iconst 0, 1) := by decide +kernel
theorem dL_law_668 : decode cL_law 668 = .ok (.ireturn, 1) := by decide +kernel
theorem dL_law_669 : decode cL_law 669 = .ok (.aload_n 1, 1) := by decide +kernel
theorem dL_law_670 : decode cL_law 670 = .ok (.invokevirtual 87, 3) := by decide +kernel
theorem dL_law_673 : decode cL_law 673 = .ok (.aload_n 2, 1) := by decide +kernel
theorem dL_law_674 : decode cL_law 674 = .ok (.invokevirtual 90, 3) := by decide +kernel
theorem dL_law_677 : decode cL_law 677 = .ok (.if_icmp .eq 78, 3) := by decide +kernel
theorem dL_law_680 : decode cL_law 680 = .ok (.iconst 0, 1) := by decide +kernel
theorem dL_law_681 : decode cL_law 681 = .ok (.ireturn, 1) := by decide +kernel
theorem dL_law_682 : decode cL_law 682 = .ok (.aload_n 1, 1) := by decide +kernel
theorem dL_law_683 : decode cL_law 683 = .ok (.aload_n 0, 1) := by decide +kernel
theorem dL_law_684 : decode cL_law 684 = .ok (.iload_n 3, 1) := by decide +kernel
theorem dL_law_685 : decode cL_law 685 = .ok (.iconst 1, 1) := by decide +kernel
theorem dL_law_686 : decode cL_law 686 = .ok (.iadd, 1) := by decide +kernel
theorem dL_law_687 : decode cL_law 687 = .ok (.iaload, 1) := by decide +kernel
theorem dL_law_688 : decode cL_law 688 = .ok (.invokevirtual 91, 3) := by decide +kernel
theorem dL_law_691 : decode cL_law 691 = .ok (.aload_n 2, 1) := by decide +kernel
theorem dL_law_692 : decode cL_law 692 = .ok (.aload_n 0, 1) := by decide +kernel
theorem dL_law_693 : decode cL_law 693 = .ok (.iload_n 3, 1) := by decide +kernel
theorem dL_law_694 : decode cL_law 694 = .ok (.iconst 1, 1) := by decide +kernel
theorem dL_law_695 : decode cL_law 695 = .ok (.iadd, 1) := by decide +kernel
theorem dL_law_696 : decode cL_law 696 = .ok (.iaload, 1) := by decide +kernel
theorem dL_law_697 : decode cL_law 697 = .ok (.invokevirtual 94, 3) := by decide +kernel
theorem dL_law_700 : decode cL_law 700 = .ok (.if_icmp .eq 55, 3) := by decide +kernel
theorem dL_law_703 : decode cL_law 703 = .ok (.iconst 0, 1) := by decide +kernel
theorem dL_law_704 : decode cL_law 704 = .ok (.ireturn, 1) := by decide +kernel
theorem dL_law_705 : decode cL_law 705 = .ok (.aload_n 1, 1) := by decide +kernel
theorem dL_law_706 : decode cL_law 706 = .ok (.invokevirtual 95, 3) := by decide +kernel
theorem dL_law_709 : decode cL_law 709 = .ok (.aload_n 2, 1) := by decide +kernel
theorem dL_law_710 : decode cL_law 710 = .ok (.invokevirtual 98, 3) := by decide +kernel
theorem dL_law_713 : decode cL_law 713 = .ok (.if_icmp .eq 42, 3) := by decide +kernel
theorem dL_law_716 : decode cL_law 716 = .ok (.iconst 0, 1) := by decide +kernel
theorem dL_law_717 : decode cL_law 717 = .ok (.ireturn, 1) := by decide +kernel
theorem dL_law_718 : decode cL_law 718 = .ok (.aload_n 1, 1) := by decide +kernel
theorem dL_law_719 : decode cL_law 719 = .ok (.aload_n 0, 1) := by decide +kernel
theorem dL_law_720 : decode cL_law 720 = .ok (.iload_n 3, 1) := by decide +kernel
theorem dL_law_721 : decode cL_law 721 = .ok (.iconst 1, 1) := by decide +kernel
theorem dL_law_722 : decode cL_law 722 = .ok (.iadd, 1) := by decide +kernel
theorem dL_law_723 : decode cL_law 723 = .ok (.iaload, 1) := by decide +kernel
theorem dL_law_724 : decode cL_law 724 = .ok (.invokevirtual 99, 3) := by decide +kernel
theorem dL_law_727 : decode cL_law 727 = .ok (.aload_n 2, 1) := by decide +kernel
theorem dL_law_728 : decode cL_law 728 = .ok (.aload_n 0, 1) := by decide +kernel
theorem dL_law_729 : decode cL_law 729 = .ok (.iload_n 3, 1) := by decide +kernel
theorem dL_law_730 : decode cL_law 730 = .ok (.iconst 1, 1) := by decide +kernel
theorem dL_law_731 : decode cL_law 731 = .ok (.iadd, 1) := by decide +kernel
theorem dL_law_732 : decode cL_law 732 = .ok (.iaload, 1) := by decide +kernel
theorem dL_law_733 : decode cL_law 733 = .ok (.invokevirtual 102, 3) := by decide +kernel
theorem dL_law_736 : decode cL_law 736 = .ok (.if_icmp .eq 19, 3) := by decide +kernel
theorem dL_law_739 : decode cL_law 739 = .ok (.iconst 0, 1) := by decide +kernel
theorem dL_law_740 : decode cL_law 740 = .ok (.ireturn, 1) := by decide +kernel
theorem dL_law_741 : decode cL_law 741 = .ok (.aload_n 1, 1) := by decide +kernel
theorem dL_law_742 : decode cL_law 742 = .ok (.invokevirtual 103, 3) := by decide +kernel
theorem dL_law_745 : decode cL_law 745 = .ok (.aload_n 2, 1) := by decide +kernel
theorem dL_law_746 : decode cL_law 746 = .ok (.invokevirtual 107, 3) := by decide +kernel
theorem dL_law_749 : decode cL_law 749 = .ok (.lcmp, 1) := by decide +kernel
theorem dL_law_750 : decode cL_law 750 = .ok (.ifCond .eq 5, 3) := by decide +kernel
theorem dL_law_753 : decode cL_law 753 = .ok (.iconst 0, 1) := by decide +kernel
theorem dL_law_754 : decode cL_law 754 = .ok (.ireturn, 1) := by decide +kernel
theorem dL_law_755 : decode cL_law 755 = .ok (.iinc 3 5, 3) := by decide +kernel
theorem dL_law_758 : decode cL_law 758 = .ok (.goto (-740), 3) := by decide +kernel
theorem dL_law_761 : decode cL_law 761 = .ok (.iconst 1, 1) := by decide +kernel
theorem dL_law_762 : decode cL_law 762 = .ok (.ireturn, 1) := by decide +kernel
end
section
-- THE QUIET MACHINE: memory of a fixed shape (ids), one judgement qm_Wp, a row an instruction
/-- memory: ints and longs by object and slot -/
abbrev qm_M : Type := (Nat → Nat → Int32) × (Nat → Nat → Int64)
/-- what a run fixes: classes' data, array classes (int, long, Stream, Tree), the first own address, the read-only arrays' addresses -/
abbrev qm_E : Type := va_G × (Nat → ClassId) × Nat × (Nat → Nat)
def qm_kind (id : Nat) : Nat := if id < 192 then (if id % 32 = 0 then 2 else if id % 32 = 1 then 9 else if id % 32 < 15 then 1 else 0) else if id < 200 then 0 else ([5, 10, 4, 7, 7, 7, 7, 7, 3, 7, 6, 8, 8, 7, 7, 7, 7, 7] : List Nat).getD (id - 200) 0
def qm_len (id : Nat) : Nat := if id < 203 then 0 else ([120, 12, 12, 12, 13, 0, 120, 0, 215, 1075, 3, 120, 12, 12, 12] : List Nat).getD (id - 203) 0
def qm_off (id : Nat) : Nat := if id < 32 then 1 + id else if id < 192 then 2 + 15 * (id / 32) + id % 32 else if id = 200 then 0 else if id = 201 then 16 else id - 110
def qm_inv (o : Nat) : Nat := if o = 0 then 200 else if o < 16 then o - 1 else if o = 16 then 201 else if o < 92 then 32 * ((o - 2) / 15) + (o - 2) % 15 else o + 110
def qm_a (E : qm_E) (id : Nat) : Nat := if id < 218 then E.2.2.1 + qm_off id else E.2.2.2 (id - 218)
theorem qm_kind_big {id : Nat} (h : qm_kind id ≠ 0) : id < 218 := by
  rcases Nat.lt_or_ge id 218 with q | q
  · exact q
  · exfalso
    apply h
    unfold qm_kind
    rw [if_neg (by omega), if_neg (by omega)]
    rw [List.getD_eq_getElem?_getD, List.getElem?_eq_none (by simp; omega)]
    rfl
theorem qm_inv_off : ∀ id, id < 218 → qm_kind id ≠ 0 → qm_inv (qm_off id) = id ∧ qm_off id < 108 := by decide +kernel
theorem qm_a_eq (E : qm_E) {id : Nat} (h : qm_kind id ≠ 0) : qm_a E id = E.2.2.1 + qm_off id := by
  unfold qm_a; rw [if_pos (qm_kind_big h)]
theorem qm_a_inj {E : qm_E} {i j : Nat} (hi : qm_kind i ≠ 0) (hj : qm_kind j ≠ 0) (h : qm_a E i = qm_a E j) : i = j := by
  rw [qm_a_eq E hi, qm_a_eq E hj] at h
  have h2 : qm_off i = qm_off j := by omega
  rw [← (qm_inv_off i (qm_kind_big hi) hi).1, ← (qm_inv_off j (qm_kind_big hj) hj).1, h2]
def qm_fs (E : qm_E) (σ : qm_M) (c id : Nat) : List Value := match c with
  | 0 => [.int (σ.1 id 0), .int (σ.1 id 1), .int (σ.1 id 2), .int (σ.1 id 3), .int (σ.1 id 4), .int (σ.1 id 5), .int (σ.1 id 6), .int (σ.1 id 7), .int (σ.1 id 8), .int (σ.1 id 9), .int (σ.1 id 10), .int (σ.1 id 11), .long (σ.2 id 12), .long (σ.2 id 13)]
  | 1 => [.ref (qm_a E (id + 1)), .int (σ.1 id 1), .int (σ.1 id 2), .int (σ.1 id 3), .int (σ.1 id 4), .int (σ.1 id 5), .int (σ.1 id 6), .int (σ.1 id 7), .int (σ.1 id 8), .int (σ.1 id 9)]
  | 2 => [.ref (qm_a E 209), .int (σ.1 id 1)]
  | 3 => [.ref (qm_a E 203), .int (σ.1 id 1), .ref (qm_a E 204), .ref (qm_a E 205), .ref (qm_a E 206), .int (σ.1 id 5), .ref (qm_a E 207), .int (σ.1 id 7), .int (σ.1 id 8), .int (σ.1 id 9)]
  | 4 => [.ref (qm_a E 0), .ref (qm_a E 201), .int (σ.1 id 2), .int (σ.1 id 3), .ref (qm_a E 202), .ref (qm_a E 208), .int (σ.1 id 6), .int (σ.1 id 7), .int (σ.1 id 8)]
  | _ => [.ref (qm_a E 211), .ref (qm_a E 212), .int (σ.1 id 2), .ref (qm_a E 213), .long (σ.2 id 4), .long (σ.2 id 5), .ref (qm_a E 214), .int (σ.1 id 7), .int (σ.1 id 8), .int (σ.1 id 9), .int (σ.1 id 10), .ref (qm_a E 215), .ref (qm_a E 216), .ref (qm_a E 217), .int (σ.1 id 14), .int (σ.1 id 15), .int (σ.1 id 16)]
def qm_lay (E : qm_E) (σ : qm_M) (id : Nat) : va_E :=
  if qm_kind id < 7 then .inr (qm_kind id - 1, qm_fs E σ (qm_kind id - 1) id)
  else if qm_kind id = 7 then .inl (E.2.1 0, qm_len id, .inl (σ.1 id))
  else if qm_kind id = 8 then .inl (E.2.1 1, qm_len id, .inr (.inl (σ.2 id)))
  else if qm_kind id = 9 then .inl (E.2.1 2, 13, .inr (.inr (.inr (.inr fun j => some (qm_a E (id + 1 + j))))))
  else .inl (E.2.1 3, 5, .inr (.inr (.inr (.inr fun j => some (qm_a E (32 * (j + 1)))))))
def qm_H (E : qm_E) (σ : qm_M) (H : Heap) : Prop := ∀ id, qm_kind id ≠ 0 → va_at E.1 vwCl (qm_a E id, qm_lay E σ id) H
def qm_A (E : qm_E) : Nat → Prop := fun q => E.2.2.1 ≤ q
/-- writing an int, a long -/
def qm_si (σ : qm_M) (id k : Nat) (x : Int32) : qm_M := (fun i j => if i = id ∧ j = k then x else σ.1 i j, σ.2)
def qm_sl (σ : qm_M) (id k : Nat) (x : Int64) : qm_M := (σ.1, fun i j => if i = id ∧ j = k then x else σ.2 i j)
theorem qm_si_row (σ : qm_M) (id k : Nat) (x : Int32) : (qm_si σ id k x).1 id = upd (σ.1 id) k x := by
  funext j; simp [qm_si, upd]
theorem qm_si_at (σ : qm_M) (id k : Nat) (x : Int32) (j : Nat) : (qm_si σ id k x).1 id j = if j = k then x else σ.1 id j := by simp [qm_si]
theorem qm_si_ne (σ : qm_M) {id i : Nat} (k : Nat) (x : Int32) (h : i ≠ id) : (qm_si σ id k x).1 i = σ.1 i := by
  funext j; simp [qm_si, h]
theorem qm_sl_row (σ : qm_M) (id k : Nat) (x : Int64) : (qm_sl σ id k x).2 id = vp_updL (σ.2 id) k x := by
  funext j; simp [qm_sl, vp_updL]
theorem qm_sl_at (σ : qm_M) (id k : Nat) (x : Int64) (j : Nat) : (qm_sl σ id k x).2 id j = if j = k then x else σ.2 id j := by simp [qm_sl]
theorem qm_sl_ne (σ : qm_M) {id i : Nat} (k : Nat) (x : Int64) (h : i ≠ id) : (qm_sl σ id k x).2 i = σ.2 i := by
  funext j; simp [qm_sl, h]
theorem qm_si_2 (σ : qm_M) (id k : Nat) (x : Int32) : (qm_si σ id k x).2 = σ.2 := rfl
theorem qm_sl_1 (σ : qm_M) (id k : Nat) (x : Int64) : (qm_sl σ id k x).1 = σ.1 := rfl
theorem qm_fs_cong (E : qm_E) {σ τ : qm_M} {id : Nat} (h1 : τ.1 id = σ.1 id) (h2 : τ.2 id = σ.2 id) (c : Nat) : qm_fs E τ c id = qm_fs E σ c id := by
  unfold qm_fs
  rw [h1, h2]
theorem qm_lay_cong (E : qm_E) {σ τ : qm_M} {id : Nat} (h1 : τ.1 id = σ.1 id) (h2 : τ.2 id = σ.2 id) : qm_lay E τ id = qm_lay E σ id := by
  unfold qm_lay
  rw [h1, h2, qm_fs_cong E h1 h2]
theorem qm_H_set {E : qm_E} {σ τ : qm_M} {H H1 : Heap} {id : Nat} (h : qm_H E σ H) (hid : qm_kind id ≠ 0) (hn : va_at E.1 vwCl (qm_a E id, qm_lay E τ id) H1) (oq : ∀ q, q ≠ qm_a E id → H1[q]? = H[q]?) (h1 : ∀ i, i ≠ id → τ.1 i = σ.1 i) (h2 : ∀ i, i ≠ id → τ.2 i = σ.2 i) : qm_H E τ H1 := by
  intro i hi
  by_cases e : i = id
  · subst e; exact hn
  · rw [qm_lay_cong E (h1 i e) (h2 i e)]
    exact va_at.kept (h i hi) (oq _ (fun q => e (qm_a_inj hi hid q)))
theorem qm_H_A {E : qm_E} {id : Nat} (hid : qm_kind id ≠ 0) : qm_A E (qm_a E id) := by
  unfold qm_A; rw [qm_a_eq E hid]; exact Nat.le_add_right _ _
theorem qm_lay_obj (E : qm_E) (σ : qm_M) {id c : Nat} (h : qm_kind id = c + 1) (hc : c < 6) : qm_lay E σ id = .inr (c, qm_fs E σ c id) := by
  unfold qm_lay; rw [if_pos (by omega), h]; rfl
theorem qm_lay_ai (E : qm_E) (σ : qm_M) {id : Nat} (h : qm_kind id = 7) : qm_lay E σ id = .inl (E.2.1 0, qm_len id, .inl (σ.1 id)) := by
  unfold qm_lay; rw [if_neg (by omega), if_pos h]
theorem qm_lay_al (E : qm_E) (σ : qm_M) {id : Nat} (h : qm_kind id = 8) : qm_lay E σ id = .inl (E.2.1 1, qm_len id, .inr (.inl (σ.2 id))) := by
  unfold qm_lay; rw [if_neg (by omega), if_neg (by omega), if_pos h]
theorem qm_lay_as (E : qm_E) (σ : qm_M) {id : Nat} (h : qm_kind id = 9) : qm_lay E σ id = .inl (E.2.1 2, 13, .inr (.inr (.inr (.inr fun j => some (qm_a E (id + 1 + j)))))) := by
  unfold qm_lay; rw [if_neg (by omega), if_neg (by omega), if_neg (by omega), if_pos h]
theorem qm_lay_at (E : qm_E) (σ : qm_M) {id : Nat} (h : qm_kind id = 10) : qm_lay E σ id = .inl (E.2.1 3, 5, .inr (.inr (.inr (.inr fun j => some (qm_a E (32 * (j + 1))))))) := by
  unfold qm_lay; rw [if_neg (by omega), if_neg (by omega), if_neg (by omega), if_neg (by omega)]
end
section
-- the words that keep over calls, each by its place in the tables
def qm_ws : List Cond := lw_tbl.filter goodWord
theorem qm_mem {w : Cond} (h : w ∈ tables_1) (hg : goodWord w = true) : w ∈ qm_ws := List.mem_filter.mpr ⟨List.mem_append_right _ h, hg⟩
theorem qm_mem1 {i : Nat} {w : Cond} (h : tables_1_1[i]? = some w) (hg : goodWord w = true) : w ∈ qm_ws := qm_mem (List.mem_append_left _ (List.mem_of_getElem? h)) hg
theorem qm_mem2 {i : Nat} {w : Cond} (h : tables_1_2[i]? = some w) (hg : goodWord w = true) : w ∈ qm_ws := qm_mem (List.mem_append_right _ (List.mem_append_left _ (List.mem_of_getElem? h))) hg
theorem qm_mem3 {i : Nat} {w : Cond} (h : tables_1_3[i]? = some w) (hg : goodWord w = true) : w ∈ qm_ws := qm_mem (List.mem_append_right _ (List.mem_append_right _ (List.mem_append_left _ (List.mem_of_getElem? h)))) hg
theorem qm_mem4 {i : Nat} {w : Cond} (h : tables_1_4[i]? = some w) (hg : goodWord w = true) : w ∈ qm_ws := qm_mem (List.mem_append_right _ (List.mem_append_right _ (List.mem_append_right _ (List.mem_append_left _ (List.mem_of_getElem? h))))) hg
theorem qm_mem5 {i : Nat} {w : Cond} (h : tables_1_5[i]? = some w) (hg : goodWord w = true) : w ∈ qm_ws := qm_mem (List.mem_append_right _ (List.mem_append_right _ (List.mem_append_right _ (List.mem_append_right _ (List.mem_of_getElem? h))))) hg
theorem qm_memS {i : Nat} {q : MethodName × Nat} (h : lw_privs[i]? = some q) : Cond.selects q.1.cls q.1 q.1 ∈ qm_ws := List.mem_filter.mpr ⟨List.mem_append_left _ (List.mem_map.mpr ⟨q, List.mem_of_getElem? h, rfl⟩), rfl⟩
theorem qm_good : GoodIn qm_ws qm_ws := fun w hw => ⟨hw, good_of_word (List.mem_filter.mp hw).2⟩
theorem qw_0 : Jvm.Cond.initialized "HungStreamsLaw" ∈ qm_ws := qm_mem1 (i := 0) rfl rfl
theorem qw_1 : Jvm.Cond.initialized "HungStreams" ∈ qm_ws := qm_mem1 (i := 1) rfl rfl
theorem qw_2 : Jvm.Cond.initialized "HungStreams$Tree" ∈ qm_ws := qm_mem1 (i := 2) rfl rfl
theorem qw_3 : Jvm.Cond.initialized "HungStreams$Stream" ∈ qm_ws := qm_mem1 (i := 3) rfl rfl
theorem qw_4 : Jvm.Cond.initialized "HungStreams$TypedText" ∈ qm_ws := qm_mem1 (i := 4) rfl rfl
theorem qw_5 : Jvm.Cond.initialized "HungStreams$TreeWriter" ∈ qm_ws := qm_mem1 (i := 5) rfl rfl
theorem qw_6 : Jvm.Cond.initialized "HungStreamsModel" ∈ qm_ws := qm_mem1 (i := 6) rfl rfl
theorem qw_7 : Jvm.Cond.initialized "java/lang/Math" ∈ qm_ws := qm_mem1 (i := 7) rfl rfl
theorem qw_8 : Jvm.Cond.initialized "java/lang/Integer" ∈ qm_ws := qm_mem1 (i := 8) rfl rfl
theorem qw_9 : Jvm.Cond.initialized "HungStreams$Frames" ∈ qm_ws := qm_mem1 (i := 9) rfl rfl
theorem qw_10 : Jvm.Cond.initialized "HungStreams$Shares" ∈ qm_ws := qm_mem1 (i := 10) rfl rfl
theorem qw_11 : Jvm.Cond.classLink "HungStreamsLaw" (7 : Nat) "HungStreams" ∈ qm_ws := qm_mem1 (i := 11) rfl rfl
theorem qw_12 : Jvm.Cond.instantiable "HungStreams" (9 : Nat) ∈ qm_ws := qm_mem1 (i := 12) rfl rfl
theorem qw_13 : Jvm.Cond.methodLink "HungStreamsLaw" (9 : Nat) ({ cls := "HungStreams", name := "<init>", desc := "()V" } : Jvm.MethodName) ∈ qm_ws := qm_mem1 (i := 13) rfl rfl
theorem qw_14 : Jvm.Cond.instanceMethod ({ cls := "HungStreams", name := "<init>", desc := "()V" } : Jvm.MethodName) ∈ qm_ws := qm_mem1 (i := 14) rfl rfl
theorem qw_15 : Jvm.Cond.code ({ cls := "HungStreams", name := "<init>", desc := "()V" } : Jvm.MethodName) prog_1_method_1_code (2 : Nat) (Option.none : Option Jvm.ClassFile.FieldType) ∈ qm_ws := qm_mem1 (i := 15) rfl rfl
theorem qw_16 : Jvm.Cond.methodLink "HungStreams" (1 : Nat) ({ cls := "java/lang/Object", name := "<init>", desc := "()V" } : Jvm.MethodName) ∈ qm_ws := qm_mem1 (i := 16) rfl rfl
theorem qw_17 : Jvm.Cond.instanceMethod ({ cls := "java/lang/Object", name := "<init>", desc := "()V" } : Jvm.MethodName) ∈ qm_ws := qm_mem1 (i := 17) rfl rfl
theorem qw_18 : Jvm.Cond.code ({ cls := "java/lang/Object", name := "<init>", desc := "()V" } : Jvm.MethodName) object_method_1_code (1 : Nat) (Option.none : Option Jvm.ClassFile.FieldType) ∈ qm_ws := qm_mem1 (i := 18) rfl rfl
theorem qw_19 : Jvm.Cond.classLink "HungStreams" (7 : Nat) "HungStreams$Tree" ∈ qm_ws := qm_mem1 (i := 19) rfl rfl
theorem qw_20 : Jvm.Cond.instantiable "HungStreams$Tree" (10 : Nat) ∈ qm_ws := qm_mem1 (i := 20) rfl rfl
theorem qw_21 : Jvm.Cond.methodLink "HungStreams" (9 : Nat) ({ cls := "HungStreams$Tree", name := "<init>", desc := "()V" } : Jvm.MethodName) ∈ qm_ws := qm_mem1 (i := 21) rfl rfl
theorem qw_22 : Jvm.Cond.instanceMethod ({ cls := "HungStreams$Tree", name := "<init>", desc := "()V" } : Jvm.MethodName) ∈ qm_ws := qm_mem1 (i := 22) rfl rfl
theorem qw_23 : Jvm.Cond.code ({ cls := "HungStreams$Tree", name := "<init>", desc := "()V" } : Jvm.MethodName) prog_5_method_1_code (2 : Nat) (Option.none : Option Jvm.ClassFile.FieldType) ∈ qm_ws := qm_mem1 (i := 23) rfl rfl
theorem qw_24 : Jvm.Cond.methodLink "HungStreams$Tree" (3 : Nat) ({ cls := "java/lang/Object", name := "<init>", desc := "()V" } : Jvm.MethodName) ∈ qm_ws := qm_mem1 (i := 24) rfl rfl
theorem qw_25 : Jvm.Cond.classLink "HungStreams$Tree" (9 : Nat) "HungStreams$Stream" ∈ qm_ws := qm_mem1 (i := 25) rfl rfl
theorem qw_27 : Jvm.Cond.instantiable "HungStreams$Stream" (14 : Nat) ∈ qm_ws := qm_mem1 (i := 27) rfl rfl
theorem qw_29 : Jvm.Cond.instanceMethod ({ cls := "HungStreams$Stream", name := "<init>", desc := "()V" } : Jvm.MethodName) ∈ qm_ws := qm_mem1 (i := 29) rfl rfl
theorem qw_30 : Jvm.Cond.code ({ cls := "HungStreams$Stream", name := "<init>", desc := "()V" } : Jvm.MethodName) prog_4_method_1_code (1 : Nat) (Option.none : Option Jvm.ClassFile.FieldType) ∈ qm_ws := qm_mem1 (i := 30) rfl rfl
theorem qw_31 : Jvm.Cond.methodLink "HungStreams$Stream" (3 : Nat) ({ cls := "java/lang/Object", name := "<init>", desc := "()V" } : Jvm.MethodName) ∈ qm_ws := qm_mem1 (i := 31) rfl rfl
theorem qw_32 : Jvm.Cond.fieldLink "HungStreams$Stream" (9 : Nat) "HungStreams$Stream" "parent" "I" ∈ qm_ws := qm_mem1 (i := 32) rfl rfl
theorem qw_33 : Jvm.Cond.fieldLink "HungStreams$Shares" (36 : Nat) "HungStreams$Stream" "parent" "I" ∈ qm_ws := qm_mem1 (i := 33) rfl rfl
theorem qw_34 : Jvm.Cond.fieldLink "HungStreams" (71 : Nat) "HungStreams$Stream" "parent" "I" ∈ qm_ws := qm_mem1 (i := 34) rfl rfl
theorem qw_35 : Jvm.Cond.fieldLink "HungStreams$Frames" (65 : Nat) "HungStreams$Stream" "parent" "I" ∈ qm_ws := qm_mem1 (i := 35) rfl rfl
theorem qw_36 : Jvm.Cond.fieldLink "HungStreams$Tree" (62 : Nat) "HungStreams$Stream" "parent" "I" ∈ qm_ws := qm_mem1 (i := 36) rfl rfl
theorem qw_37 : Jvm.Cond.fieldLink "HungStreams$Stream" (15 : Nat) "HungStreams$Stream" "weight" "I" ∈ qm_ws := qm_mem1 (i := 37) rfl rfl
theorem qw_38 : Jvm.Cond.fieldLink "HungStreams$Shares" (30 : Nat) "HungStreams$Stream" "weight" "I" ∈ qm_ws := qm_mem1 (i := 38) rfl rfl
theorem qw_39 : Jvm.Cond.fieldLink "HungStreams$TreeWriter" (40 : Nat) "HungStreams$Stream" "weight" "I" ∈ qm_ws := qm_mem1 (i := 39) rfl rfl
theorem qw_40 : Jvm.Cond.fieldLink "HungStreams" (80 : Nat) "HungStreams$Stream" "weight" "I" ∈ qm_ws := qm_mem1 (i := 40) rfl rfl
theorem qw_41 : Jvm.Cond.fieldLink "HungStreams$Tree" (68 : Nat) "HungStreams$Stream" "weight" "I" ∈ qm_ws := qm_mem1 (i := 41) rfl rfl
theorem qw_42 : Jvm.Cond.fieldLink "HungStreams$Frames" (136 : Nat) "HungStreams$Stream" "weight" "I" ∈ qm_ws := qm_mem1 (i := 42) rfl rfl
theorem qw_43 : Jvm.Cond.fieldLink "HungStreams$Stream" (18 : Nat) "HungStreams$Stream" "ready" "I" ∈ qm_ws := qm_mem1 (i := 43) rfl rfl
theorem qw_44 : Jvm.Cond.fieldLink "HungStreams" (98 : Nat) "HungStreams$Stream" "ready" "I" ∈ qm_ws := qm_mem1 (i := 44) rfl rfl
theorem qw_45 : Jvm.Cond.fieldLink "HungStreams$Frames" (113 : Nat) "HungStreams$Stream" "ready" "I" ∈ qm_ws := qm_mem1 (i := 45) rfl rfl
theorem qw_46 : Jvm.Cond.fieldLink "HungStreams$Stream" (21 : Nat) "HungStreams$Stream" "window" "I" ∈ qm_ws := qm_mem1 (i := 46) rfl rfl
theorem qw_47 : Jvm.Cond.fieldLink "HungStreams$Frames" (116 : Nat) "HungStreams$Stream" "window" "I" ∈ qm_ws := qm_mem1 (i := 47) rfl rfl
theorem qw_48 : Jvm.Cond.fieldLink "HungStreams" (145 : Nat) "HungStreams$Stream" "window" "I" ∈ qm_ws := qm_mem1 (i := 48) rfl rfl
theorem qw_49 : Jvm.Cond.fieldLink "HungStreams$Stream" (24 : Nat) "HungStreams$Stream" "urgency" "I" ∈ qm_ws := qm_mem1 (i := 49) rfl rfl
theorem qw_50 : Jvm.Cond.fieldLink "HungStreams$Frames" (97 : Nat) "HungStreams$Stream" "urgency" "I" ∈ qm_ws := qm_mem1 (i := 50) rfl rfl
theorem qw_51 : Jvm.Cond.fieldLink "HungStreams$Stream" (27 : Nat) "HungStreams$Stream" "stepwise" "I" ∈ qm_ws := qm_mem1 (i := 51) rfl rfl
theorem qw_52 : Jvm.Cond.fieldLink "HungStreams$Frames" (100 : Nat) "HungStreams$Stream" "stepwise" "I" ∈ qm_ws := qm_mem1 (i := 52) rfl rfl
theorem qw_53 : Jvm.Cond.fieldLink "HungStreams$Stream" (30 : Nat) "HungStreams$Stream" "open" "Z" ∈ qm_ws := qm_mem1 (i := 53) rfl rfl
theorem qw_54 : Jvm.Cond.fieldLink "HungStreams" (94 : Nat) "HungStreams$Stream" "open" "Z" ∈ qm_ws := qm_mem1 (i := 54) rfl rfl
theorem qw_55 : Jvm.Cond.fieldLink "HungStreams$Frames" (151 : Nat) "HungStreams$Stream" "open" "Z" ∈ qm_ws := qm_mem1 (i := 55) rfl rfl
theorem qw_56 : Jvm.Cond.fieldLink "HungStreams$Tree" (115 : Nat) "HungStreams$Stream" "open" "Z" ∈ qm_ws := qm_mem1 (i := 56) rfl rfl
theorem qw_57 : Jvm.Cond.fieldLink "HungStreams$Stream" (34 : Nat) "HungStreams$Stream" "age" "I" ∈ qm_ws := qm_mem1 (i := 57) rfl rfl
theorem qw_58 : Jvm.Cond.fieldLink "HungStreams$Frames" (155 : Nat) "HungStreams$Stream" "age" "I" ∈ qm_ws := qm_mem1 (i := 58) rfl rfl
theorem qw_59 : Jvm.Cond.fieldLink "HungStreams$Tree" (119 : Nat) "HungStreams$Stream" "age" "I" ∈ qm_ws := qm_mem1 (i := 59) rfl rfl
theorem qw_60 : Jvm.Cond.fieldLink "HungStreams$Stream" (37 : Nat) "HungStreams$Stream" "sent" "I" ∈ qm_ws := qm_mem1 (i := 60) rfl rfl
theorem qw_61 : Jvm.Cond.fieldLink "HungStreams$Frames" (119 : Nat) "HungStreams$Stream" "sent" "I" ∈ qm_ws := qm_mem1 (i := 61) rfl rfl
theorem qw_62 : Jvm.Cond.fieldLink "HungStreams$Tree" (82 : Nat) "HungStreams$Stream" "sent" "I" ∈ qm_ws := qm_mem1 (i := 62) rfl rfl
theorem qw_63 : Jvm.Cond.fieldLink "HungStreams$Stream" (40 : Nat) "HungStreams$Stream" "waited" "I" ∈ qm_ws := qm_mem1 (i := 63) rfl rfl
theorem qw_64 : Jvm.Cond.fieldLink "HungStreams$Frames" (145 : Nat) "HungStreams$Stream" "waited" "I" ∈ qm_ws := qm_mem1 (i := 64) rfl rfl
theorem qw_65 : Jvm.Cond.fieldLink "HungStreams$Stream" (43 : Nat) "HungStreams$Stream" "longest" "I" ∈ qm_ws := qm_mem1 (i := 65) rfl rfl
theorem qw_66 : Jvm.Cond.fieldLink "HungStreams$Tree" (85 : Nat) "HungStreams$Stream" "longest" "I" ∈ qm_ws := qm_mem1 (i := 66) rfl rfl
theorem qw_67 : Jvm.Cond.fieldLink "HungStreams$Stream" (46 : Nat) "HungStreams$Stream" "last" "I" ∈ qm_ws := qm_mem1 (i := 67) rfl rfl
theorem qw_68 : Jvm.Cond.fieldLink "HungStreams$Frames" (103 : Nat) "HungStreams$Stream" "last" "I" ∈ qm_ws := qm_mem1 (i := 68) rfl rfl
theorem qw_69 : Jvm.Cond.fieldLink "HungStreams$Stream" (49 : Nat) "HungStreams$Stream" "turn" "J" ∈ qm_ws := qm_mem1 (i := 69) rfl rfl
theorem qw_70 : Jvm.Cond.fieldLink "HungStreams$Frames" (55 : Nat) "HungStreams$Stream" "turn" "J" ∈ qm_ws := qm_mem1 (i := 70) rfl rfl
theorem qw_71 : Jvm.Cond.fieldLink "HungStreams" (132 : Nat) "HungStreams$Stream" "turn" "J" ∈ qm_ws := qm_mem1 (i := 71) rfl rfl
theorem qw_72 : Jvm.Cond.fieldLink "HungStreams$Tree" (102 : Nat) "HungStreams$Stream" "turn" "J" ∈ qm_ws := qm_mem1 (i := 72) rfl rfl
theorem qw_73 : Jvm.Cond.fieldLink "HungStreams$Stream" (53 : Nat) "HungStreams$Stream" "floor" "J" ∈ qm_ws := qm_mem1 (i := 73) rfl rfl
theorem qw_74 : Jvm.Cond.fieldLink "HungStreams$Frames" (68 : Nat) "HungStreams$Stream" "floor" "J" ∈ qm_ws := qm_mem1 (i := 74) rfl rfl
theorem qw_75 : Jvm.Cond.fieldLink "HungStreams" (136 : Nat) "HungStreams$Stream" "floor" "J" ∈ qm_ws := qm_mem1 (i := 75) rfl rfl
theorem qw_76 : Jvm.Cond.fieldLink "HungStreams$Tree" (98 : Nat) "HungStreams$Stream" "floor" "J" ∈ qm_ws := qm_mem1 (i := 76) rfl rfl
theorem qw_77 : Jvm.Cond.lays "HungStreams$Stream" "HungStreams$Stream" "parent" "I" ∈ qm_ws := qm_mem1 (i := 77) rfl rfl
theorem qw_79 : Jvm.Cond.lays "HungStreams$Stream" "HungStreams$Stream" "weight" "I" ∈ qm_ws := qm_mem1 (i := 79) rfl rfl
theorem qw_81 : Jvm.Cond.lays "HungStreams$Stream" "HungStreams$Stream" "ready" "I" ∈ qm_ws := qm_mem1 (i := 81) rfl rfl
theorem qw_83 : Jvm.Cond.lays "HungStreams$Stream" "HungStreams$Stream" "window" "I" ∈ qm_ws := qm_mem1 (i := 83) rfl rfl
theorem qw_85 : Jvm.Cond.lays "HungStreams$Stream" "HungStreams$Stream" "urgency" "I" ∈ qm_ws := qm_mem1 (i := 85) rfl rfl
theorem qw_87 : Jvm.Cond.lays "HungStreams$Stream" "HungStreams$Stream" "stepwise" "I" ∈ qm_ws := qm_mem1 (i := 87) rfl rfl
theorem qw_89 : Jvm.Cond.lays "HungStreams$Stream" "HungStreams$Stream" "open" "Z" ∈ qm_ws := qm_mem1 (i := 89) rfl rfl
theorem qw_91 : Jvm.Cond.lays "HungStreams$Stream" "HungStreams$Stream" "age" "I" ∈ qm_ws := qm_mem1 (i := 91) rfl rfl
theorem qw_93 : Jvm.Cond.lays "HungStreams$Stream" "HungStreams$Stream" "sent" "I" ∈ qm_ws := qm_mem1 (i := 93) rfl rfl
theorem qw_95 : Jvm.Cond.lays "HungStreams$Stream" "HungStreams$Stream" "waited" "I" ∈ qm_ws := qm_mem1 (i := 95) rfl rfl
theorem qw_97 : Jvm.Cond.lays "HungStreams$Stream" "HungStreams$Stream" "longest" "I" ∈ qm_ws := qm_mem1 (i := 97) rfl rfl
theorem qw_99 : Jvm.Cond.lays "HungStreams$Stream" "HungStreams$Stream" "last" "I" ∈ qm_ws := qm_mem1 (i := 99) rfl rfl
theorem qw_101 : Jvm.Cond.lays "HungStreams$Stream" "HungStreams$Stream" "turn" "J" ∈ qm_ws := qm_mem1 (i := 101) rfl rfl
theorem qw_103 : Jvm.Cond.lays "HungStreams$Stream" "HungStreams$Stream" "floor" "J" ∈ qm_ws := qm_mem1 (i := 103) rfl rfl
theorem qw_106 : Jvm.Cond.fieldLink "HungStreams$Tree" (11 : Nat) "HungStreams$Tree" "streams" "[LHungStreams$Stream;" ∈ qm_ws := qm_mem1 (i := 106) rfl rfl
theorem qw_107 : Jvm.Cond.fieldLink "HungStreams$Shares" (26 : Nat) "HungStreams$Tree" "streams" "[LHungStreams$Stream;" ∈ qm_ws := qm_mem1 (i := 107) rfl rfl
theorem qw_108 : Jvm.Cond.fieldLink "HungStreams$Frames" (47 : Nat) "HungStreams$Tree" "streams" "[LHungStreams$Stream;" ∈ qm_ws := qm_mem1 (i := 108) rfl rfl
theorem qw_109 : Jvm.Cond.fieldLink "HungStreams$TreeWriter" (36 : Nat) "HungStreams$Tree" "streams" "[LHungStreams$Stream;" ∈ qm_ws := qm_mem1 (i := 109) rfl rfl
theorem qw_110 : Jvm.Cond.fieldLink "HungStreams" (67 : Nat) "HungStreams$Tree" "streams" "[LHungStreams$Stream;" ∈ qm_ws := qm_mem1 (i := 110) rfl rfl
theorem qw_111 : Jvm.Cond.fieldLink "HungStreams$Tree" (35 : Nat) "HungStreams$Tree" "there" "I" ∈ qm_ws := qm_mem1 (i := 111) rfl rfl
theorem qw_112 : Jvm.Cond.fieldLink "HungStreams" (104 : Nat) "HungStreams$Tree" "there" "I" ∈ qm_ws := qm_mem1 (i := 112) rfl rfl
theorem qw_113 : Jvm.Cond.fieldLink "HungStreams$Frames" (148 : Nat) "HungStreams$Tree" "there" "I" ∈ qm_ws := qm_mem1 (i := 113) rfl rfl
theorem qw_114 : Jvm.Cond.fieldLink "HungStreams$Tree" (38 : Nat) "HungStreams$Tree" "lived" "I" ∈ qm_ws := qm_mem1 (i := 114) rfl rfl
theorem qw_115 : Jvm.Cond.fieldLink "HungStreams$Frames" (61 : Nat) "HungStreams$Tree" "lived" "I" ∈ qm_ws := qm_mem1 (i := 115) rfl rfl
theorem qw_116 : Jvm.Cond.fieldLink "HungStreams$Tree" (18 : Nat) "HungStreams$Tree" "pool" "I" ∈ qm_ws := qm_mem1 (i := 116) rfl rfl
theorem qw_117 : Jvm.Cond.fieldLink "HungStreams$Frames" (77 : Nat) "HungStreams$Tree" "pool" "I" ∈ qm_ws := qm_mem1 (i := 117) rfl rfl
theorem qw_118 : Jvm.Cond.fieldLink "HungStreams" (236 : Nat) "HungStreams$Tree" "pool" "I" ∈ qm_ws := qm_mem1 (i := 118) rfl rfl
theorem qw_119 : Jvm.Cond.fieldLink "HungStreams$Tree" (22 : Nat) "HungStreams$Tree" "size" "I" ∈ qm_ws := qm_mem1 (i := 119) rfl rfl
theorem qw_120 : Jvm.Cond.fieldLink "HungStreams$Frames" (106 : Nat) "HungStreams$Tree" "size" "I" ∈ qm_ws := qm_mem1 (i := 120) rfl rfl
theorem qw_121 : Jvm.Cond.fieldLink "HungStreams" (239 : Nat) "HungStreams$Tree" "size" "I" ∈ qm_ws := qm_mem1 (i := 121) rfl rfl
theorem qw_122 : Jvm.Cond.fieldLink "HungStreams$Tree" (25 : Nat) "HungStreams$Tree" "keep" "I" ∈ qm_ws := qm_mem1 (i := 122) rfl rfl
theorem qw_123 : Jvm.Cond.fieldLink "HungStreams" (242 : Nat) "HungStreams$Tree" "keep" "I" ∈ qm_ws := qm_mem1 (i := 123) rfl rfl
theorem qw_124 : Jvm.Cond.fieldLink "HungStreams$Tree" (41 : Nat) "HungStreams$Tree" "scheme" "I" ∈ qm_ws := qm_mem1 (i := 124) rfl rfl
theorem qw_125 : Jvm.Cond.fieldLink "HungStreams$Frames" (80 : Nat) "HungStreams$Tree" "scheme" "I" ∈ qm_ws := qm_mem1 (i := 125) rfl rfl
theorem qw_126 : Jvm.Cond.fieldLink "HungStreams" (245 : Nat) "HungStreams$Tree" "scheme" "I" ∈ qm_ws := qm_mem1 (i := 126) rfl rfl
theorem qw_127 : Jvm.Cond.fieldLink "HungStreams$Tree" (44 : Nat) "HungStreams$Tree" "frames" "I" ∈ qm_ws := qm_mem1 (i := 127) rfl rfl
theorem qw_128 : Jvm.Cond.fieldLink "HungStreams$Frames" (125 : Nat) "HungStreams$Tree" "frames" "I" ∈ qm_ws := qm_mem1 (i := 128) rfl rfl
theorem qw_129 : Jvm.Cond.fieldLink "HungStreams" (248 : Nat) "HungStreams$Tree" "frames" "I" ∈ qm_ws := qm_mem1 (i := 129) rfl rfl
theorem qw_130 : Jvm.Cond.fieldLink "HungStreams$Tree" (47 : Nat) "HungStreams$Tree" "lastBytes" "I" ∈ qm_ws := qm_mem1 (i := 130) rfl rfl
theorem qw_131 : Jvm.Cond.fieldLink "HungStreams$Frames" (128 : Nat) "HungStreams$Tree" "lastBytes" "I" ∈ qm_ws := qm_mem1 (i := 131) rfl rfl
theorem qw_132 : Jvm.Cond.fieldLink "HungStreams" (179 : Nat) "HungStreams$Tree" "lastBytes" "I" ∈ qm_ws := qm_mem1 (i := 132) rfl rfl
theorem qw_133 : Jvm.Cond.fieldLink "HungStreams$Tree" (28 : Nat) "HungStreams$Tree" "lastStream" "I" ∈ qm_ws := qm_mem1 (i := 133) rfl rfl
theorem qw_134 : Jvm.Cond.fieldLink "HungStreams$Frames" (131 : Nat) "HungStreams$Tree" "lastStream" "I" ∈ qm_ws := qm_mem1 (i := 134) rfl rfl
theorem qw_135 : Jvm.Cond.fieldLink "HungStreams" (182 : Nat) "HungStreams$Tree" "lastStream" "I" ∈ qm_ws := qm_mem1 (i := 135) rfl rfl
theorem qw_136 : Jvm.Cond.laysFinal "HungStreams$Tree" "HungStreams$Tree" "streams" "[LHungStreams$Stream;" ∈ qm_ws := qm_mem1 (i := 136) rfl rfl
theorem qw_138 : Jvm.Cond.lays "HungStreams$Tree" "HungStreams$Tree" "there" "I" ∈ qm_ws := qm_mem1 (i := 138) rfl rfl
theorem qw_140 : Jvm.Cond.lays "HungStreams$Tree" "HungStreams$Tree" "lived" "I" ∈ qm_ws := qm_mem1 (i := 140) rfl rfl
theorem qw_142 : Jvm.Cond.lays "HungStreams$Tree" "HungStreams$Tree" "pool" "I" ∈ qm_ws := qm_mem1 (i := 142) rfl rfl
theorem qw_144 : Jvm.Cond.lays "HungStreams$Tree" "HungStreams$Tree" "size" "I" ∈ qm_ws := qm_mem1 (i := 144) rfl rfl
theorem qw_146 : Jvm.Cond.lays "HungStreams$Tree" "HungStreams$Tree" "keep" "I" ∈ qm_ws := qm_mem1 (i := 146) rfl rfl
theorem qw_148 : Jvm.Cond.lays "HungStreams$Tree" "HungStreams$Tree" "scheme" "I" ∈ qm_ws := qm_mem1 (i := 148) rfl rfl
theorem qw_150 : Jvm.Cond.lays "HungStreams$Tree" "HungStreams$Tree" "frames" "I" ∈ qm_ws := qm_mem1 (i := 150) rfl rfl
theorem qw_152 : Jvm.Cond.lays "HungStreams$Tree" "HungStreams$Tree" "lastBytes" "I" ∈ qm_ws := qm_mem1 (i := 152) rfl rfl
theorem qw_154 : Jvm.Cond.lays "HungStreams$Tree" "HungStreams$Tree" "lastStream" "I" ∈ qm_ws := qm_mem1 (i := 154) rfl rfl
theorem qw_158 : Jvm.Cond.classLink "HungStreams" (20 : Nat) "HungStreams$TypedText" ∈ qm_ws := qm_mem1 (i := 158) rfl rfl
theorem qw_159 : Jvm.Cond.instantiable "HungStreams$TypedText" (10 : Nat) ∈ qm_ws := qm_mem1 (i := 159) rfl rfl
theorem qw_160 : Jvm.Cond.methodLink "HungStreams" (22 : Nat) ({ cls := "HungStreams$TypedText", name := "<init>", desc := "()V" } : Jvm.MethodName) ∈ qm_ws := qm_mem1 (i := 160) rfl rfl
theorem qw_161 : Jvm.Cond.instanceMethod ({ cls := "HungStreams$TypedText", name := "<init>", desc := "()V" } : Jvm.MethodName) ∈ qm_ws := qm_mem1 (i := 161) rfl rfl
theorem qw_162 : Jvm.Cond.code ({ cls := "HungStreams$TypedText", name := "<init>", desc := "()V" } : Jvm.MethodName) prog_7_method_1_code (1 : Nat) (Option.none : Option Jvm.ClassFile.FieldType) ∈ qm_ws := qm_mem1 (i := 162) rfl rfl
theorem qw_163 : Jvm.Cond.methodLink "HungStreams$TypedText" (3 : Nat) ({ cls := "java/lang/Object", name := "<init>", desc := "()V" } : Jvm.MethodName) ∈ qm_ws := qm_mem1 (i := 163) rfl rfl
theorem qw_164 : Jvm.Cond.fieldLink "HungStreams$TypedText" (9 : Nat) "HungStreams$TypedText" "bytes" "[I" ∈ qm_ws := qm_mem1 (i := 164) rfl rfl
theorem qw_165 : Jvm.Cond.fieldLink "HungStreams$TypedText" (27 : Nat) "HungStreams$TypedText" "length" "I" ∈ qm_ws := qm_mem1 (i := 165) rfl rfl
theorem qw_166 : Jvm.Cond.fieldLink "HungStreams" (185 : Nat) "HungStreams$TypedText" "length" "I" ∈ qm_ws := qm_mem1 (i := 166) rfl rfl
theorem qw_167 : Jvm.Cond.fieldLink "HungStreams$TypedText" (15 : Nat) "HungStreams$TypedText" "numbers" "[I" ∈ qm_ws := qm_mem1 (i := 167) rfl rfl
theorem qw_168 : Jvm.Cond.fieldLink "HungStreams" (201 : Nat) "HungStreams$TypedText" "numbers" "[I" ∈ qm_ws := qm_mem1 (i := 168) rfl rfl
theorem qw_169 : Jvm.Cond.fieldLink "HungStreams$TypedText" (18 : Nat) "HungStreams$TypedText" "weights" "[I" ∈ qm_ws := qm_mem1 (i := 169) rfl rfl
theorem qw_170 : Jvm.Cond.fieldLink "HungStreams" (204 : Nat) "HungStreams$TypedText" "weights" "[I" ∈ qm_ws := qm_mem1 (i := 170) rfl rfl
theorem qw_171 : Jvm.Cond.fieldLink "HungStreams$TypedText" (21 : Nat) "HungStreams$TypedText" "parents" "[I" ∈ qm_ws := qm_mem1 (i := 171) rfl rfl
theorem qw_172 : Jvm.Cond.fieldLink "HungStreams" (207 : Nat) "HungStreams$TypedText" "parents" "[I" ∈ qm_ws := qm_mem1 (i := 172) rfl rfl
theorem qw_173 : Jvm.Cond.fieldLink "HungStreams$TypedText" (31 : Nat) "HungStreams$TypedText" "count" "I" ∈ qm_ws := qm_mem1 (i := 173) rfl rfl
theorem qw_174 : Jvm.Cond.fieldLink "HungStreams" (198 : Nat) "HungStreams$TypedText" "count" "I" ∈ qm_ws := qm_mem1 (i := 174) rfl rfl
theorem qw_175 : Jvm.Cond.fieldLink "HungStreams$TypedText" (24 : Nat) "HungStreams$TypedText" "standsIn" "[I" ∈ qm_ws := qm_mem1 (i := 175) rfl rfl
theorem qw_176 : Jvm.Cond.fieldLink "HungStreams$TypedText" (34 : Nat) "HungStreams$TypedText" "toldBits" "I" ∈ qm_ws := qm_mem1 (i := 176) rfl rfl
theorem qw_177 : Jvm.Cond.fieldLink "HungStreams$TypedText" (37 : Nat) "HungStreams$TypedText" "place" "I" ∈ qm_ws := qm_mem1 (i := 177) rfl rfl
theorem qw_178 : Jvm.Cond.fieldLink "HungStreams$TypedText" (40 : Nat) "HungStreams$TypedText" "fault" "I" ∈ qm_ws := qm_mem1 (i := 178) rfl rfl
theorem qw_179 : Jvm.Cond.laysFinal "HungStreams$TypedText" "HungStreams$TypedText" "bytes" "[I" ∈ qm_ws := qm_mem1 (i := 179) rfl rfl
theorem qw_181 : Jvm.Cond.lays "HungStreams$TypedText" "HungStreams$TypedText" "length" "I" ∈ qm_ws := qm_mem1 (i := 181) rfl rfl
theorem qw_183 : Jvm.Cond.laysFinal "HungStreams$TypedText" "HungStreams$TypedText" "numbers" "[I" ∈ qm_ws := qm_mem1 (i := 183) rfl rfl
theorem qw_185 : Jvm.Cond.laysFinal "HungStreams$TypedText" "HungStreams$TypedText" "weights" "[I" ∈ qm_ws := qm_mem1 (i := 185) rfl rfl
theorem qw_187 : Jvm.Cond.laysFinal "HungStreams$TypedText" "HungStreams$TypedText" "parents" "[I" ∈ qm_ws := qm_mem1 (i := 187) rfl rfl
theorem qw_189 : Jvm.Cond.lays "HungStreams$TypedText" "HungStreams$TypedText" "count" "I" ∈ qm_ws := qm_mem1 (i := 189) rfl rfl
theorem qw_191 : Jvm.Cond.laysFinal "HungStreams$TypedText" "HungStreams$TypedText" "standsIn" "[I" ∈ qm_ws := qm_mem1 (i := 191) rfl rfl
theorem qw_193 : Jvm.Cond.lays "HungStreams$TypedText" "HungStreams$TypedText" "toldBits" "I" ∈ qm_ws := qm_mem1 (i := 193) rfl rfl
theorem qw_195 : Jvm.Cond.lays "HungStreams$TypedText" "HungStreams$TypedText" "place" "I" ∈ qm_ws := qm_mem1 (i := 195) rfl rfl
theorem qw_197 : Jvm.Cond.lays "HungStreams$TypedText" "HungStreams$TypedText" "fault" "I" ∈ qm_ws := qm_mem1 (i := 197) rfl rfl
theorem qw_200 : Jvm.Cond.arrayClass Jvm.ClassFile.FieldType.int ∈ qm_ws := qm_mem1 (i := 200) rfl rfl
theorem qw_201 : Jvm.Cond.classLink "HungStreams" (27 : Nat) "HungStreams$TreeWriter" ∈ qm_ws := qm_mem1 (i := 201) rfl rfl
theorem qw_202 : Jvm.Cond.instantiable "HungStreams$TreeWriter" (2 : Nat) ∈ qm_ws := qm_mem1 (i := 202) rfl rfl
theorem qw_203 : Jvm.Cond.methodLink "HungStreams" (29 : Nat) ({ cls := "HungStreams$TreeWriter", name := "<init>", desc := "()V" } : Jvm.MethodName) ∈ qm_ws := qm_mem1 (i := 203) rfl rfl
theorem qw_204 : Jvm.Cond.instanceMethod ({ cls := "HungStreams$TreeWriter", name := "<init>", desc := "()V" } : Jvm.MethodName) ∈ qm_ws := qm_mem1 (i := 204) rfl rfl
theorem qw_205 : Jvm.Cond.code ({ cls := "HungStreams$TreeWriter", name := "<init>", desc := "()V" } : Jvm.MethodName) prog_6_method_1_code (1 : Nat) (Option.none : Option Jvm.ClassFile.FieldType) ∈ qm_ws := qm_mem1 (i := 205) rfl rfl
theorem qw_206 : Jvm.Cond.methodLink "HungStreams$TreeWriter" (3 : Nat) ({ cls := "java/lang/Object", name := "<init>", desc := "()V" } : Jvm.MethodName) ∈ qm_ws := qm_mem1 (i := 206) rfl rfl
theorem qw_207 : Jvm.Cond.fieldLink "HungStreams$TreeWriter" (9 : Nat) "HungStreams$TreeWriter" "bytes" "[I" ∈ qm_ws := qm_mem1 (i := 207) rfl rfl
theorem qw_208 : Jvm.Cond.fieldLink "HungStreams" (215 : Nat) "HungStreams$TreeWriter" "bytes" "[I" ∈ qm_ws := qm_mem1 (i := 208) rfl rfl
theorem qw_209 : Jvm.Cond.fieldLink "HungStreams$TreeWriter" (15 : Nat) "HungStreams$TreeWriter" "length" "I" ∈ qm_ws := qm_mem1 (i := 209) rfl rfl
theorem qw_210 : Jvm.Cond.fieldLink "HungStreams" (214 : Nat) "HungStreams$TreeWriter" "length" "I" ∈ qm_ws := qm_mem1 (i := 210) rfl rfl
theorem qw_211 : Jvm.Cond.laysFinal "HungStreams$TreeWriter" "HungStreams$TreeWriter" "bytes" "[I" ∈ qm_ws := qm_mem1 (i := 211) rfl rfl
theorem qw_213 : Jvm.Cond.lays "HungStreams$TreeWriter" "HungStreams$TreeWriter" "length" "I" ∈ qm_ws := qm_mem1 (i := 213) rfl rfl
theorem qw_216 : Jvm.Cond.fieldLink "HungStreams" (10 : Nat) "HungStreams" "tree" "LHungStreams$Tree;" ∈ qm_ws := qm_mem1 (i := 216) rfl rfl
theorem qw_217 : Jvm.Cond.fieldLink "HungStreams" (16 : Nat) "HungStreams" "states" "[LHungStreams$Tree;" ∈ qm_ws := qm_mem1 (i := 217) rfl rfl
theorem qw_218 : Jvm.Cond.fieldLink "HungStreams" (221 : Nat) "HungStreams" "oldestState" "I" ∈ qm_ws := qm_mem1 (i := 218) rfl rfl
theorem qw_219 : Jvm.Cond.fieldLink "HungStreams" (218 : Nat) "HungStreams" "stateCount" "I" ∈ qm_ws := qm_mem1 (i := 219) rfl rfl
theorem qw_220 : Jvm.Cond.fieldLink "HungStreams" (23 : Nat) "HungStreams" "text" "LHungStreams$TypedText;" ∈ qm_ws := qm_mem1 (i := 220) rfl rfl
theorem qw_221 : Jvm.Cond.fieldLink "HungStreams" (30 : Nat) "HungStreams" "writer" "LHungStreams$TreeWriter;" ∈ qm_ws := qm_mem1 (i := 221) rfl rfl
theorem qw_222 : Jvm.Cond.fieldLink "HungStreams" (227 : Nat) "HungStreams" "badTimes" "I" ∈ qm_ws := qm_mem1 (i := 222) rfl rfl
theorem qw_223 : Jvm.Cond.fieldLink "HungStreams" (230 : Nat) "HungStreams" "noTimes" "I" ∈ qm_ws := qm_mem1 (i := 223) rfl rfl
theorem qw_224 : Jvm.Cond.fieldLink "HungStreams" (233 : Nat) "HungStreams" "fullTimes" "I" ∈ qm_ws := qm_mem1 (i := 224) rfl rfl
theorem qw_225 : Jvm.Cond.laysFinal "HungStreams" "HungStreams" "tree" "LHungStreams$Tree;" ∈ qm_ws := qm_mem1 (i := 225) rfl rfl
theorem qw_227 : Jvm.Cond.laysFinal "HungStreams" "HungStreams" "states" "[LHungStreams$Tree;" ∈ qm_ws := qm_mem1 (i := 227) rfl rfl
theorem qw_229 : Jvm.Cond.lays "HungStreams" "HungStreams" "oldestState" "I" ∈ qm_ws := qm_mem1 (i := 229) rfl rfl
theorem qw_231 : Jvm.Cond.lays "HungStreams" "HungStreams" "stateCount" "I" ∈ qm_ws := qm_mem1 (i := 231) rfl rfl
theorem qw_233 : Jvm.Cond.laysFinal "HungStreams" "HungStreams" "text" "LHungStreams$TypedText;" ∈ qm_ws := qm_mem1 (i := 233) rfl rfl
theorem qw_235 : Jvm.Cond.laysFinal "HungStreams" "HungStreams" "writer" "LHungStreams$TreeWriter;" ∈ qm_ws := qm_mem1 (i := 235) rfl rfl
theorem qw_237 : Jvm.Cond.lays "HungStreams" "HungStreams" "badTimes" "I" ∈ qm_ws := qm_mem1 (i := 237) rfl rfl
theorem qw_239 : Jvm.Cond.lays "HungStreams" "HungStreams" "noTimes" "I" ∈ qm_ws := qm_mem1 (i := 239) rfl rfl
theorem qw_241 : Jvm.Cond.lays "HungStreams" "HungStreams" "fullTimes" "I" ∈ qm_ws := qm_mem2 (i := 1) rfl rfl
theorem qw_244 : Jvm.Cond.methodLink "HungStreamsLaw" (13 : Nat) ({ cls := "HungStreams", name := "comes", desc := "(IIII)I" } : Jvm.MethodName) ∈ qm_ws := qm_mem2 (i := 4) rfl rfl
theorem qw_245 : Jvm.Cond.instanceMethod ({ cls := "HungStreams", name := "comes", desc := "(IIII)I" } : Jvm.MethodName) ∈ qm_ws := qm_mem2 (i := 5) rfl rfl
theorem qw_246 : Jvm.Cond.selects "HungStreams" ({ cls := "HungStreams", name := "comes", desc := "(IIII)I" } : Jvm.MethodName) ({ cls := "HungStreams", name := "comes", desc := "(IIII)I" } : Jvm.MethodName) ∈ qm_ws := qm_mem2 (i := 6) rfl rfl
theorem qw_247 : Jvm.Cond.code ({ cls := "HungStreams", name := "comes", desc := "(IIII)I" } : Jvm.MethodName) prog_1_method_2_code (5 : Nat) (Option.some Jvm.ClassFile.FieldType.int) ∈ qm_ws := qm_mem2 (i := 7) rfl rfl
theorem qw_248 : Jvm.Cond.methodLink "HungStreams" (34 : Nat) ({ cls := "HungStreams", name := "within", desc := "(III)Z" } : Jvm.MethodName) ∈ qm_ws := qm_mem2 (i := 8) rfl rfl
theorem qw_249 : Jvm.Cond.static ({ cls := "HungStreams", name := "within", desc := "(III)Z" } : Jvm.MethodName) ∈ qm_ws := qm_mem2 (i := 9) rfl rfl
theorem qw_250 : Jvm.Cond.code ({ cls := "HungStreams", name := "within", desc := "(III)Z" } : Jvm.MethodName) prog_1_method_27_code (3 : Nat) (Option.some Jvm.ClassFile.FieldType.boolean) ∈ qm_ws := qm_mem2 (i := 10) rfl rfl
theorem qw_251 : Jvm.Cond.methodLink "HungStreams" (38 : Nat) ({ cls := "HungStreams$Tree", name := "isNode", desc := "(I)Z" } : Jvm.MethodName) ∈ qm_ws := qm_mem2 (i := 11) rfl rfl
theorem qw_252 : Jvm.Cond.instanceMethod ({ cls := "HungStreams$Tree", name := "isNode", desc := "(I)Z" } : Jvm.MethodName) ∈ qm_ws := qm_mem2 (i := 12) rfl rfl
theorem qw_253 : Jvm.Cond.selects "HungStreams$Tree" ({ cls := "HungStreams$Tree", name := "isNode", desc := "(I)Z" } : Jvm.MethodName) ({ cls := "HungStreams$Tree", name := "isNode", desc := "(I)Z" } : Jvm.MethodName) ∈ qm_ws := qm_mem2 (i := 13) rfl rfl
theorem qw_254 : Jvm.Cond.code ({ cls := "HungStreams$Tree", name := "isNode", desc := "(I)Z" } : Jvm.MethodName) prog_5_method_4_code (2 : Nat) (Option.some Jvm.ClassFile.FieldType.boolean) ∈ qm_ws := qm_mem2 (i := 14) rfl rfl
theorem qw_255 : Jvm.Cond.methodLink "HungStreams$Tree" (58 : Nat) ({ cls := "HungStreams$Tree", name := "isThere", desc := "(I)Z" } : Jvm.MethodName) ∈ qm_ws := qm_mem2 (i := 15) rfl rfl
theorem qw_256 : Jvm.Cond.instanceMethod ({ cls := "HungStreams$Tree", name := "isThere", desc := "(I)Z" } : Jvm.MethodName) ∈ qm_ws := qm_mem2 (i := 16) rfl rfl
theorem qw_257 : Jvm.Cond.selects "HungStreams$Tree" ({ cls := "HungStreams$Tree", name := "isThere", desc := "(I)Z" } : Jvm.MethodName) ({ cls := "HungStreams$Tree", name := "isThere", desc := "(I)Z" } : Jvm.MethodName) ∈ qm_ws := qm_mem2 (i := 17) rfl rfl
theorem qw_258 : Jvm.Cond.code ({ cls := "HungStreams$Tree", name := "isThere", desc := "(I)Z" } : Jvm.MethodName) prog_5_method_3_code (2 : Nat) (Option.some Jvm.ClassFile.FieldType.boolean) ∈ qm_ws := qm_mem2 (i := 18) rfl rfl
theorem qw_261 : Jvm.Cond.static ({ cls := "HungStreams", name := "has", desc := "(II)Z" } : Jvm.MethodName) ∈ qm_ws := qm_mem2 (i := 21) rfl rfl
theorem qw_262 : Jvm.Cond.code ({ cls := "HungStreams", name := "has", desc := "(II)Z" } : Jvm.MethodName) prog_1_method_28_code (2 : Nat) (Option.some Jvm.ClassFile.FieldType.boolean) ∈ qm_ws := qm_mem2 (i := 22) rfl rfl
theorem qw_263 : Jvm.Cond.methodLink "HungStreams" (42 : Nat) ({ cls := "HungStreams", name := "refuse", desc := "(I)I" } : Jvm.MethodName) ∈ qm_ws := qm_mem2 (i := 23) rfl rfl
theorem qw_265 : Jvm.Cond.instanceMethod ({ cls := "HungStreams", name := "refuse", desc := "(I)I" } : Jvm.MethodName) ∈ qm_ws := qm_mem2 (i := 25) rfl rfl
theorem qw_266 : Jvm.Cond.code ({ cls := "HungStreams", name := "refuse", desc := "(I)I" } : Jvm.MethodName) prog_1_method_25_code (2 : Nat) (Option.some Jvm.ClassFile.FieldType.int) ∈ qm_ws := qm_mem2 (i := 26) rfl rfl
theorem qw_267 : Jvm.Cond.methodLink "HungStreams" (46 : Nat) ({ cls := "HungStreams$Tree", name := "isThere", desc := "(I)Z" } : Jvm.MethodName) ∈ qm_ws := qm_mem2 (i := 27) rfl rfl
theorem qw_268 : Jvm.Cond.methodLink "HungStreams" (49 : Nat) ({ cls := "HungStreams", name := "leaveState", desc := "()V" } : Jvm.MethodName) ∈ qm_ws := qm_mem2 (i := 28) rfl rfl
theorem qw_270 : Jvm.Cond.instanceMethod ({ cls := "HungStreams", name := "leaveState", desc := "()V" } : Jvm.MethodName) ∈ qm_ws := qm_mem2 (i := 30) rfl rfl
theorem qw_271 : Jvm.Cond.code ({ cls := "HungStreams", name := "leaveState", desc := "()V" } : Jvm.MethodName) prog_1_method_26_code (1 : Nat) (Option.none : Option Jvm.ClassFile.FieldType) ∈ qm_ws := qm_mem2 (i := 31) rfl rfl
theorem qw_272 : Jvm.Cond.methodLink "HungStreams" (224 : Nat) ({ cls := "HungStreams$Tree", name := "copyFrom", desc := "(LHungStreams$Tree;)V" } : Jvm.MethodName) ∈ qm_ws := qm_mem2 (i := 32) rfl rfl
theorem qw_273 : Jvm.Cond.instanceMethod ({ cls := "HungStreams$Tree", name := "copyFrom", desc := "(LHungStreams$Tree;)V" } : Jvm.MethodName) ∈ qm_ws := qm_mem2 (i := 33) rfl rfl
theorem qw_274 : Jvm.Cond.selects "HungStreams$Tree" ({ cls := "HungStreams$Tree", name := "copyFrom", desc := "(LHungStreams$Tree;)V" } : Jvm.MethodName) ({ cls := "HungStreams$Tree", name := "copyFrom", desc := "(LHungStreams$Tree;)V" } : Jvm.MethodName) ∈ qm_ws := qm_mem2 (i := 34) rfl rfl
theorem qw_275 : Jvm.Cond.code ({ cls := "HungStreams$Tree", name := "copyFrom", desc := "(LHungStreams$Tree;)V" } : Jvm.MethodName) prog_5_method_2_code (3 : Nat) (Option.none : Option Jvm.ClassFile.FieldType) ∈ qm_ws := qm_mem2 (i := 35) rfl rfl
theorem qw_276 : Jvm.Cond.methodLink "HungStreams$Tree" (31 : Nat) ({ cls := "HungStreams$Stream", name := "copyFrom", desc := "(LHungStreams$Stream;)V" } : Jvm.MethodName) ∈ qm_ws := qm_mem2 (i := 36) rfl rfl
theorem qw_277 : Jvm.Cond.instanceMethod ({ cls := "HungStreams$Stream", name := "copyFrom", desc := "(LHungStreams$Stream;)V" } : Jvm.MethodName) ∈ qm_ws := qm_mem2 (i := 37) rfl rfl
theorem qw_278 : Jvm.Cond.selects "HungStreams$Stream" ({ cls := "HungStreams$Stream", name := "copyFrom", desc := "(LHungStreams$Stream;)V" } : Jvm.MethodName) ({ cls := "HungStreams$Stream", name := "copyFrom", desc := "(LHungStreams$Stream;)V" } : Jvm.MethodName) ∈ qm_ws := qm_mem2 (i := 38) rfl rfl
theorem qw_279 : Jvm.Cond.code ({ cls := "HungStreams$Stream", name := "copyFrom", desc := "(LHungStreams$Stream;)V" } : Jvm.MethodName) prog_4_method_3_code (2 : Nat) (Option.none : Option Jvm.ClassFile.FieldType) ∈ qm_ws := qm_mem2 (i := 39) rfl rfl
theorem qw_280 : Jvm.Cond.methodLink "HungStreams" (52 : Nat) ({ cls := "HungStreams$Tree", name := "enter", desc := "(II)V" } : Jvm.MethodName) ∈ qm_ws := qm_mem2 (i := 40) rfl rfl
theorem qw_281 : Jvm.Cond.instanceMethod ({ cls := "HungStreams$Tree", name := "enter", desc := "(II)V" } : Jvm.MethodName) ∈ qm_ws := qm_mem2 (i := 41) rfl rfl
theorem qw_282 : Jvm.Cond.selects "HungStreams$Tree" ({ cls := "HungStreams$Tree", name := "enter", desc := "(II)V" } : Jvm.MethodName) ({ cls := "HungStreams$Tree", name := "enter", desc := "(II)V" } : Jvm.MethodName) ∈ qm_ws := qm_mem2 (i := 42) rfl rfl
theorem qw_283 : Jvm.Cond.code ({ cls := "HungStreams$Tree", name := "enter", desc := "(II)V" } : Jvm.MethodName) prog_5_method_17_code (3 : Nat) (Option.none : Option Jvm.ClassFile.FieldType) ∈ qm_ws := qm_mem2 (i := 43) rfl rfl
theorem qw_284 : Jvm.Cond.methodLink "HungStreams$Tree" (94 : Nat) ({ cls := "HungStreams$Stream", name := "begin", desc := "(I)V" } : Jvm.MethodName) ∈ qm_ws := qm_mem2 (i := 44) rfl rfl
theorem qw_285 : Jvm.Cond.instanceMethod ({ cls := "HungStreams$Stream", name := "begin", desc := "(I)V" } : Jvm.MethodName) ∈ qm_ws := qm_mem2 (i := 45) rfl rfl
theorem qw_286 : Jvm.Cond.selects "HungStreams$Stream" ({ cls := "HungStreams$Stream", name := "begin", desc := "(I)V" } : Jvm.MethodName) ({ cls := "HungStreams$Stream", name := "begin", desc := "(I)V" } : Jvm.MethodName) ∈ qm_ws := qm_mem2 (i := 46) rfl rfl
theorem qw_287 : Jvm.Cond.code ({ cls := "HungStreams$Stream", name := "begin", desc := "(I)V" } : Jvm.MethodName) prog_4_method_2_code (2 : Nat) (Option.none : Option Jvm.ClassFile.FieldType) ∈ qm_ws := qm_mem2 (i := 47) rfl rfl
theorem qw_288 : Jvm.Cond.methodLink "HungStreams" (56 : Nat) ({ cls := "HungStreams$Tree", name := "attach", desc := "(IIZ)V" } : Jvm.MethodName) ∈ qm_ws := qm_mem2 (i := 48) rfl rfl
theorem qw_289 : Jvm.Cond.instanceMethod ({ cls := "HungStreams$Tree", name := "attach", desc := "(IIZ)V" } : Jvm.MethodName) ∈ qm_ws := qm_mem2 (i := 49) rfl rfl
theorem qw_290 : Jvm.Cond.selects "HungStreams$Tree" ({ cls := "HungStreams$Tree", name := "attach", desc := "(IIZ)V" } : Jvm.MethodName) ({ cls := "HungStreams$Tree", name := "attach", desc := "(IIZ)V" } : Jvm.MethodName) ∈ qm_ws := qm_mem2 (i := 50) rfl rfl
theorem qw_291 : Jvm.Cond.code ({ cls := "HungStreams$Tree", name := "attach", desc := "(IIZ)V" } : Jvm.MethodName) prog_5_method_19_code (4 : Nat) (Option.none : Option Jvm.ClassFile.FieldType) ∈ qm_ws := qm_mem2 (i := 51) rfl rfl
theorem qw_292 : Jvm.Cond.methodLink "HungStreams$Tree" (105 : Nat) ({ cls := "HungStreams$Tree", name := "hangChildren", desc := "(II)V" } : Jvm.MethodName) ∈ qm_ws := qm_mem2 (i := 52) rfl rfl
theorem qw_293 : Jvm.Cond.instanceMethod ({ cls := "HungStreams$Tree", name := "hangChildren", desc := "(II)V" } : Jvm.MethodName) ∈ qm_ws := qm_mem2 (i := 53) rfl rfl
theorem qw_294 : Jvm.Cond.selects "HungStreams$Tree" ({ cls := "HungStreams$Tree", name := "hangChildren", desc := "(II)V" } : Jvm.MethodName) ({ cls := "HungStreams$Tree", name := "hangChildren", desc := "(II)V" } : Jvm.MethodName) ∈ qm_ws := qm_mem2 (i := 54) rfl rfl
theorem qw_295 : Jvm.Cond.code ({ cls := "HungStreams$Tree", name := "hangChildren", desc := "(II)V" } : Jvm.MethodName) prog_5_method_20_code (4 : Nat) (Option.none : Option Jvm.ClassFile.FieldType) ∈ qm_ws := qm_mem2 (i := 55) rfl rfl
theorem qw_296 : Jvm.Cond.methodLink "HungStreams$Tree" (65 : Nat) ({ cls := "HungStreams$Tree", name := "isChild", desc := "(II)Z" } : Jvm.MethodName) ∈ qm_ws := qm_mem2 (i := 56) rfl rfl
theorem qw_297 : Jvm.Cond.instanceMethod ({ cls := "HungStreams$Tree", name := "isChild", desc := "(II)Z" } : Jvm.MethodName) ∈ qm_ws := qm_mem2 (i := 57) rfl rfl
theorem qw_298 : Jvm.Cond.selects "HungStreams$Tree" ({ cls := "HungStreams$Tree", name := "isChild", desc := "(II)Z" } : Jvm.MethodName) ({ cls := "HungStreams$Tree", name := "isChild", desc := "(II)Z" } : Jvm.MethodName) ∈ qm_ws := qm_mem2 (i := 58) rfl rfl
theorem qw_299 : Jvm.Cond.code ({ cls := "HungStreams$Tree", name := "isChild", desc := "(II)Z" } : Jvm.MethodName) prog_5_method_5_code (3 : Nat) (Option.some Jvm.ClassFile.FieldType.boolean) ∈ qm_ws := qm_mem2 (i := 59) rfl rfl
theorem qw_300 : Jvm.Cond.methodLink "HungStreams$Tree" (109 : Nat) ({ cls := "HungStreams$Tree", name := "hang", desc := "(II)V" } : Jvm.MethodName) ∈ qm_ws := qm_mem2 (i := 60) rfl rfl
theorem qw_301 : Jvm.Cond.instanceMethod ({ cls := "HungStreams$Tree", name := "hang", desc := "(II)V" } : Jvm.MethodName) ∈ qm_ws := qm_mem2 (i := 61) rfl rfl
theorem qw_302 : Jvm.Cond.selects "HungStreams$Tree" ({ cls := "HungStreams$Tree", name := "hang", desc := "(II)V" } : Jvm.MethodName) ({ cls := "HungStreams$Tree", name := "hang", desc := "(II)V" } : Jvm.MethodName) ∈ qm_ws := qm_mem2 (i := 62) rfl rfl
theorem qw_303 : Jvm.Cond.code ({ cls := "HungStreams$Tree", name := "hang", desc := "(II)V" } : Jvm.MethodName) prog_5_method_18_code (3 : Nat) (Option.none : Option Jvm.ClassFile.FieldType) ∈ qm_ws := qm_mem2 (i := 63) rfl rfl
theorem qw_304 : Jvm.Cond.methodLink "HungStreams" (60 : Nat) ({ cls := "HungStreams$Tree", name := "childCount", desc := "(I)I" } : Jvm.MethodName) ∈ qm_ws := qm_mem2 (i := 64) rfl rfl
theorem qw_305 : Jvm.Cond.instanceMethod ({ cls := "HungStreams$Tree", name := "childCount", desc := "(I)I" } : Jvm.MethodName) ∈ qm_ws := qm_mem2 (i := 65) rfl rfl
theorem qw_306 : Jvm.Cond.selects "HungStreams$Tree" ({ cls := "HungStreams$Tree", name := "childCount", desc := "(I)I" } : Jvm.MethodName) ({ cls := "HungStreams$Tree", name := "childCount", desc := "(I)I" } : Jvm.MethodName) ∈ qm_ws := qm_mem2 (i := 66) rfl rfl
theorem qw_307 : Jvm.Cond.code ({ cls := "HungStreams$Tree", name := "childCount", desc := "(I)I" } : Jvm.MethodName) prog_5_method_6_code (4 : Nat) (Option.some Jvm.ClassFile.FieldType.int) ∈ qm_ws := qm_mem2 (i := 67) rfl rfl
theorem qw_308 : Jvm.Cond.methodLink "HungStreamsLaw" (18 : Nat) ({ cls := "HungStreams", name := "moves", desc := "(IIII)I" } : Jvm.MethodName) ∈ qm_ws := qm_mem2 (i := 68) rfl rfl
theorem qw_309 : Jvm.Cond.instanceMethod ({ cls := "HungStreams", name := "moves", desc := "(IIII)I" } : Jvm.MethodName) ∈ qm_ws := qm_mem2 (i := 69) rfl rfl
theorem qw_310 : Jvm.Cond.selects "HungStreams" ({ cls := "HungStreams", name := "moves", desc := "(IIII)I" } : Jvm.MethodName) ({ cls := "HungStreams", name := "moves", desc := "(IIII)I" } : Jvm.MethodName) ∈ qm_ws := qm_mem2 (i := 70) rfl rfl
theorem qw_311 : Jvm.Cond.code ({ cls := "HungStreams", name := "moves", desc := "(IIII)I" } : Jvm.MethodName) prog_1_method_3_code (5 : Nat) (Option.some Jvm.ClassFile.FieldType.int) ∈ qm_ws := qm_mem2 (i := 71) rfl rfl
theorem qw_312 : Jvm.Cond.methodLink "HungStreams" (63 : Nat) ({ cls := "HungStreams$Tree", name := "isBelow", desc := "(II)Z" } : Jvm.MethodName) ∈ qm_ws := qm_mem2 (i := 72) rfl rfl
theorem qw_313 : Jvm.Cond.instanceMethod ({ cls := "HungStreams$Tree", name := "isBelow", desc := "(II)Z" } : Jvm.MethodName) ∈ qm_ws := qm_mem2 (i := 73) rfl rfl
theorem qw_314 : Jvm.Cond.selects "HungStreams$Tree" ({ cls := "HungStreams$Tree", name := "isBelow", desc := "(II)Z" } : Jvm.MethodName) ({ cls := "HungStreams$Tree", name := "isBelow", desc := "(II)Z" } : Jvm.MethodName) ∈ qm_ws := qm_mem2 (i := 74) rfl rfl
theorem qw_315 : Jvm.Cond.code ({ cls := "HungStreams$Tree", name := "isBelow", desc := "(II)Z" } : Jvm.MethodName) prog_5_method_10_code (3 : Nat) (Option.some Jvm.ClassFile.FieldType.boolean) ∈ qm_ws := qm_mem2 (i := 75) rfl rfl
theorem qw_316 : Jvm.Cond.methodLink "HungStreams$Tree" (71 : Nat) ({ cls := "HungStreams$Tree", name := "lineBits", desc := "(I)I" } : Jvm.MethodName) ∈ qm_ws := qm_mem2 (i := 76) rfl rfl
theorem qw_317 : Jvm.Cond.instanceMethod ({ cls := "HungStreams$Tree", name := "lineBits", desc := "(I)I" } : Jvm.MethodName) ∈ qm_ws := qm_mem2 (i := 77) rfl rfl
theorem qw_318 : Jvm.Cond.selects "HungStreams$Tree" ({ cls := "HungStreams$Tree", name := "lineBits", desc := "(I)I" } : Jvm.MethodName) ({ cls := "HungStreams$Tree", name := "lineBits", desc := "(I)I" } : Jvm.MethodName) ∈ qm_ws := qm_mem2 (i := 78) rfl rfl
theorem qw_319 : Jvm.Cond.code ({ cls := "HungStreams$Tree", name := "lineBits", desc := "(I)I" } : Jvm.MethodName) prog_5_method_9_code (5 : Nat) (Option.some Jvm.ClassFile.FieldType.int) ∈ qm_ws := qm_mem2 (i := 79) rfl rfl
theorem qw_320 : Jvm.Cond.methodLink "HungStreams" (77 : Nat) ({ cls := "HungStreams$Tree", name := "hang", desc := "(II)V" } : Jvm.MethodName) ∈ qm_ws := qm_mem2 (i := 80) rfl rfl
theorem qw_321 : Jvm.Cond.methodLink "HungStreamsLaw" (22 : Nat) ({ cls := "HungStreams", name := "sets", desc := "(III)I" } : Jvm.MethodName) ∈ qm_ws := qm_mem2 (i := 81) rfl rfl
theorem qw_322 : Jvm.Cond.instanceMethod ({ cls := "HungStreams", name := "sets", desc := "(III)I" } : Jvm.MethodName) ∈ qm_ws := qm_mem2 (i := 82) rfl rfl
theorem qw_323 : Jvm.Cond.selects "HungStreams" ({ cls := "HungStreams", name := "sets", desc := "(III)I" } : Jvm.MethodName) ({ cls := "HungStreams", name := "sets", desc := "(III)I" } : Jvm.MethodName) ∈ qm_ws := qm_mem2 (i := 83) rfl rfl
theorem qw_324 : Jvm.Cond.code ({ cls := "HungStreams", name := "sets", desc := "(III)I" } : Jvm.MethodName) prog_1_method_4_code (4 : Nat) (Option.some Jvm.ClassFile.FieldType.int) ∈ qm_ws := qm_mem2 (i := 84) rfl rfl
theorem qw_325 : Jvm.Cond.fieldLink "HungStreams" (83 : Nat) "HungStreams" "LEAST_SET" "[I" ∈ qm_ws := qm_mem2 (i := 85) rfl rfl
theorem qw_327 : Jvm.Cond.fieldLink "HungStreams" (87 : Nat) "HungStreams" "MOST_SET" "[I" ∈ qm_ws := qm_mem2 (i := 87) rfl rfl
theorem qw_329 : Jvm.Cond.methodLink "HungStreams" (90 : Nat) ({ cls := "HungStreams$Stream", name := "change", desc := "(II)I" } : Jvm.MethodName) ∈ qm_ws := qm_mem2 (i := 89) rfl rfl
theorem qw_330 : Jvm.Cond.instanceMethod ({ cls := "HungStreams$Stream", name := "change", desc := "(II)I" } : Jvm.MethodName) ∈ qm_ws := qm_mem2 (i := 90) rfl rfl
theorem qw_331 : Jvm.Cond.selects "HungStreams$Stream" ({ cls := "HungStreams$Stream", name := "change", desc := "(II)I" } : Jvm.MethodName) ({ cls := "HungStreams$Stream", name := "change", desc := "(II)I" } : Jvm.MethodName) ∈ qm_ws := qm_mem2 (i := 91) rfl rfl
theorem qw_332 : Jvm.Cond.code ({ cls := "HungStreams$Stream", name := "change", desc := "(II)I" } : Jvm.MethodName) prog_4_method_6_code (4 : Nat) (Option.some Jvm.ClassFile.FieldType.int) ∈ qm_ws := qm_mem2 (i := 92) rfl rfl
theorem qw_333 : Jvm.Cond.methodLink "HungStreamsLaw" (27 : Nat) ({ cls := "HungStreams", name := "closes", desc := "(I)I" } : Jvm.MethodName) ∈ qm_ws := qm_mem2 (i := 93) rfl rfl
theorem qw_334 : Jvm.Cond.instanceMethod ({ cls := "HungStreams", name := "closes", desc := "(I)I" } : Jvm.MethodName) ∈ qm_ws := qm_mem2 (i := 94) rfl rfl
theorem qw_335 : Jvm.Cond.selects "HungStreams" ({ cls := "HungStreams", name := "closes", desc := "(I)I" } : Jvm.MethodName) ({ cls := "HungStreams", name := "closes", desc := "(I)I" } : Jvm.MethodName) ∈ qm_ws := qm_mem2 (i := 95) rfl rfl
theorem qw_336 : Jvm.Cond.code ({ cls := "HungStreams", name := "closes", desc := "(I)I" } : Jvm.MethodName) prog_1_method_5_code (2 : Nat) (Option.some Jvm.ClassFile.FieldType.int) ∈ qm_ws := qm_mem2 (i := 96) rfl rfl
theorem qw_337 : Jvm.Cond.methodLink "HungStreams" (101 : Nat) ({ cls := "HungStreams$Tree", name := "letGo", desc := "()V" } : Jvm.MethodName) ∈ qm_ws := qm_mem2 (i := 97) rfl rfl
theorem qw_338 : Jvm.Cond.instanceMethod ({ cls := "HungStreams$Tree", name := "letGo", desc := "()V" } : Jvm.MethodName) ∈ qm_ws := qm_mem2 (i := 98) rfl rfl
theorem qw_339 : Jvm.Cond.selects "HungStreams$Tree" ({ cls := "HungStreams$Tree", name := "letGo", desc := "()V" } : Jvm.MethodName) ({ cls := "HungStreams$Tree", name := "letGo", desc := "()V" } : Jvm.MethodName) ∈ qm_ws := qm_mem2 (i := 99) rfl rfl
theorem qw_340 : Jvm.Cond.code ({ cls := "HungStreams$Tree", name := "letGo", desc := "()V" } : Jvm.MethodName) prog_5_method_22_code (2 : Nat) (Option.none : Option Jvm.ClassFile.FieldType) ∈ qm_ws := qm_mem2 (i := 100) rfl rfl
theorem qw_341 : Jvm.Cond.methodLink "HungStreams$Tree" (122 : Nat) ({ cls := "HungStreams$Tree", name := "leave", desc := "(I)V" } : Jvm.MethodName) ∈ qm_ws := qm_mem2 (i := 101) rfl rfl
theorem qw_342 : Jvm.Cond.instanceMethod ({ cls := "HungStreams$Tree", name := "leave", desc := "(I)V" } : Jvm.MethodName) ∈ qm_ws := qm_mem2 (i := 102) rfl rfl
theorem qw_343 : Jvm.Cond.selects "HungStreams$Tree" ({ cls := "HungStreams$Tree", name := "leave", desc := "(I)V" } : Jvm.MethodName) ({ cls := "HungStreams$Tree", name := "leave", desc := "(I)V" } : Jvm.MethodName) ∈ qm_ws := qm_mem2 (i := 103) rfl rfl
theorem qw_344 : Jvm.Cond.code ({ cls := "HungStreams$Tree", name := "leave", desc := "(I)V" } : Jvm.MethodName) prog_5_method_23_code (5 : Nat) (Option.none : Option Jvm.ClassFile.FieldType) ∈ qm_ws := qm_mem2 (i := 104) rfl rfl
theorem qw_345 : Jvm.Cond.methodLink "HungStreams$Tree" (125 : Nat) ({ cls := "HungStreams$Tree", name := "childWeights", desc := "(II)I" } : Jvm.MethodName) ∈ qm_ws := qm_mem2 (i := 105) rfl rfl
theorem qw_346 : Jvm.Cond.instanceMethod ({ cls := "HungStreams$Tree", name := "childWeights", desc := "(II)I" } : Jvm.MethodName) ∈ qm_ws := qm_mem2 (i := 106) rfl rfl
theorem qw_347 : Jvm.Cond.selects "HungStreams$Tree" ({ cls := "HungStreams$Tree", name := "childWeights", desc := "(II)I" } : Jvm.MethodName) ({ cls := "HungStreams$Tree", name := "childWeights", desc := "(II)I" } : Jvm.MethodName) ∈ qm_ws := qm_mem2 (i := 107) rfl rfl
theorem qw_348 : Jvm.Cond.code ({ cls := "HungStreams$Tree", name := "childWeights", desc := "(II)I" } : Jvm.MethodName) prog_5_method_8_code (5 : Nat) (Option.some Jvm.ClassFile.FieldType.int) ∈ qm_ws := qm_mem2 (i := 108) rfl rfl
theorem qw_350 : Jvm.Cond.static ({ cls := "HungStreams", name := "cut", desc := "(JJ)J" } : Jvm.MethodName) ∈ qm_ws := qm_mem2 (i := 110) rfl rfl
theorem qw_351 : Jvm.Cond.code ({ cls := "HungStreams", name := "cut", desc := "(JJ)J" } : Jvm.MethodName) prog_1_method_29_code (4 : Nat) (Option.some Jvm.ClassFile.FieldType.long) ∈ qm_ws := qm_mem2 (i := 111) rfl rfl
theorem qw_352 : Jvm.Cond.methodLink "HungStreams$Tree" (132 : Nat) ({ cls := "java/lang/Math", name := "max", desc := "(JJ)J" } : Jvm.MethodName) ∈ qm_ws := qm_mem2 (i := 112) rfl rfl
theorem qw_353 : Jvm.Cond.static ({ cls := "java/lang/Math", name := "max", desc := "(JJ)J" } : Jvm.MethodName) ∈ qm_ws := qm_mem2 (i := 113) rfl rfl
theorem qw_354 : Jvm.Cond.code ({ cls := "java/lang/Math", name := "max", desc := "(JJ)J" } : Jvm.MethodName) prog_11_method_66_code (4 : Nat) (Option.some Jvm.ClassFile.FieldType.long) ∈ qm_ws := qm_mem2 (i := 114) rfl rfl
theorem qw_355 : Jvm.Cond.methodLink "HungStreams" (107 : Nat) ({ cls := "java/lang/Integer", name := "bitCount", desc := "(I)I" } : Jvm.MethodName) ∈ qm_ws := qm_mem2 (i := 115) rfl rfl
theorem qw_356 : Jvm.Cond.static ({ cls := "java/lang/Integer", name := "bitCount", desc := "(I)I" } : Jvm.MethodName) ∈ qm_ws := qm_mem2 (i := 116) rfl rfl
theorem qw_357 : Jvm.Cond.code ({ cls := "java/lang/Integer", name := "bitCount", desc := "(I)I" } : Jvm.MethodName) prog_10_method_49_code (1 : Nat) (Option.some Jvm.ClassFile.FieldType.int) ∈ qm_ws := qm_mem2 (i := 117) rfl rfl
theorem qw_358 : Jvm.Cond.constant "java/lang/Integer" (265 : Nat) (1431655765 : Int32) ∈ qm_ws := qm_mem2 (i := 118) rfl rfl
theorem qw_359 : Jvm.Cond.constant "java/lang/Integer" (266 : Nat) (858993459 : Int32) ∈ qm_ws := qm_mem2 (i := 119) rfl rfl
theorem qw_360 : Jvm.Cond.constant "java/lang/Integer" (267 : Nat) (252645135 : Int32) ∈ qm_ws := qm_mem2 (i := 120) rfl rfl
theorem qw_361 : Jvm.Cond.methodLink "HungStreamsLaw" (32 : Nat) ({ cls := "HungStreams", name := "of", desc := "(II)I" } : Jvm.MethodName) ∈ qm_ws := qm_mem2 (i := 121) rfl rfl
theorem qw_362 : Jvm.Cond.instanceMethod ({ cls := "HungStreams", name := "of", desc := "(II)I" } : Jvm.MethodName) ∈ qm_ws := qm_mem2 (i := 122) rfl rfl
theorem qw_363 : Jvm.Cond.selects "HungStreams" ({ cls := "HungStreams", name := "of", desc := "(II)I" } : Jvm.MethodName) ({ cls := "HungStreams", name := "of", desc := "(II)I" } : Jvm.MethodName) ∈ qm_ws := qm_mem2 (i := 123) rfl rfl
theorem qw_364 : Jvm.Cond.code ({ cls := "HungStreams", name := "of", desc := "(II)I" } : Jvm.MethodName) prog_1_method_6_code (3 : Nat) (Option.some Jvm.ClassFile.FieldType.int) ∈ qm_ws := qm_mem2 (i := 124) rfl rfl
theorem qw_365 : Jvm.Cond.methodLink "HungStreams" (112 : Nat) ({ cls := "HungStreams$Tree", name := "belowCount", desc := "(I)I" } : Jvm.MethodName) ∈ qm_ws := qm_mem2 (i := 125) rfl rfl
theorem qw_366 : Jvm.Cond.instanceMethod ({ cls := "HungStreams$Tree", name := "belowCount", desc := "(I)I" } : Jvm.MethodName) ∈ qm_ws := qm_mem2 (i := 126) rfl rfl
theorem qw_367 : Jvm.Cond.selects "HungStreams$Tree" ({ cls := "HungStreams$Tree", name := "belowCount", desc := "(I)I" } : Jvm.MethodName) ({ cls := "HungStreams$Tree", name := "belowCount", desc := "(I)I" } : Jvm.MethodName) ∈ qm_ws := qm_mem2 (i := 127) rfl rfl
theorem qw_368 : Jvm.Cond.code ({ cls := "HungStreams$Tree", name := "belowCount", desc := "(I)I" } : Jvm.MethodName) prog_5_method_11_code (4 : Nat) (Option.some Jvm.ClassFile.FieldType.int) ∈ qm_ws := qm_mem2 (i := 128) rfl rfl
theorem qw_369 : Jvm.Cond.methodLink "HungStreams$Tree" (75 : Nat) ({ cls := "HungStreams$Tree", name := "isBelow", desc := "(II)Z" } : Jvm.MethodName) ∈ qm_ws := qm_mem2 (i := 129) rfl rfl
theorem qw_370 : Jvm.Cond.methodLink "HungStreams" (115 : Nat) ({ cls := "HungStreams$Stream", name := "can", desc := "()Z" } : Jvm.MethodName) ∈ qm_ws := qm_mem2 (i := 130) rfl rfl
theorem qw_371 : Jvm.Cond.instanceMethod ({ cls := "HungStreams$Stream", name := "can", desc := "()Z" } : Jvm.MethodName) ∈ qm_ws := qm_mem2 (i := 131) rfl rfl
theorem qw_372 : Jvm.Cond.selects "HungStreams$Stream" ({ cls := "HungStreams$Stream", name := "can", desc := "()Z" } : Jvm.MethodName) ({ cls := "HungStreams$Stream", name := "can", desc := "()Z" } : Jvm.MethodName) ∈ qm_ws := qm_mem2 (i := 132) rfl rfl
theorem qw_373 : Jvm.Cond.code ({ cls := "HungStreams$Stream", name := "can", desc := "()Z" } : Jvm.MethodName) prog_4_method_4_code (1 : Nat) (Option.some Jvm.ClassFile.FieldType.boolean) ∈ qm_ws := qm_mem2 (i := 133) rfl rfl
theorem qw_374 : Jvm.Cond.methodLink "HungStreams" (119 : Nat) ({ cls := "HungStreams$Tree", name := "canBits", desc := "()I" } : Jvm.MethodName) ∈ qm_ws := qm_mem2 (i := 134) rfl rfl
theorem qw_375 : Jvm.Cond.instanceMethod ({ cls := "HungStreams$Tree", name := "canBits", desc := "()I" } : Jvm.MethodName) ∈ qm_ws := qm_mem2 (i := 135) rfl rfl
theorem qw_376 : Jvm.Cond.selects "HungStreams$Tree" ({ cls := "HungStreams$Tree", name := "canBits", desc := "()I" } : Jvm.MethodName) ({ cls := "HungStreams$Tree", name := "canBits", desc := "()I" } : Jvm.MethodName) ∈ qm_ws := qm_mem2 (i := 136) rfl rfl
theorem qw_377 : Jvm.Cond.code ({ cls := "HungStreams$Tree", name := "canBits", desc := "()I" } : Jvm.MethodName) prog_5_method_13_code (3 : Nat) (Option.some Jvm.ClassFile.FieldType.int) ∈ qm_ws := qm_mem2 (i := 137) rfl rfl
theorem qw_378 : Jvm.Cond.methodLink "HungStreams$Tree" (78 : Nat) ({ cls := "HungStreams$Stream", name := "can", desc := "()Z" } : Jvm.MethodName) ∈ qm_ws := qm_mem2 (i := 138) rfl rfl
theorem qw_379 : Jvm.Cond.methodLink "HungStreams" (123 : Nat) ({ cls := "HungStreams$Tree", name := "liveBits", desc := "(I)I" } : Jvm.MethodName) ∈ qm_ws := qm_mem2 (i := 139) rfl rfl
theorem qw_380 : Jvm.Cond.instanceMethod ({ cls := "HungStreams$Tree", name := "liveBits", desc := "(I)I" } : Jvm.MethodName) ∈ qm_ws := qm_mem2 (i := 140) rfl rfl
theorem qw_381 : Jvm.Cond.selects "HungStreams$Tree" ({ cls := "HungStreams$Tree", name := "liveBits", desc := "(I)I" } : Jvm.MethodName) ({ cls := "HungStreams$Tree", name := "liveBits", desc := "(I)I" } : Jvm.MethodName) ∈ qm_ws := qm_mem2 (i := 141) rfl rfl
theorem qw_382 : Jvm.Cond.code ({ cls := "HungStreams$Tree", name := "liveBits", desc := "(I)I" } : Jvm.MethodName) prog_5_method_14_code (4 : Nat) (Option.some Jvm.ClassFile.FieldType.int) ∈ qm_ws := qm_mem2 (i := 142) rfl rfl
theorem qw_383 : Jvm.Cond.methodLink "HungStreams" (126 : Nat) ({ cls := "HungStreams", name := "has", desc := "(II)Z" } : Jvm.MethodName) ∈ qm_ws := qm_mem2 (i := 143) rfl rfl
theorem qw_384 : Jvm.Cond.methodLink "HungStreams" (129 : Nat) ({ cls := "HungStreams$Stream", name := "held", desc := "(I)I" } : Jvm.MethodName) ∈ qm_ws := qm_mem2 (i := 144) rfl rfl
theorem qw_385 : Jvm.Cond.instanceMethod ({ cls := "HungStreams$Stream", name := "held", desc := "(I)I" } : Jvm.MethodName) ∈ qm_ws := qm_mem2 (i := 145) rfl rfl
theorem qw_386 : Jvm.Cond.selects "HungStreams$Stream" ({ cls := "HungStreams$Stream", name := "held", desc := "(I)I" } : Jvm.MethodName) ({ cls := "HungStreams$Stream", name := "held", desc := "(I)I" } : Jvm.MethodName) ∈ qm_ws := qm_mem2 (i := 146) rfl rfl
theorem qw_387 : Jvm.Cond.code ({ cls := "HungStreams$Stream", name := "held", desc := "(I)I" } : Jvm.MethodName) prog_4_method_5_code (2 : Nat) (Option.some Jvm.ClassFile.FieldType.int) ∈ qm_ws := qm_mem2 (i := 147) rfl rfl
theorem qw_388 : Jvm.Cond.methodLink "HungStreamsLaw" (37 : Nat) ({ cls := "HungStreams", name := "turn", desc := "(II)J" } : Jvm.MethodName) ∈ qm_ws := qm_mem2 (i := 148) rfl rfl
theorem qw_389 : Jvm.Cond.instanceMethod ({ cls := "HungStreams", name := "turn", desc := "(II)J" } : Jvm.MethodName) ∈ qm_ws := qm_mem2 (i := 149) rfl rfl
theorem qw_390 : Jvm.Cond.selects "HungStreams" ({ cls := "HungStreams", name := "turn", desc := "(II)J" } : Jvm.MethodName) ({ cls := "HungStreams", name := "turn", desc := "(II)J" } : Jvm.MethodName) ∈ qm_ws := qm_mem2 (i := 150) rfl rfl
theorem qw_391 : Jvm.Cond.code ({ cls := "HungStreams", name := "turn", desc := "(II)J" } : Jvm.MethodName) prog_1_method_7_code (3 : Nat) (Option.some Jvm.ClassFile.FieldType.long) ∈ qm_ws := qm_mem2 (i := 151) rfl rfl
theorem qw_392 : Jvm.Cond.methodLink "HungStreamsLaw" (42 : Nat) ({ cls := "HungStreams", name := "child", desc := "(II)I" } : Jvm.MethodName) ∈ qm_ws := qm_mem2 (i := 152) rfl rfl
theorem qw_393 : Jvm.Cond.instanceMethod ({ cls := "HungStreams", name := "child", desc := "(II)I" } : Jvm.MethodName) ∈ qm_ws := qm_mem2 (i := 153) rfl rfl
theorem qw_394 : Jvm.Cond.selects "HungStreams" ({ cls := "HungStreams", name := "child", desc := "(II)I" } : Jvm.MethodName) ({ cls := "HungStreams", name := "child", desc := "(II)I" } : Jvm.MethodName) ∈ qm_ws := qm_mem2 (i := 154) rfl rfl
theorem qw_395 : Jvm.Cond.code ({ cls := "HungStreams", name := "child", desc := "(II)I" } : Jvm.MethodName) prog_1_method_8_code (3 : Nat) (Option.some Jvm.ClassFile.FieldType.int) ∈ qm_ws := qm_mem2 (i := 155) rfl rfl
theorem qw_396 : Jvm.Cond.methodLink "HungStreams" (139 : Nat) ({ cls := "HungStreams$Tree", name := "childAt", desc := "(II)I" } : Jvm.MethodName) ∈ qm_ws := qm_mem2 (i := 156) rfl rfl
theorem qw_397 : Jvm.Cond.instanceMethod ({ cls := "HungStreams$Tree", name := "childAt", desc := "(II)I" } : Jvm.MethodName) ∈ qm_ws := qm_mem2 (i := 157) rfl rfl
theorem qw_398 : Jvm.Cond.selects "HungStreams$Tree" ({ cls := "HungStreams$Tree", name := "childAt", desc := "(II)I" } : Jvm.MethodName) ({ cls := "HungStreams$Tree", name := "childAt", desc := "(II)I" } : Jvm.MethodName) ∈ qm_ws := qm_mem2 (i := 158) rfl rfl
theorem qw_399 : Jvm.Cond.code ({ cls := "HungStreams$Tree", name := "childAt", desc := "(II)I" } : Jvm.MethodName) prog_5_method_7_code (5 : Nat) (Option.some Jvm.ClassFile.FieldType.int) ∈ qm_ws := qm_mem2 (i := 159) rfl rfl
theorem qw_400 : Jvm.Cond.methodLink "HungStreamsLaw" (46 : Nat) ({ cls := "HungStreams", name := "common", desc := "(II)I" } : Jvm.MethodName) ∈ qm_ws := qm_mem2 (i := 160) rfl rfl
theorem qw_401 : Jvm.Cond.instanceMethod ({ cls := "HungStreams", name := "common", desc := "(II)I" } : Jvm.MethodName) ∈ qm_ws := qm_mem2 (i := 161) rfl rfl
theorem qw_402 : Jvm.Cond.selects "HungStreams" ({ cls := "HungStreams", name := "common", desc := "(II)I" } : Jvm.MethodName) ({ cls := "HungStreams", name := "common", desc := "(II)I" } : Jvm.MethodName) ∈ qm_ws := qm_mem2 (i := 162) rfl rfl
theorem qw_403 : Jvm.Cond.code ({ cls := "HungStreams", name := "common", desc := "(II)I" } : Jvm.MethodName) prog_1_method_9_code (3 : Nat) (Option.some Jvm.ClassFile.FieldType.int) ∈ qm_ws := qm_mem2 (i := 163) rfl rfl
theorem qw_404 : Jvm.Cond.methodLink "HungStreams" (142 : Nat) ({ cls := "HungStreams$Tree", name := "deepestShared", desc := "(II)I" } : Jvm.MethodName) ∈ qm_ws := qm_mem2 (i := 164) rfl rfl
theorem qw_405 : Jvm.Cond.instanceMethod ({ cls := "HungStreams$Tree", name := "deepestShared", desc := "(II)I" } : Jvm.MethodName) ∈ qm_ws := qm_mem2 (i := 165) rfl rfl
theorem qw_406 : Jvm.Cond.selects "HungStreams$Tree" ({ cls := "HungStreams$Tree", name := "deepestShared", desc := "(II)I" } : Jvm.MethodName) ({ cls := "HungStreams$Tree", name := "deepestShared", desc := "(II)I" } : Jvm.MethodName) ∈ qm_ws := qm_mem2 (i := 166) rfl rfl
theorem qw_407 : Jvm.Cond.code ({ cls := "HungStreams$Tree", name := "deepestShared", desc := "(II)I" } : Jvm.MethodName) prog_5_method_12_code (6 : Nat) (Option.some Jvm.ClassFile.FieldType.int) ∈ qm_ws := qm_mem2 (i := 167) rfl rfl
theorem qw_408 : Jvm.Cond.methodLink "HungStreamsLaw" (50 : Nat) ({ cls := "HungStreams", name := "readies", desc := "(II)I" } : Jvm.MethodName) ∈ qm_ws := qm_mem2 (i := 168) rfl rfl
theorem qw_409 : Jvm.Cond.instanceMethod ({ cls := "HungStreams", name := "readies", desc := "(II)I" } : Jvm.MethodName) ∈ qm_ws := qm_mem2 (i := 169) rfl rfl
theorem qw_410 : Jvm.Cond.selects "HungStreams" ({ cls := "HungStreams", name := "readies", desc := "(II)I" } : Jvm.MethodName) ({ cls := "HungStreams", name := "readies", desc := "(II)I" } : Jvm.MethodName) ∈ qm_ws := qm_mem2 (i := 170) rfl rfl
theorem qw_411 : Jvm.Cond.code ({ cls := "HungStreams", name := "readies", desc := "(II)I" } : Jvm.MethodName) prog_1_method_10_code (4 : Nat) (Option.some Jvm.ClassFile.FieldType.int) ∈ qm_ws := qm_mem2 (i := 171) rfl rfl
theorem qw_412 : Jvm.Cond.methodLink "HungStreamsLaw" (54 : Nat) ({ cls := "HungStreams", name := "window", desc := "(II)I" } : Jvm.MethodName) ∈ qm_ws := qm_mem2 (i := 172) rfl rfl
theorem qw_413 : Jvm.Cond.instanceMethod ({ cls := "HungStreams", name := "window", desc := "(II)I" } : Jvm.MethodName) ∈ qm_ws := qm_mem2 (i := 173) rfl rfl
theorem qw_414 : Jvm.Cond.selects "HungStreams" ({ cls := "HungStreams", name := "window", desc := "(II)I" } : Jvm.MethodName) ({ cls := "HungStreams", name := "window", desc := "(II)I" } : Jvm.MethodName) ∈ qm_ws := qm_mem2 (i := 174) rfl rfl
theorem qw_415 : Jvm.Cond.code ({ cls := "HungStreams", name := "window", desc := "(II)I" } : Jvm.MethodName) prog_1_method_11_code (4 : Nat) (Option.some Jvm.ClassFile.FieldType.int) ∈ qm_ws := qm_mem2 (i := 175) rfl rfl
theorem qw_416 : Jvm.Cond.methodLink "HungStreamsLaw" (58 : Nat) ({ cls := "HungStreams", name := "settings", desc := "(II)I" } : Jvm.MethodName) ∈ qm_ws := qm_mem2 (i := 176) rfl rfl
theorem qw_417 : Jvm.Cond.instanceMethod ({ cls := "HungStreams", name := "settings", desc := "(II)I" } : Jvm.MethodName) ∈ qm_ws := qm_mem2 (i := 177) rfl rfl
theorem qw_418 : Jvm.Cond.selects "HungStreams" ({ cls := "HungStreams", name := "settings", desc := "(II)I" } : Jvm.MethodName) ({ cls := "HungStreams", name := "settings", desc := "(II)I" } : Jvm.MethodName) ∈ qm_ws := qm_mem2 (i := 178) rfl rfl
theorem qw_419 : Jvm.Cond.code ({ cls := "HungStreams", name := "settings", desc := "(II)I" } : Jvm.MethodName) prog_1_method_12_code (3 : Nat) (Option.some Jvm.ClassFile.FieldType.int) ∈ qm_ws := qm_mem2 (i := 179) rfl rfl
theorem qw_420 : Jvm.Cond.fieldLink "HungStreams" (148 : Nat) "HungStreams" "LEAST_SETTING" "[I" ∈ qm_ws := qm_mem2 (i := 180) rfl rfl
theorem qw_422 : Jvm.Cond.fieldLink "HungStreams" (151 : Nat) "HungStreams" "MOST_SETTING" "[I" ∈ qm_ws := qm_mem2 (i := 182) rfl rfl
theorem qw_424 : Jvm.Cond.methodLink "HungStreams" (154 : Nat) ({ cls := "HungStreams$Tree", name := "changeSetting", desc := "(II)I" } : Jvm.MethodName) ∈ qm_ws := qm_mem2 (i := 184) rfl rfl
theorem qw_425 : Jvm.Cond.instanceMethod ({ cls := "HungStreams$Tree", name := "changeSetting", desc := "(II)I" } : Jvm.MethodName) ∈ qm_ws := qm_mem2 (i := 185) rfl rfl
theorem qw_426 : Jvm.Cond.selects "HungStreams$Tree" ({ cls := "HungStreams$Tree", name := "changeSetting", desc := "(II)I" } : Jvm.MethodName) ({ cls := "HungStreams$Tree", name := "changeSetting", desc := "(II)I" } : Jvm.MethodName) ∈ qm_ws := qm_mem2 (i := 186) rfl rfl
theorem qw_427 : Jvm.Cond.code ({ cls := "HungStreams$Tree", name := "changeSetting", desc := "(II)I" } : Jvm.MethodName) prog_5_method_21_code (4 : Nat) (Option.some Jvm.ClassFile.FieldType.int) ∈ qm_ws := qm_mem2 (i := 187) rfl rfl
theorem qw_428 : Jvm.Cond.methodLink "HungStreams$Tree" (112 : Nat) ({ cls := "HungStreams$Tree", name := "letGo", desc := "()V" } : Jvm.MethodName) ∈ qm_ws := qm_mem2 (i := 188) rfl rfl
theorem qw_429 : Jvm.Cond.methodLink "HungStreamsLaw" (62 : Nat) ({ cls := "HungStreams", name := "sends", desc := "(I)I" } : Jvm.MethodName) ∈ qm_ws := qm_mem2 (i := 189) rfl rfl
theorem qw_430 : Jvm.Cond.instanceMethod ({ cls := "HungStreams", name := "sends", desc := "(I)I" } : Jvm.MethodName) ∈ qm_ws := qm_mem2 (i := 190) rfl rfl
theorem qw_431 : Jvm.Cond.selects "HungStreams" ({ cls := "HungStreams", name := "sends", desc := "(I)I" } : Jvm.MethodName) ({ cls := "HungStreams", name := "sends", desc := "(I)I" } : Jvm.MethodName) ∈ qm_ws := qm_mem2 (i := 191) rfl rfl
theorem qw_432 : Jvm.Cond.code ({ cls := "HungStreams", name := "sends", desc := "(I)I" } : Jvm.MethodName) prog_1_method_13_code (3 : Nat) (Option.some Jvm.ClassFile.FieldType.int) ∈ qm_ws := qm_mem2 (i := 192) rfl rfl
theorem qw_433 : Jvm.Cond.methodLink "HungStreams" (157 : Nat) ({ cls := "HungStreams$Frames", name := "tryOne", desc := "(LHungStreams$Tree;)Z" } : Jvm.MethodName) ∈ qm_ws := qm_mem2 (i := 193) rfl rfl
theorem qw_434 : Jvm.Cond.static ({ cls := "HungStreams$Frames", name := "tryOne", desc := "(LHungStreams$Tree;)Z" } : Jvm.MethodName) ∈ qm_ws := qm_mem2 (i := 194) rfl rfl
theorem qw_435 : Jvm.Cond.code ({ cls := "HungStreams$Frames", name := "tryOne", desc := "(LHungStreams$Tree;)Z" } : Jvm.MethodName) prog_2_method_2_code (4 : Nat) (Option.some Jvm.ClassFile.FieldType.boolean) ∈ qm_ws := qm_mem2 (i := 195) rfl rfl
theorem qw_436 : Jvm.Cond.methodLink "HungStreams$Frames" (9 : Nat) ({ cls := "HungStreams$Tree", name := "canBits", desc := "()I" } : Jvm.MethodName) ∈ qm_ws := qm_mem2 (i := 196) rfl rfl
theorem qw_437 : Jvm.Cond.methodLink "HungStreams$Frames" (15 : Nat) ({ cls := "HungStreams$Tree", name := "liveBits", desc := "(I)I" } : Jvm.MethodName) ∈ qm_ws := qm_mem2 (i := 197) rfl rfl
theorem qw_438 : Jvm.Cond.methodLink "HungStreams$Frames" (19 : Nat) ({ cls := "HungStreams$Frames", name := "look", desc := "(LHungStreams$Tree;I)V" } : Jvm.MethodName) ∈ qm_ws := qm_mem2 (i := 198) rfl rfl
theorem qw_439 : Jvm.Cond.static ({ cls := "HungStreams$Frames", name := "look", desc := "(LHungStreams$Tree;I)V" } : Jvm.MethodName) ∈ qm_ws := qm_mem2 (i := 199) rfl rfl
theorem qw_440 : Jvm.Cond.code ({ cls := "HungStreams$Frames", name := "look", desc := "(LHungStreams$Tree;I)V" } : Jvm.MethodName) prog_2_method_3_code (3 : Nat) (Option.none : Option Jvm.ClassFile.FieldType) ∈ qm_ws := qm_mem2 (i := 200) rfl rfl
theorem qw_442 : Jvm.Cond.methodLink "HungStreams$Frames" (51 : Nat) ({ cls := "HungStreams$Frames", name := "turnOnLook", desc := "(LHungStreams$Tree;I)J" } : Jvm.MethodName) ∈ qm_ws := qm_mem2 (i := 202) rfl rfl
theorem qw_443 : Jvm.Cond.static ({ cls := "HungStreams$Frames", name := "turnOnLook", desc := "(LHungStreams$Tree;I)J" } : Jvm.MethodName) ∈ qm_ws := qm_mem2 (i := 203) rfl rfl
theorem qw_444 : Jvm.Cond.code ({ cls := "HungStreams$Frames", name := "turnOnLook", desc := "(LHungStreams$Tree;I)J" } : Jvm.MethodName) prog_2_method_4_code (3 : Nat) (Option.some Jvm.ClassFile.FieldType.long) ∈ qm_ws := qm_mem2 (i := 204) rfl rfl
theorem qw_445 : Jvm.Cond.methodLink "HungStreams$Frames" (71 : Nat) ({ cls := "java/lang/Math", name := "max", desc := "(JJ)J" } : Jvm.MethodName) ∈ qm_ws := qm_mem2 (i := 205) rfl rfl
theorem qw_446 : Jvm.Cond.methodLink "HungStreams$Frames" (25 : Nat) ({ cls := "HungStreams$Frames", name := "sender", desc := "(LHungStreams$Tree;II)I" } : Jvm.MethodName) ∈ qm_ws := qm_mem2 (i := 206) rfl rfl
theorem qw_447 : Jvm.Cond.static ({ cls := "HungStreams$Frames", name := "sender", desc := "(LHungStreams$Tree;II)I" } : Jvm.MethodName) ∈ qm_ws := qm_mem2 (i := 207) rfl rfl
theorem qw_448 : Jvm.Cond.code ({ cls := "HungStreams$Frames", name := "sender", desc := "(LHungStreams$Tree;II)I" } : Jvm.MethodName) prog_2_method_5_code (3 : Nat) (Option.some Jvm.ClassFile.FieldType.int) ∈ qm_ws := qm_mem2 (i := 208) rfl rfl
theorem qw_449 : Jvm.Cond.methodLink "HungStreams$Frames" (83 : Nat) ({ cls := "HungStreams$Frames", name := "byTree", desc := "(LHungStreams$Tree;II)I" } : Jvm.MethodName) ∈ qm_ws := qm_mem2 (i := 209) rfl rfl
theorem qw_450 : Jvm.Cond.static ({ cls := "HungStreams$Frames", name := "byTree", desc := "(LHungStreams$Tree;II)I" } : Jvm.MethodName) ∈ qm_ws := qm_mem2 (i := 210) rfl rfl
theorem qw_451 : Jvm.Cond.code ({ cls := "HungStreams$Frames", name := "byTree", desc := "(LHungStreams$Tree;II)I" } : Jvm.MethodName) prog_2_method_6_code (5 : Nat) (Option.some Jvm.ClassFile.FieldType.int) ∈ qm_ws := qm_mem2 (i := 211) rfl rfl
theorem qw_452 : Jvm.Cond.methodLink "HungStreams$Frames" (90 : Nat) ({ cls := "HungStreams$Frames", name := "leastTurn", desc := "(LHungStreams$Tree;II)I" } : Jvm.MethodName) ∈ qm_ws := qm_mem2 (i := 212) rfl rfl
theorem qw_453 : Jvm.Cond.static ({ cls := "HungStreams$Frames", name := "leastTurn", desc := "(LHungStreams$Tree;II)I" } : Jvm.MethodName) ∈ qm_ws := qm_mem2 (i := 213) rfl rfl
theorem qw_454 : Jvm.Cond.code ({ cls := "HungStreams$Frames", name := "leastTurn", desc := "(LHungStreams$Tree;II)I" } : Jvm.MethodName) prog_2_method_7_code (9 : Nat) (Option.some Jvm.ClassFile.FieldType.int) ∈ qm_ws := qm_mem2 (i := 214) rfl rfl
theorem qw_455 : Jvm.Cond.methodLink "HungStreams$Frames" (86 : Nat) ({ cls := "HungStreams$Frames", name := "byUrgency", desc := "(LHungStreams$Tree;I)I" } : Jvm.MethodName) ∈ qm_ws := qm_mem2 (i := 215) rfl rfl
theorem qw_456 : Jvm.Cond.static ({ cls := "HungStreams$Frames", name := "byUrgency", desc := "(LHungStreams$Tree;I)I" } : Jvm.MethodName) ∈ qm_ws := qm_mem2 (i := 216) rfl rfl
theorem qw_457 : Jvm.Cond.code ({ cls := "HungStreams$Frames", name := "byUrgency", desc := "(LHungStreams$Tree;I)I" } : Jvm.MethodName) prog_2_method_8_code (4 : Nat) (Option.some Jvm.ClassFile.FieldType.int) ∈ qm_ws := qm_mem2 (i := 217) rfl rfl
theorem qw_458 : Jvm.Cond.methodLink "HungStreams$Frames" (93 : Nat) ({ cls := "HungStreams$Frames", name := "isAhead", desc := "(LHungStreams$Stream;LHungStreams$Stream;)Z" } : Jvm.MethodName) ∈ qm_ws := qm_mem2 (i := 218) rfl rfl
theorem qw_459 : Jvm.Cond.static ({ cls := "HungStreams$Frames", name := "isAhead", desc := "(LHungStreams$Stream;LHungStreams$Stream;)Z" } : Jvm.MethodName) ∈ qm_ws := qm_mem2 (i := 219) rfl rfl
theorem qw_460 : Jvm.Cond.code ({ cls := "HungStreams$Frames", name := "isAhead", desc := "(LHungStreams$Stream;LHungStreams$Stream;)Z" } : Jvm.MethodName) prog_2_method_9_code (2 : Nat) (Option.some Jvm.ClassFile.FieldType.boolean) ∈ qm_ws := qm_mem2 (i := 220) rfl rfl
theorem qw_461 : Jvm.Cond.methodLink "HungStreams$Frames" (29 : Nat) ({ cls := "HungStreams$Frames", name := "send", desc := "(LHungStreams$Tree;I)V" } : Jvm.MethodName) ∈ qm_ws := qm_mem2 (i := 221) rfl rfl
theorem qw_462 : Jvm.Cond.static ({ cls := "HungStreams$Frames", name := "send", desc := "(LHungStreams$Tree;I)V" } : Jvm.MethodName) ∈ qm_ws := qm_mem2 (i := 222) rfl rfl
theorem qw_463 : Jvm.Cond.code ({ cls := "HungStreams$Frames", name := "send", desc := "(LHungStreams$Tree;I)V" } : Jvm.MethodName) prog_2_method_10_code (4 : Nat) (Option.none : Option Jvm.ClassFile.FieldType) ∈ qm_ws := qm_mem2 (i := 223) rfl rfl
theorem qw_464 : Jvm.Cond.methodLink "HungStreams$Frames" (109 : Nat) ({ cls := "java/lang/Math", name := "min", desc := "(II)I" } : Jvm.MethodName) ∈ qm_ws := qm_mem2 (i := 224) rfl rfl
theorem qw_465 : Jvm.Cond.static ({ cls := "java/lang/Math", name := "min", desc := "(II)I" } : Jvm.MethodName) ∈ qm_ws := qm_mem2 (i := 225) rfl rfl
theorem qw_466 : Jvm.Cond.code ({ cls := "java/lang/Math", name := "min", desc := "(II)I" } : Jvm.MethodName) prog_11_method_69_code (2 : Nat) (Option.some Jvm.ClassFile.FieldType.int) ∈ qm_ws := qm_mem2 (i := 226) rfl rfl
theorem qw_467 : Jvm.Cond.methodLink "HungStreams$Frames" (122 : Nat) ({ cls := "HungStreams$Frames", name := "chargeLine", desc := "(LHungStreams$Tree;II)V" } : Jvm.MethodName) ∈ qm_ws := qm_mem2 (i := 227) rfl rfl
theorem qw_468 : Jvm.Cond.static ({ cls := "HungStreams$Frames", name := "chargeLine", desc := "(LHungStreams$Tree;II)V" } : Jvm.MethodName) ∈ qm_ws := qm_mem2 (i := 228) rfl rfl
theorem qw_469 : Jvm.Cond.code ({ cls := "HungStreams$Frames", name := "chargeLine", desc := "(LHungStreams$Tree;II)V" } : Jvm.MethodName) prog_2_method_11_code (6 : Nat) (Option.none : Option Jvm.ClassFile.FieldType) ∈ qm_ws := qm_mem2 (i := 229) rfl rfl
theorem qw_470 : Jvm.Cond.constantLong "HungStreams$Frames" (134 : Nat) (720720 : Int64) ∈ qm_ws := qm_mem2 (i := 230) rfl rfl
theorem qw_472 : Jvm.Cond.methodLink "HungStreams$Frames" (32 : Nat) ({ cls := "HungStreams$Frames", name := "countWaits", desc := "(LHungStreams$Tree;II)V" } : Jvm.MethodName) ∈ qm_ws := qm_mem2 (i := 232) rfl rfl
theorem qw_473 : Jvm.Cond.static ({ cls := "HungStreams$Frames", name := "countWaits", desc := "(LHungStreams$Tree;II)V" } : Jvm.MethodName) ∈ qm_ws := qm_mem2 (i := 233) rfl rfl
theorem qw_474 : Jvm.Cond.code ({ cls := "HungStreams$Frames", name := "countWaits", desc := "(LHungStreams$Tree;II)V" } : Jvm.MethodName) prog_2_method_12_code (4 : Nat) (Option.none : Option Jvm.ClassFile.FieldType) ∈ qm_ws := qm_mem2 (i := 234) rfl rfl
theorem qw_475 : Jvm.Cond.methodLink "HungStreams$Frames" (142 : Nat) ({ cls := "HungStreams$Stream", name := "waitOnce", desc := "()V" } : Jvm.MethodName) ∈ qm_ws := qm_mem2 (i := 235) rfl rfl
theorem qw_476 : Jvm.Cond.instanceMethod ({ cls := "HungStreams$Stream", name := "waitOnce", desc := "()V" } : Jvm.MethodName) ∈ qm_ws := qm_mem2 (i := 236) rfl rfl
theorem qw_477 : Jvm.Cond.selects "HungStreams$Stream" ({ cls := "HungStreams$Stream", name := "waitOnce", desc := "()V" } : Jvm.MethodName) ({ cls := "HungStreams$Stream", name := "waitOnce", desc := "()V" } : Jvm.MethodName) ∈ qm_ws := qm_mem2 (i := 237) rfl rfl
theorem qw_478 : Jvm.Cond.code ({ cls := "HungStreams$Stream", name := "waitOnce", desc := "()V" } : Jvm.MethodName) prog_4_method_7_code (1 : Nat) (Option.none : Option Jvm.ClassFile.FieldType) ∈ qm_ws := qm_mem2 (i := 238) rfl rfl
theorem qw_479 : Jvm.Cond.methodLink "HungStreams$Stream" (56 : Nat) ({ cls := "java/lang/Math", name := "max", desc := "(II)I" } : Jvm.MethodName) ∈ qm_ws := qm_mem2 (i := 239) rfl rfl
theorem qw_480 : Jvm.Cond.static ({ cls := "java/lang/Math", name := "max", desc := "(II)I" } : Jvm.MethodName) ∈ qm_ws := qm_mem3 (i := 0) rfl rfl
theorem qw_481 : Jvm.Cond.code ({ cls := "java/lang/Math", name := "max", desc := "(II)I" } : Jvm.MethodName) prog_11_method_65_code (2 : Nat) (Option.some Jvm.ClassFile.FieldType.int) ∈ qm_ws := qm_mem3 (i := 1) rfl rfl
theorem qw_482 : Jvm.Cond.methodLink "HungStreams$Frames" (36 : Nat) ({ cls := "HungStreams$Frames", name := "growOld", desc := "(LHungStreams$Tree;)V" } : Jvm.MethodName) ∈ qm_ws := qm_mem3 (i := 2) rfl rfl
theorem qw_483 : Jvm.Cond.static ({ cls := "HungStreams$Frames", name := "growOld", desc := "(LHungStreams$Tree;)V" } : Jvm.MethodName) ∈ qm_ws := qm_mem3 (i := 3) rfl rfl
theorem qw_484 : Jvm.Cond.code ({ cls := "HungStreams$Frames", name := "growOld", desc := "(LHungStreams$Tree;)V" } : Jvm.MethodName) prog_2_method_13_code (2 : Nat) (Option.none : Option Jvm.ClassFile.FieldType) ∈ qm_ws := qm_mem3 (i := 4) rfl rfl
theorem qw_485 : Jvm.Cond.methodLink "HungStreams$Frames" (40 : Nat) ({ cls := "HungStreams$Tree", name := "letGo", desc := "()V" } : Jvm.MethodName) ∈ qm_ws := qm_mem3 (i := 5) rfl rfl
theorem qw_486 : Jvm.Cond.methodLink "HungStreamsLaw" (66 : Nat) ({ cls := "HungStreams", name := "next", desc := "()I" } : Jvm.MethodName) ∈ qm_ws := qm_mem3 (i := 6) rfl rfl
theorem qw_487 : Jvm.Cond.instanceMethod ({ cls := "HungStreams", name := "next", desc := "()I" } : Jvm.MethodName) ∈ qm_ws := qm_mem3 (i := 7) rfl rfl
theorem qw_488 : Jvm.Cond.selects "HungStreams" ({ cls := "HungStreams", name := "next", desc := "()I" } : Jvm.MethodName) ({ cls := "HungStreams", name := "next", desc := "()I" } : Jvm.MethodName) ∈ qm_ws := qm_mem3 (i := 8) rfl rfl
theorem qw_489 : Jvm.Cond.code ({ cls := "HungStreams", name := "next", desc := "()I" } : Jvm.MethodName) prog_1_method_14_code (2 : Nat) (Option.some Jvm.ClassFile.FieldType.int) ∈ qm_ws := qm_mem3 (i := 9) rfl rfl
theorem qw_490 : Jvm.Cond.methodLink "HungStreams" (163 : Nat) ({ cls := "HungStreams$Frames", name := "sender", desc := "(LHungStreams$Tree;II)I" } : Jvm.MethodName) ∈ qm_ws := qm_mem3 (i := 10) rfl rfl
theorem qw_491 : Jvm.Cond.methodLink "HungStreamsLaw" (71 : Nat) ({ cls := "HungStreams", name := "share", desc := "(II)J" } : Jvm.MethodName) ∈ qm_ws := qm_mem3 (i := 11) rfl rfl
theorem qw_492 : Jvm.Cond.instanceMethod ({ cls := "HungStreams", name := "share", desc := "(II)J" } : Jvm.MethodName) ∈ qm_ws := qm_mem3 (i := 12) rfl rfl
theorem qw_493 : Jvm.Cond.selects "HungStreams" ({ cls := "HungStreams", name := "share", desc := "(II)J" } : Jvm.MethodName) ({ cls := "HungStreams", name := "share", desc := "(II)J" } : Jvm.MethodName) ∈ qm_ws := qm_mem3 (i := 13) rfl rfl
theorem qw_494 : Jvm.Cond.code ({ cls := "HungStreams", name := "share", desc := "(II)J" } : Jvm.MethodName) prog_1_method_15_code (3 : Nat) (Option.some Jvm.ClassFile.FieldType.long) ∈ qm_ws := qm_mem3 (i := 14) rfl rfl
theorem qw_495 : Jvm.Cond.methodLink "HungStreams" (167 : Nat) ({ cls := "HungStreams$Shares", name := "term", desc := "(LHungStreams$Tree;IZ)J" } : Jvm.MethodName) ∈ qm_ws := qm_mem3 (i := 15) rfl rfl
theorem qw_496 : Jvm.Cond.static ({ cls := "HungStreams$Shares", name := "term", desc := "(LHungStreams$Tree;IZ)J" } : Jvm.MethodName) ∈ qm_ws := qm_mem3 (i := 16) rfl rfl
theorem qw_497 : Jvm.Cond.code ({ cls := "HungStreams$Shares", name := "term", desc := "(LHungStreams$Tree;IZ)J" } : Jvm.MethodName) prog_3_method_2_code (12 : Nat) (Option.some Jvm.ClassFile.FieldType.long) ∈ qm_ws := qm_mem3 (i := 17) rfl rfl
theorem qw_498 : Jvm.Cond.methodLink "HungStreams$Shares" (9 : Nat) ({ cls := "HungStreams$Tree", name := "canBits", desc := "()I" } : Jvm.MethodName) ∈ qm_ws := qm_mem3 (i := 18) rfl rfl
theorem qw_499 : Jvm.Cond.methodLink "HungStreams$Shares" (15 : Nat) ({ cls := "HungStreams$Tree", name := "liveBits", desc := "(I)I" } : Jvm.MethodName) ∈ qm_ws := qm_mem3 (i := 19) rfl rfl
theorem qw_500 : Jvm.Cond.methodLink "HungStreams$Shares" (19 : Nat) ({ cls := "HungStreams$Tree", name := "lineBits", desc := "(I)I" } : Jvm.MethodName) ∈ qm_ws := qm_mem3 (i := 20) rfl rfl
theorem qw_502 : Jvm.Cond.methodLink "HungStreams$Shares" (39 : Nat) ({ cls := "HungStreams$Tree", name := "childWeights", desc := "(II)I" } : Jvm.MethodName) ∈ qm_ws := qm_mem3 (i := 22) rfl rfl
theorem qw_503 : Jvm.Cond.methodLink "HungStreams$Shares" (43 : Nat) ({ cls := "HungStreams$Shares", name := "gcd", desc := "(JJ)J" } : Jvm.MethodName) ∈ qm_ws := qm_mem3 (i := 23) rfl rfl
theorem qw_504 : Jvm.Cond.static ({ cls := "HungStreams$Shares", name := "gcd", desc := "(JJ)J" } : Jvm.MethodName) ∈ qm_ws := qm_mem3 (i := 24) rfl rfl
theorem qw_505 : Jvm.Cond.code ({ cls := "HungStreams$Shares", name := "gcd", desc := "(JJ)J" } : Jvm.MethodName) prog_3_method_3_code (11 : Nat) (Option.some Jvm.ClassFile.FieldType.long) ∈ qm_ws := qm_mem3 (i := 25) rfl rfl
theorem qw_507 : Jvm.Cond.methodLink "HungStreamsLaw" (75 : Nat) ({ cls := "HungStreams", name := "all", desc := "(I)I" } : Jvm.MethodName) ∈ qm_ws := qm_mem3 (i := 27) rfl rfl
theorem qw_508 : Jvm.Cond.instanceMethod ({ cls := "HungStreams", name := "all", desc := "(I)I" } : Jvm.MethodName) ∈ qm_ws := qm_mem3 (i := 28) rfl rfl
theorem qw_509 : Jvm.Cond.selects "HungStreams" ({ cls := "HungStreams", name := "all", desc := "(I)I" } : Jvm.MethodName) ({ cls := "HungStreams", name := "all", desc := "(I)I" } : Jvm.MethodName) ∈ qm_ws := qm_mem3 (i := 29) rfl rfl
theorem qw_510 : Jvm.Cond.code ({ cls := "HungStreams", name := "all", desc := "(I)I" } : Jvm.MethodName) prog_1_method_16_code (2 : Nat) (Option.some Jvm.ClassFile.FieldType.int) ∈ qm_ws := qm_mem3 (i := 30) rfl rfl
theorem qw_511 : Jvm.Cond.methodLink "HungStreams" (173 : Nat) ({ cls := "HungStreams$Tree", name := "sentTogether", desc := "()I" } : Jvm.MethodName) ∈ qm_ws := qm_mem3 (i := 31) rfl rfl
theorem qw_512 : Jvm.Cond.instanceMethod ({ cls := "HungStreams$Tree", name := "sentTogether", desc := "()I" } : Jvm.MethodName) ∈ qm_ws := qm_mem3 (i := 32) rfl rfl
theorem qw_513 : Jvm.Cond.selects "HungStreams$Tree" ({ cls := "HungStreams$Tree", name := "sentTogether", desc := "()I" } : Jvm.MethodName) ({ cls := "HungStreams$Tree", name := "sentTogether", desc := "()I" } : Jvm.MethodName) ∈ qm_ws := qm_mem3 (i := 33) rfl rfl
theorem qw_514 : Jvm.Cond.code ({ cls := "HungStreams$Tree", name := "sentTogether", desc := "()I" } : Jvm.MethodName) prog_5_method_15_code (3 : Nat) (Option.some Jvm.ClassFile.FieldType.int) ∈ qm_ws := qm_mem3 (i := 34) rfl rfl
theorem qw_515 : Jvm.Cond.methodLink "HungStreams" (176 : Nat) ({ cls := "HungStreams$Tree", name := "greatestLongest", desc := "()I" } : Jvm.MethodName) ∈ qm_ws := qm_mem3 (i := 35) rfl rfl
theorem qw_516 : Jvm.Cond.instanceMethod ({ cls := "HungStreams$Tree", name := "greatestLongest", desc := "()I" } : Jvm.MethodName) ∈ qm_ws := qm_mem3 (i := 36) rfl rfl
theorem qw_517 : Jvm.Cond.selects "HungStreams$Tree" ({ cls := "HungStreams$Tree", name := "greatestLongest", desc := "()I" } : Jvm.MethodName) ({ cls := "HungStreams$Tree", name := "greatestLongest", desc := "()I" } : Jvm.MethodName) ∈ qm_ws := qm_mem3 (i := 37) rfl rfl
theorem qw_518 : Jvm.Cond.code ({ cls := "HungStreams$Tree", name := "greatestLongest", desc := "()I" } : Jvm.MethodName) prog_5_method_16_code (3 : Nat) (Option.some Jvm.ClassFile.FieldType.int) ∈ qm_ws := qm_mem3 (i := 38) rfl rfl
theorem qw_519 : Jvm.Cond.methodLink "HungStreams$Tree" (88 : Nat) ({ cls := "java/lang/Math", name := "max", desc := "(II)I" } : Jvm.MethodName) ∈ qm_ws := qm_mem3 (i := 39) rfl rfl
theorem qw_520 : Jvm.Cond.methodLink "HungStreamsLaw" (79 : Nat) ({ cls := "HungStreams", name := "type", desc := "(I)I" } : Jvm.MethodName) ∈ qm_ws := qm_mem3 (i := 40) rfl rfl
theorem qw_521 : Jvm.Cond.instanceMethod ({ cls := "HungStreams", name := "type", desc := "(I)I" } : Jvm.MethodName) ∈ qm_ws := qm_mem3 (i := 41) rfl rfl
theorem qw_522 : Jvm.Cond.selects "HungStreams" ({ cls := "HungStreams", name := "type", desc := "(I)I" } : Jvm.MethodName) ({ cls := "HungStreams", name := "type", desc := "(I)I" } : Jvm.MethodName) ∈ qm_ws := qm_mem3 (i := 42) rfl rfl
theorem qw_523 : Jvm.Cond.code ({ cls := "HungStreams", name := "type", desc := "(I)I" } : Jvm.MethodName) prog_1_method_17_code (2 : Nat) (Option.some Jvm.ClassFile.FieldType.int) ∈ qm_ws := qm_mem3 (i := 43) rfl rfl
theorem qw_524 : Jvm.Cond.methodLink "HungStreams" (188 : Nat) ({ cls := "HungStreams$TypedText", name := "append", desc := "(I)V" } : Jvm.MethodName) ∈ qm_ws := qm_mem3 (i := 44) rfl rfl
theorem qw_525 : Jvm.Cond.instanceMethod ({ cls := "HungStreams$TypedText", name := "append", desc := "(I)V" } : Jvm.MethodName) ∈ qm_ws := qm_mem3 (i := 45) rfl rfl
theorem qw_526 : Jvm.Cond.selects "HungStreams$TypedText" ({ cls := "HungStreams$TypedText", name := "append", desc := "(I)V" } : Jvm.MethodName) ({ cls := "HungStreams$TypedText", name := "append", desc := "(I)V" } : Jvm.MethodName) ∈ qm_ws := qm_mem3 (i := 46) rfl rfl
theorem qw_527 : Jvm.Cond.code ({ cls := "HungStreams$TypedText", name := "append", desc := "(I)V" } : Jvm.MethodName) prog_7_method_2_code (2 : Nat) (Option.none : Option Jvm.ClassFile.FieldType) ∈ qm_ws := qm_mem3 (i := 47) rfl rfl
theorem qw_528 : Jvm.Cond.methodLink "HungStreamsLaw" (83 : Nat) ({ cls := "HungStreams", name := "clear", desc := "()I" } : Jvm.MethodName) ∈ qm_ws := qm_mem3 (i := 48) rfl rfl
theorem qw_529 : Jvm.Cond.instanceMethod ({ cls := "HungStreams", name := "clear", desc := "()I" } : Jvm.MethodName) ∈ qm_ws := qm_mem3 (i := 49) rfl rfl
theorem qw_530 : Jvm.Cond.selects "HungStreams" ({ cls := "HungStreams", name := "clear", desc := "()I" } : Jvm.MethodName) ({ cls := "HungStreams", name := "clear", desc := "()I" } : Jvm.MethodName) ∈ qm_ws := qm_mem3 (i := 50) rfl rfl
theorem qw_531 : Jvm.Cond.code ({ cls := "HungStreams", name := "clear", desc := "()I" } : Jvm.MethodName) prog_1_method_18_code (2 : Nat) (Option.some Jvm.ClassFile.FieldType.int) ∈ qm_ws := qm_mem3 (i := 51) rfl rfl
theorem qw_532 : Jvm.Cond.methodLink "HungStreamsLaw" (87 : Nat) ({ cls := "HungStreams", name := "builds", desc := "()I" } : Jvm.MethodName) ∈ qm_ws := qm_mem3 (i := 52) rfl rfl
theorem qw_533 : Jvm.Cond.instanceMethod ({ cls := "HungStreams", name := "builds", desc := "()I" } : Jvm.MethodName) ∈ qm_ws := qm_mem3 (i := 53) rfl rfl
theorem qw_534 : Jvm.Cond.selects "HungStreams" ({ cls := "HungStreams", name := "builds", desc := "()I" } : Jvm.MethodName) ({ cls := "HungStreams", name := "builds", desc := "()I" } : Jvm.MethodName) ∈ qm_ws := qm_mem3 (i := 54) rfl rfl
theorem qw_535 : Jvm.Cond.code ({ cls := "HungStreams", name := "builds", desc := "()I" } : Jvm.MethodName) prog_1_method_19_code (3 : Nat) (Option.some Jvm.ClassFile.FieldType.int) ∈ qm_ws := qm_mem3 (i := 55) rfl rfl
theorem qw_536 : Jvm.Cond.methodLink "HungStreams" (192 : Nat) ({ cls := "HungStreams$TypedText", name := "read", desc := "()I" } : Jvm.MethodName) ∈ qm_ws := qm_mem3 (i := 56) rfl rfl
theorem qw_537 : Jvm.Cond.instanceMethod ({ cls := "HungStreams$TypedText", name := "read", desc := "()I" } : Jvm.MethodName) ∈ qm_ws := qm_mem3 (i := 57) rfl rfl
theorem qw_538 : Jvm.Cond.selects "HungStreams$TypedText" ({ cls := "HungStreams$TypedText", name := "read", desc := "()I" } : Jvm.MethodName) ({ cls := "HungStreams$TypedText", name := "read", desc := "()I" } : Jvm.MethodName) ∈ qm_ws := qm_mem3 (i := 58) rfl rfl
theorem qw_539 : Jvm.Cond.code ({ cls := "HungStreams$TypedText", name := "read", desc := "()I" } : Jvm.MethodName) prog_7_method_3_code (7 : Nat) (Option.some Jvm.ClassFile.FieldType.int) ∈ qm_ws := qm_mem3 (i := 59) rfl rfl
theorem qw_540 : Jvm.Cond.methodLink "HungStreams$TypedText" (43 : Nat) ({ cls := "HungStreams$TypedText", name := "byteBehindBlanks", desc := "()I" } : Jvm.MethodName) ∈ qm_ws := qm_mem3 (i := 60) rfl rfl
theorem qw_541 : Jvm.Cond.instanceMethod ({ cls := "HungStreams$TypedText", name := "byteBehindBlanks", desc := "()I" } : Jvm.MethodName) ∈ qm_ws := qm_mem3 (i := 61) rfl rfl
theorem qw_542 : Jvm.Cond.selects "HungStreams$TypedText" ({ cls := "HungStreams$TypedText", name := "byteBehindBlanks", desc := "()I" } : Jvm.MethodName) ({ cls := "HungStreams$TypedText", name := "byteBehindBlanks", desc := "()I" } : Jvm.MethodName) ∈ qm_ws := qm_mem3 (i := 62) rfl rfl
theorem qw_543 : Jvm.Cond.code ({ cls := "HungStreams$TypedText", name := "byteBehindBlanks", desc := "()I" } : Jvm.MethodName) prog_7_method_7_code (2 : Nat) (Option.some Jvm.ClassFile.FieldType.int) ∈ qm_ws := qm_mem3 (i := 63) rfl rfl
theorem qw_544 : Jvm.Cond.methodLink "HungStreams$TypedText" (66 : Nat) ({ cls := "HungStreams$TypedText", name := "byteHere", desc := "()I" } : Jvm.MethodName) ∈ qm_ws := qm_mem3 (i := 64) rfl rfl
theorem qw_545 : Jvm.Cond.instanceMethod ({ cls := "HungStreams$TypedText", name := "byteHere", desc := "()I" } : Jvm.MethodName) ∈ qm_ws := qm_mem3 (i := 65) rfl rfl
theorem qw_546 : Jvm.Cond.selects "HungStreams$TypedText" ({ cls := "HungStreams$TypedText", name := "byteHere", desc := "()I" } : Jvm.MethodName) ({ cls := "HungStreams$TypedText", name := "byteHere", desc := "()I" } : Jvm.MethodName) ∈ qm_ws := qm_mem3 (i := 66) rfl rfl
theorem qw_547 : Jvm.Cond.code ({ cls := "HungStreams$TypedText", name := "byteHere", desc := "()I" } : Jvm.MethodName) prog_7_method_8_code (1 : Nat) (Option.some Jvm.ClassFile.FieldType.int) ∈ qm_ws := qm_mem3 (i := 67) rfl rfl
theorem qw_548 : Jvm.Cond.methodLink "HungStreams$TypedText" (47 : Nat) ({ cls := "HungStreams$TypedText", name := "isFigure", desc := "(I)Z" } : Jvm.MethodName) ∈ qm_ws := qm_mem3 (i := 68) rfl rfl
theorem qw_549 : Jvm.Cond.static ({ cls := "HungStreams$TypedText", name := "isFigure", desc := "(I)Z" } : Jvm.MethodName) ∈ qm_ws := qm_mem3 (i := 69) rfl rfl
theorem qw_550 : Jvm.Cond.code ({ cls := "HungStreams$TypedText", name := "isFigure", desc := "(I)Z" } : Jvm.MethodName) prog_7_method_9_code (1 : Nat) (Option.some Jvm.ClassFile.FieldType.boolean) ∈ qm_ws := qm_mem3 (i := 70) rfl rfl
theorem qw_552 : Jvm.Cond.methodLink "HungStreams$TypedText" (51 : Nat) ({ cls := "HungStreams$TypedText", name := "readStream", desc := "(I)I" } : Jvm.MethodName) ∈ qm_ws := qm_mem3 (i := 72) rfl rfl
theorem qw_553 : Jvm.Cond.instanceMethod ({ cls := "HungStreams$TypedText", name := "readStream", desc := "(I)I" } : Jvm.MethodName) ∈ qm_ws := qm_mem3 (i := 73) rfl rfl
theorem qw_554 : Jvm.Cond.selects "HungStreams$TypedText" ({ cls := "HungStreams$TypedText", name := "readStream", desc := "(I)I" } : Jvm.MethodName) ({ cls := "HungStreams$TypedText", name := "readStream", desc := "(I)I" } : Jvm.MethodName) ∈ qm_ws := qm_mem3 (i := 74) rfl rfl
theorem qw_555 : Jvm.Cond.code ({ cls := "HungStreams$TypedText", name := "readStream", desc := "(I)I" } : Jvm.MethodName) prog_7_method_4_code (5 : Nat) (Option.some Jvm.ClassFile.FieldType.int) ∈ qm_ws := qm_mem3 (i := 75) rfl rfl
theorem qw_556 : Jvm.Cond.methodLink "HungStreams$TypedText" (55 : Nat) ({ cls := "HungStreams$TypedText", name := "readNumber", desc := "(I)I" } : Jvm.MethodName) ∈ qm_ws := qm_mem3 (i := 76) rfl rfl
theorem qw_557 : Jvm.Cond.instanceMethod ({ cls := "HungStreams$TypedText", name := "readNumber", desc := "(I)I" } : Jvm.MethodName) ∈ qm_ws := qm_mem3 (i := 77) rfl rfl
theorem qw_558 : Jvm.Cond.selects "HungStreams$TypedText" ({ cls := "HungStreams$TypedText", name := "readNumber", desc := "(I)I" } : Jvm.MethodName) ({ cls := "HungStreams$TypedText", name := "readNumber", desc := "(I)I" } : Jvm.MethodName) ∈ qm_ws := qm_mem3 (i := 78) rfl rfl
theorem qw_559 : Jvm.Cond.code ({ cls := "HungStreams$TypedText", name := "readNumber", desc := "(I)I" } : Jvm.MethodName) prog_7_method_6_code (5 : Nat) (Option.some Jvm.ClassFile.FieldType.int) ∈ qm_ws := qm_mem3 (i := 79) rfl rfl
theorem qw_561 : Jvm.Cond.methodLink "HungStreams$TypedText" (62 : Nat) ({ cls := "HungStreams$TypedText", name := "keepStream", desc := "(III)V" } : Jvm.MethodName) ∈ qm_ws := qm_mem3 (i := 81) rfl rfl
theorem qw_562 : Jvm.Cond.instanceMethod ({ cls := "HungStreams$TypedText", name := "keepStream", desc := "(III)V" } : Jvm.MethodName) ∈ qm_ws := qm_mem3 (i := 82) rfl rfl
theorem qw_563 : Jvm.Cond.selects "HungStreams$TypedText" ({ cls := "HungStreams$TypedText", name := "keepStream", desc := "(III)V" } : Jvm.MethodName) ({ cls := "HungStreams$TypedText", name := "keepStream", desc := "(III)V" } : Jvm.MethodName) ∈ qm_ws := qm_mem3 (i := 83) rfl rfl
theorem qw_564 : Jvm.Cond.code ({ cls := "HungStreams$TypedText", name := "keepStream", desc := "(III)V" } : Jvm.MethodName) prog_7_method_5_code (4 : Nat) (Option.none : Option Jvm.ClassFile.FieldType) ∈ qm_ws := qm_mem3 (i := 84) rfl rfl
theorem qw_565 : Jvm.Cond.methodLink "HungStreams" (195 : Nat) ({ cls := "HungStreams$Tree", name := "empty", desc := "()V" } : Jvm.MethodName) ∈ qm_ws := qm_mem3 (i := 85) rfl rfl
theorem qw_566 : Jvm.Cond.instanceMethod ({ cls := "HungStreams$Tree", name := "empty", desc := "()V" } : Jvm.MethodName) ∈ qm_ws := qm_mem3 (i := 86) rfl rfl
theorem qw_567 : Jvm.Cond.selects "HungStreams$Tree" ({ cls := "HungStreams$Tree", name := "empty", desc := "()V" } : Jvm.MethodName) ({ cls := "HungStreams$Tree", name := "empty", desc := "()V" } : Jvm.MethodName) ∈ qm_ws := qm_mem3 (i := 87) rfl rfl
theorem qw_568 : Jvm.Cond.code ({ cls := "HungStreams$Tree", name := "empty", desc := "()V" } : Jvm.MethodName) prog_5_method_24_code (1 : Nat) (Option.none : Option Jvm.ClassFile.FieldType) ∈ qm_ws := qm_mem3 (i := 88) rfl rfl
theorem qw_569 : Jvm.Cond.methodLink "HungStreamsLaw" (91 : Nat) ({ cls := "HungStreams", name := "shown", desc := "(I)I" } : Jvm.MethodName) ∈ qm_ws := qm_mem3 (i := 89) rfl rfl
theorem qw_570 : Jvm.Cond.instanceMethod ({ cls := "HungStreams", name := "shown", desc := "(I)I" } : Jvm.MethodName) ∈ qm_ws := qm_mem3 (i := 90) rfl rfl
theorem qw_571 : Jvm.Cond.selects "HungStreams" ({ cls := "HungStreams", name := "shown", desc := "(I)I" } : Jvm.MethodName) ({ cls := "HungStreams", name := "shown", desc := "(I)I" } : Jvm.MethodName) ∈ qm_ws := qm_mem3 (i := 91) rfl rfl
theorem qw_572 : Jvm.Cond.code ({ cls := "HungStreams", name := "shown", desc := "(I)I" } : Jvm.MethodName) prog_1_method_20_code (2 : Nat) (Option.some Jvm.ClassFile.FieldType.int) ∈ qm_ws := qm_mem3 (i := 92) rfl rfl
theorem qw_573 : Jvm.Cond.methodLink "HungStreams" (210 : Nat) ({ cls := "HungStreams$TreeWriter", name := "write", desc := "(LHungStreams$Tree;)V" } : Jvm.MethodName) ∈ qm_ws := qm_mem3 (i := 93) rfl rfl
theorem qw_574 : Jvm.Cond.instanceMethod ({ cls := "HungStreams$TreeWriter", name := "write", desc := "(LHungStreams$Tree;)V" } : Jvm.MethodName) ∈ qm_ws := qm_mem3 (i := 94) rfl rfl
theorem qw_575 : Jvm.Cond.selects "HungStreams$TreeWriter" ({ cls := "HungStreams$TreeWriter", name := "write", desc := "(LHungStreams$Tree;)V" } : Jvm.MethodName) ({ cls := "HungStreams$TreeWriter", name := "write", desc := "(LHungStreams$Tree;)V" } : Jvm.MethodName) ∈ qm_ws := qm_mem3 (i := 95) rfl rfl
theorem qw_576 : Jvm.Cond.code ({ cls := "HungStreams$TreeWriter", name := "write", desc := "(LHungStreams$Tree;)V" } : Jvm.MethodName) prog_6_method_2_code (2 : Nat) (Option.none : Option Jvm.ClassFile.FieldType) ∈ qm_ws := qm_mem3 (i := 96) rfl rfl
theorem qw_577 : Jvm.Cond.methodLink "HungStreams$TreeWriter" (19 : Nat) ({ cls := "HungStreams$TreeWriter", name := "writeChildren", desc := "(LHungStreams$Tree;II)V" } : Jvm.MethodName) ∈ qm_ws := qm_mem3 (i := 97) rfl rfl
theorem qw_579 : Jvm.Cond.instanceMethod ({ cls := "HungStreams$TreeWriter", name := "writeChildren", desc := "(LHungStreams$Tree;II)V" } : Jvm.MethodName) ∈ qm_ws := qm_mem3 (i := 99) rfl rfl
theorem qw_580 : Jvm.Cond.code ({ cls := "HungStreams$TreeWriter", name := "writeChildren", desc := "(LHungStreams$Tree;II)V" } : Jvm.MethodName) prog_6_method_3_code (6 : Nat) (Option.none : Option Jvm.ClassFile.FieldType) ∈ qm_ws := qm_mem3 (i := 100) rfl rfl
theorem qw_581 : Jvm.Cond.methodLink "HungStreams$TreeWriter" (23 : Nat) ({ cls := "HungStreams$Tree", name := "isChild", desc := "(II)Z" } : Jvm.MethodName) ∈ qm_ws := qm_mem3 (i := 101) rfl rfl
theorem qw_582 : Jvm.Cond.methodLink "HungStreams$TreeWriter" (29 : Nat) ({ cls := "HungStreams$TreeWriter", name := "put", desc := "(I)V" } : Jvm.MethodName) ∈ qm_ws := qm_mem3 (i := 102) rfl rfl
theorem qw_584 : Jvm.Cond.instanceMethod ({ cls := "HungStreams$TreeWriter", name := "put", desc := "(I)V" } : Jvm.MethodName) ∈ qm_ws := qm_mem3 (i := 104) rfl rfl
theorem qw_585 : Jvm.Cond.code ({ cls := "HungStreams$TreeWriter", name := "put", desc := "(I)V" } : Jvm.MethodName) prog_6_method_5_code (2 : Nat) (Option.none : Option Jvm.ClassFile.FieldType) ∈ qm_ws := qm_mem3 (i := 105) rfl rfl
theorem qw_586 : Jvm.Cond.methodLink "HungStreams$TreeWriter" (33 : Nat) ({ cls := "HungStreams$TreeWriter", name := "putNumber", desc := "(I)V" } : Jvm.MethodName) ∈ qm_ws := qm_mem3 (i := 106) rfl rfl
theorem qw_588 : Jvm.Cond.instanceMethod ({ cls := "HungStreams$TreeWriter", name := "putNumber", desc := "(I)V" } : Jvm.MethodName) ∈ qm_ws := qm_mem3 (i := 108) rfl rfl
theorem qw_589 : Jvm.Cond.code ({ cls := "HungStreams$TreeWriter", name := "putNumber", desc := "(I)V" } : Jvm.MethodName) prog_6_method_4_code (2 : Nat) (Option.none : Option Jvm.ClassFile.FieldType) ∈ qm_ws := qm_mem3 (i := 109) rfl rfl
theorem qw_590 : Jvm.Cond.methodLink "HungStreams$TreeWriter" (45 : Nat) ({ cls := "HungStreams$Tree", name := "childCount", desc := "(I)I" } : Jvm.MethodName) ∈ qm_ws := qm_mem3 (i := 110) rfl rfl
theorem qw_591 : Jvm.Cond.methodLink "HungStreamsLaw" (95 : Nat) ({ cls := "HungStreams", name := "back", desc := "()I" } : Jvm.MethodName) ∈ qm_ws := qm_mem3 (i := 111) rfl rfl
theorem qw_592 : Jvm.Cond.instanceMethod ({ cls := "HungStreams", name := "back", desc := "()I" } : Jvm.MethodName) ∈ qm_ws := qm_mem3 (i := 112) rfl rfl
theorem qw_593 : Jvm.Cond.selects "HungStreams" ({ cls := "HungStreams", name := "back", desc := "()I" } : Jvm.MethodName) ({ cls := "HungStreams", name := "back", desc := "()I" } : Jvm.MethodName) ∈ qm_ws := qm_mem3 (i := 113) rfl rfl
theorem qw_594 : Jvm.Cond.code ({ cls := "HungStreams", name := "back", desc := "()I" } : Jvm.MethodName) prog_1_method_21_code (1 : Nat) (Option.some Jvm.ClassFile.FieldType.int) ∈ qm_ws := qm_mem3 (i := 114) rfl rfl
theorem qw_595 : Jvm.Cond.methodLink "HungStreamsLaw" (99 : Nat) ({ cls := "HungStreams", name := "told", desc := "(I)I" } : Jvm.MethodName) ∈ qm_ws := qm_mem3 (i := 115) rfl rfl
theorem qw_596 : Jvm.Cond.instanceMethod ({ cls := "HungStreams", name := "told", desc := "(I)I" } : Jvm.MethodName) ∈ qm_ws := qm_mem3 (i := 116) rfl rfl
theorem qw_597 : Jvm.Cond.selects "HungStreams" ({ cls := "HungStreams", name := "told", desc := "(I)I" } : Jvm.MethodName) ({ cls := "HungStreams", name := "told", desc := "(I)I" } : Jvm.MethodName) ∈ qm_ws := qm_mem3 (i := 117) rfl rfl
theorem qw_598 : Jvm.Cond.code ({ cls := "HungStreams", name := "told", desc := "(I)I" } : Jvm.MethodName) prog_1_method_22_code (2 : Nat) (Option.some Jvm.ClassFile.FieldType.int) ∈ qm_ws := qm_mem3 (i := 118) rfl rfl
theorem qw_599 : Jvm.Cond.methodLink "HungStreamsLaw" (103 : Nat) ({ cls := "HungStreams", name := "digest", desc := "()J" } : Jvm.MethodName) ∈ qm_ws := qm_mem3 (i := 119) rfl rfl
theorem qw_600 : Jvm.Cond.instanceMethod ({ cls := "HungStreams", name := "digest", desc := "()J" } : Jvm.MethodName) ∈ qm_ws := qm_mem3 (i := 120) rfl rfl
theorem qw_601 : Jvm.Cond.selects "HungStreams" ({ cls := "HungStreams", name := "digest", desc := "()J" } : Jvm.MethodName) ({ cls := "HungStreams", name := "digest", desc := "()J" } : Jvm.MethodName) ∈ qm_ws := qm_mem3 (i := 121) rfl rfl
theorem qw_602 : Jvm.Cond.code ({ cls := "HungStreams", name := "digest", desc := "()J" } : Jvm.MethodName) prog_1_method_23_code (4 : Nat) (Option.some Jvm.ClassFile.FieldType.long) ∈ qm_ws := qm_mem3 (i := 122) rfl rfl
theorem qw_603 : Jvm.Cond.constantLong "HungStreams" (251 : Nat) (2311 : Int64) ∈ qm_ws := qm_mem3 (i := 123) rfl rfl
theorem qw_604 : Jvm.Cond.constantLong "HungStreams" (253 : Nat) (31 : Int64) ∈ qm_ws := qm_mem3 (i := 124) rfl rfl
theorem qw_605 : Jvm.Cond.methodLink "HungStreams" (255 : Nat) ({ cls := "HungStreams", name := "told", desc := "(I)I" } : Jvm.MethodName) ∈ qm_ws := qm_mem3 (i := 125) rfl rfl
theorem qw_606 : Jvm.Cond.methodLink "HungStreams" (258 : Nat) ({ cls := "HungStreams", name := "all", desc := "(I)I" } : Jvm.MethodName) ∈ qm_ws := qm_mem3 (i := 126) rfl rfl
theorem qw_607 : Jvm.Cond.methodLink "HungStreams" (261 : Nat) ({ cls := "HungStreams", name := "digestStream", desc := "(JI)J" } : Jvm.MethodName) ∈ qm_ws := qm_mem3 (i := 127) rfl rfl
theorem qw_609 : Jvm.Cond.instanceMethod ({ cls := "HungStreams", name := "digestStream", desc := "(JI)J" } : Jvm.MethodName) ∈ qm_ws := qm_mem3 (i := 129) rfl rfl
theorem qw_610 : Jvm.Cond.code ({ cls := "HungStreams", name := "digestStream", desc := "(JI)J" } : Jvm.MethodName) prog_1_method_24_code (7 : Nat) (Option.some Jvm.ClassFile.FieldType.long) ∈ qm_ws := qm_mem3 (i := 130) rfl rfl
theorem qw_611 : Jvm.Cond.methodLink "HungStreams" (271 : Nat) ({ cls := "HungStreams", name := "of", desc := "(II)I" } : Jvm.MethodName) ∈ qm_ws := qm_mem3 (i := 131) rfl rfl
theorem qw_612 : Jvm.Cond.methodLink "HungStreams" (265 : Nat) ({ cls := "HungStreams", name := "turn", desc := "(II)J" } : Jvm.MethodName) ∈ qm_ws := qm_mem3 (i := 132) rfl rfl
theorem qw_613 : Jvm.Cond.methodLink "HungStreams" (268 : Nat) ({ cls := "HungStreams", name := "next", desc := "()I" } : Jvm.MethodName) ∈ qm_ws := qm_mem3 (i := 133) rfl rfl
theorem qw_614 : Jvm.Cond.classLink "HungStreamsLaw" (10 : Nat) "HungStreamsModel" ∈ qm_ws := qm_mem3 (i := 134) rfl rfl
theorem qw_615 : Jvm.Cond.instantiable "HungStreamsModel" (17 : Nat) ∈ qm_ws := qm_mem3 (i := 135) rfl rfl
theorem qw_616 : Jvm.Cond.methodLink "HungStreamsLaw" (12 : Nat) ({ cls := "HungStreamsModel", name := "<init>", desc := "()V" } : Jvm.MethodName) ∈ qm_ws := qm_mem3 (i := 136) rfl rfl
theorem qw_617 : Jvm.Cond.instanceMethod ({ cls := "HungStreamsModel", name := "<init>", desc := "()V" } : Jvm.MethodName) ∈ qm_ws := qm_mem3 (i := 137) rfl rfl
theorem qw_618 : Jvm.Cond.code ({ cls := "HungStreamsModel", name := "<init>", desc := "()V" } : Jvm.MethodName) prog_9_method_1_code (1 : Nat) (Option.none : Option Jvm.ClassFile.FieldType) ∈ qm_ws := qm_mem3 (i := 138) rfl rfl
theorem qw_619 : Jvm.Cond.methodLink "HungStreamsModel" (1 : Nat) ({ cls := "java/lang/Object", name := "<init>", desc := "()V" } : Jvm.MethodName) ∈ qm_ws := qm_mem3 (i := 139) rfl rfl
theorem qw_620 : Jvm.Cond.constantLong "HungStreamsModel" (32 : Nat) (10000 : Int64) ∈ qm_ws := qm_mem3 (i := 140) rfl rfl
theorem qw_621 : Jvm.Cond.constantLong "HungStreamsModel" (34 : Nat) (100 : Int64) ∈ qm_ws := qm_mem3 (i := 141) rfl rfl
theorem qw_622 : Jvm.Cond.constantLong "HungStreamsModel" (36 : Nat) (10 : Int64) ∈ qm_ws := qm_mem3 (i := 142) rfl rfl
theorem qw_623 : Jvm.Cond.constantLong "HungStreamsModel" (38 : Nat) (-1 : Int64) ∈ qm_ws := qm_mem3 (i := 143) rfl rfl
theorem qw_624 : Jvm.Cond.fieldLink "HungStreamsModel" (7 : Nat) "HungStreamsModel" "all" "[J" ∈ qm_ws := qm_mem3 (i := 144) rfl rfl
theorem qw_625 : Jvm.Cond.fieldLink "HungStreamsModel" (13 : Nat) "HungStreamsModel" "past" "[J" ∈ qm_ws := qm_mem3 (i := 145) rfl rfl
theorem qw_626 : Jvm.Cond.fieldLink "HungStreamsModel" (40 : Nat) "HungStreamsModel" "states" "I" ∈ qm_ws := qm_mem3 (i := 146) rfl rfl
theorem qw_627 : Jvm.Cond.fieldLink "HungStreamsModel" (16 : Nat) "HungStreamsModel" "refused" "[I" ∈ qm_ws := qm_mem3 (i := 147) rfl rfl
theorem qw_628 : Jvm.Cond.fieldLink "HungStreamsModel" (188 : Nat) "HungStreamsModel" "above" "J" ∈ qm_ws := qm_mem3 (i := 148) rfl rfl
theorem qw_629 : Jvm.Cond.fieldLink "HungStreamsModel" (192 : Nat) "HungStreamsModel" "below" "J" ∈ qm_ws := qm_mem3 (i := 149) rfl rfl
theorem qw_630 : Jvm.Cond.fieldLink "HungStreamsModel" (20 : Nat) "HungStreamsModel" "text" "[I" ∈ qm_ws := qm_mem3 (i := 150) rfl rfl
theorem qw_631 : Jvm.Cond.fieldLink "HungStreamsModel" (208 : Nat) "HungStreamsModel" "textLong" "I" ∈ qm_ws := qm_mem3 (i := 151) rfl rfl
theorem qw_632 : Jvm.Cond.fieldLink "HungStreamsModel" (211 : Nat) "HungStreamsModel" "place" "I" ∈ qm_ws := qm_mem3 (i := 152) rfl rfl
theorem qw_633 : Jvm.Cond.fieldLink "HungStreamsModel" (221 : Nat) "HungStreamsModel" "value" "I" ∈ qm_ws := qm_mem3 (i := 153) rfl rfl
theorem qw_634 : Jvm.Cond.fieldLink "HungStreamsModel" (230 : Nat) "HungStreamsModel" "told" "I" ∈ qm_ws := qm_mem3 (i := 154) rfl rfl
theorem qw_635 : Jvm.Cond.fieldLink "HungStreamsModel" (23 : Nat) "HungStreamsModel" "tells" "[I" ∈ qm_ws := qm_mem3 (i := 155) rfl rfl
theorem qw_636 : Jvm.Cond.fieldLink "HungStreamsModel" (26 : Nat) "HungStreamsModel" "weighs" "[I" ∈ qm_ws := qm_mem3 (i := 156) rfl rfl
theorem qw_637 : Jvm.Cond.fieldLink "HungStreamsModel" (29 : Nat) "HungStreamsModel" "stands" "[I" ∈ qm_ws := qm_mem3 (i := 157) rfl rfl
theorem qw_638 : Jvm.Cond.fieldLink "HungStreamsModel" (242 : Nat) "HungStreamsModel" "shownAt" "I" ∈ qm_ws := qm_mem3 (i := 158) rfl rfl
theorem qw_639 : Jvm.Cond.fieldLink "HungStreamsModel" (248 : Nat) "HungStreamsModel" "shownIs" "I" ∈ qm_ws := qm_mem3 (i := 159) rfl rfl
theorem qw_640 : Jvm.Cond.fieldLink "HungStreamsModel" (245 : Nat) "HungStreamsModel" "shownWanted" "I" ∈ qm_ws := qm_mem3 (i := 160) rfl rfl
theorem qw_641 : Jvm.Cond.laysFinal "HungStreamsModel" "HungStreamsModel" "all" "[J" ∈ qm_ws := qm_mem3 (i := 161) rfl rfl
theorem qw_643 : Jvm.Cond.laysFinal "HungStreamsModel" "HungStreamsModel" "past" "[J" ∈ qm_ws := qm_mem3 (i := 163) rfl rfl
theorem qw_645 : Jvm.Cond.lays "HungStreamsModel" "HungStreamsModel" "states" "I" ∈ qm_ws := qm_mem3 (i := 165) rfl rfl
theorem qw_647 : Jvm.Cond.laysFinal "HungStreamsModel" "HungStreamsModel" "refused" "[I" ∈ qm_ws := qm_mem3 (i := 167) rfl rfl
theorem qw_649 : Jvm.Cond.lays "HungStreamsModel" "HungStreamsModel" "above" "J" ∈ qm_ws := qm_mem3 (i := 169) rfl rfl
theorem qw_651 : Jvm.Cond.lays "HungStreamsModel" "HungStreamsModel" "below" "J" ∈ qm_ws := qm_mem3 (i := 171) rfl rfl
theorem qw_653 : Jvm.Cond.laysFinal "HungStreamsModel" "HungStreamsModel" "text" "[I" ∈ qm_ws := qm_mem3 (i := 173) rfl rfl
theorem qw_655 : Jvm.Cond.lays "HungStreamsModel" "HungStreamsModel" "textLong" "I" ∈ qm_ws := qm_mem3 (i := 175) rfl rfl
theorem qw_657 : Jvm.Cond.lays "HungStreamsModel" "HungStreamsModel" "place" "I" ∈ qm_ws := qm_mem3 (i := 177) rfl rfl
theorem qw_659 : Jvm.Cond.lays "HungStreamsModel" "HungStreamsModel" "value" "I" ∈ qm_ws := qm_mem3 (i := 179) rfl rfl
theorem qw_661 : Jvm.Cond.lays "HungStreamsModel" "HungStreamsModel" "told" "I" ∈ qm_ws := qm_mem3 (i := 181) rfl rfl
theorem qw_663 : Jvm.Cond.laysFinal "HungStreamsModel" "HungStreamsModel" "tells" "[I" ∈ qm_ws := qm_mem3 (i := 183) rfl rfl
theorem qw_665 : Jvm.Cond.laysFinal "HungStreamsModel" "HungStreamsModel" "weighs" "[I" ∈ qm_ws := qm_mem3 (i := 185) rfl rfl
theorem qw_667 : Jvm.Cond.laysFinal "HungStreamsModel" "HungStreamsModel" "stands" "[I" ∈ qm_ws := qm_mem3 (i := 187) rfl rfl
theorem qw_669 : Jvm.Cond.lays "HungStreamsModel" "HungStreamsModel" "shownAt" "I" ∈ qm_ws := qm_mem3 (i := 189) rfl rfl
theorem qw_671 : Jvm.Cond.lays "HungStreamsModel" "HungStreamsModel" "shownIs" "I" ∈ qm_ws := qm_mem3 (i := 191) rfl rfl
theorem qw_673 : Jvm.Cond.lays "HungStreamsModel" "HungStreamsModel" "shownWanted" "I" ∈ qm_ws := qm_mem3 (i := 193) rfl rfl
theorem qw_676 : Jvm.Cond.arrayClass Jvm.ClassFile.FieldType.long ∈ qm_ws := qm_mem3 (i := 196) rfl rfl
theorem qw_677 : Jvm.Cond.methodLink "HungStreamsLaw" (17 : Nat) ({ cls := "HungStreamsModel", name := "comes", desc := "(IIII)I" } : Jvm.MethodName) ∈ qm_ws := qm_mem3 (i := 197) rfl rfl
theorem qw_678 : Jvm.Cond.instanceMethod ({ cls := "HungStreamsModel", name := "comes", desc := "(IIII)I" } : Jvm.MethodName) ∈ qm_ws := qm_mem3 (i := 198) rfl rfl
theorem qw_679 : Jvm.Cond.selects "HungStreamsModel" ({ cls := "HungStreamsModel", name := "comes", desc := "(IIII)I" } : Jvm.MethodName) ({ cls := "HungStreamsModel", name := "comes", desc := "(IIII)I" } : Jvm.MethodName) ∈ qm_ws := qm_mem3 (i := 199) rfl rfl
theorem qw_680 : Jvm.Cond.code ({ cls := "HungStreamsModel", name := "comes", desc := "(IIII)I" } : Jvm.MethodName) prog_9_method_17_code (5 : Nat) (Option.some Jvm.ClassFile.FieldType.int) ∈ qm_ws := qm_mem3 (i := 200) rfl rfl
theorem qw_681 : Jvm.Cond.constantLong "HungStreamsModel" (44 : Nat) (12 : Int64) ∈ qm_ws := qm_mem3 (i := 201) rfl rfl
theorem qw_682 : Jvm.Cond.methodLink "HungStreamsModel" (46 : Nat) ({ cls := "HungStreamsModel", name := "in", desc := "(JJJ)Z" } : Jvm.MethodName) ∈ qm_ws := qm_mem3 (i := 202) rfl rfl
theorem qw_683 : Jvm.Cond.static ({ cls := "HungStreamsModel", name := "in", desc := "(JJJ)Z" } : Jvm.MethodName) ∈ qm_ws := qm_mem3 (i := 203) rfl rfl
theorem qw_684 : Jvm.Cond.code ({ cls := "HungStreamsModel", name := "in", desc := "(JJJ)Z" } : Jvm.MethodName) prog_9_method_3_code (6 : Nat) (Option.some Jvm.ClassFile.FieldType.boolean) ∈ qm_ws := qm_mem3 (i := 204) rfl rfl
theorem qw_685 : Jvm.Cond.methodLink "HungStreamsModel" (78 : Nat) ({ cls := "HungStreamsModel", name := "isPlace", desc := "(I)Z" } : Jvm.MethodName) ∈ qm_ws := qm_mem3 (i := 205) rfl rfl
theorem qw_687 : Jvm.Cond.instanceMethod ({ cls := "HungStreamsModel", name := "isPlace", desc := "(I)Z" } : Jvm.MethodName) ∈ qm_ws := qm_mem3 (i := 207) rfl rfl
theorem qw_688 : Jvm.Cond.code ({ cls := "HungStreamsModel", name := "isPlace", desc := "(I)Z" } : Jvm.MethodName) prog_9_method_9_code (2 : Nat) (Option.some Jvm.ClassFile.FieldType.boolean) ∈ qm_ws := qm_mem3 (i := 208) rfl rfl
theorem qw_689 : Jvm.Cond.methodLink "HungStreamsModel" (54 : Nat) ({ cls := "HungStreamsModel", name := "isStream", desc := "(I)Z" } : Jvm.MethodName) ∈ qm_ws := qm_mem3 (i := 209) rfl rfl
theorem qw_691 : Jvm.Cond.instanceMethod ({ cls := "HungStreamsModel", name := "isStream", desc := "(I)Z" } : Jvm.MethodName) ∈ qm_ws := qm_mem3 (i := 211) rfl rfl
theorem qw_692 : Jvm.Cond.code ({ cls := "HungStreamsModel", name := "isStream", desc := "(I)Z" } : Jvm.MethodName) prog_9_method_8_code (2 : Nat) (Option.some Jvm.ClassFile.FieldType.boolean) ∈ qm_ws := qm_mem3 (i := 212) rfl rfl
theorem qw_693 : Jvm.Cond.methodLink "HungStreamsModel" (50 : Nat) ({ cls := "HungStreamsModel", name := "its", desc := "(II)J" } : Jvm.MethodName) ∈ qm_ws := qm_mem3 (i := 213) rfl rfl
theorem qw_695 : Jvm.Cond.instanceMethod ({ cls := "HungStreamsModel", name := "its", desc := "(II)J" } : Jvm.MethodName) ∈ qm_ws := qm_mem3 (i := 215) rfl rfl
theorem qw_696 : Jvm.Cond.code ({ cls := "HungStreamsModel", name := "its", desc := "(II)J" } : Jvm.MethodName) prog_9_method_6_code (3 : Nat) (Option.some Jvm.ClassFile.FieldType.long) ∈ qm_ws := qm_mem3 (i := 216) rfl rfl
theorem qw_697 : Jvm.Cond.constantLong "HungStreamsModel" (81 : Nat) (16 : Int64) ∈ qm_ws := qm_mem3 (i := 217) rfl rfl
theorem qw_698 : Jvm.Cond.methodLink "HungStreamsModel" (83 : Nat) ({ cls := "HungStreamsModel", name := "refuses", desc := "(I)I" } : Jvm.MethodName) ∈ qm_ws := qm_mem3 (i := 218) rfl rfl
theorem qw_700 : Jvm.Cond.instanceMethod ({ cls := "HungStreamsModel", name := "refuses", desc := "(I)I" } : Jvm.MethodName) ∈ qm_ws := qm_mem3 (i := 220) rfl rfl
theorem qw_701 : Jvm.Cond.code ({ cls := "HungStreamsModel", name := "refuses", desc := "(I)I" } : Jvm.MethodName) prog_9_method_4_code (2 : Nat) (Option.some Jvm.ClassFile.FieldType.int) ∈ qm_ws := qm_mem3 (i := 221) rfl rfl
theorem qw_702 : Jvm.Cond.methodLink "HungStreamsModel" (86 : Nat) ({ cls := "HungStreamsModel", name := "keep", desc := "()V" } : Jvm.MethodName) ∈ qm_ws := qm_mem3 (i := 222) rfl rfl
theorem qw_704 : Jvm.Cond.instanceMethod ({ cls := "HungStreamsModel", name := "keep", desc := "()V" } : Jvm.MethodName) ∈ qm_ws := qm_mem3 (i := 224) rfl rfl
theorem qw_705 : Jvm.Cond.code ({ cls := "HungStreamsModel", name := "keep", desc := "()V" } : Jvm.MethodName) prog_9_method_5_code (2 : Nat) (Option.none : Option Jvm.ClassFile.FieldType) ∈ qm_ws := qm_mem3 (i := 225) rfl rfl
theorem qw_706 : Jvm.Cond.methodLink "HungStreamsModel" (89 : Nat) ({ cls := "HungStreamsModel", name := "begins", desc := "(II)V" } : Jvm.MethodName) ∈ qm_ws := qm_mem3 (i := 226) rfl rfl
theorem qw_708 : Jvm.Cond.instanceMethod ({ cls := "HungStreamsModel", name := "begins", desc := "(II)V" } : Jvm.MethodName) ∈ qm_ws := qm_mem3 (i := 228) rfl rfl
theorem qw_709 : Jvm.Cond.code ({ cls := "HungStreamsModel", name := "begins", desc := "(II)V" } : Jvm.MethodName) prog_9_method_16_code (4 : Nat) (Option.none : Option Jvm.ClassFile.FieldType) ∈ qm_ws := qm_mem3 (i := 229) rfl rfl
theorem qw_710 : Jvm.Cond.methodLink "HungStreamsModel" (66 : Nat) ({ cls := "HungStreamsModel", name := "puts", desc := "(IIJ)V" } : Jvm.MethodName) ∈ qm_ws := qm_mem3 (i := 230) rfl rfl
theorem qw_712 : Jvm.Cond.instanceMethod ({ cls := "HungStreamsModel", name := "puts", desc := "(IIJ)V" } : Jvm.MethodName) ∈ qm_ws := qm_mem3 (i := 232) rfl rfl
theorem qw_713 : Jvm.Cond.code ({ cls := "HungStreamsModel", name := "puts", desc := "(IIJ)V" } : Jvm.MethodName) prog_9_method_7_code (5 : Nat) (Option.none : Option Jvm.ClassFile.FieldType) ∈ qm_ws := qm_mem3 (i := 233) rfl rfl
theorem qw_714 : Jvm.Cond.constantLong "HungStreamsModel" (74 : Nat) (1000 : Int64) ∈ qm_ws := qm_mem3 (i := 234) rfl rfl
theorem qw_715 : Jvm.Cond.constantLong "HungStreamsModel" (76 : Nat) (3 : Int64) ∈ qm_ws := qm_mem3 (i := 235) rfl rfl
theorem qw_716 : Jvm.Cond.methodLink "HungStreamsModel" (92 : Nat) ({ cls := "HungStreamsModel", name := "comesTo", desc := "(IIZ)V" } : Jvm.MethodName) ∈ qm_ws := qm_mem3 (i := 236) rfl rfl
theorem qw_718 : Jvm.Cond.instanceMethod ({ cls := "HungStreamsModel", name := "comesTo", desc := "(IIZ)V" } : Jvm.MethodName) ∈ qm_ws := qm_mem3 (i := 238) rfl rfl
theorem qw_719 : Jvm.Cond.code ({ cls := "HungStreamsModel", name := "comesTo", desc := "(IIZ)V" } : Jvm.MethodName) prog_9_method_15_code (5 : Nat) (Option.none : Option Jvm.ClassFile.FieldType) ∈ qm_ws := qm_mem3 (i := 239) rfl rfl
theorem qw_720 : Jvm.Cond.methodLink "HungStreamsModel" (62 : Nat) ({ cls := "HungStreamsModel", name := "isChild", desc := "(II)Z" } : Jvm.MethodName) ∈ qm_ws := qm_mem4 (i := 0) rfl rfl
theorem qw_722 : Jvm.Cond.instanceMethod ({ cls := "HungStreamsModel", name := "isChild", desc := "(II)Z" } : Jvm.MethodName) ∈ qm_ws := qm_mem4 (i := 2) rfl rfl
theorem qw_723 : Jvm.Cond.code ({ cls := "HungStreamsModel", name := "isChild", desc := "(II)Z" } : Jvm.MethodName) prog_9_method_11_code (3 : Nat) (Option.some Jvm.ClassFile.FieldType.boolean) ∈ qm_ws := qm_mem4 (i := 3) rfl rfl
theorem qw_724 : Jvm.Cond.methodLink "HungStreamsModel" (58 : Nat) ({ cls := "HungStreamsModel", name := "parent", desc := "(I)I" } : Jvm.MethodName) ∈ qm_ws := qm_mem4 (i := 4) rfl rfl
theorem qw_726 : Jvm.Cond.instanceMethod ({ cls := "HungStreamsModel", name := "parent", desc := "(I)I" } : Jvm.MethodName) ∈ qm_ws := qm_mem4 (i := 6) rfl rfl
theorem qw_727 : Jvm.Cond.code ({ cls := "HungStreamsModel", name := "parent", desc := "(I)I" } : Jvm.MethodName) prog_9_method_10_code (2 : Nat) (Option.some Jvm.ClassFile.FieldType.int) ∈ qm_ws := qm_mem4 (i := 7) rfl rfl
theorem qw_728 : Jvm.Cond.methodLink "HungStreamsModel" (70 : Nat) ({ cls := "HungStreamsModel", name := "hangs", desc := "(II)V" } : Jvm.MethodName) ∈ qm_ws := qm_mem4 (i := 8) rfl rfl
theorem qw_730 : Jvm.Cond.instanceMethod ({ cls := "HungStreamsModel", name := "hangs", desc := "(II)V" } : Jvm.MethodName) ∈ qm_ws := qm_mem4 (i := 10) rfl rfl
theorem qw_731 : Jvm.Cond.code ({ cls := "HungStreamsModel", name := "hangs", desc := "(II)V" } : Jvm.MethodName) prog_9_method_14_code (3 : Nat) (Option.none : Option Jvm.ClassFile.FieldType) ∈ qm_ws := qm_mem4 (i := 11) rfl rfl
theorem qw_732 : Jvm.Cond.methodLink "HungStreamsModel" (96 : Nat) ({ cls := "HungStreamsModel", name := "children", desc := "(I)I" } : Jvm.MethodName) ∈ qm_ws := qm_mem4 (i := 12) rfl rfl
theorem qw_734 : Jvm.Cond.instanceMethod ({ cls := "HungStreamsModel", name := "children", desc := "(I)I" } : Jvm.MethodName) ∈ qm_ws := qm_mem4 (i := 14) rfl rfl
theorem qw_735 : Jvm.Cond.code ({ cls := "HungStreamsModel", name := "children", desc := "(I)I" } : Jvm.MethodName) prog_9_method_13_code (4 : Nat) (Option.some Jvm.ClassFile.FieldType.int) ∈ qm_ws := qm_mem4 (i := 15) rfl rfl
theorem qw_736 : Jvm.Cond.methodLink "HungStreamsLaw" (21 : Nat) ({ cls := "HungStreamsModel", name := "moves", desc := "(IIII)I" } : Jvm.MethodName) ∈ qm_ws := qm_mem4 (i := 16) rfl rfl
theorem qw_737 : Jvm.Cond.instanceMethod ({ cls := "HungStreamsModel", name := "moves", desc := "(IIII)I" } : Jvm.MethodName) ∈ qm_ws := qm_mem4 (i := 17) rfl rfl
theorem qw_738 : Jvm.Cond.selects "HungStreamsModel" ({ cls := "HungStreamsModel", name := "moves", desc := "(IIII)I" } : Jvm.MethodName) ({ cls := "HungStreamsModel", name := "moves", desc := "(IIII)I" } : Jvm.MethodName) ∈ qm_ws := qm_mem4 (i := 18) rfl rfl
theorem qw_739 : Jvm.Cond.code ({ cls := "HungStreamsModel", name := "moves", desc := "(IIII)I" } : Jvm.MethodName) prog_9_method_18_code (5 : Nat) (Option.some Jvm.ClassFile.FieldType.int) ∈ qm_ws := qm_mem4 (i := 19) rfl rfl
theorem qw_740 : Jvm.Cond.methodLink "HungStreamsModel" (99 : Nat) ({ cls := "HungStreamsModel", name := "isBelow", desc := "(II)Z" } : Jvm.MethodName) ∈ qm_ws := qm_mem4 (i := 20) rfl rfl
theorem qw_742 : Jvm.Cond.instanceMethod ({ cls := "HungStreamsModel", name := "isBelow", desc := "(II)Z" } : Jvm.MethodName) ∈ qm_ws := qm_mem4 (i := 22) rfl rfl
theorem qw_743 : Jvm.Cond.code ({ cls := "HungStreamsModel", name := "isBelow", desc := "(II)Z" } : Jvm.MethodName) prog_9_method_12_code (4 : Nat) (Option.some Jvm.ClassFile.FieldType.boolean) ∈ qm_ws := qm_mem4 (i := 23) rfl rfl
theorem qw_744 : Jvm.Cond.methodLink "HungStreamsLaw" (26 : Nat) ({ cls := "HungStreamsModel", name := "sets", desc := "(III)I" } : Jvm.MethodName) ∈ qm_ws := qm_mem4 (i := 24) rfl rfl
theorem qw_745 : Jvm.Cond.instanceMethod ({ cls := "HungStreamsModel", name := "sets", desc := "(III)I" } : Jvm.MethodName) ∈ qm_ws := qm_mem4 (i := 25) rfl rfl
theorem qw_746 : Jvm.Cond.selects "HungStreamsModel" ({ cls := "HungStreamsModel", name := "sets", desc := "(III)I" } : Jvm.MethodName) ({ cls := "HungStreamsModel", name := "sets", desc := "(III)I" } : Jvm.MethodName) ∈ qm_ws := qm_mem4 (i := 26) rfl rfl
theorem qw_747 : Jvm.Cond.code ({ cls := "HungStreamsModel", name := "sets", desc := "(III)I" } : Jvm.MethodName) prog_9_method_21_code (5 : Nat) (Option.some Jvm.ClassFile.FieldType.int) ∈ qm_ws := qm_mem4 (i := 27) rfl rfl
theorem qw_748 : Jvm.Cond.methodLink "HungStreamsModel" (104 : Nat) ({ cls := "HungStreamsModel", name := "isSetting", desc := "(II)Z" } : Jvm.MethodName) ∈ qm_ws := qm_mem4 (i := 28) rfl rfl
theorem qw_749 : Jvm.Cond.static ({ cls := "HungStreamsModel", name := "isSetting", desc := "(II)Z" } : Jvm.MethodName) ∈ qm_ws := qm_mem4 (i := 29) rfl rfl
theorem qw_750 : Jvm.Cond.code ({ cls := "HungStreamsModel", name := "isSetting", desc := "(II)Z" } : Jvm.MethodName) prog_9_method_19_code (2 : Nat) (Option.some Jvm.ClassFile.FieldType.boolean) ∈ qm_ws := qm_mem4 (i := 30) rfl rfl
theorem qw_751 : Jvm.Cond.constantLong "HungStreamsModel" (102 : Nat) (7 : Int64) ∈ qm_ws := qm_mem4 (i := 31) rfl rfl
theorem qw_752 : Jvm.Cond.methodLink "HungStreamsModel" (107 : Nat) ({ cls := "HungStreamsModel", name := "placeOf", desc := "(I)I" } : Jvm.MethodName) ∈ qm_ws := qm_mem4 (i := 32) rfl rfl
theorem qw_753 : Jvm.Cond.static ({ cls := "HungStreamsModel", name := "placeOf", desc := "(I)I" } : Jvm.MethodName) ∈ qm_ws := qm_mem4 (i := 33) rfl rfl
theorem qw_754 : Jvm.Cond.code ({ cls := "HungStreamsModel", name := "placeOf", desc := "(I)I" } : Jvm.MethodName) prog_9_method_20_code (1 : Nat) (Option.some Jvm.ClassFile.FieldType.int) ∈ qm_ws := qm_mem4 (i := 34) rfl rfl
theorem qw_755 : Jvm.Cond.methodLink "HungStreamsLaw" (31 : Nat) ({ cls := "HungStreamsModel", name := "closes", desc := "(I)I" } : Jvm.MethodName) ∈ qm_ws := qm_mem4 (i := 35) rfl rfl
theorem qw_756 : Jvm.Cond.instanceMethod ({ cls := "HungStreamsModel", name := "closes", desc := "(I)I" } : Jvm.MethodName) ∈ qm_ws := qm_mem4 (i := 36) rfl rfl
theorem qw_757 : Jvm.Cond.selects "HungStreamsModel" ({ cls := "HungStreamsModel", name := "closes", desc := "(I)I" } : Jvm.MethodName) ({ cls := "HungStreamsModel", name := "closes", desc := "(I)I" } : Jvm.MethodName) ∈ qm_ws := qm_mem4 (i := 37) rfl rfl
theorem qw_758 : Jvm.Cond.code ({ cls := "HungStreamsModel", name := "closes", desc := "(I)I" } : Jvm.MethodName) prog_9_method_26_code (2 : Nat) (Option.some Jvm.ClassFile.FieldType.int) ∈ qm_ws := qm_mem4 (i := 38) rfl rfl
theorem qw_759 : Jvm.Cond.methodLink "HungStreamsModel" (114 : Nat) ({ cls := "HungStreamsModel", name := "goesAll", desc := "()V" } : Jvm.MethodName) ∈ qm_ws := qm_mem4 (i := 39) rfl rfl
theorem qw_761 : Jvm.Cond.instanceMethod ({ cls := "HungStreamsModel", name := "goesAll", desc := "()V" } : Jvm.MethodName) ∈ qm_ws := qm_mem4 (i := 41) rfl rfl
theorem qw_762 : Jvm.Cond.code ({ cls := "HungStreamsModel", name := "goesAll", desc := "()V" } : Jvm.MethodName) prog_9_method_25_code (2 : Nat) (Option.none : Option Jvm.ClassFile.FieldType) ∈ qm_ws := qm_mem4 (i := 42) rfl rfl
theorem qw_763 : Jvm.Cond.methodLink "HungStreamsModel" (110 : Nat) ({ cls := "HungStreamsModel", name := "goes", desc := "(I)V" } : Jvm.MethodName) ∈ qm_ws := qm_mem4 (i := 43) rfl rfl
theorem qw_765 : Jvm.Cond.instanceMethod ({ cls := "HungStreamsModel", name := "goes", desc := "(I)V" } : Jvm.MethodName) ∈ qm_ws := qm_mem4 (i := 45) rfl rfl
theorem qw_766 : Jvm.Cond.code ({ cls := "HungStreamsModel", name := "goes", desc := "(I)V" } : Jvm.MethodName) prog_9_method_24_code (7 : Nat) (Option.none : Option Jvm.ClassFile.FieldType) ∈ qm_ws := qm_mem4 (i := 46) rfl rfl
theorem qw_767 : Jvm.Cond.methodLink "HungStreamsModel" (117 : Nat) ({ cls := "HungStreamsModel", name := "there", desc := "()I" } : Jvm.MethodName) ∈ qm_ws := qm_mem4 (i := 47) rfl rfl
theorem qw_769 : Jvm.Cond.instanceMethod ({ cls := "HungStreamsModel", name := "there", desc := "()I" } : Jvm.MethodName) ∈ qm_ws := qm_mem4 (i := 49) rfl rfl
theorem qw_770 : Jvm.Cond.code ({ cls := "HungStreamsModel", name := "there", desc := "()I" } : Jvm.MethodName) prog_9_method_22_code (3 : Nat) (Option.some Jvm.ClassFile.FieldType.int) ∈ qm_ws := qm_mem4 (i := 50) rfl rfl
theorem qw_771 : Jvm.Cond.methodLink "HungStreamsModel" (121 : Nat) ({ cls := "HungStreamsModel", name := "size", desc := "(I)I" } : Jvm.MethodName) ∈ qm_ws := qm_mem4 (i := 51) rfl rfl
theorem qw_772 : Jvm.Cond.static ({ cls := "HungStreamsModel", name := "size", desc := "(I)I" } : Jvm.MethodName) ∈ qm_ws := qm_mem4 (i := 52) rfl rfl
theorem qw_773 : Jvm.Cond.code ({ cls := "HungStreamsModel", name := "size", desc := "(I)I" } : Jvm.MethodName) prog_9_method_23_code (3 : Nat) (Option.some Jvm.ClassFile.FieldType.int) ∈ qm_ws := qm_mem4 (i := 53) rfl rfl
theorem qw_774 : Jvm.Cond.methodLink "HungStreamsLaw" (36 : Nat) ({ cls := "HungStreamsModel", name := "of", desc := "(II)I" } : Jvm.MethodName) ∈ qm_ws := qm_mem4 (i := 54) rfl rfl
theorem qw_775 : Jvm.Cond.instanceMethod ({ cls := "HungStreamsModel", name := "of", desc := "(II)I" } : Jvm.MethodName) ∈ qm_ws := qm_mem4 (i := 55) rfl rfl
theorem qw_776 : Jvm.Cond.selects "HungStreamsModel" ({ cls := "HungStreamsModel", name := "of", desc := "(II)I" } : Jvm.MethodName) ({ cls := "HungStreamsModel", name := "of", desc := "(II)I" } : Jvm.MethodName) ∈ qm_ws := qm_mem4 (i := 56) rfl rfl
theorem qw_777 : Jvm.Cond.code ({ cls := "HungStreamsModel", name := "of", desc := "(II)I" } : Jvm.MethodName) prog_9_method_33_code (3 : Nat) (Option.some Jvm.ClassFile.FieldType.int) ∈ qm_ws := qm_mem4 (i := 57) rfl rfl
theorem qw_778 : Jvm.Cond.constantLong "HungStreamsModel" (133 : Nat) (15 : Int64) ∈ qm_ws := qm_mem4 (i := 58) rfl rfl
theorem qw_779 : Jvm.Cond.methodLink "HungStreamsModel" (135 : Nat) ({ cls := "HungStreamsModel", name := "ofNow", desc := "(II)I" } : Jvm.MethodName) ∈ qm_ws := qm_mem4 (i := 59) rfl rfl
theorem qw_781 : Jvm.Cond.instanceMethod ({ cls := "HungStreamsModel", name := "ofNow", desc := "(II)I" } : Jvm.MethodName) ∈ qm_ws := qm_mem4 (i := 61) rfl rfl
theorem qw_782 : Jvm.Cond.code ({ cls := "HungStreamsModel", name := "ofNow", desc := "(II)I" } : Jvm.MethodName) prog_9_method_32_code (3 : Nat) (Option.some Jvm.ClassFile.FieldType.int) ∈ qm_ws := qm_mem4 (i := 62) rfl rfl
theorem qw_783 : Jvm.Cond.methodLink "HungStreamsModel" (130 : Nat) ({ cls := "HungStreamsModel", name := "below", desc := "(I)I" } : Jvm.MethodName) ∈ qm_ws := qm_mem4 (i := 63) rfl rfl
theorem qw_785 : Jvm.Cond.instanceMethod ({ cls := "HungStreamsModel", name := "below", desc := "(I)I" } : Jvm.MethodName) ∈ qm_ws := qm_mem4 (i := 65) rfl rfl
theorem qw_786 : Jvm.Cond.code ({ cls := "HungStreamsModel", name := "below", desc := "(I)I" } : Jvm.MethodName) prog_9_method_31_code (4 : Nat) (Option.some Jvm.ClassFile.FieldType.int) ∈ qm_ws := qm_mem4 (i := 66) rfl rfl
theorem qw_787 : Jvm.Cond.methodLink "HungStreamsModel" (124 : Nat) ({ cls := "HungStreamsModel", name := "can", desc := "(I)Z" } : Jvm.MethodName) ∈ qm_ws := qm_mem4 (i := 67) rfl rfl
theorem qw_789 : Jvm.Cond.instanceMethod ({ cls := "HungStreamsModel", name := "can", desc := "(I)Z" } : Jvm.MethodName) ∈ qm_ws := qm_mem4 (i := 69) rfl rfl
theorem qw_790 : Jvm.Cond.code ({ cls := "HungStreamsModel", name := "can", desc := "(I)Z" } : Jvm.MethodName) prog_9_method_27_code (2 : Nat) (Option.some Jvm.ClassFile.FieldType.boolean) ∈ qm_ws := qm_mem4 (i := 70) rfl rfl
theorem qw_791 : Jvm.Cond.methodLink "HungStreamsModel" (127 : Nat) ({ cls := "HungStreamsModel", name := "isLive", desc := "(I)Z" } : Jvm.MethodName) ∈ qm_ws := qm_mem4 (i := 71) rfl rfl
theorem qw_793 : Jvm.Cond.instanceMethod ({ cls := "HungStreamsModel", name := "isLive", desc := "(I)Z" } : Jvm.MethodName) ∈ qm_ws := qm_mem4 (i := 73) rfl rfl
theorem qw_794 : Jvm.Cond.code ({ cls := "HungStreamsModel", name := "isLive", desc := "(I)Z" } : Jvm.MethodName) prog_9_method_29_code (4 : Nat) (Option.some Jvm.ClassFile.FieldType.boolean) ∈ qm_ws := qm_mem4 (i := 74) rfl rfl
theorem qw_795 : Jvm.Cond.methodLink "HungStreamsLaw" (41 : Nat) ({ cls := "HungStreamsModel", name := "turn", desc := "(II)J" } : Jvm.MethodName) ∈ qm_ws := qm_mem4 (i := 75) rfl rfl
theorem qw_796 : Jvm.Cond.instanceMethod ({ cls := "HungStreamsModel", name := "turn", desc := "(II)J" } : Jvm.MethodName) ∈ qm_ws := qm_mem4 (i := 76) rfl rfl
theorem qw_797 : Jvm.Cond.selects "HungStreamsModel" ({ cls := "HungStreamsModel", name := "turn", desc := "(II)J" } : Jvm.MethodName) ({ cls := "HungStreamsModel", name := "turn", desc := "(II)J" } : Jvm.MethodName) ∈ qm_ws := qm_mem4 (i := 77) rfl rfl
theorem qw_798 : Jvm.Cond.code ({ cls := "HungStreamsModel", name := "turn", desc := "(II)J" } : Jvm.MethodName) prog_9_method_34_code (4 : Nat) (Option.some Jvm.ClassFile.FieldType.long) ∈ qm_ws := qm_mem4 (i := 78) rfl rfl
theorem qw_799 : Jvm.Cond.methodLink "HungStreamsLaw" (45 : Nat) ({ cls := "HungStreamsModel", name := "child", desc := "(II)I" } : Jvm.MethodName) ∈ qm_ws := qm_mem4 (i := 79) rfl rfl
theorem qw_800 : Jvm.Cond.instanceMethod ({ cls := "HungStreamsModel", name := "child", desc := "(II)I" } : Jvm.MethodName) ∈ qm_ws := qm_mem4 (i := 80) rfl rfl
theorem qw_801 : Jvm.Cond.selects "HungStreamsModel" ({ cls := "HungStreamsModel", name := "child", desc := "(II)I" } : Jvm.MethodName) ({ cls := "HungStreamsModel", name := "child", desc := "(II)I" } : Jvm.MethodName) ∈ qm_ws := qm_mem4 (i := 81) rfl rfl
theorem qw_802 : Jvm.Cond.code ({ cls := "HungStreamsModel", name := "child", desc := "(II)I" } : Jvm.MethodName) prog_9_method_35_code (5 : Nat) (Option.some Jvm.ClassFile.FieldType.int) ∈ qm_ws := qm_mem4 (i := 82) rfl rfl
theorem qw_803 : Jvm.Cond.methodLink "HungStreamsLaw" (49 : Nat) ({ cls := "HungStreamsModel", name := "common", desc := "(II)I" } : Jvm.MethodName) ∈ qm_ws := qm_mem4 (i := 83) rfl rfl
theorem qw_804 : Jvm.Cond.instanceMethod ({ cls := "HungStreamsModel", name := "common", desc := "(II)I" } : Jvm.MethodName) ∈ qm_ws := qm_mem4 (i := 84) rfl rfl
theorem qw_805 : Jvm.Cond.selects "HungStreamsModel" ({ cls := "HungStreamsModel", name := "common", desc := "(II)I" } : Jvm.MethodName) ({ cls := "HungStreamsModel", name := "common", desc := "(II)I" } : Jvm.MethodName) ∈ qm_ws := qm_mem4 (i := 85) rfl rfl
theorem qw_806 : Jvm.Cond.code ({ cls := "HungStreamsModel", name := "common", desc := "(II)I" } : Jvm.MethodName) prog_9_method_36_code (4 : Nat) (Option.some Jvm.ClassFile.FieldType.int) ∈ qm_ws := qm_mem4 (i := 86) rfl rfl
theorem qw_807 : Jvm.Cond.methodLink "HungStreamsLaw" (53 : Nat) ({ cls := "HungStreamsModel", name := "readies", desc := "(II)I" } : Jvm.MethodName) ∈ qm_ws := qm_mem4 (i := 87) rfl rfl
theorem qw_808 : Jvm.Cond.instanceMethod ({ cls := "HungStreamsModel", name := "readies", desc := "(II)I" } : Jvm.MethodName) ∈ qm_ws := qm_mem4 (i := 88) rfl rfl
theorem qw_809 : Jvm.Cond.selects "HungStreamsModel" ({ cls := "HungStreamsModel", name := "readies", desc := "(II)I" } : Jvm.MethodName) ({ cls := "HungStreamsModel", name := "readies", desc := "(II)I" } : Jvm.MethodName) ∈ qm_ws := qm_mem4 (i := 89) rfl rfl
theorem qw_810 : Jvm.Cond.code ({ cls := "HungStreamsModel", name := "readies", desc := "(II)I" } : Jvm.MethodName) prog_9_method_37_code (3 : Nat) (Option.some Jvm.ClassFile.FieldType.int) ∈ qm_ws := qm_mem4 (i := 90) rfl rfl
theorem qw_811 : Jvm.Cond.constantLong "HungStreamsModel" (139 : Nat) (9999 : Int64) ∈ qm_ws := qm_mem4 (i := 91) rfl rfl
theorem qw_812 : Jvm.Cond.methodLink "HungStreamsLaw" (57 : Nat) ({ cls := "HungStreamsModel", name := "window", desc := "(II)I" } : Jvm.MethodName) ∈ qm_ws := qm_mem4 (i := 92) rfl rfl
theorem qw_813 : Jvm.Cond.instanceMethod ({ cls := "HungStreamsModel", name := "window", desc := "(II)I" } : Jvm.MethodName) ∈ qm_ws := qm_mem4 (i := 93) rfl rfl
theorem qw_814 : Jvm.Cond.selects "HungStreamsModel" ({ cls := "HungStreamsModel", name := "window", desc := "(II)I" } : Jvm.MethodName) ({ cls := "HungStreamsModel", name := "window", desc := "(II)I" } : Jvm.MethodName) ∈ qm_ws := qm_mem4 (i := 94) rfl rfl
theorem qw_815 : Jvm.Cond.code ({ cls := "HungStreamsModel", name := "window", desc := "(II)I" } : Jvm.MethodName) prog_9_method_38_code (4 : Nat) (Option.some Jvm.ClassFile.FieldType.int) ∈ qm_ws := qm_mem4 (i := 95) rfl rfl
theorem qw_816 : Jvm.Cond.methodLink "HungStreamsLaw" (61 : Nat) ({ cls := "HungStreamsModel", name := "settings", desc := "(II)I" } : Jvm.MethodName) ∈ qm_ws := qm_mem4 (i := 96) rfl rfl
theorem qw_817 : Jvm.Cond.instanceMethod ({ cls := "HungStreamsModel", name := "settings", desc := "(II)I" } : Jvm.MethodName) ∈ qm_ws := qm_mem4 (i := 97) rfl rfl
theorem qw_818 : Jvm.Cond.selects "HungStreamsModel" ({ cls := "HungStreamsModel", name := "settings", desc := "(II)I" } : Jvm.MethodName) ({ cls := "HungStreamsModel", name := "settings", desc := "(II)I" } : Jvm.MethodName) ∈ qm_ws := qm_mem4 (i := 98) rfl rfl
theorem qw_819 : Jvm.Cond.code ({ cls := "HungStreamsModel", name := "settings", desc := "(II)I" } : Jvm.MethodName) prog_9_method_39_code (5 : Nat) (Option.some Jvm.ClassFile.FieldType.int) ∈ qm_ws := qm_mem4 (i := 99) rfl rfl
theorem qw_820 : Jvm.Cond.constantLong "HungStreamsModel" (141 : Nat) (99999 : Int64) ∈ qm_ws := qm_mem4 (i := 100) rfl rfl
theorem qw_821 : Jvm.Cond.constantLong "HungStreamsModel" (143 : Nat) (999 : Int64) ∈ qm_ws := qm_mem4 (i := 101) rfl rfl
theorem qw_822 : Jvm.Cond.constantLong "HungStreamsModel" (145 : Nat) (50 : Int64) ∈ qm_ws := qm_mem4 (i := 102) rfl rfl
theorem qw_823 : Jvm.Cond.methodLink "HungStreamsLaw" (70 : Nat) ({ cls := "HungStreamsModel", name := "next", desc := "()I" } : Jvm.MethodName) ∈ qm_ws := qm_mem4 (i := 103) rfl rfl
theorem qw_824 : Jvm.Cond.instanceMethod ({ cls := "HungStreamsModel", name := "next", desc := "()I" } : Jvm.MethodName) ∈ qm_ws := qm_mem4 (i := 104) rfl rfl
theorem qw_825 : Jvm.Cond.selects "HungStreamsModel" ({ cls := "HungStreamsModel", name := "next", desc := "()I" } : Jvm.MethodName) ({ cls := "HungStreamsModel", name := "next", desc := "()I" } : Jvm.MethodName) ∈ qm_ws := qm_mem4 (i := 105) rfl rfl
theorem qw_826 : Jvm.Cond.code ({ cls := "HungStreamsModel", name := "next", desc := "()I" } : Jvm.MethodName) prog_9_method_46_code (1 : Nat) (Option.some Jvm.ClassFile.FieldType.int) ∈ qm_ws := qm_mem4 (i := 106) rfl rfl
theorem qw_827 : Jvm.Cond.methodLink "HungStreamsModel" (165 : Nat) ({ cls := "HungStreamsModel", name := "nextNow", desc := "()I" } : Jvm.MethodName) ∈ qm_ws := qm_mem4 (i := 107) rfl rfl
theorem qw_829 : Jvm.Cond.instanceMethod ({ cls := "HungStreamsModel", name := "nextNow", desc := "()I" } : Jvm.MethodName) ∈ qm_ws := qm_mem4 (i := 109) rfl rfl
theorem qw_830 : Jvm.Cond.code ({ cls := "HungStreamsModel", name := "nextNow", desc := "()I" } : Jvm.MethodName) prog_9_method_45_code (1 : Nat) (Option.some Jvm.ClassFile.FieldType.int) ∈ qm_ws := qm_mem4 (i := 110) rfl rfl
theorem qw_831 : Jvm.Cond.methodLink "HungStreamsModel" (159 : Nat) ({ cls := "HungStreamsModel", name := "byTree", desc := "()I" } : Jvm.MethodName) ∈ qm_ws := qm_mem4 (i := 111) rfl rfl
theorem qw_833 : Jvm.Cond.instanceMethod ({ cls := "HungStreamsModel", name := "byTree", desc := "()I" } : Jvm.MethodName) ∈ qm_ws := qm_mem4 (i := 113) rfl rfl
theorem qw_834 : Jvm.Cond.code ({ cls := "HungStreamsModel", name := "byTree", desc := "()I" } : Jvm.MethodName) prog_9_method_42_code (3 : Nat) (Option.some Jvm.ClassFile.FieldType.int) ∈ qm_ws := qm_mem4 (i := 114) rfl rfl
theorem qw_835 : Jvm.Cond.methodLink "HungStreamsModel" (150 : Nat) ({ cls := "HungStreamsModel", name := "liveSet", desc := "()I" } : Jvm.MethodName) ∈ qm_ws := qm_mem4 (i := 115) rfl rfl
theorem qw_837 : Jvm.Cond.instanceMethod ({ cls := "HungStreamsModel", name := "liveSet", desc := "()I" } : Jvm.MethodName) ∈ qm_ws := qm_mem4 (i := 117) rfl rfl
theorem qw_838 : Jvm.Cond.code ({ cls := "HungStreamsModel", name := "liveSet", desc := "()I" } : Jvm.MethodName) prog_9_method_30_code (3 : Nat) (Option.some Jvm.ClassFile.FieldType.int) ∈ qm_ws := qm_mem4 (i := 118) rfl rfl
theorem qw_839 : Jvm.Cond.methodLink "HungStreamsModel" (153 : Nat) ({ cls := "HungStreamsModel", name := "first", desc := "(II)I" } : Jvm.MethodName) ∈ qm_ws := qm_mem4 (i := 119) rfl rfl
theorem qw_841 : Jvm.Cond.instanceMethod ({ cls := "HungStreamsModel", name := "first", desc := "(II)I" } : Jvm.MethodName) ∈ qm_ws := qm_mem4 (i := 121) rfl rfl
theorem qw_842 : Jvm.Cond.code ({ cls := "HungStreamsModel", name := "first", desc := "(II)I" } : Jvm.MethodName) prog_9_method_41_code (5 : Nat) (Option.some Jvm.ClassFile.FieldType.int) ∈ qm_ws := qm_mem4 (i := 122) rfl rfl
theorem qw_843 : Jvm.Cond.methodLink "HungStreamsModel" (147 : Nat) ({ cls := "HungStreamsModel", name := "turnThen", desc := "(II)J" } : Jvm.MethodName) ∈ qm_ws := qm_mem4 (i := 123) rfl rfl
theorem qw_845 : Jvm.Cond.instanceMethod ({ cls := "HungStreamsModel", name := "turnThen", desc := "(II)J" } : Jvm.MethodName) ∈ qm_ws := qm_mem4 (i := 125) rfl rfl
theorem qw_846 : Jvm.Cond.code ({ cls := "HungStreamsModel", name := "turnThen", desc := "(II)J" } : Jvm.MethodName) prog_9_method_40_code (6 : Nat) (Option.some Jvm.ClassFile.FieldType.long) ∈ qm_ws := qm_mem4 (i := 126) rfl rfl
theorem qw_847 : Jvm.Cond.methodLink "HungStreamsModel" (162 : Nat) ({ cls := "HungStreamsModel", name := "byUrgency", desc := "()I" } : Jvm.MethodName) ∈ qm_ws := qm_mem4 (i := 127) rfl rfl
theorem qw_849 : Jvm.Cond.instanceMethod ({ cls := "HungStreamsModel", name := "byUrgency", desc := "()I" } : Jvm.MethodName) ∈ qm_ws := qm_mem4 (i := 129) rfl rfl
theorem qw_850 : Jvm.Cond.code ({ cls := "HungStreamsModel", name := "byUrgency", desc := "()I" } : Jvm.MethodName) prog_9_method_44_code (3 : Nat) (Option.some Jvm.ClassFile.FieldType.int) ∈ qm_ws := qm_mem4 (i := 130) rfl rfl
theorem qw_851 : Jvm.Cond.methodLink "HungStreamsModel" (156 : Nat) ({ cls := "HungStreamsModel", name := "isAhead", desc := "(II)Z" } : Jvm.MethodName) ∈ qm_ws := qm_mem4 (i := 131) rfl rfl
theorem qw_853 : Jvm.Cond.instanceMethod ({ cls := "HungStreamsModel", name := "isAhead", desc := "(II)Z" } : Jvm.MethodName) ∈ qm_ws := qm_mem4 (i := 133) rfl rfl
theorem qw_854 : Jvm.Cond.code ({ cls := "HungStreamsModel", name := "isAhead", desc := "(II)Z" } : Jvm.MethodName) prog_9_method_43_code (3 : Nat) (Option.some Jvm.ClassFile.FieldType.boolean) ∈ qm_ws := qm_mem4 (i := 134) rfl rfl
theorem qw_855 : Jvm.Cond.methodLink "HungStreamsLaw" (65 : Nat) ({ cls := "HungStreamsModel", name := "sends", desc := "(I)I" } : Jvm.MethodName) ∈ qm_ws := qm_mem4 (i := 135) rfl rfl
theorem qw_856 : Jvm.Cond.instanceMethod ({ cls := "HungStreamsModel", name := "sends", desc := "(I)I" } : Jvm.MethodName) ∈ qm_ws := qm_mem4 (i := 136) rfl rfl
theorem qw_857 : Jvm.Cond.selects "HungStreamsModel" ({ cls := "HungStreamsModel", name := "sends", desc := "(I)I" } : Jvm.MethodName) ({ cls := "HungStreamsModel", name := "sends", desc := "(I)I" } : Jvm.MethodName) ∈ qm_ws := qm_mem4 (i := 137) rfl rfl
theorem qw_858 : Jvm.Cond.code ({ cls := "HungStreamsModel", name := "sends", desc := "(I)I" } : Jvm.MethodName) prog_9_method_51_code (3 : Nat) (Option.some Jvm.ClassFile.FieldType.int) ∈ qm_ws := qm_mem4 (i := 138) rfl rfl
theorem qw_859 : Jvm.Cond.methodLink "HungStreamsModel" (184 : Nat) ({ cls := "HungStreamsModel", name := "isSent", desc := "()Z" } : Jvm.MethodName) ∈ qm_ws := qm_mem4 (i := 139) rfl rfl
theorem qw_861 : Jvm.Cond.instanceMethod ({ cls := "HungStreamsModel", name := "isSent", desc := "()Z" } : Jvm.MethodName) ∈ qm_ws := qm_mem4 (i := 141) rfl rfl
theorem qw_862 : Jvm.Cond.code ({ cls := "HungStreamsModel", name := "isSent", desc := "()Z" } : Jvm.MethodName) prog_9_method_50_code (8 : Nat) (Option.some Jvm.ClassFile.FieldType.boolean) ∈ qm_ws := qm_mem4 (i := 142) rfl rfl
theorem qw_863 : Jvm.Cond.methodLink "HungStreamsModel" (170 : Nat) ({ cls := "HungStreamsModel", name := "looks", desc := "()V" } : Jvm.MethodName) ∈ qm_ws := qm_mem4 (i := 143) rfl rfl
theorem qw_865 : Jvm.Cond.instanceMethod ({ cls := "HungStreamsModel", name := "looks", desc := "()V" } : Jvm.MethodName) ∈ qm_ws := qm_mem4 (i := 145) rfl rfl
theorem qw_866 : Jvm.Cond.code ({ cls := "HungStreamsModel", name := "looks", desc := "()V" } : Jvm.MethodName) prog_9_method_47_code (3 : Nat) (Option.none : Option Jvm.ClassFile.FieldType) ∈ qm_ws := qm_mem4 (i := 146) rfl rfl
theorem qw_867 : Jvm.Cond.methodLink "HungStreamsModel" (173 : Nat) ({ cls := "HungStreamsModel", name := "canSet", desc := "()I" } : Jvm.MethodName) ∈ qm_ws := qm_mem4 (i := 147) rfl rfl
theorem qw_869 : Jvm.Cond.instanceMethod ({ cls := "HungStreamsModel", name := "canSet", desc := "()I" } : Jvm.MethodName) ∈ qm_ws := qm_mem4 (i := 149) rfl rfl
theorem qw_870 : Jvm.Cond.code ({ cls := "HungStreamsModel", name := "canSet", desc := "()I" } : Jvm.MethodName) prog_9_method_28_code (3 : Nat) (Option.some Jvm.ClassFile.FieldType.int) ∈ qm_ws := qm_mem4 (i := 150) rfl rfl
theorem qw_871 : Jvm.Cond.methodLink "HungStreamsModel" (176 : Nat) ({ cls := "HungStreamsModel", name := "bytesOf", desc := "(I)J" } : Jvm.MethodName) ∈ qm_ws := qm_mem4 (i := 151) rfl rfl
theorem qw_873 : Jvm.Cond.instanceMethod ({ cls := "HungStreamsModel", name := "bytesOf", desc := "(I)J" } : Jvm.MethodName) ∈ qm_ws := qm_mem4 (i := 153) rfl rfl
theorem qw_874 : Jvm.Cond.code ({ cls := "HungStreamsModel", name := "bytesOf", desc := "(I)J" } : Jvm.MethodName) prog_9_method_48_code (4 : Nat) (Option.some Jvm.ClassFile.FieldType.long) ∈ qm_ws := qm_mem4 (i := 154) rfl rfl
theorem qw_875 : Jvm.Cond.methodLink "HungStreamsModel" (180 : Nat) ({ cls := "HungStreamsModel", name := "turns", desc := "(IJ)V" } : Jvm.MethodName) ∈ qm_ws := qm_mem4 (i := 155) rfl rfl
theorem qw_877 : Jvm.Cond.instanceMethod ({ cls := "HungStreamsModel", name := "turns", desc := "(IJ)V" } : Jvm.MethodName) ∈ qm_ws := qm_mem4 (i := 157) rfl rfl
theorem qw_878 : Jvm.Cond.code ({ cls := "HungStreamsModel", name := "turns", desc := "(IJ)V" } : Jvm.MethodName) prog_9_method_49_code (5 : Nat) (Option.none : Option Jvm.ClassFile.FieldType) ∈ qm_ws := qm_mem4 (i := 158) rfl rfl
theorem qw_879 : Jvm.Cond.constantLong "HungStreamsModel" (168 : Nat) (720720 : Int64) ∈ qm_ws := qm_mem4 (i := 159) rfl rfl
theorem qw_880 : Jvm.Cond.methodLink "HungStreamsLaw" (74 : Nat) ({ cls := "HungStreamsModel", name := "share", desc := "(II)J" } : Jvm.MethodName) ∈ qm_ws := qm_mem4 (i := 160) rfl rfl
theorem qw_881 : Jvm.Cond.instanceMethod ({ cls := "HungStreamsModel", name := "share", desc := "(II)J" } : Jvm.MethodName) ∈ qm_ws := qm_mem4 (i := 161) rfl rfl
theorem qw_882 : Jvm.Cond.selects "HungStreamsModel" ({ cls := "HungStreamsModel", name := "share", desc := "(II)J" } : Jvm.MethodName) ({ cls := "HungStreamsModel", name := "share", desc := "(II)J" } : Jvm.MethodName) ∈ qm_ws := qm_mem4 (i := 162) rfl rfl
theorem qw_883 : Jvm.Cond.code ({ cls := "HungStreamsModel", name := "share", desc := "(II)J" } : Jvm.MethodName) prog_9_method_54_code (3 : Nat) (Option.some Jvm.ClassFile.FieldType.long) ∈ qm_ws := qm_mem4 (i := 163) rfl rfl
theorem qw_884 : Jvm.Cond.methodLink "HungStreamsModel" (198 : Nat) ({ cls := "HungStreamsModel", name := "shares", desc := "(I)V" } : Jvm.MethodName) ∈ qm_ws := qm_mem4 (i := 164) rfl rfl
theorem qw_886 : Jvm.Cond.instanceMethod ({ cls := "HungStreamsModel", name := "shares", desc := "(I)V" } : Jvm.MethodName) ∈ qm_ws := qm_mem4 (i := 166) rfl rfl
theorem qw_887 : Jvm.Cond.code ({ cls := "HungStreamsModel", name := "shares", desc := "(I)V" } : Jvm.MethodName) prog_9_method_53_code (8 : Nat) (Option.none : Option Jvm.ClassFile.FieldType) ∈ qm_ws := qm_mem4 (i := 167) rfl rfl
theorem qw_888 : Jvm.Cond.methodLink "HungStreamsModel" (194 : Nat) ({ cls := "HungStreamsModel", name := "divisor", desc := "(JJ)J" } : Jvm.MethodName) ∈ qm_ws := qm_mem4 (i := 168) rfl rfl
theorem qw_889 : Jvm.Cond.static ({ cls := "HungStreamsModel", name := "divisor", desc := "(JJ)J" } : Jvm.MethodName) ∈ qm_ws := qm_mem4 (i := 169) rfl rfl
theorem qw_890 : Jvm.Cond.code ({ cls := "HungStreamsModel", name := "divisor", desc := "(JJ)J" } : Jvm.MethodName) prog_9_method_52_code (10 : Nat) (Option.some Jvm.ClassFile.FieldType.long) ∈ qm_ws := qm_mem4 (i := 170) rfl rfl
theorem qw_891 : Jvm.Cond.methodLink "HungStreamsLaw" (78 : Nat) ({ cls := "HungStreamsModel", name := "all", desc := "(I)I" } : Jvm.MethodName) ∈ qm_ws := qm_mem4 (i := 171) rfl rfl
theorem qw_892 : Jvm.Cond.instanceMethod ({ cls := "HungStreamsModel", name := "all", desc := "(I)I" } : Jvm.MethodName) ∈ qm_ws := qm_mem4 (i := 172) rfl rfl
theorem qw_893 : Jvm.Cond.selects "HungStreamsModel" ({ cls := "HungStreamsModel", name := "all", desc := "(I)I" } : Jvm.MethodName) ({ cls := "HungStreamsModel", name := "all", desc := "(I)I" } : Jvm.MethodName) ∈ qm_ws := qm_mem4 (i := 173) rfl rfl
theorem qw_894 : Jvm.Cond.code ({ cls := "HungStreamsModel", name := "all", desc := "(I)I" } : Jvm.MethodName) prog_9_method_56_code (2 : Nat) (Option.some Jvm.ClassFile.FieldType.int) ∈ qm_ws := qm_mem4 (i := 174) rfl rfl
theorem qw_895 : Jvm.Cond.constantLong "HungStreamsModel" (201 : Nat) (6 : Int64) ∈ qm_ws := qm_mem4 (i := 175) rfl rfl
theorem qw_896 : Jvm.Cond.methodLink "HungStreamsModel" (203 : Nat) ({ cls := "HungStreamsModel", name := "allNow", desc := "(I)I" } : Jvm.MethodName) ∈ qm_ws := qm_mem4 (i := 176) rfl rfl
theorem qw_898 : Jvm.Cond.instanceMethod ({ cls := "HungStreamsModel", name := "allNow", desc := "(I)I" } : Jvm.MethodName) ∈ qm_ws := qm_mem4 (i := 178) rfl rfl
theorem qw_899 : Jvm.Cond.code ({ cls := "HungStreamsModel", name := "allNow", desc := "(I)I" } : Jvm.MethodName) prog_9_method_55_code (7 : Nat) (Option.some Jvm.ClassFile.FieldType.int) ∈ qm_ws := qm_mem4 (i := 179) rfl rfl
theorem qw_900 : Jvm.Cond.methodLink "HungStreamsLaw" (82 : Nat) ({ cls := "HungStreamsModel", name := "type", desc := "(I)I" } : Jvm.MethodName) ∈ qm_ws := qm_mem4 (i := 180) rfl rfl
theorem qw_901 : Jvm.Cond.instanceMethod ({ cls := "HungStreamsModel", name := "type", desc := "(I)I" } : Jvm.MethodName) ∈ qm_ws := qm_mem4 (i := 181) rfl rfl
theorem qw_902 : Jvm.Cond.selects "HungStreamsModel" ({ cls := "HungStreamsModel", name := "type", desc := "(I)I" } : Jvm.MethodName) ({ cls := "HungStreamsModel", name := "type", desc := "(I)I" } : Jvm.MethodName) ∈ qm_ws := qm_mem4 (i := 182) rfl rfl
theorem qw_903 : Jvm.Cond.code ({ cls := "HungStreamsModel", name := "type", desc := "(I)I" } : Jvm.MethodName) prog_9_method_57_code (2 : Nat) (Option.some Jvm.ClassFile.FieldType.int) ∈ qm_ws := qm_mem4 (i := 183) rfl rfl
theorem qw_904 : Jvm.Cond.constantLong "HungStreamsModel" (206 : Nat) (127 : Int64) ∈ qm_ws := qm_mem4 (i := 184) rfl rfl
theorem qw_905 : Jvm.Cond.methodLink "HungStreamsLaw" (86 : Nat) ({ cls := "HungStreamsModel", name := "clear", desc := "()I" } : Jvm.MethodName) ∈ qm_ws := qm_mem4 (i := 185) rfl rfl
theorem qw_906 : Jvm.Cond.instanceMethod ({ cls := "HungStreamsModel", name := "clear", desc := "()I" } : Jvm.MethodName) ∈ qm_ws := qm_mem4 (i := 186) rfl rfl
theorem qw_907 : Jvm.Cond.selects "HungStreamsModel" ({ cls := "HungStreamsModel", name := "clear", desc := "()I" } : Jvm.MethodName) ({ cls := "HungStreamsModel", name := "clear", desc := "()I" } : Jvm.MethodName) ∈ qm_ws := qm_mem4 (i := 187) rfl rfl
theorem qw_908 : Jvm.Cond.code ({ cls := "HungStreamsModel", name := "clear", desc := "()I" } : Jvm.MethodName) prog_9_method_58_code (2 : Nat) (Option.some Jvm.ClassFile.FieldType.int) ∈ qm_ws := qm_mem4 (i := 188) rfl rfl
theorem qw_909 : Jvm.Cond.methodLink "HungStreamsLaw" (90 : Nat) ({ cls := "HungStreamsModel", name := "builds", desc := "()I" } : Jvm.MethodName) ∈ qm_ws := qm_mem4 (i := 189) rfl rfl
theorem qw_910 : Jvm.Cond.instanceMethod ({ cls := "HungStreamsModel", name := "builds", desc := "()I" } : Jvm.MethodName) ∈ qm_ws := qm_mem4 (i := 190) rfl rfl
theorem qw_911 : Jvm.Cond.selects "HungStreamsModel" ({ cls := "HungStreamsModel", name := "builds", desc := "()I" } : Jvm.MethodName) ({ cls := "HungStreamsModel", name := "builds", desc := "()I" } : Jvm.MethodName) ∈ qm_ws := qm_mem4 (i := 191) rfl rfl
theorem qw_912 : Jvm.Cond.code ({ cls := "HungStreamsModel", name := "builds", desc := "()I" } : Jvm.MethodName) prog_9_method_65_code (2 : Nat) (Option.some Jvm.ClassFile.FieldType.int) ∈ qm_ws := qm_mem4 (i := 192) rfl rfl
theorem qw_913 : Jvm.Cond.methodLink "HungStreamsModel" (239 : Nat) ({ cls := "HungStreamsModel", name := "isRead", desc := "()Z" } : Jvm.MethodName) ∈ qm_ws := qm_mem4 (i := 193) rfl rfl
theorem qw_915 : Jvm.Cond.instanceMethod ({ cls := "HungStreamsModel", name := "isRead", desc := "()Z" } : Jvm.MethodName) ∈ qm_ws := qm_mem4 (i := 195) rfl rfl
theorem qw_916 : Jvm.Cond.code ({ cls := "HungStreamsModel", name := "isRead", desc := "()Z" } : Jvm.MethodName) prog_9_method_64_code (3 : Nat) (Option.some Jvm.ClassFile.FieldType.boolean) ∈ qm_ws := qm_mem4 (i := 196) rfl rfl
theorem qw_917 : Jvm.Cond.methodLink "HungStreamsModel" (218 : Nat) ({ cls := "HungStreamsModel", name := "here", desc := "()I" } : Jvm.MethodName) ∈ qm_ws := qm_mem4 (i := 197) rfl rfl
theorem qw_919 : Jvm.Cond.instanceMethod ({ cls := "HungStreamsModel", name := "here", desc := "()I" } : Jvm.MethodName) ∈ qm_ws := qm_mem4 (i := 199) rfl rfl
theorem qw_920 : Jvm.Cond.code ({ cls := "HungStreamsModel", name := "here", desc := "()I" } : Jvm.MethodName) prog_9_method_59_code (1 : Nat) (Option.some Jvm.ClassFile.FieldType.int) ∈ qm_ws := qm_mem4 (i := 200) rfl rfl
theorem qw_921 : Jvm.Cond.methodLink "HungStreamsModel" (233 : Nat) ({ cls := "HungStreamsModel", name := "standsIn", desc := "(I)I" } : Jvm.MethodName) ∈ qm_ws := qm_mem4 (i := 201) rfl rfl
theorem qw_923 : Jvm.Cond.instanceMethod ({ cls := "HungStreamsModel", name := "standsIn", desc := "(I)I" } : Jvm.MethodName) ∈ qm_ws := qm_mem4 (i := 203) rfl rfl
theorem qw_924 : Jvm.Cond.code ({ cls := "HungStreamsModel", name := "standsIn", desc := "(I)I" } : Jvm.MethodName) prog_9_method_63_code (4 : Nat) (Option.some Jvm.ClassFile.FieldType.int) ∈ qm_ws := qm_mem4 (i := 204) rfl rfl
theorem qw_925 : Jvm.Cond.methodLink "HungStreamsModel" (236 : Nat) ({ cls := "HungStreamsModel", name := "takesStream", desc := "(I)Z" } : Jvm.MethodName) ∈ qm_ws := qm_mem4 (i := 205) rfl rfl
theorem qw_927 : Jvm.Cond.instanceMethod ({ cls := "HungStreamsModel", name := "takesStream", desc := "(I)Z" } : Jvm.MethodName) ∈ qm_ws := qm_mem4 (i := 207) rfl rfl
theorem qw_928 : Jvm.Cond.code ({ cls := "HungStreamsModel", name := "takesStream", desc := "(I)Z" } : Jvm.MethodName) prog_9_method_62_code (5 : Nat) (Option.some Jvm.ClassFile.FieldType.boolean) ∈ qm_ws := qm_mem4 (i := 208) rfl rfl
theorem qw_929 : Jvm.Cond.methodLink "HungStreamsModel" (227 : Nat) ({ cls := "HungStreamsModel", name := "takes", desc := "(I)Z" } : Jvm.MethodName) ∈ qm_ws := qm_mem4 (i := 209) rfl rfl
theorem qw_931 : Jvm.Cond.instanceMethod ({ cls := "HungStreamsModel", name := "takes", desc := "(I)Z" } : Jvm.MethodName) ∈ qm_ws := qm_mem4 (i := 211) rfl rfl
theorem qw_932 : Jvm.Cond.code ({ cls := "HungStreamsModel", name := "takes", desc := "(I)Z" } : Jvm.MethodName) prog_9_method_61_code (5 : Nat) (Option.some Jvm.ClassFile.FieldType.boolean) ∈ qm_ws := qm_mem4 (i := 212) rfl rfl
theorem qw_933 : Jvm.Cond.methodLink "HungStreamsModel" (224 : Nat) ({ cls := "HungStreamsModel", name := "isFigure", desc := "(I)Z" } : Jvm.MethodName) ∈ qm_ws := qm_mem4 (i := 213) rfl rfl
theorem qw_935 : Jvm.Cond.instanceMethod ({ cls := "HungStreamsModel", name := "isFigure", desc := "(I)Z" } : Jvm.MethodName) ∈ qm_ws := qm_mem4 (i := 215) rfl rfl
theorem qw_936 : Jvm.Cond.code ({ cls := "HungStreamsModel", name := "isFigure", desc := "(I)Z" } : Jvm.MethodName) prog_9_method_60_code (2 : Nat) (Option.some Jvm.ClassFile.FieldType.boolean) ∈ qm_ws := qm_mem4 (i := 216) rfl rfl
theorem qw_937 : Jvm.Cond.constantLong "HungStreamsModel" (214 : Nat) (48 : Int64) ∈ qm_ws := qm_mem4 (i := 217) rfl rfl
theorem qw_938 : Jvm.Cond.constantLong "HungStreamsModel" (216 : Nat) (57 : Int64) ∈ qm_ws := qm_mem4 (i := 218) rfl rfl
theorem qw_939 : Jvm.Cond.methodLink "HungStreamsLaw" (94 : Nat) ({ cls := "HungStreamsModel", name := "shown", desc := "(I)I" } : Jvm.MethodName) ∈ qm_ws := qm_mem4 (i := 219) rfl rfl
theorem qw_940 : Jvm.Cond.instanceMethod ({ cls := "HungStreamsModel", name := "shown", desc := "(I)I" } : Jvm.MethodName) ∈ qm_ws := qm_mem4 (i := 220) rfl rfl
theorem qw_941 : Jvm.Cond.selects "HungStreamsModel" ({ cls := "HungStreamsModel", name := "shown", desc := "(I)I" } : Jvm.MethodName) ({ cls := "HungStreamsModel", name := "shown", desc := "(I)I" } : Jvm.MethodName) ∈ qm_ws := qm_mem4 (i := 221) rfl rfl
theorem qw_942 : Jvm.Cond.code ({ cls := "HungStreamsModel", name := "shown", desc := "(I)I" } : Jvm.MethodName) prog_9_method_70_code (2 : Nat) (Option.some Jvm.ClassFile.FieldType.int) ∈ qm_ws := qm_mem4 (i := 222) rfl rfl
theorem qw_943 : Jvm.Cond.methodLink "HungStreamsModel" (260 : Nat) ({ cls := "HungStreamsModel", name := "showsAll", desc := "()V" } : Jvm.MethodName) ∈ qm_ws := qm_mem4 (i := 223) rfl rfl
theorem qw_945 : Jvm.Cond.instanceMethod ({ cls := "HungStreamsModel", name := "showsAll", desc := "()V" } : Jvm.MethodName) ∈ qm_ws := qm_mem4 (i := 225) rfl rfl
theorem qw_946 : Jvm.Cond.code ({ cls := "HungStreamsModel", name := "showsAll", desc := "()V" } : Jvm.MethodName) prog_9_method_69_code (3 : Nat) (Option.none : Option Jvm.ClassFile.FieldType) ∈ qm_ws := qm_mem4 (i := 226) rfl rfl
theorem qw_947 : Jvm.Cond.methodLink "HungStreamsModel" (254 : Nat) ({ cls := "HungStreamsModel", name := "nextChild", desc := "(II)I" } : Jvm.MethodName) ∈ qm_ws := qm_mem4 (i := 227) rfl rfl
theorem qw_949 : Jvm.Cond.instanceMethod ({ cls := "HungStreamsModel", name := "nextChild", desc := "(II)I" } : Jvm.MethodName) ∈ qm_ws := qm_mem4 (i := 229) rfl rfl
theorem qw_950 : Jvm.Cond.code ({ cls := "HungStreamsModel", name := "nextChild", desc := "(II)I" } : Jvm.MethodName) prog_9_method_68_code (4 : Nat) (Option.some Jvm.ClassFile.FieldType.int) ∈ qm_ws := qm_mem4 (i := 230) rfl rfl
theorem qw_951 : Jvm.Cond.methodLink "HungStreamsModel" (257 : Nat) ({ cls := "HungStreamsModel", name := "showsNumber", desc := "(I)V" } : Jvm.MethodName) ∈ qm_ws := qm_mem4 (i := 231) rfl rfl
theorem qw_953 : Jvm.Cond.instanceMethod ({ cls := "HungStreamsModel", name := "showsNumber", desc := "(I)V" } : Jvm.MethodName) ∈ qm_ws := qm_mem4 (i := 233) rfl rfl
theorem qw_954 : Jvm.Cond.code ({ cls := "HungStreamsModel", name := "showsNumber", desc := "(I)V" } : Jvm.MethodName) prog_9_method_67_code (2 : Nat) (Option.none : Option Jvm.ClassFile.FieldType) ∈ qm_ws := qm_mem4 (i := 234) rfl rfl
theorem qw_955 : Jvm.Cond.methodLink "HungStreamsModel" (251 : Nat) ({ cls := "HungStreamsModel", name := "shows", desc := "(I)V" } : Jvm.MethodName) ∈ qm_ws := qm_mem4 (i := 235) rfl rfl
theorem qw_957 : Jvm.Cond.instanceMethod ({ cls := "HungStreamsModel", name := "shows", desc := "(I)V" } : Jvm.MethodName) ∈ qm_ws := qm_mem4 (i := 237) rfl rfl
theorem qw_958 : Jvm.Cond.code ({ cls := "HungStreamsModel", name := "shows", desc := "(I)V" } : Jvm.MethodName) prog_9_method_66_code (2 : Nat) (Option.none : Option Jvm.ClassFile.FieldType) ∈ qm_ws := qm_mem4 (i := 238) rfl rfl
theorem qw_959 : Jvm.Cond.methodLink "HungStreamsLaw" (98 : Nat) ({ cls := "HungStreamsModel", name := "back", desc := "()I" } : Jvm.MethodName) ∈ qm_ws := qm_mem4 (i := 239) rfl rfl
theorem qw_960 : Jvm.Cond.instanceMethod ({ cls := "HungStreamsModel", name := "back", desc := "()I" } : Jvm.MethodName) ∈ qm_ws := qm_mem5 (i := 0) rfl rfl
theorem qw_961 : Jvm.Cond.selects "HungStreamsModel" ({ cls := "HungStreamsModel", name := "back", desc := "()I" } : Jvm.MethodName) ({ cls := "HungStreamsModel", name := "back", desc := "()I" } : Jvm.MethodName) ∈ qm_ws := qm_mem5 (i := 1) rfl rfl
theorem qw_962 : Jvm.Cond.code ({ cls := "HungStreamsModel", name := "back", desc := "()I" } : Jvm.MethodName) prog_9_method_71_code (2 : Nat) (Option.some Jvm.ClassFile.FieldType.int) ∈ qm_ws := qm_mem5 (i := 2) rfl rfl
theorem qw_963 : Jvm.Cond.methodLink "HungStreamsLaw" (102 : Nat) ({ cls := "HungStreamsModel", name := "told", desc := "(I)I" } : Jvm.MethodName) ∈ qm_ws := qm_mem5 (i := 3) rfl rfl
theorem qw_964 : Jvm.Cond.instanceMethod ({ cls := "HungStreamsModel", name := "told", desc := "(I)I" } : Jvm.MethodName) ∈ qm_ws := qm_mem5 (i := 4) rfl rfl
theorem qw_965 : Jvm.Cond.selects "HungStreamsModel" ({ cls := "HungStreamsModel", name := "told", desc := "(I)I" } : Jvm.MethodName) ({ cls := "HungStreamsModel", name := "told", desc := "(I)I" } : Jvm.MethodName) ∈ qm_ws := qm_mem5 (i := 5) rfl rfl
theorem qw_966 : Jvm.Cond.code ({ cls := "HungStreamsModel", name := "told", desc := "(I)I" } : Jvm.MethodName) prog_9_method_73_code (2 : Nat) (Option.some Jvm.ClassFile.FieldType.int) ∈ qm_ws := qm_mem5 (i := 6) rfl rfl
theorem qw_967 : Jvm.Cond.constantLong "HungStreamsModel" (263 : Nat) (9 : Int64) ∈ qm_ws := qm_mem5 (i := 7) rfl rfl
theorem qw_968 : Jvm.Cond.methodLink "HungStreamsModel" (265 : Nat) ({ cls := "HungStreamsModel", name := "toldOf", desc := "(I)I" } : Jvm.MethodName) ∈ qm_ws := qm_mem5 (i := 8) rfl rfl
theorem qw_970 : Jvm.Cond.instanceMethod ({ cls := "HungStreamsModel", name := "toldOf", desc := "(I)I" } : Jvm.MethodName) ∈ qm_ws := qm_mem5 (i := 10) rfl rfl
theorem qw_971 : Jvm.Cond.code ({ cls := "HungStreamsModel", name := "toldOf", desc := "(I)I" } : Jvm.MethodName) prog_9_method_72_code (2 : Nat) (Option.some Jvm.ClassFile.FieldType.int) ∈ qm_ws := qm_mem5 (i := 11) rfl rfl
theorem qw_972 : Jvm.Cond.methodLink "HungStreamsLaw" (107 : Nat) ({ cls := "HungStreamsModel", name := "digest", desc := "()J" } : Jvm.MethodName) ∈ qm_ws := qm_mem5 (i := 12) rfl rfl
theorem qw_973 : Jvm.Cond.instanceMethod ({ cls := "HungStreamsModel", name := "digest", desc := "()J" } : Jvm.MethodName) ∈ qm_ws := qm_mem5 (i := 13) rfl rfl
theorem qw_974 : Jvm.Cond.selects "HungStreamsModel" ({ cls := "HungStreamsModel", name := "digest", desc := "()J" } : Jvm.MethodName) ({ cls := "HungStreamsModel", name := "digest", desc := "()J" } : Jvm.MethodName) ∈ qm_ws := qm_mem5 (i := 14) rfl rfl
theorem qw_975 : Jvm.Cond.code ({ cls := "HungStreamsModel", name := "digest", desc := "()J" } : Jvm.MethodName) prog_9_method_74_code (5 : Nat) (Option.some Jvm.ClassFile.FieldType.long) ∈ qm_ws := qm_mem5 (i := 15) rfl rfl
theorem qw_976 : Jvm.Cond.constantLong "HungStreamsModel" (268 : Nat) (2311 : Int64) ∈ qm_ws := qm_mem5 (i := 16) rfl rfl
theorem qw_977 : Jvm.Cond.constantLong "HungStreamsModel" (270 : Nat) (31 : Int64) ∈ qm_ws := qm_mem5 (i := 17) rfl rfl
theorem qs_0 : Cond.selects "HungStreams" ⟨"HungStreams", "refuse", "(I)I"⟩ ⟨"HungStreams", "refuse", "(I)I"⟩ ∈ qm_ws := qm_memS (i := 0) rfl
theorem qs_1 : Cond.selects "HungStreams" ⟨"HungStreams", "leaveState", "()V"⟩ ⟨"HungStreams", "leaveState", "()V"⟩ ∈ qm_ws := qm_memS (i := 1) rfl
theorem qs_2 : Cond.selects "HungStreams$TreeWriter" ⟨"HungStreams$TreeWriter", "writeChildren", "(LHungStreams$Tree;II)V"⟩ ⟨"HungStreams$TreeWriter", "writeChildren", "(LHungStreams$Tree;II)V"⟩ ∈ qm_ws := qm_memS (i := 2) rfl
theorem qs_3 : Cond.selects "HungStreams$TreeWriter" ⟨"HungStreams$TreeWriter", "put", "(I)V"⟩ ⟨"HungStreams$TreeWriter", "put", "(I)V"⟩ ∈ qm_ws := qm_memS (i := 3) rfl
theorem qs_4 : Cond.selects "HungStreams$TreeWriter" ⟨"HungStreams$TreeWriter", "putNumber", "(I)V"⟩ ⟨"HungStreams$TreeWriter", "putNumber", "(I)V"⟩ ∈ qm_ws := qm_memS (i := 4) rfl
theorem qs_5 : Cond.selects "HungStreams" ⟨"HungStreams", "digestStream", "(JI)J"⟩ ⟨"HungStreams", "digestStream", "(JI)J"⟩ ∈ qm_ws := qm_memS (i := 5) rfl
theorem qs_6 : Cond.selects "HungStreamsModel" ⟨"HungStreamsModel", "isPlace", "(I)Z"⟩ ⟨"HungStreamsModel", "isPlace", "(I)Z"⟩ ∈ qm_ws := qm_memS (i := 6) rfl
theorem qs_7 : Cond.selects "HungStreamsModel" ⟨"HungStreamsModel", "isStream", "(I)Z"⟩ ⟨"HungStreamsModel", "isStream", "(I)Z"⟩ ∈ qm_ws := qm_memS (i := 7) rfl
theorem qs_8 : Cond.selects "HungStreamsModel" ⟨"HungStreamsModel", "its", "(II)J"⟩ ⟨"HungStreamsModel", "its", "(II)J"⟩ ∈ qm_ws := qm_memS (i := 8) rfl
theorem qs_9 : Cond.selects "HungStreamsModel" ⟨"HungStreamsModel", "refuses", "(I)I"⟩ ⟨"HungStreamsModel", "refuses", "(I)I"⟩ ∈ qm_ws := qm_memS (i := 9) rfl
theorem qs_10 : Cond.selects "HungStreamsModel" ⟨"HungStreamsModel", "keep", "()V"⟩ ⟨"HungStreamsModel", "keep", "()V"⟩ ∈ qm_ws := qm_memS (i := 10) rfl
theorem qs_11 : Cond.selects "HungStreamsModel" ⟨"HungStreamsModel", "begins", "(II)V"⟩ ⟨"HungStreamsModel", "begins", "(II)V"⟩ ∈ qm_ws := qm_memS (i := 11) rfl
theorem qs_12 : Cond.selects "HungStreamsModel" ⟨"HungStreamsModel", "puts", "(IIJ)V"⟩ ⟨"HungStreamsModel", "puts", "(IIJ)V"⟩ ∈ qm_ws := qm_memS (i := 12) rfl
theorem qs_13 : Cond.selects "HungStreamsModel" ⟨"HungStreamsModel", "comesTo", "(IIZ)V"⟩ ⟨"HungStreamsModel", "comesTo", "(IIZ)V"⟩ ∈ qm_ws := qm_memS (i := 13) rfl
theorem qs_14 : Cond.selects "HungStreamsModel" ⟨"HungStreamsModel", "isChild", "(II)Z"⟩ ⟨"HungStreamsModel", "isChild", "(II)Z"⟩ ∈ qm_ws := qm_memS (i := 14) rfl
theorem qs_15 : Cond.selects "HungStreamsModel" ⟨"HungStreamsModel", "parent", "(I)I"⟩ ⟨"HungStreamsModel", "parent", "(I)I"⟩ ∈ qm_ws := qm_memS (i := 15) rfl
theorem qs_16 : Cond.selects "HungStreamsModel" ⟨"HungStreamsModel", "hangs", "(II)V"⟩ ⟨"HungStreamsModel", "hangs", "(II)V"⟩ ∈ qm_ws := qm_memS (i := 16) rfl
theorem qs_17 : Cond.selects "HungStreamsModel" ⟨"HungStreamsModel", "children", "(I)I"⟩ ⟨"HungStreamsModel", "children", "(I)I"⟩ ∈ qm_ws := qm_memS (i := 17) rfl
theorem qs_18 : Cond.selects "HungStreamsModel" ⟨"HungStreamsModel", "isBelow", "(II)Z"⟩ ⟨"HungStreamsModel", "isBelow", "(II)Z"⟩ ∈ qm_ws := qm_memS (i := 18) rfl
theorem qs_19 : Cond.selects "HungStreamsModel" ⟨"HungStreamsModel", "goesAll", "()V"⟩ ⟨"HungStreamsModel", "goesAll", "()V"⟩ ∈ qm_ws := qm_memS (i := 19) rfl
theorem qs_20 : Cond.selects "HungStreamsModel" ⟨"HungStreamsModel", "goes", "(I)V"⟩ ⟨"HungStreamsModel", "goes", "(I)V"⟩ ∈ qm_ws := qm_memS (i := 20) rfl
theorem qs_21 : Cond.selects "HungStreamsModel" ⟨"HungStreamsModel", "there", "()I"⟩ ⟨"HungStreamsModel", "there", "()I"⟩ ∈ qm_ws := qm_memS (i := 21) rfl
theorem qs_22 : Cond.selects "HungStreamsModel" ⟨"HungStreamsModel", "ofNow", "(II)I"⟩ ⟨"HungStreamsModel", "ofNow", "(II)I"⟩ ∈ qm_ws := qm_memS (i := 22) rfl
theorem qs_23 : Cond.selects "HungStreamsModel" ⟨"HungStreamsModel", "below", "(I)I"⟩ ⟨"HungStreamsModel", "below", "(I)I"⟩ ∈ qm_ws := qm_memS (i := 23) rfl
theorem qs_24 : Cond.selects "HungStreamsModel" ⟨"HungStreamsModel", "can", "(I)Z"⟩ ⟨"HungStreamsModel", "can", "(I)Z"⟩ ∈ qm_ws := qm_memS (i := 24) rfl
theorem qs_25 : Cond.selects "HungStreamsModel" ⟨"HungStreamsModel", "isLive", "(I)Z"⟩ ⟨"HungStreamsModel", "isLive", "(I)Z"⟩ ∈ qm_ws := qm_memS (i := 25) rfl
theorem qs_26 : Cond.selects "HungStreamsModel" ⟨"HungStreamsModel", "nextNow", "()I"⟩ ⟨"HungStreamsModel", "nextNow", "()I"⟩ ∈ qm_ws := qm_memS (i := 26) rfl
theorem qs_27 : Cond.selects "HungStreamsModel" ⟨"HungStreamsModel", "byTree", "()I"⟩ ⟨"HungStreamsModel", "byTree", "()I"⟩ ∈ qm_ws := qm_memS (i := 27) rfl
theorem qs_28 : Cond.selects "HungStreamsModel" ⟨"HungStreamsModel", "liveSet", "()I"⟩ ⟨"HungStreamsModel", "liveSet", "()I"⟩ ∈ qm_ws := qm_memS (i := 28) rfl
theorem qs_29 : Cond.selects "HungStreamsModel" ⟨"HungStreamsModel", "first", "(II)I"⟩ ⟨"HungStreamsModel", "first", "(II)I"⟩ ∈ qm_ws := qm_memS (i := 29) rfl
theorem qs_30 : Cond.selects "HungStreamsModel" ⟨"HungStreamsModel", "turnThen", "(II)J"⟩ ⟨"HungStreamsModel", "turnThen", "(II)J"⟩ ∈ qm_ws := qm_memS (i := 30) rfl
theorem qs_31 : Cond.selects "HungStreamsModel" ⟨"HungStreamsModel", "byUrgency", "()I"⟩ ⟨"HungStreamsModel", "byUrgency", "()I"⟩ ∈ qm_ws := qm_memS (i := 31) rfl
theorem qs_32 : Cond.selects "HungStreamsModel" ⟨"HungStreamsModel", "isAhead", "(II)Z"⟩ ⟨"HungStreamsModel", "isAhead", "(II)Z"⟩ ∈ qm_ws := qm_memS (i := 32) rfl
theorem qs_33 : Cond.selects "HungStreamsModel" ⟨"HungStreamsModel", "isSent", "()Z"⟩ ⟨"HungStreamsModel", "isSent", "()Z"⟩ ∈ qm_ws := qm_memS (i := 33) rfl
theorem qs_34 : Cond.selects "HungStreamsModel" ⟨"HungStreamsModel", "looks", "()V"⟩ ⟨"HungStreamsModel", "looks", "()V"⟩ ∈ qm_ws := qm_memS (i := 34) rfl
theorem qs_35 : Cond.selects "HungStreamsModel" ⟨"HungStreamsModel", "canSet", "()I"⟩ ⟨"HungStreamsModel", "canSet", "()I"⟩ ∈ qm_ws := qm_memS (i := 35) rfl
theorem qs_36 : Cond.selects "HungStreamsModel" ⟨"HungStreamsModel", "bytesOf", "(I)J"⟩ ⟨"HungStreamsModel", "bytesOf", "(I)J"⟩ ∈ qm_ws := qm_memS (i := 36) rfl
theorem qs_37 : Cond.selects "HungStreamsModel" ⟨"HungStreamsModel", "turns", "(IJ)V"⟩ ⟨"HungStreamsModel", "turns", "(IJ)V"⟩ ∈ qm_ws := qm_memS (i := 37) rfl
theorem qs_38 : Cond.selects "HungStreamsModel" ⟨"HungStreamsModel", "shares", "(I)V"⟩ ⟨"HungStreamsModel", "shares", "(I)V"⟩ ∈ qm_ws := qm_memS (i := 38) rfl
theorem qs_39 : Cond.selects "HungStreamsModel" ⟨"HungStreamsModel", "allNow", "(I)I"⟩ ⟨"HungStreamsModel", "allNow", "(I)I"⟩ ∈ qm_ws := qm_memS (i := 39) rfl
theorem qs_40 : Cond.selects "HungStreamsModel" ⟨"HungStreamsModel", "isRead", "()Z"⟩ ⟨"HungStreamsModel", "isRead", "()Z"⟩ ∈ qm_ws := qm_memS (i := 40) rfl
theorem qs_41 : Cond.selects "HungStreamsModel" ⟨"HungStreamsModel", "here", "()I"⟩ ⟨"HungStreamsModel", "here", "()I"⟩ ∈ qm_ws := qm_memS (i := 41) rfl
theorem qs_42 : Cond.selects "HungStreamsModel" ⟨"HungStreamsModel", "standsIn", "(I)I"⟩ ⟨"HungStreamsModel", "standsIn", "(I)I"⟩ ∈ qm_ws := qm_memS (i := 42) rfl
theorem qs_43 : Cond.selects "HungStreamsModel" ⟨"HungStreamsModel", "takesStream", "(I)Z"⟩ ⟨"HungStreamsModel", "takesStream", "(I)Z"⟩ ∈ qm_ws := qm_memS (i := 43) rfl
theorem qs_44 : Cond.selects "HungStreamsModel" ⟨"HungStreamsModel", "takes", "(I)Z"⟩ ⟨"HungStreamsModel", "takes", "(I)Z"⟩ ∈ qm_ws := qm_memS (i := 44) rfl
theorem qs_45 : Cond.selects "HungStreamsModel" ⟨"HungStreamsModel", "isFigure", "(I)Z"⟩ ⟨"HungStreamsModel", "isFigure", "(I)Z"⟩ ∈ qm_ws := qm_memS (i := 45) rfl
theorem qs_46 : Cond.selects "HungStreamsModel" ⟨"HungStreamsModel", "showsAll", "()V"⟩ ⟨"HungStreamsModel", "showsAll", "()V"⟩ ∈ qm_ws := qm_memS (i := 46) rfl
theorem qs_47 : Cond.selects "HungStreamsModel" ⟨"HungStreamsModel", "nextChild", "(II)I"⟩ ⟨"HungStreamsModel", "nextChild", "(II)I"⟩ ∈ qm_ws := qm_memS (i := 47) rfl
theorem qs_48 : Cond.selects "HungStreamsModel" ⟨"HungStreamsModel", "showsNumber", "(I)V"⟩ ⟨"HungStreamsModel", "showsNumber", "(I)V"⟩ ∈ qm_ws := qm_memS (i := 48) rfl
theorem qs_49 : Cond.selects "HungStreamsModel" ⟨"HungStreamsModel", "shows", "(I)V"⟩ ⟨"HungStreamsModel", "shows", "(I)V"⟩ ∈ qm_ws := qm_memS (i := 49) rfl
theorem qs_50 : Cond.selects "HungStreamsModel" ⟨"HungStreamsModel", "toldOf", "(I)I"⟩ ⟨"HungStreamsModel", "toldOf", "(I)I"⟩ ∈ qm_ws := qm_memS (i := 50) rfl
end
section
-- what a state knows of classes, nest calls and static arrays; the judgement; contracts
def qm_sn (i : Nat) : String := (["LEAST_SET", "MOST_SET", "LEAST_SETTING", "MOST_SETTING"] : List String).getD i ""
def qm_sv (i j : Nat) : Int32 := (([[1, 0, 0], [16, 7, 1], [0, 1, 0, 0], [99999, 999, 50, 1]] : List (List Int32)).getD i []).getD j 0
def qm_sz (i : Nat) : Nat := ([3, 3, 4, 4] : List Nat).getD i 0
abbrev qm_tys (E : qm_E) : List (ClassId × FieldType) := [(E.2.1 0, .int), (E.2.1 1, .long), (E.2.1 2, .object RX2), (E.2.1 3, .object RX3)]
def qm_nest : List (String × Nat × MethodName × String) := [("HungStreams$Tree", 17, ⟨"HungStreams$Stream", "<init>", "()V"⟩, "HungStreams"), ("HungStreams$Tree", 50, ⟨"HungStreams", "within", "(III)Z"⟩, "HungStreams"), ("HungStreams$Tree", 54, ⟨"HungStreams", "has", "(II)Z"⟩, "HungStreams"), ("HungStreams$Tree", 128, ⟨"HungStreams", "cut", "(JJ)J"⟩, "HungStreams"), ("HungStreams$Frames", 43, ⟨"HungStreams", "has", "(II)Z"⟩, "HungStreams"), ("HungStreams$Frames", 139, ⟨"HungStreams", "cut", "(JJ)J"⟩, "HungStreams"), ("HungStreams$Shares", 22, ⟨"HungStreams", "has", "(II)Z"⟩, "HungStreams"), ("HungStreams$Shares", 49, ⟨"HungStreams", "cut", "(JJ)J"⟩, "HungStreams"), ("HungStreams$TypedText", 69, ⟨"HungStreams", "within", "(III)Z"⟩, "HungStreams"), ("HungStreams$TypedText", 58, ⟨"HungStreams", "has", "(II)Z"⟩, "HungStreams")]
def qm_nw (q : String × Nat × MethodName × String) : Cond := .methodLinkNest q.1 q.2.1 q.2.2.1 q.2.2.2
def qm_K (E : qm_E) (U : State) : Prop := va_K E.1 vwCl (qm_tys E) U ∧ ∀ q ∈ qm_nest, va_Nw (qm_nw q) U
def qm_Z (E : qm_E) (U : State) (H : Heap) : Prop := ∀ i, i < 4 → va_Z "HungStreams" (qm_sn i) "[I" (.ref (E.2.2.2 i)) (qm_A E) U H ∧ va_X (E.2.2.2 i) (qm_sz i) (qm_sv i) U H ∧ E.2.2.2 i < E.2.2.1
def qm_W (E : qm_E) (σ : qm_M) (U : State) : Prop := qm_H E σ U.heap ∧ qm_K E U ∧ qm_Z E U U.heap
theorem qm_K.warm {E : qm_E} {s U : State} (h : qm_K E s) (hW : s.WarmedH U.vm) : qm_K E U := ⟨va_K.moved hW.alike h.1, fun q hq => va_Nw.warmM hW (h.2 q hq)⟩
theorem qm_K.call {E : qm_E} {U : State} (h : qm_K E U) (g : JFrame) (mk : MethodId) (a : Array Value) : qm_K E (U.calling g mk a) := ⟨va_K.moved (u := U) (U := U.calling g mk a) (Vm.Alike.refl U.vm) h.1, fun q hq => va_Nw.same (u := U) (U := U.calling g mk a) rfl rfl (h.2 q hq)⟩
theorem qm_X.moved {b L : Nat} {xs : Nat → Int32} {u U : State} {H : Heap} (hvm : u.vm.Alike U.vm) (h : va_X b L xs u H) : va_X b L xs U H := by
  obtain ⟨scr, h1, h2, h3⟩ := h
  exact ⟨scr, h1, State.isArrayOf_alike hvm h2, h3⟩
theorem qm_X.kept {b L : Nat} {xs : Nat → Int32} {U : State} {H H1 : Heap} (h : va_X b L xs U H) (hb : H1[b]? = H[b]?) : va_X b L xs U H1 := by
  obtain ⟨scr, h1, h2⟩ := h
  exact ⟨scr, by rw [hb]; exact h1, h2⟩
theorem qm_X.lt {b L : Nat} {xs : Nat → Int32} {U : State} {H : Heap} (h : va_X b L xs U H) : b < H.size := by
  obtain ⟨scr, h1, -⟩ := h
  exact (Array.getElem?_eq_some_iff.mp h1).1
theorem qm_Z.moved {E : qm_E} {u U : State} {H : Heap} (hvm : u.vm.Alike U.vm) (h : qm_Z E u H) : qm_Z E U H := fun i hi => ⟨va_Z.moved hvm (h i hi).1, qm_X.moved hvm (h i hi).2.1, (h i hi).2.2⟩
theorem qm_Z.kept {E : qm_E} {U : State} {H H1 : Heap} (h : qm_Z E U H) (hq : ∀ a : Nat, a < H.size → ¬ qm_A E a → H1[a]? = H[a]?) : qm_Z E U H1 := fun i hi => ⟨va_Z.kept (h i hi).1 hq, qm_X.kept (h i hi).2.1 (hq _ (qm_X.lt (h i hi).2.1) (Nat.not_le.mpr (h i hi).2.2)), (h i hi).2.2⟩
/-- what holds throughout a method's body -/
def qm_Cx (E : qm_E) (R : Room) (d : Nat) (own : String) (cc : ByteArray) (nL : Nat) (p : Program) (s : State) (m : MethodId) (args : Array Value) (c : Code) (cells slots : Nat) : Prop :=
  p.tables.exec = Jvm.exec ∧ c.code = cc ∧ c.maxLocals = nL ∧ s.vm.findClass own = some m.cls ∧ (∀ w ∈ qm_ws, w.before args s = true) ∧ qm_K E s ∧ qm_Z E s s.heap ∧ (d ≤ R.frames ∧ 40 * d ≤ R.locals) ∧ (cells ≤ R.cells ∧ slots ≤ R.slots)
def qm_rd (cc : ByteArray) (pc : Nat) (v : Option Value) : Prop := match v with
  | none => decode cc pc = .ok (.return_, 1)
  | some (.int _) => decode cc pc = .ok (.ireturn, 1)
  | some (.long _) => decode cc pc = .ok (.lreturn, 1)
  | _ => False
/-- from pc, with these locals, this stack and this memory, the method comes to a return with r.1, memory r.2 -/
def qm_Wp (l : Launch) (E : qm_E) (d : Nat) (own : String) (cc : ByteArray) (nL : Nat) (pc : Nat) (lv : List (Nat × Value)) (st : List Value) (σ : qm_M) (r : Option Value × qm_M) : Prop :=
  ∀ (p : Program) (e : Env) (R : Room) (s : State) (m : MethodId) (args : Array Value) (below : List Frame) (meth : Method) (c : Code) (cells slots : Nat) (Q : State → Prop), qm_Cx E R d own cc nL p s m args c cells slots →
    (∀ (H : Heap) (locs : List Loc) (ls : Array Slot) (pc' : Nat), qm_H E r.2 H → va_S (qm_A E) s.heap H locs → qm_rd cc pc' r.1 → W p l e R s m args below meth c H locs cells slots Q (F0 m pc' ls r.1.toList)) →
    ∀ (H : Heap) (locs : List Loc) (ls : Array Slot), qm_H E σ H → va_S (qm_A E) s.heap H locs → lv_has ls nL lv → W p l e R s m args below meth c H locs cells slots Q (F0 m pc ls st)
def qm_rm (d : Nat) : Room := { frames := d, cells := 0, slots := 0, locals := 40 * d }
def qm_Q (E : qm_E) (r : Option Value × qm_M) : Array Value → State → Outcome → State → Prop := fun _ st o t => o = .returned r.1 ∧ qm_W E r.2 t ∧ va_F (qm_A E) st t
/-- a method's contract: with these arguments and this memory it answers r.1 and leaves memory r.2 -/
def qm_Ct (l : Launch) (E : qm_E) (d : Nat) (y : MethodName) (cc : ByteArray) (nL : Nat) (ret : Option FieldType) (As : List Value) (σ : qm_M) (r : Option Value × qm_M) : Prop :=
  Met l y (.code y cc nL ret :: qm_ws) (qm_rm d) (va_Pc As (qm_W E σ)) (qm_Q E r) 0 0 (qm_A E)
def qm_rt (ret : Option FieldType) (v : Option Value) : Prop := match v with
  | none => ret = none
  | some (.int x) => ret = some .int ∨ (ret = some .boolean ∧ (x = 0 ∨ x = 1))
  | some (.long _) => ret = some .long
  | _ => False
theorem qm_ofWp {l : Launch} {E : qm_E} {d : Nat} {y : MethodName} {cc : ByteArray} {nL : Nat} {ret : Option FieldType} {As : List Value} {σ : qm_M} {r : Option Value × qm_M} (hy : plainName y.cls = true) (hA : (lg_sl As).length ≤ nL) (hrt : qm_rt ret r.1)
    (k : qm_Wp l E d y.cls cc nL 0 (lv_args 0 As) [] σ r) : qm_Ct l E d y cc nL ret As σ r := by
  refine Met.ofW (cc := cc) (maxL := nL) (ret := ret) hy rfl ?_
  intro p e s m args below meth c s₁ B hml hv
  obtain ⟨rfl, hH, hK, hZ⟩ := hv
  have hts0 := atoms_spec (ws := Cond.code y cc nL ret :: qm_ws) B.pre
  have hown : s.vm.findClass y.cls = some m.cls := findClass_of_methodNamed B.named
  have hl := lv_entry As (n := nL) hA
  rw [lg_entry_eq]
  have hr := B.returns
  have hlk : meth.locks = false := B.notSynchronized
  refine k p e (qm_rm d) s m As.toArray below meth c 0 0 _ ⟨B.exec, B.bytes, hml, hown, fun w hw => hts0 w (List.mem_cons_of_mem _ hw), hK, hZ, ⟨Nat.le_refl _, Nat.le_refl _⟩, ⟨Nat.le_refl _, Nat.le_refl _⟩⟩ ?_ s.heap [] _ hH va_S.rf hl
  intro H locs ls pc' hH' hS hd
  have hq : ∀ t : State, t.heap = H → s.WarmedH t.vm → qm_Q E r As.toArray s (.returned r.1) t := by
    intro t ht hW
    refine ⟨rfl, ⟨by rw [ht]; exact hH', hK.warm hW, ?_⟩, hS.F ht⟩
    rw [ht]
    exact (hZ.moved hW.alike).kept hS.2.1
  obtain ⟨v, τ⟩ := r
  cases v with
  | none => exact W.vret B.exec B.bytes (hr.trans hrt) hq hS.2.2 hd hlk
  | some w =>
    cases w with
    | int x =>
      rcases hrt with h | ⟨h, h2⟩
      · exact W.iret B.exec B.bytes (hr.trans h) hq hS.2.2 hd hlk
      · exact W.zret B.exec B.bytes (hr.trans h) (by rcases h2 with rfl | rfl <;> rfl) hq hS.2.2 hd hlk
    | long x => exact W.lret B.exec B.bytes (hr.trans hrt) hq hS.2.2 hd hlk
    | _ => exact hrt.elim
end
section
section QMR
variable {l : Launch} {E : qm_E} {d : Nat} {own : String} {cc : ByteArray} {nL : Nat} {pc : Nat} {lv : List (Nat × Value)} {st : List Value} {σ : qm_M} {r : Option Value × qm_M}
theorem qr_iadd {x y : Int32} (hd : decode cc pc = .ok (.iadd, 1))  (k : qm_Wp l E d own cc nL (pc + 1) lv (.int (x + y) :: st) σ r) : qm_Wp l E d own cc nL (pc) lv (.int y :: .int x :: st) σ r := fun p e R s m args below meth c cells slots Q C F H locs ls hH hS hl => lv_iadd C.1 C.2.1 hd (k p e R s m args below meth c cells slots Q C F H locs ls hH hS hl)
theorem qr_isub {x y : Int32} (hd : decode cc pc = .ok (.isub, 1))  (k : qm_Wp l E d own cc nL (pc + 1) lv (.int (x - y) :: st) σ r) : qm_Wp l E d own cc nL (pc) lv (.int y :: .int x :: st) σ r := fun p e R s m args below meth c cells slots Q C F H locs ls hH hS hl => lv_isub C.1 C.2.1 hd (k p e R s m args below meth c cells slots Q C F H locs ls hH hS hl)
theorem qr_imul {x y : Int32} (hd : decode cc pc = .ok (.imul, 1))  (k : qm_Wp l E d own cc nL (pc + 1) lv (.int (x * y) :: st) σ r) : qm_Wp l E d own cc nL (pc) lv (.int y :: .int x :: st) σ r := fun p e R s m args below meth c cells slots Q C F H locs ls hH hS hl => lv_imul C.1 C.2.1 hd (k p e R s m args below meth c cells slots Q C F H locs ls hH hS hl)
theorem qr_iand {x y : Int32} (hd : decode cc pc = .ok (.iand, 1))  (k : qm_Wp l E d own cc nL (pc + 1) lv (.int (x &&& y) :: st) σ r) : qm_Wp l E d own cc nL (pc) lv (.int y :: .int x :: st) σ r := fun p e R s m args below meth c cells slots Q C F H locs ls hH hS hl => lv_iand C.1 C.2.1 hd (k p e R s m args below meth c cells slots Q C F H locs ls hH hS hl)
theorem qr_ior {x y : Int32} (hd : decode cc pc = .ok (.ior, 1))  (k : qm_Wp l E d own cc nL (pc + 1) lv (.int (x ||| y) :: st) σ r) : qm_Wp l E d own cc nL (pc) lv (.int y :: .int x :: st) σ r := fun p e R s m args below meth c cells slots Q C F H locs ls hH hS hl => lv_ior C.1 C.2.1 hd (k p e R s m args below meth c cells slots Q C F H locs ls hH hS hl)
theorem qr_ixor {x y : Int32} (hd : decode cc pc = .ok (.ixor, 1))  (k : qm_Wp l E d own cc nL (pc + 1) lv (.int (x ^^^ y) :: st) σ r) : qm_Wp l E d own cc nL (pc) lv (.int y :: .int x :: st) σ r := fun p e R s m args below meth c cells slots Q C F H locs ls hH hS hl => lv_ixor C.1 C.2.1 hd (k p e R s m args below meth c cells slots Q C F H locs ls hH hS hl)
theorem qr_ishl {x y : Int32} (hd : decode cc pc = .ok (.ishl, 1))  (k : qm_Wp l E d own cc nL (pc + 1) lv (.int (x <<< (y &&& 31)) :: st) σ r) : qm_Wp l E d own cc nL (pc) lv (.int y :: .int x :: st) σ r := fun p e R s m args below meth c cells slots Q C F H locs ls hH hS hl => lv_ishl C.1 C.2.1 hd (k p e R s m args below meth c cells slots Q C F H locs ls hH hS hl)
theorem qr_ishr {x y : Int32} (hd : decode cc pc = .ok (.ishr, 1))  (k : qm_Wp l E d own cc nL (pc + 1) lv (.int (x >>> (y &&& 31)) :: st) σ r) : qm_Wp l E d own cc nL (pc) lv (.int y :: .int x :: st) σ r := fun p e R s m args below meth c cells slots Q C F H locs ls hH hS hl => lv_ishr C.1 C.2.1 hd (k p e R s m args below meth c cells slots Q C F H locs ls hH hS hl)
theorem qr_ladd {x y : Int64} (hd : decode cc pc = .ok (.ladd, 1))  (k : qm_Wp l E d own cc nL (pc + 1) lv (.long (x + y) :: st) σ r) : qm_Wp l E d own cc nL (pc) lv (.long y :: .long x :: st) σ r := fun p e R s m args below meth c cells slots Q C F H locs ls hH hS hl => lv_ladd C.1 C.2.1 hd (k p e R s m args below meth c cells slots Q C F H locs ls hH hS hl)
theorem qr_lsub {x y : Int64} (hd : decode cc pc = .ok (.lsub, 1))  (k : qm_Wp l E d own cc nL (pc + 1) lv (.long (x - y) :: st) σ r) : qm_Wp l E d own cc nL (pc) lv (.long y :: .long x :: st) σ r := fun p e R s m args below meth c cells slots Q C F H locs ls hH hS hl => lv_lsub C.1 C.2.1 hd (k p e R s m args below meth c cells slots Q C F H locs ls hH hS hl)
theorem qr_lmul {x y : Int64} (hd : decode cc pc = .ok (.lmul, 1))  (k : qm_Wp l E d own cc nL (pc + 1) lv (.long (x * y) :: st) σ r) : qm_Wp l E d own cc nL (pc) lv (.long y :: .long x :: st) σ r := fun p e R s m args below meth c cells slots Q C F H locs ls hH hS hl => lv_lmul C.1 C.2.1 hd (k p e R s m args below meth c cells slots Q C F H locs ls hH hS hl)
theorem qr_iushr {x y : Int32} (hd : decode cc pc = .ok (.iushr, 1))  (k : qm_Wp l E d own cc nL (pc + 1) lv (.int ((x.toUInt32 >>> (y.toUInt32 &&& Int32.toUInt32 31)).toInt32) :: st) σ r) : qm_Wp l E d own cc nL (pc) lv (.int y :: .int x :: st) σ r := fun p e R s m args below meth c cells slots Q C F H locs ls hH hS hl => lv_iushr C.1 C.2.1 hd rfl (k p e R s m args below meth c cells slots Q C F H locs ls hH hS hl)
theorem qr_idiv {x y : Int32} (hd : decode cc pc = .ok (.idiv, 1)) (h0 : ¬ y = 0) (k : qm_Wp l E d own cc nL (pc + 1) lv (.int (x / y) :: st) σ r) : qm_Wp l E d own cc nL (pc) lv (.int y :: .int x :: st) σ r := fun p e R s m args below meth c cells slots Q C F H locs ls hH hS hl => lv_idiv C.1 C.2.1 hd h0 (k p e R s m args below meth c cells slots Q C F H locs ls hH hS hl)
theorem qr_irem {x y : Int32} (hd : decode cc pc = .ok (.irem, 1)) (h0 : ¬ y = 0) (k : qm_Wp l E d own cc nL (pc + 1) lv (.int (x - x / y * y) :: st) σ r) : qm_Wp l E d own cc nL (pc) lv (.int y :: .int x :: st) σ r := fun p e R s m args below meth c cells slots Q C F H locs ls hH hS hl => lv_irem C.1 C.2.1 hd h0 (k p e R s m args below meth c cells slots Q C F H locs ls hH hS hl)
theorem qr_ldiv {x y : Int64} (hd : decode cc pc = .ok (.ldiv, 1)) (h0 : ¬ y = 0) (k : qm_Wp l E d own cc nL (pc + 1) lv (.long (x / y) :: st) σ r) : qm_Wp l E d own cc nL (pc) lv (.long y :: .long x :: st) σ r := fun p e R s m args below meth c cells slots Q C F H locs ls hH hS hl => lv_ldiv C.1 C.2.1 hd h0 (k p e R s m args below meth c cells slots Q C F H locs ls hH hS hl)
theorem qr_lrem {x y : Int64} (hd : decode cc pc = .ok (.lrem, 1)) (h0 : ¬ y = 0) (k : qm_Wp l E d own cc nL (pc + 1) lv (.long (x - x / y * y) :: st) σ r) : qm_Wp l E d own cc nL (pc) lv (.long y :: .long x :: st) σ r := fun p e R s m args below meth c cells slots Q C F H locs ls hH hS hl => lv_lrem C.1 C.2.1 hd h0 (k p e R s m args below meth c cells slots Q C F H locs ls hH hS hl)
theorem qr_i2l {x : Int32} (hd : decode cc pc = .ok (.i2l, 1))  (k : qm_Wp l E d own cc nL (pc + 1) lv (.long x.toInt64 :: st) σ r) : qm_Wp l E d own cc nL (pc) lv (.int x :: st) σ r := fun p e R s m args below meth c cells slots Q C F H locs ls hH hS hl => lv_i2l C.1 C.2.1 hd rfl (k p e R s m args below meth c cells slots Q C F H locs ls hH hS hl)
theorem qr_l2i {x : Int64} (hd : decode cc pc = .ok (.l2i, 1))  (k : qm_Wp l E d own cc nL (pc + 1) lv (.int x.toInt32 :: st) σ r) : qm_Wp l E d own cc nL (pc) lv (.long x :: st) σ r := fun p e R s m args below meth c cells slots Q C F H locs ls hH hS hl => lv_l2i C.1 C.2.1 hd rfl (k p e R s m args below meth c cells slots Q C F H locs ls hH hS hl)
theorem qr_lcmp {x y : Int64} (hd : decode cc pc = .ok (.lcmp, 1))  (k : qm_Wp l E d own cc nL (pc + 1) lv (.int (lg_cmp x y) :: st) σ r) : qm_Wp l E d own cc nL (pc) lv (.long y :: .long x :: st) σ r := fun p e R s m args below meth c cells slots Q C F H locs ls hH hS hl => W.lcmp C.1 C.2.1 hd (k p e R s m args below meth c cells slots Q C F H locs ls hH hS hl)
theorem qr_iconst {n : Int} {v : Int32} (hd : decode cc pc = .ok (.iconst n, 1)) (hv : Int32.ofInt n = v) (k : qm_Wp l E d own cc nL (pc + 1) lv (.int v :: st) σ r) : qm_Wp l E d own cc nL (pc) lv (st) σ r := fun p e R s m args below meth c cells slots Q C F H locs ls hH hS hl => lv_iconst C.1 C.2.1 hd hv (k p e R s m args below meth c cells slots Q C F H locs ls hH hS hl)
theorem qr_bipush {n : Int} {v : Int32} (hd : decode cc pc = .ok (.bipush n, 2)) (hv : (Int8.ofInt n).toInt32 = v) (k : qm_Wp l E d own cc nL (pc + 2) lv (.int v :: st) σ r) : qm_Wp l E d own cc nL (pc) lv (st) σ r := fun p e R s m args below meth c cells slots Q C F H locs ls hH hS hl => lv_bipush C.1 C.2.1 hd hv (k p e R s m args below meth c cells slots Q C F H locs ls hH hS hl)
theorem qr_sipush {n : Int} {v : Int32} (hd : decode cc pc = .ok (.sipush n, 3)) (hv : (Int16.ofInt n).toInt32 = v) (k : qm_Wp l E d own cc nL (pc + 3) lv (.int v :: st) σ r) : qm_Wp l E d own cc nL (pc) lv (st) σ r := fun p e R s m args below meth c cells slots Q C F H locs ls hH hS hl => lv_sipush C.1 C.2.1 hd hv (k p e R s m args below meth c cells slots Q C F H locs ls hH hS hl)
theorem qr_lconst {n : Fin 2} {v : Int64} (hd : decode cc pc = .ok (.lconst n, 1)) (hv : Int64.ofNat (n : Nat) = v) (k : qm_Wp l E d own cc nL (pc + 1) lv (.long v :: st) σ r) : qm_Wp l E d own cc nL (pc) lv (st) σ r := fun p e R s m args below meth c cells slots Q C F H locs ls hH hS hl => lv_lconst C.1 C.2.1 hd hv (k p e R s m args below meth c cells slots Q C F H locs ls hH hS hl)
theorem qr_dup {a : Value} (hd : decode cc pc = .ok (.dup, 1)) (hc : a.category = 1) (k : qm_Wp l E d own cc nL (pc + 1) lv (a :: a :: st) σ r) : qm_Wp l E d own cc nL (pc) lv (a :: st) σ r := fun p e R s m args below meth c cells slots Q C F H locs ls hH hS hl => lv_dup C.1 C.2.1 hd hc (k p e R s m args below meth c cells slots Q C F H locs ls hH hS hl)
theorem qr_pop {a : Value} (hd : decode cc pc = .ok (.pop, 1)) (hc : a.category = 1) (k : qm_Wp l E d own cc nL (pc + 1) lv (st) σ r) : qm_Wp l E d own cc nL (pc) lv (a :: st) σ r := fun p e R s m args below meth c cells slots Q C F H locs ls hH hS hl => lv_pop C.1 C.2.1 hd hc (k p e R s m args below meth c cells slots Q C F H locs ls hH hS hl)
theorem qr_dup2 {a b : Value} (hd : decode cc pc = .ok (.dup2, 1)) (ha : a.category = 1) (hb : b.category = 1) (k : qm_Wp l E d own cc nL (pc + 1) lv (a :: b :: a :: b :: st) σ r) : qm_Wp l E d own cc nL (pc) lv (a :: b :: st) σ r := fun p e R s m args below meth c cells slots Q C F H locs ls hH hS hl => lv_dup2_11 C.1 C.2.1 hd ha hb (k p e R s m args below meth c cells slots Q C F H locs ls hH hS hl)
theorem qr_dup2l {a : Value} (hd : decode cc pc = .ok (.dup2, 1)) (ha : a.category = 2) (k : qm_Wp l E d own cc nL (pc + 1) lv (a :: a :: st) σ r) : qm_Wp l E d own cc nL (pc) lv (a :: st) σ r := fun p e R s m args below meth c cells slots Q C F H locs ls hH hS hl => lv_dup2_2 C.1 C.2.1 hd ha (k p e R s m args below meth c cells slots Q C F H locs ls hH hS hl)
theorem qr_dup_x1 {a b : Value} (hd : decode cc pc = .ok (.dup_x1, 1)) (ha : a.category = 1) (hb : b.category = 1) (k : qm_Wp l E d own cc nL (pc + 1) lv (a :: b :: a :: st) σ r) : qm_Wp l E d own cc nL (pc) lv (a :: b :: st) σ r := fun p e R s m args below meth c cells slots Q C F H locs ls hH hS hl => lv_dup_x1 C.1 C.2.1 hd ha hb (k p e R s m args below meth c cells slots Q C F H locs ls hH hS hl)
theorem qr_iload_n {j : Fin 4} {i : Nat} {x : Int32} (hd : decode cc pc = .ok (.iload_n j, 1)) (hi : (j : Nat) = i) (q : Nat) (hq : lv[q]? = some (i, .int x)) (k : qm_Wp l E d own cc nL (pc + 1) lv (.int x :: st) σ r) : qm_Wp l E d own cc nL (pc) lv (st) σ r := fun p e R s m args below meth c cells slots Q C F H locs ls hH hS hl => lv_iload_n C.1 C.2.1 hd hi (lv_at hl q hq) (k p e R s m args below meth c cells slots Q C F H locs ls hH hS hl)
theorem qr_iload {i : Nat} {x : Int32} (hd : decode cc pc = .ok (.iload i, 2)) (q : Nat) (hq : lv[q]? = some (i, .int x)) (k : qm_Wp l E d own cc nL (pc + 2) lv (.int x :: st) σ r) : qm_Wp l E d own cc nL (pc) lv (st) σ r := fun p e R s m args below meth c cells slots Q C F H locs ls hH hS hl => lv_iload C.1 C.2.1 hd (lv_at hl q hq) (k p e R s m args below meth c cells slots Q C F H locs ls hH hS hl)
theorem qr_istore_n {j : Fin 4} {i : Nat} {x : Int32} {lv' : List (Nat × Value)} (hd : decode cc pc = .ok (.istore_n j, 1)) (hi : (j : Nat) = i) (hn : i < nL) (hf : (i, Value.int x) :: lv.filter (fun q => !(q.1 == i) && !(q.1 + 1 == i && q.2.category == 2)) = lv') (k : qm_Wp l E d own cc nL (pc + 1) lv' (st) σ r) : qm_Wp l E d own cc nL (pc) lv (.int x :: st) σ r := fun p e R s m args below meth c cells slots Q C F H locs ls hH hS hl => lv_istore_n C.1 C.2.1 hd hi hl hn hf (fun ls1 hl1 => k p e R s m args below meth c cells slots Q C F H locs ls1 hH hS hl1)
theorem qr_istore {i : Nat} {x : Int32} {lv' : List (Nat × Value)} (hd : decode cc pc = .ok (.istore i, 2)) (hn : i < nL) (hf : (i, Value.int x) :: lv.filter (fun q => !(q.1 == i) && !(q.1 + 1 == i && q.2.category == 2)) = lv') (k : qm_Wp l E d own cc nL (pc + 2) lv' (st) σ r) : qm_Wp l E d own cc nL (pc) lv (.int x :: st) σ r := fun p e R s m args below meth c cells slots Q C F H locs ls hH hS hl => lv_istore C.1 C.2.1 hd hl hn hf (fun ls1 hl1 => k p e R s m args below meth c cells slots Q C F H locs ls1 hH hS hl1)
theorem qr_lload_n {j : Fin 4} {i : Nat} {x : Int64} (hd : decode cc pc = .ok (.lload_n j, 1)) (hi : (j : Nat) = i) (q : Nat) (hq : lv[q]? = some (i, .long x)) (k : qm_Wp l E d own cc nL (pc + 1) lv (.long x :: st) σ r) : qm_Wp l E d own cc nL (pc) lv (st) σ r := fun p e R s m args below meth c cells slots Q C F H locs ls hH hS hl => lv_lload_n C.1 C.2.1 hd hi (lv_at hl q hq) (k p e R s m args below meth c cells slots Q C F H locs ls hH hS hl)
theorem qr_lload {i : Nat} {x : Int64} (hd : decode cc pc = .ok (.lload i, 2)) (q : Nat) (hq : lv[q]? = some (i, .long x)) (k : qm_Wp l E d own cc nL (pc + 2) lv (.long x :: st) σ r) : qm_Wp l E d own cc nL (pc) lv (st) σ r := fun p e R s m args below meth c cells slots Q C F H locs ls hH hS hl => lv_lload C.1 C.2.1 hd (lv_at hl q hq) (k p e R s m args below meth c cells slots Q C F H locs ls hH hS hl)
theorem qr_lstore_n {j : Fin 4} {i : Nat} {x : Int64} {lv' : List (Nat × Value)} (hd : decode cc pc = .ok (.lstore_n j, 1)) (hi : (j : Nat) = i) (hn : i + 1 < nL) (hf : (i, Value.long x) :: lv.filter (fun q => !(q.1 == i) && (!(q.1 == i + 1) && !(q.1 + 1 == i && q.2.category == 2))) = lv') (k : qm_Wp l E d own cc nL (pc + 1) lv' (st) σ r) : qm_Wp l E d own cc nL (pc) lv (.long x :: st) σ r := fun p e R s m args below meth c cells slots Q C F H locs ls hH hS hl => lv_lstore_n C.1 C.2.1 hd hi hl hn hf (fun ls1 hl1 => k p e R s m args below meth c cells slots Q C F H locs ls1 hH hS hl1)
theorem qr_lstore {i : Nat} {x : Int64} {lv' : List (Nat × Value)} (hd : decode cc pc = .ok (.lstore i, 2)) (hn : i + 1 < nL) (hf : (i, Value.long x) :: lv.filter (fun q => !(q.1 == i) && (!(q.1 == i + 1) && !(q.1 + 1 == i && q.2.category == 2))) = lv') (k : qm_Wp l E d own cc nL (pc + 2) lv' (st) σ r) : qm_Wp l E d own cc nL (pc) lv (.long x :: st) σ r := fun p e R s m args below meth c cells slots Q C F H locs ls hH hS hl => lv_lstore C.1 C.2.1 hd hl hn hf (fun ls1 hl1 => k p e R s m args below meth c cells slots Q C F H locs ls1 hH hS hl1)
theorem qr_aload_n {j : Fin 4} {i : Nat} {x : Nat} (hd : decode cc pc = .ok (.aload_n j, 1)) (hi : (j : Nat) = i) (q : Nat) (hq : lv[q]? = some (i, .ref x)) (k : qm_Wp l E d own cc nL (pc + 1) lv (.ref x :: st) σ r) : qm_Wp l E d own cc nL (pc) lv (st) σ r := fun p e R s m args below meth c cells slots Q C F H locs ls hH hS hl => lv_aload_n C.1 C.2.1 hd hi (lv_at hl q hq) (k p e R s m args below meth c cells slots Q C F H locs ls hH hS hl)
theorem qr_aload {i : Nat} {x : Nat} (hd : decode cc pc = .ok (.aload i, 2)) (q : Nat) (hq : lv[q]? = some (i, .ref x)) (k : qm_Wp l E d own cc nL (pc + 2) lv (.ref x :: st) σ r) : qm_Wp l E d own cc nL (pc) lv (st) σ r := fun p e R s m args below meth c cells slots Q C F H locs ls hH hS hl => lv_aload C.1 C.2.1 hd (lv_at hl q hq) (k p e R s m args below meth c cells slots Q C F H locs ls hH hS hl)
theorem qr_astore_n {j : Fin 4} {i : Nat} {x : Nat} {lv' : List (Nat × Value)} (hd : decode cc pc = .ok (.astore_n j, 1)) (hi : (j : Nat) = i) (hn : i < nL) (hf : (i, Value.ref x) :: lv.filter (fun q => !(q.1 == i) && !(q.1 + 1 == i && q.2.category == 2)) = lv') (k : qm_Wp l E d own cc nL (pc + 1) lv' (st) σ r) : qm_Wp l E d own cc nL (pc) lv (.ref x :: st) σ r := fun p e R s m args below meth c cells slots Q C F H locs ls hH hS hl => lv_astore_n C.1 C.2.1 hd hi hl hn hf (fun ls1 hl1 => k p e R s m args below meth c cells slots Q C F H locs ls1 hH hS hl1)
theorem qr_astore {i : Nat} {x : Nat} {lv' : List (Nat × Value)} (hd : decode cc pc = .ok (.astore i, 2)) (hn : i < nL) (hf : (i, Value.ref x) :: lv.filter (fun q => !(q.1 == i) && !(q.1 + 1 == i && q.2.category == 2)) = lv') (k : qm_Wp l E d own cc nL (pc + 2) lv' (st) σ r) : qm_Wp l E d own cc nL (pc) lv (.ref x :: st) σ r := fun p e R s m args below meth c cells slots Q C F H locs ls hH hS hl => lv_astore C.1 C.2.1 hd hl hn hf (fun ls1 hl1 => k p e R s m args below meth c cells slots Q C F H locs ls1 hH hS hl1)
theorem qr_iinc {i q : Nat} {n : Int} {x v : Int32} {lv' : List (Nat × Value)} (hd : decode cc pc = .ok (.iinc i n, 3)) (hq : lv[q]? = some (i, .int x)) (hv : x + Int32.ofInt n = v) (hn : i < nL) (hf : (i, Value.int v) :: lv.filter (fun q => !(q.1 == i) && !(q.1 + 1 == i && q.2.category == 2)) = lv') (k : qm_Wp l E d own cc nL (pc + 3) lv' (st) σ r) : qm_Wp l E d own cc nL (pc) lv (st) σ r := fun p e R s m args below meth c cells slots Q C F H locs ls hH hS hl => lv_iinc C.1 C.2.1 hd hl hq hv hn hf (fun ls1 hl1 => k p e R s m args below meth c cells slots Q C F H locs ls1 hH hS hl1)
theorem qr_if_eq {x : Int32} {off : Int} {tgt : Nat} (hd : decode cc pc = .ok (.ifCond .eq off, 3)) (ht : (pc : Int) + off = (tgt : Int)) (kt : (x = 0) → qm_Wp l E d own cc nL (tgt) lv (st) σ r) (kf : ¬ (x = 0) → qm_Wp l E d own cc nL (pc + 3) lv (st) σ r) : qm_Wp l E d own cc nL (pc) lv (.int x :: st) σ r := fun p e R s m args below meth c cells slots Q C F H locs ls hH hS hl => lv_if_eq C.1 C.2.1 hd ht (fun h => kt h p e R s m args below meth c cells slots Q C F H locs ls hH hS hl) (fun h => kf h p e R s m args below meth c cells slots Q C F H locs ls hH hS hl)
theorem qr_icmp_eq {x y : Int32} {off : Int} {tgt : Nat} (hd : decode cc pc = .ok (.if_icmp .eq off, 3)) (ht : (pc : Int) + off = (tgt : Int)) (kt : (x = y) → qm_Wp l E d own cc nL (tgt) lv (st) σ r) (kf : ¬ (x = y) → qm_Wp l E d own cc nL (pc + 3) lv (st) σ r) : qm_Wp l E d own cc nL (pc) lv (.int y :: .int x :: st) σ r := fun p e R s m args below meth c cells slots Q C F H locs ls hH hS hl => lv_icmp_eq C.1 C.2.1 hd ht (fun h => kt h p e R s m args below meth c cells slots Q C F H locs ls hH hS hl) (fun h => kf h p e R s m args below meth c cells slots Q C F H locs ls hH hS hl)
theorem qr_if_ne {x : Int32} {off : Int} {tgt : Nat} (hd : decode cc pc = .ok (.ifCond .ne off, 3)) (ht : (pc : Int) + off = (tgt : Int)) (kt : (¬ x = 0) → qm_Wp l E d own cc nL (tgt) lv (st) σ r) (kf : (x = 0) → qm_Wp l E d own cc nL (pc + 3) lv (st) σ r) : qm_Wp l E d own cc nL (pc) lv (.int x :: st) σ r := fun p e R s m args below meth c cells slots Q C F H locs ls hH hS hl => lv_if_ne C.1 C.2.1 hd ht (fun h => kt h p e R s m args below meth c cells slots Q C F H locs ls hH hS hl) (fun h => kf h p e R s m args below meth c cells slots Q C F H locs ls hH hS hl)
theorem qr_icmp_ne {x y : Int32} {off : Int} {tgt : Nat} (hd : decode cc pc = .ok (.if_icmp .ne off, 3)) (ht : (pc : Int) + off = (tgt : Int)) (kt : (¬ x = y) → qm_Wp l E d own cc nL (tgt) lv (st) σ r) (kf : (x = y) → qm_Wp l E d own cc nL (pc + 3) lv (st) σ r) : qm_Wp l E d own cc nL (pc) lv (.int y :: .int x :: st) σ r := fun p e R s m args below meth c cells slots Q C F H locs ls hH hS hl => lv_icmp_ne C.1 C.2.1 hd ht (fun h => kt h p e R s m args below meth c cells slots Q C F H locs ls hH hS hl) (fun h => kf h p e R s m args below meth c cells slots Q C F H locs ls hH hS hl)
theorem qr_if_lt {x : Int32} {off : Int} {tgt : Nat} (hd : decode cc pc = .ok (.ifCond .lt off, 3)) (ht : (pc : Int) + off = (tgt : Int)) (kt : (x < 0) → qm_Wp l E d own cc nL (tgt) lv (st) σ r) (kf : ¬ (x < 0) → qm_Wp l E d own cc nL (pc + 3) lv (st) σ r) : qm_Wp l E d own cc nL (pc) lv (.int x :: st) σ r := fun p e R s m args below meth c cells slots Q C F H locs ls hH hS hl => lv_if_lt C.1 C.2.1 hd ht (fun h => kt h p e R s m args below meth c cells slots Q C F H locs ls hH hS hl) (fun h => kf h p e R s m args below meth c cells slots Q C F H locs ls hH hS hl)
theorem qr_icmp_lt {x y : Int32} {off : Int} {tgt : Nat} (hd : decode cc pc = .ok (.if_icmp .lt off, 3)) (ht : (pc : Int) + off = (tgt : Int)) (kt : (x < y) → qm_Wp l E d own cc nL (tgt) lv (st) σ r) (kf : ¬ (x < y) → qm_Wp l E d own cc nL (pc + 3) lv (st) σ r) : qm_Wp l E d own cc nL (pc) lv (.int y :: .int x :: st) σ r := fun p e R s m args below meth c cells slots Q C F H locs ls hH hS hl => lv_icmp_lt C.1 C.2.1 hd ht (fun h => kt h p e R s m args below meth c cells slots Q C F H locs ls hH hS hl) (fun h => kf h p e R s m args below meth c cells slots Q C F H locs ls hH hS hl)
theorem qr_if_ge {x : Int32} {off : Int} {tgt : Nat} (hd : decode cc pc = .ok (.ifCond .ge off, 3)) (ht : (pc : Int) + off = (tgt : Int)) (kt : (0 ≤ x) → qm_Wp l E d own cc nL (tgt) lv (st) σ r) (kf : ¬ (0 ≤ x) → qm_Wp l E d own cc nL (pc + 3) lv (st) σ r) : qm_Wp l E d own cc nL (pc) lv (.int x :: st) σ r := fun p e R s m args below meth c cells slots Q C F H locs ls hH hS hl => lv_if_ge C.1 C.2.1 hd ht (fun h => kt h p e R s m args below meth c cells slots Q C F H locs ls hH hS hl) (fun h => kf h p e R s m args below meth c cells slots Q C F H locs ls hH hS hl)
theorem qr_icmp_ge {x y : Int32} {off : Int} {tgt : Nat} (hd : decode cc pc = .ok (.if_icmp .ge off, 3)) (ht : (pc : Int) + off = (tgt : Int)) (kt : (y ≤ x) → qm_Wp l E d own cc nL (tgt) lv (st) σ r) (kf : ¬ (y ≤ x) → qm_Wp l E d own cc nL (pc + 3) lv (st) σ r) : qm_Wp l E d own cc nL (pc) lv (.int y :: .int x :: st) σ r := fun p e R s m args below meth c cells slots Q C F H locs ls hH hS hl => lv_icmp_ge C.1 C.2.1 hd ht (fun h => kt h p e R s m args below meth c cells slots Q C F H locs ls hH hS hl) (fun h => kf h p e R s m args below meth c cells slots Q C F H locs ls hH hS hl)
theorem qr_if_gt {x : Int32} {off : Int} {tgt : Nat} (hd : decode cc pc = .ok (.ifCond .gt off, 3)) (ht : (pc : Int) + off = (tgt : Int)) (kt : (0 < x) → qm_Wp l E d own cc nL (tgt) lv (st) σ r) (kf : ¬ (0 < x) → qm_Wp l E d own cc nL (pc + 3) lv (st) σ r) : qm_Wp l E d own cc nL (pc) lv (.int x :: st) σ r := fun p e R s m args below meth c cells slots Q C F H locs ls hH hS hl => lv_if_gt C.1 C.2.1 hd ht (fun h => kt h p e R s m args below meth c cells slots Q C F H locs ls hH hS hl) (fun h => kf h p e R s m args below meth c cells slots Q C F H locs ls hH hS hl)
theorem qr_icmp_gt {x y : Int32} {off : Int} {tgt : Nat} (hd : decode cc pc = .ok (.if_icmp .gt off, 3)) (ht : (pc : Int) + off = (tgt : Int)) (kt : (y < x) → qm_Wp l E d own cc nL (tgt) lv (st) σ r) (kf : ¬ (y < x) → qm_Wp l E d own cc nL (pc + 3) lv (st) σ r) : qm_Wp l E d own cc nL (pc) lv (.int y :: .int x :: st) σ r := fun p e R s m args below meth c cells slots Q C F H locs ls hH hS hl => lv_icmp_gt C.1 C.2.1 hd ht (fun h => kt h p e R s m args below meth c cells slots Q C F H locs ls hH hS hl) (fun h => kf h p e R s m args below meth c cells slots Q C F H locs ls hH hS hl)
theorem qr_if_le {x : Int32} {off : Int} {tgt : Nat} (hd : decode cc pc = .ok (.ifCond .le off, 3)) (ht : (pc : Int) + off = (tgt : Int)) (kt : (x ≤ 0) → qm_Wp l E d own cc nL (tgt) lv (st) σ r) (kf : ¬ (x ≤ 0) → qm_Wp l E d own cc nL (pc + 3) lv (st) σ r) : qm_Wp l E d own cc nL (pc) lv (.int x :: st) σ r := fun p e R s m args below meth c cells slots Q C F H locs ls hH hS hl => lv_if_le C.1 C.2.1 hd ht (fun h => kt h p e R s m args below meth c cells slots Q C F H locs ls hH hS hl) (fun h => kf h p e R s m args below meth c cells slots Q C F H locs ls hH hS hl)
theorem qr_icmp_le {x y : Int32} {off : Int} {tgt : Nat} (hd : decode cc pc = .ok (.if_icmp .le off, 3)) (ht : (pc : Int) + off = (tgt : Int)) (kt : (x ≤ y) → qm_Wp l E d own cc nL (tgt) lv (st) σ r) (kf : ¬ (x ≤ y) → qm_Wp l E d own cc nL (pc + 3) lv (st) σ r) : qm_Wp l E d own cc nL (pc) lv (.int y :: .int x :: st) σ r := fun p e R s m args below meth c cells slots Q C F H locs ls hH hS hl => lv_icmp_le C.1 C.2.1 hd ht (fun h => kt h p e R s m args below meth c cells slots Q C F H locs ls hH hS hl) (fun h => kf h p e R s m args below meth c cells slots Q C F H locs ls hH hS hl)
theorem qr_goto {off : Int} {tgt : Nat} (hd : decode cc pc = .ok (.goto off, 3)) (ht : (pc : Int) + off = (tgt : Int)) (k : qm_Wp l E d own cc nL (tgt) lv (st) σ r) : qm_Wp l E d own cc nL (pc) lv (st) σ r := fun p e R s m args below meth c cells slots Q C F H locs ls hH hS hl => lv_goto C.1 C.2.1 hd ht (k p e R s m args below meth c cells slots Q C F H locs ls hH hS hl)
theorem qr_tableOut {dflt lo hi : Int} {offs : Array Int} {len : Nat} {x : Int32} {tgt : Nat} (hd : decode cc pc = .ok (.tableswitch dflt lo hi offs, len)) (h : x.toInt < lo ∨ hi < x.toInt) (ht : (pc : Int) + dflt = (tgt : Int)) (k : qm_Wp l E d own cc nL (tgt) lv (st) σ r) : qm_Wp l E d own cc nL (pc) lv (.int x :: st) σ r := fun p e R s m args below meth c cells slots Q C F H locs ls hH hS hl => lv_tableOut C.1 C.2.1 hd h ht (k p e R s m args below meth c cells slots Q C F H locs ls hH hS hl)
theorem qr_tableIn {dflt lo hi : Int} {offs : Array Int} {len : Nat} {x : Int32} {off : Int} {tgt : Nat} (hd : decode cc pc = .ok (.tableswitch dflt lo hi offs, len)) (h1 : ¬ x.toInt < lo) (h2 : ¬ hi < x.toInt) (ho : offs[(x.toInt - lo).toNat]? = some off) (ht : (pc : Int) + off = (tgt : Int)) (k : qm_Wp l E d own cc nL (tgt) lv (st) σ r) : qm_Wp l E d own cc nL (pc) lv (.int x :: st) σ r := fun p e R s m args below meth c cells slots Q C F H locs ls hH hS hl => lv_tableIn C.1 C.2.1 hd h1 h2 ho ht (k p e R s m args below meth c cells slots Q C F H locs ls hH hS hl)
theorem qr_ldc {index : Nat} {v : Int32} (hw : Cond.constant own index v ∈ qm_ws) (hd : decode cc pc = .ok (.ldc index, 2)) (k : qm_Wp l E d own cc nL (pc + 2) lv (.int v :: st) σ r) : qm_Wp l E d own cc nL (pc) lv (st) σ r := fun p e R s m args below meth c cells slots Q C F H locs ls hH hS hl => lv_ldc C.1 C.2.1 C.2.2.2.1 (C.2.2.2.2.1 _ hw) hd (k p e R s m args below meth c cells slots Q C F H locs ls hH hS hl)
theorem qr_ldc_w {index : Nat} {v : Int32} (hw : Cond.constant own index v ∈ qm_ws) (hd : decode cc pc = .ok (.ldc_w index, 3)) (k : qm_Wp l E d own cc nL (pc + 3) lv (.int v :: st) σ r) : qm_Wp l E d own cc nL (pc) lv (st) σ r := fun p e R s m args below meth c cells slots Q C F H locs ls hH hS hl => lv_ldcw C.1 C.2.1 C.2.2.2.1 (C.2.2.2.2.1 _ hw) hd (k p e R s m args below meth c cells slots Q C F H locs ls hH hS hl)
theorem qr_ldc2 {index : Nat} {v : Int64} (hw : Cond.constantLong own index v ∈ qm_ws) (hd : decode cc pc = .ok (.ldc2_w index, 3)) (k : qm_Wp l E d own cc nL (pc + 3) lv (.long v :: st) σ r) : qm_Wp l E d own cc nL (pc) lv (st) σ r := fun p e R s m args below meth c cells slots Q C F H locs ls hH hS hl => lv_ldc2 C.1 C.2.1 C.2.2.2.1 (C.2.2.2.2.1 _ hw) hd (k p e R s m args below meth c cells slots Q C F H locs ls hH hS hl)
theorem qr_iret {x : Int32} (hd : decode cc pc = .ok (.ireturn, 1)) : qm_Wp l E d own cc nL pc lv [.int x] σ (some (.int x), σ) := fun p e R s m args below meth c cells slots Q C F H locs ls hH hS hl => F H locs ls pc hH hS hd
theorem qr_lret {x : Int64} (hd : decode cc pc = .ok (.lreturn, 1)) : qm_Wp l E d own cc nL pc lv [.long x] σ (some (.long x), σ) := fun p e R s m args below meth c cells slots Q C F H locs ls hH hS hl => F H locs ls pc hH hS hd
theorem qr_vret  (hd : decode cc pc = .ok (.return_, 1)) : qm_Wp l E d own cc nL pc lv [] σ (none, σ) := fun p e R s m args below meth c cells slots Q C F H locs ls hH hS hl => F H locs ls pc hH hS hd
theorem qr_sub {lv' : List (Nat × Value)} (ks : List Nat) (hk : lv_pick lv ks = lv') (k : qm_Wp l E d own cc nL (pc) lv' (st) σ r) : qm_Wp l E d own cc nL (pc) lv (st) σ r := fun p e R s m args below meth c cells slots Q C F H locs ls hH hS hl => k p e R s m args below meth c cells slots Q C F H locs ls hH hS (lv_sub hl ks hk)
end QMR
end
section
theorem qm_in0 : ∀ w ∈ u_ws RX2 TX2 14, w ∈ qm_ws := by
  intro w hw
  obtain ⟨k, hk, rfl⟩ := List.mem_map.mp hw
  have hk := List.mem_range.mp hk
  match k, hk with
  | 0, _ => exact qw_77
  | 1, _ => exact qw_79
  | 2, _ => exact qw_81
  | 3, _ => exact qw_83
  | 4, _ => exact qw_85
  | 5, _ => exact qw_87
  | 6, _ => exact qw_89
  | 7, _ => exact qw_91
  | 8, _ => exact qw_93
  | 9, _ => exact qw_95
  | 10, _ => exact qw_97
  | 11, _ => exact qw_99
  | 12, _ => exact qw_101
  | 13, _ => exact qw_103
  | k + 14, hk => exact absurd hk (by omega)
theorem qm_in1 : ∀ w ∈ u_ws RX3 TX3 10, w ∈ qm_ws := by
  intro w hw
  obtain ⟨k, hk, rfl⟩ := List.mem_map.mp hw
  have hk := List.mem_range.mp hk
  match k, hk with
  | 0, _ => exact qw_136
  | 1, _ => exact qw_138
  | 2, _ => exact qw_140
  | 3, _ => exact qw_142
  | 4, _ => exact qw_144
  | 5, _ => exact qw_146
  | 6, _ => exact qw_148
  | 7, _ => exact qw_150
  | 8, _ => exact qw_152
  | 9, _ => exact qw_154
  | k + 10, hk => exact absurd hk (by omega)
theorem qm_in2 : ∀ w ∈ u_ws RX4 TX4 2, w ∈ qm_ws := by
  intro w hw
  obtain ⟨k, hk, rfl⟩ := List.mem_map.mp hw
  have hk := List.mem_range.mp hk
  match k, hk with
  | 0, _ => exact qw_211
  | 1, _ => exact qw_213
  | k + 2, hk => exact absurd hk (by omega)
theorem qm_in3 : ∀ w ∈ u_ws RX5 TX5 10, w ∈ qm_ws := by
  intro w hw
  obtain ⟨k, hk, rfl⟩ := List.mem_map.mp hw
  have hk := List.mem_range.mp hk
  match k, hk with
  | 0, _ => exact qw_179
  | 1, _ => exact qw_181
  | 2, _ => exact qw_183
  | 3, _ => exact qw_185
  | 4, _ => exact qw_187
  | 5, _ => exact qw_189
  | 6, _ => exact qw_191
  | 7, _ => exact qw_193
  | 8, _ => exact qw_195
  | 9, _ => exact qw_197
  | k + 10, hk => exact absurd hk (by omega)
theorem qm_in4 : ∀ w ∈ u_ws RX6 TX6 9, w ∈ qm_ws := by
  intro w hw
  obtain ⟨k, hk, rfl⟩ := List.mem_map.mp hw
  have hk := List.mem_range.mp hk
  match k, hk with
  | 0, _ => exact qw_225
  | 1, _ => exact qw_227
  | 2, _ => exact qw_229
  | 3, _ => exact qw_231
  | 4, _ => exact qw_233
  | 5, _ => exact qw_235
  | 6, _ => exact qw_237
  | 7, _ => exact qw_239
  | 8, _ => exact qw_241
  | k + 9, hk => exact absurd hk (by omega)
theorem qm_in5 : ∀ w ∈ u_ws RX7 TX7 17, w ∈ qm_ws := by
  intro w hw
  obtain ⟨k, hk, rfl⟩ := List.mem_map.mp hw
  have hk := List.mem_range.mp hk
  match k, hk with
  | 0, _ => exact qw_641
  | 1, _ => exact qw_643
  | 2, _ => exact qw_645
  | 3, _ => exact qw_647
  | 4, _ => exact qw_649
  | 5, _ => exact qw_651
  | 6, _ => exact qw_653
  | 7, _ => exact qw_655
  | 8, _ => exact qw_657
  | 9, _ => exact qw_659
  | 10, _ => exact qw_661
  | 11, _ => exact qw_663
  | 12, _ => exact qw_665
  | 13, _ => exact qw_667
  | 14, _ => exact qw_669
  | 15, _ => exact qw_671
  | 16, _ => exact qw_673
  | k + 17, hk => exact absurd hk (by omega)
section QMM
variable {l : Launch} {E : qm_E} {d : Nat} {own : String} {cc : ByteArray} {nL : Nat} {pc : Nat} {lv : List (Nat × Value)} {st : List Value} {σ : qm_M} {r : Option Value × qm_M}
theorem qr_getG {id c k idx : Nat} {v : Value} {Cn : String} {T : u_T} {N : Nat} (hkd : qm_kind id = c + 1) (hc6 : c < 6) (hcl : vwCl[c]? = some (Cn, T, N)) (hin : ∀ w ∈ u_ws Cn T N, w ∈ qm_ws) (hk : k < N) (hv : (qm_fs E σ c id)[k]? = some v) (hw : Cond.fieldLink own idx (T k).1 (T k).2.1 (T k).2.2.1 ∈ qm_ws) (hd : decode cc pc = .ok (.getfield idx, 3)) (kk : qm_Wp l E d own cc nL (pc + 3) lv (v :: st) σ r) : qm_Wp l E d own cc nL pc lv (.ref (qm_a E id) :: st) σ r := by
  intro p e R s m args below meth c0 cells slots Q C F H locs ls hH hS hl
  have hat := hH id (by omega)
  rw [qm_lay_obj E σ hkd hc6] at hat
  have hP : va_P E.1 vwCl [(qm_a E id, .inr (c, qm_fs E σ c id))] H := fun j q hq => by
    match j, hq with
    | 0, hq => cases hq; exact hat
    | j + 1, hq => simp at hq
  exact va_get C.1 C.2.1 C.2.2.2.2.1 hin C.2.2.2.1 C.2.2.2.2.2.1.1 hP 0 rfl hcl k hk (C.2.2.2.2.1 _ hw) (fun _ h => h) hv hd (kk p e R s m args below meth c0 cells slots Q C F H locs ls hH hS hl)
theorem qr_putG {id c k idx : Nat} {v : Value} {τ : qm_M} {Cn : String} {T : u_T} {N : Nat} {ty : FieldType} {ty0 : Nat → FieldType} (hkd : qm_kind id = c + 1) (hc6 : c < 6) (hcl : vwCl[c]? = some (Cn, T, N)) (hin : ∀ w ∈ u_ws Cn T N, w ∈ qm_ws) (hty : ∀ k, k < N → parseFieldDescriptor (T k).2.2.1 = some (ty0 k)) (hnm : ∀ a, a < N → ∀ b, b < N → a ≠ b → (T a).2.1 ≠ (T b).2.1) (hk : k < N) (hlen : k < (qm_fs E σ c id).length) (hset : (qm_fs E σ c id).set k v = qm_fs E τ c id) (h1 : ∀ i, i ≠ id → τ.1 i = σ.1 i) (h2 : ∀ i, i ≠ id → τ.2 i = σ.2 i) (hfin : (T k).2.2.2 = false) (hpd : parseFieldDescriptor (T k).2.2.1 = some ty) (hn : narrow ty v = v) (hfit : fits ty v = true) (hw : Cond.fieldLink own idx (T k).1 (T k).2.1 (T k).2.2.1 ∈ qm_ws) (hd : decode cc pc = .ok (.putfield idx, 3)) (kk : qm_Wp l E d own cc nL (pc + 3) lv st τ r) : qm_Wp l E d own cc nL pc lv (v :: .ref (qm_a E id) :: st) σ r := by
  intro p e R s m args below meth c0 cells slots Q C F H locs ls hH hS hl
  have hid : qm_kind id ≠ 0 := by omega
  have hat := hH id hid
  rw [qm_lay_obj E σ hkd hc6] at hat
  obtain ⟨r0, hr0, cell, q1, q2, q3, q4⟩ := hat
  have hr : r0 = (Cn, T, N) := Option.some.inj (hr0.symm.trans hcl)
  subst hr
  have hts := C.2.2.2.2.1
  have hK := C.2.2.2.2.2.1.1
  have hap := va_apart (own := own) hts hin ty0 hty hnm hK hcl
  obtain ⟨hSl, hfc, kC, hkC, hkind⟩ := hK.1 c _ hcl
  obtain ⟨cf, kf, fi, f, hi, hsl⟩ := hSl k hk
  have hlay := hts _ (hin _ (u_in_lay hk))
  unfold u_lay at hlay
  rw [if_neg (by rw [hfin]; decide)] at hlay
  have hst := (u_facts hfc hkC (u_lays hts hin hk) hi).1
  have h6 := u_store hfc hkC hkind hlay hi hpd hn hfit
  refine W.putK C.1 C.2.1 (f := f) ⟨C.2.2.2.1, hts _ hw, ⟨_, _, _, hi⟩, hst⟩ (by rw [q2]; exact h6) q1 q3 (by rw [hsl]; exact k2_hasslot (q4 k hk)) rfl rfl hd fun H' e1 e2 e3 => ?_
  rw [hsl] at e1 ⊢
  refine kk p e R s m args below meth c0 cells slots Q C F H' _ ls ?_ (hS.put e2 e3 (qm_H_A hid)) hl
  refine qm_H_set hH hid ?_ e3 h1 h2
  rw [qm_lay_obj E τ hkd hc6, ← hset]
  exact ⟨_, hcl, t_OB.to (V := updV (vp_V (qm_fs E σ c id)) k v) ⟨_, e1, q2, q3, t_set q4 hap hk v⟩ (fun j _ => vp_updV_set hlen v j)⟩
theorem qr_iald {id : Nat} {i : Int32} (hkd : qm_kind id = 7) (hin : vp_in i (qm_len id)) (hd : decode cc pc = .ok (.iaload, 1)) (kk : qm_Wp l E d own cc nL (pc + 1) lv (.int (σ.1 id i.toNatClampNeg) :: st) σ r) : qm_Wp l E d own cc nL pc lv (.int i :: .ref (qm_a E id) :: st) σ r := by
  intro p e R s m args below meth c0 cells slots Q C F H locs ls hH hS hl
  have hat := hH id (by omega)
  rw [qm_lay_ai E σ hkd] at hat
  have hP : va_P E.1 vwCl [(qm_a E id, .inl (E.2.1 0, qm_len id, .inl (σ.1 id)))] H := fun j q hq => by
    match j, hq with
    | 0, hq => cases hq; exact hat
    | j + 1, hq => simp at hq
  exact va_iald C.1 C.2.1 C.2.2.2.2.2.1.1 hP 0 0 rfl rfl hin hd (kk p e R s m args below meth c0 cells slots Q C F H locs ls hH hS hl)
theorem qr_lald {id : Nat} {i : Int32} (hkd : qm_kind id = 8) (hin : vp_in i (qm_len id)) (hd : decode cc pc = .ok (.laload, 1)) (kk : qm_Wp l E d own cc nL (pc + 1) lv (.long (σ.2 id i.toNatClampNeg) :: st) σ r) : qm_Wp l E d own cc nL pc lv (.int i :: .ref (qm_a E id) :: st) σ r := by
  intro p e R s m args below meth c0 cells slots Q C F H locs ls hH hS hl
  have hat := hH id (by omega)
  rw [qm_lay_al E σ hkd] at hat
  have hP : va_P E.1 vwCl [(qm_a E id, .inl (E.2.1 1, qm_len id, .inr (.inl (σ.2 id))))] H := fun j q hq => by
    match j, hq with
    | 0, hq => cases hq; exact hat
    | j + 1, hq => simp at hq
  exact va_lald C.1 C.2.1 C.2.2.2.2.2.1.1 hP 0 1 rfl rfl hin hd (kk p e R s m args below meth c0 cells slots Q C F H locs ls hH hS hl)
theorem qr_aalds {id : Nat} {i : Int32} (hkd : qm_kind id = 9) (hin : vp_in i 13) (hd : decode cc pc = .ok (.aaload, 1)) (kk : qm_Wp l E d own cc nL (pc + 1) lv (.ref (qm_a E (id + 1 + i.toNatClampNeg)) :: st) σ r) : qm_Wp l E d own cc nL pc lv (.int i :: .ref (qm_a E id) :: st) σ r := by
  intro p e R s m args below meth c0 cells slots Q C F H locs ls hH hS hl
  have hat := hH id (by omega)
  rw [qm_lay_as E σ hkd] at hat
  have hP : va_P E.1 vwCl [(qm_a E id, .inl (E.2.1 2, 13, .inr (.inr (.inr (.inr fun j => some (qm_a E (id + 1 + j)))))))] H := fun j q hq => by
    match j, hq with
    | 0, hq => cases hq; exact hat
    | j + 1, hq => simp at hq
  exact va_aldq C.1 C.2.1 C.2.2.2.2.2.1.1 hP 0 2 rfl rfl hin hd (kk p e R s m args below meth c0 cells slots Q C F H locs ls hH hS hl)
theorem qr_aaldt {id : Nat} {i : Int32} (hkd : qm_kind id = 10) (hin : vp_in i 5) (hd : decode cc pc = .ok (.aaload, 1)) (kk : qm_Wp l E d own cc nL (pc + 1) lv (.ref (qm_a E (32 * (i.toNatClampNeg + 1))) :: st) σ r) : qm_Wp l E d own cc nL pc lv (.int i :: .ref (qm_a E id) :: st) σ r := by
  intro p e R s m args below meth c0 cells slots Q C F H locs ls hH hS hl
  have hat := hH id (by omega)
  rw [qm_lay_at E σ hkd] at hat
  have hP : va_P E.1 vwCl [(qm_a E id, .inl (E.2.1 3, 5, .inr (.inr (.inr (.inr fun j => some (qm_a E (32 * (j + 1))))))))] H := fun j q hq => by
    match j, hq with
    | 0, hq => cases hq; exact hat
    | j + 1, hq => simp at hq
  exact va_aldq C.1 C.2.1 C.2.2.2.2.2.1.1 hP 0 3 rfl rfl hin hd (kk p e R s m args below meth c0 cells slots Q C F H locs ls hH hS hl)
theorem qr_alen {id : Nat} (hkd : qm_kind id = 7) (hd : decode cc pc = .ok (.arraylength, 1)) (kk : qm_Wp l E d own cc nL (pc + 1) lv (.int (Int32.ofNat (qm_len id)) :: st) σ r) : qm_Wp l E d own cc nL pc lv (.ref (qm_a E id) :: st) σ r := by
  intro p e R s m args below meth c0 cells slots Q C F H locs ls hH hS hl
  have hat := hH id (by omega)
  rw [qm_lay_ai E σ hkd] at hat
  have hP : va_P E.1 vwCl [(qm_a E id, .inl (E.2.1 0, qm_len id, .inl (σ.1 id)))] H := fun j q hq => by
    match j, hq with
    | 0, hq => cases hq; exact hat
    | j + 1, hq => simp at hq
  exact va_alen C.1 C.2.1 C.2.2.2.2.2.1.1 hP 0 0 rfl rfl rfl hd (kk p e R s m args below meth c0 cells slots Q C F H locs ls hH hS hl)
theorem qr_iast {id : Nat} {i x : Int32} (hkd : qm_kind id = 7) (hin : vp_in i (qm_len id)) (hd : decode cc pc = .ok (.iastore, 1)) (kk : qm_Wp l E d own cc nL (pc + 1) lv st (qm_si σ id i.toNatClampNeg x) r) : qm_Wp l E d own cc nL pc lv (.int x :: .int i :: .ref (qm_a E id) :: st) σ r := by
  intro p e R s m args below meth c0 cells slots Q C F H locs ls hH hS hl
  have hid : qm_kind id ≠ 0 := by omega
  have hat := hH id hid
  rw [qm_lay_ai E σ hkd] at hat
  refine W.iast C.1 C.2.1 hat ((C.2.2.2.2.2.1.1.2 0 _ rfl).1 (qm_len id) (fun j => .int (σ.1 id j))) (fun q => by cases q) (by show ¬ (i < 0 ∨ (arrV _ _ _).slots.size ≤ _); rw [arrV_size]; exact hin) rfl rfl hd fun H1 e z oq => ?_
  refine kk p _ R s m args below meth c0 cells slots Q C F H1 _ ls ?_ (hS.put z oq (qm_H_A hid)) hl
  refine qm_H_set hH hid ?_ oq (fun j hj => qm_si_ne σ _ x hj) (fun j hj => rfl)
  rw [qm_lay_ai E _ hkd, qm_si_row]
  show H1[_]? = some (vp_cell _ _)
  rw [e, vp_cell_i, vp_cell_i, arrV_store]
  congr 2
  funext q
  by_cases hq : q = i.toNatClampNeg
  · subst hq; simp [updV, upd]
  · simp [updV, upd, hq]
theorem qr_last {id : Nat} {i : Int32} {x : Int64} (hkd : qm_kind id = 8) (hin : vp_in i (qm_len id)) (hd : decode cc pc = .ok (.lastore, 1)) (kk : qm_Wp l E d own cc nL (pc + 1) lv st (qm_sl σ id i.toNatClampNeg x) r) : qm_Wp l E d own cc nL pc lv (.long x :: .int i :: .ref (qm_a E id) :: st) σ r := by
  intro p e R s m args below meth c0 cells slots Q C F H locs ls hH hS hl
  have hid : qm_kind id ≠ 0 := by omega
  have hat := hH id hid
  rw [qm_lay_al E σ hkd] at hat
  refine W.last C.1 C.2.1 hat ((C.2.2.2.2.2.1.1.2 1 _ rfl).1 (qm_len id) (fun j => .long (σ.2 id j))) (fun q => by cases q) (by show ¬ (i < 0 ∨ (arrV _ _ _).slots.size ≤ _); rw [arrV_size]; exact hin) rfl rfl hd fun H1 e z oq => ?_
  refine kk p _ R s m args below meth c0 cells slots Q C F H1 _ ls ?_ (hS.put z oq (qm_H_A hid)) hl
  refine qm_H_set hH hid ?_ oq (fun j hj => rfl) (fun j hj => qm_sl_ne σ _ x hj)
  rw [qm_lay_al E _ hkd, qm_sl_row]
  show H1[_]? = some (vp_cell _ _)
  rw [e, vp_cell_l, vp_cell_l, arrV_store]
  congr 2
  funext q
  by_cases hq : q = i.toNatClampNeg
  · subst hq; simp [updV, vp_updL]
  · simp [updV, vp_updL, hq]
theorem qr_gets {i idx : Nat} {nm : String} (hi : i < 4) (hn : qm_sn i = nm) (hw : Cond.fieldLink own idx "HungStreams" nm "[I" ∈ qm_ws) (hd : decode cc pc = .ok (.getstatic idx, 3)) (kk : qm_Wp l E d own cc nL (pc + 3) lv (.ref (qm_a E (218 + i)) :: st) σ r) : qm_Wp l E d own cc nL pc lv st σ r := by
  intro p e R s m args below meth c0 cells slots Q C F H locs ls hH hS hl
  subst hn
  have hk := kk p e R s m args below meth c0 cells slots Q C F H locs ls hH hS hl
  have ha : qm_a E (218 + i) = E.2.2.2 i := by unfold qm_a; rw [if_neg (by omega), Nat.add_sub_cancel_left]
  rw [ha] at hk
  exact va_gets C.1 C.2.1 (C.2.2.2.2.2.2.1 i hi).1 hS C.2.2.2.1 (C.2.2.2.2.1 _ hw) (fun _ h => h) hd hk
theorem qr_srd {k : Nat} {i : Int32} (hk : k < 4) (hin : vp_in i (qm_sz k)) (hd : decode cc pc = .ok (.iaload, 1)) (kk : qm_Wp l E d own cc nL (pc + 1) lv (.int (qm_sv k i.toNatClampNeg) :: st) σ r) : qm_Wp l E d own cc nL pc lv (.int i :: .ref (qm_a E (218 + k)) :: st) σ r := by
  intro p e R s m args below meth c0 cells slots Q C F H locs ls hH hS hl
  have ha : qm_a E (218 + k) = E.2.2.2 k := by unfold qm_a; rw [if_neg (by omega), Nat.add_sub_cancel_left]
  rw [ha]
  obtain ⟨hz, hx, hlt⟩ := C.2.2.2.2.2.2.1 k hk
  exact va_sld C.1 C.2.1 hx (qm_X.lt hx) (Nat.not_le.mpr hlt) hS hin hd (kk p e R s m args below meth c0 cells slots Q C F H locs ls hH hS hl)
end QMM
theorem qr_get0 {l : Launch} {E : qm_E} {d : Nat} {own : String} {cc : ByteArray} {nL : Nat} {pc : Nat} {lv : List (Nat × Value)} {st : List Value} {σ : qm_M} {r : Option Value × qm_M} {id k idx : Nat} {v : Value} (hkd : qm_kind id = 1) (hk : k < 14) (hv : (qm_fs E σ 0 id)[k]? = some v) (hw : Cond.fieldLink own idx (TX2 k).1 (TX2 k).2.1 (TX2 k).2.2.1 ∈ qm_ws) (hd : decode cc pc = .ok (.getfield idx, 3)) (kk : qm_Wp l E d own cc nL (pc + 3) lv (v :: st) σ r) : qm_Wp l E d own cc nL pc lv (.ref (qm_a E id) :: st) σ r := qr_getG (c := 0) hkd (by decide) rfl qm_in0 hk hv hw hd kk
theorem qm_set0_0 (E : qm_E) (σ : qm_M) (id : Nat) (x : Int32) : (qm_fs E σ 0 id).set 0 (.int x) = qm_fs E (qm_si σ id 0 x) 0 id := by simp [qm_fs, qm_si]
theorem qr_put0_0 {l : Launch} {E : qm_E} {d : Nat} {own : String} {cc : ByteArray} {nL : Nat} {pc : Nat} {lv : List (Nat × Value)} {st : List Value} {σ : qm_M} {r : Option Value × qm_M} {id idx : Nat} {x : Int32} (hkd : qm_kind id = 1) (hw : Cond.fieldLink own idx (TX2 0).1 (TX2 0).2.1 (TX2 0).2.2.1 ∈ qm_ws) (hd : decode cc pc = .ok (.putfield idx, 3)) (kk : qm_Wp l E d own cc nL (pc + 3) lv st (qm_si σ id 0 x) r) : qm_Wp l E d own cc nL pc lv (.int x :: .ref (qm_a E id) :: st) σ r := qr_putG (c := 0) (ty := .int) hkd (by decide) rfl qm_in0 tyX2_ok nmX2 (by decide) (by simp [qm_fs]) (qm_set0_0 E σ id x) (fun i hi => qm_si_ne σ _ x hi) (fun _ _ => rfl) rfl (by decide +kernel) rfl rfl hw hd kk
theorem qm_set0_1 (E : qm_E) (σ : qm_M) (id : Nat) (x : Int32) : (qm_fs E σ 0 id).set 1 (.int x) = qm_fs E (qm_si σ id 1 x) 0 id := by simp [qm_fs, qm_si]
theorem qr_put0_1 {l : Launch} {E : qm_E} {d : Nat} {own : String} {cc : ByteArray} {nL : Nat} {pc : Nat} {lv : List (Nat × Value)} {st : List Value} {σ : qm_M} {r : Option Value × qm_M} {id idx : Nat} {x : Int32} (hkd : qm_kind id = 1) (hw : Cond.fieldLink own idx (TX2 1).1 (TX2 1).2.1 (TX2 1).2.2.1 ∈ qm_ws) (hd : decode cc pc = .ok (.putfield idx, 3)) (kk : qm_Wp l E d own cc nL (pc + 3) lv st (qm_si σ id 1 x) r) : qm_Wp l E d own cc nL pc lv (.int x :: .ref (qm_a E id) :: st) σ r := qr_putG (c := 0) (ty := .int) hkd (by decide) rfl qm_in0 tyX2_ok nmX2 (by decide) (by simp [qm_fs]) (qm_set0_1 E σ id x) (fun i hi => qm_si_ne σ _ x hi) (fun _ _ => rfl) rfl (by decide +kernel) rfl rfl hw hd kk
theorem qm_set0_2 (E : qm_E) (σ : qm_M) (id : Nat) (x : Int32) : (qm_fs E σ 0 id).set 2 (.int x) = qm_fs E (qm_si σ id 2 x) 0 id := by simp [qm_fs, qm_si]
theorem qr_put0_2 {l : Launch} {E : qm_E} {d : Nat} {own : String} {cc : ByteArray} {nL : Nat} {pc : Nat} {lv : List (Nat × Value)} {st : List Value} {σ : qm_M} {r : Option Value × qm_M} {id idx : Nat} {x : Int32} (hkd : qm_kind id = 1) (hw : Cond.fieldLink own idx (TX2 2).1 (TX2 2).2.1 (TX2 2).2.2.1 ∈ qm_ws) (hd : decode cc pc = .ok (.putfield idx, 3)) (kk : qm_Wp l E d own cc nL (pc + 3) lv st (qm_si σ id 2 x) r) : qm_Wp l E d own cc nL pc lv (.int x :: .ref (qm_a E id) :: st) σ r := qr_putG (c := 0) (ty := .int) hkd (by decide) rfl qm_in0 tyX2_ok nmX2 (by decide) (by simp [qm_fs]) (qm_set0_2 E σ id x) (fun i hi => qm_si_ne σ _ x hi) (fun _ _ => rfl) rfl (by decide +kernel) rfl rfl hw hd kk
theorem qm_set0_3 (E : qm_E) (σ : qm_M) (id : Nat) (x : Int32) : (qm_fs E σ 0 id).set 3 (.int x) = qm_fs E (qm_si σ id 3 x) 0 id := by simp [qm_fs, qm_si]
theorem qr_put0_3 {l : Launch} {E : qm_E} {d : Nat} {own : String} {cc : ByteArray} {nL : Nat} {pc : Nat} {lv : List (Nat × Value)} {st : List Value} {σ : qm_M} {r : Option Value × qm_M} {id idx : Nat} {x : Int32} (hkd : qm_kind id = 1) (hw : Cond.fieldLink own idx (TX2 3).1 (TX2 3).2.1 (TX2 3).2.2.1 ∈ qm_ws) (hd : decode cc pc = .ok (.putfield idx, 3)) (kk : qm_Wp l E d own cc nL (pc + 3) lv st (qm_si σ id 3 x) r) : qm_Wp l E d own cc nL pc lv (.int x :: .ref (qm_a E id) :: st) σ r := qr_putG (c := 0) (ty := .int) hkd (by decide) rfl qm_in0 tyX2_ok nmX2 (by decide) (by simp [qm_fs]) (qm_set0_3 E σ id x) (fun i hi => qm_si_ne σ _ x hi) (fun _ _ => rfl) rfl (by decide +kernel) rfl rfl hw hd kk
theorem qm_set0_4 (E : qm_E) (σ : qm_M) (id : Nat) (x : Int32) : (qm_fs E σ 0 id).set 4 (.int x) = qm_fs E (qm_si σ id 4 x) 0 id := by simp [qm_fs, qm_si]
theorem qr_put0_4 {l : Launch} {E : qm_E} {d : Nat} {own : String} {cc : ByteArray} {nL : Nat} {pc : Nat} {lv : List (Nat × Value)} {st : List Value} {σ : qm_M} {r : Option Value × qm_M} {id idx : Nat} {x : Int32} (hkd : qm_kind id = 1) (hw : Cond.fieldLink own idx (TX2 4).1 (TX2 4).2.1 (TX2 4).2.2.1 ∈ qm_ws) (hd : decode cc pc = .ok (.putfield idx, 3)) (kk : qm_Wp l E d own cc nL (pc + 3) lv st (qm_si σ id 4 x) r) : qm_Wp l E d own cc nL pc lv (.int x :: .ref (qm_a E id) :: st) σ r := qr_putG (c := 0) (ty := .int) hkd (by decide) rfl qm_in0 tyX2_ok nmX2 (by decide) (by simp [qm_fs]) (qm_set0_4 E σ id x) (fun i hi => qm_si_ne σ _ x hi) (fun _ _ => rfl) rfl (by decide +kernel) rfl rfl hw hd kk
theorem qm_set0_5 (E : qm_E) (σ : qm_M) (id : Nat) (x : Int32) : (qm_fs E σ 0 id).set 5 (.int x) = qm_fs E (qm_si σ id 5 x) 0 id := by simp [qm_fs, qm_si]
theorem qr_put0_5 {l : Launch} {E : qm_E} {d : Nat} {own : String} {cc : ByteArray} {nL : Nat} {pc : Nat} {lv : List (Nat × Value)} {st : List Value} {σ : qm_M} {r : Option Value × qm_M} {id idx : Nat} {x : Int32} (hkd : qm_kind id = 1) (hw : Cond.fieldLink own idx (TX2 5).1 (TX2 5).2.1 (TX2 5).2.2.1 ∈ qm_ws) (hd : decode cc pc = .ok (.putfield idx, 3)) (kk : qm_Wp l E d own cc nL (pc + 3) lv st (qm_si σ id 5 x) r) : qm_Wp l E d own cc nL pc lv (.int x :: .ref (qm_a E id) :: st) σ r := qr_putG (c := 0) (ty := .int) hkd (by decide) rfl qm_in0 tyX2_ok nmX2 (by decide) (by simp [qm_fs]) (qm_set0_5 E σ id x) (fun i hi => qm_si_ne σ _ x hi) (fun _ _ => rfl) rfl (by decide +kernel) rfl rfl hw hd kk
theorem qm_set0_6 (E : qm_E) (σ : qm_M) (id : Nat) (x : Int32) : (qm_fs E σ 0 id).set 6 (.int x) = qm_fs E (qm_si σ id 6 x) 0 id := by simp [qm_fs, qm_si]
theorem qr_put0_6 {l : Launch} {E : qm_E} {d : Nat} {own : String} {cc : ByteArray} {nL : Nat} {pc : Nat} {lv : List (Nat × Value)} {st : List Value} {σ : qm_M} {r : Option Value × qm_M} {id idx : Nat} {x : Int32} (hkd : qm_kind id = 1) (hz : x = 0 ∨ x = 1) (hw : Cond.fieldLink own idx (TX2 6).1 (TX2 6).2.1 (TX2 6).2.2.1 ∈ qm_ws) (hd : decode cc pc = .ok (.putfield idx, 3)) (kk : qm_Wp l E d own cc nL (pc + 3) lv st (qm_si σ id 6 x) r) : qm_Wp l E d own cc nL pc lv (.int x :: .ref (qm_a E id) :: st) σ r := qr_putG (c := 0) (ty := .boolean) hkd (by decide) rfl qm_in0 tyX2_ok nmX2 (by decide) (by simp [qm_fs]) (qm_set0_6 E σ id x) (fun i hi => qm_si_ne σ _ x hi) (fun _ _ => rfl) rfl (by decide +kernel) (by rcases hz with rfl | rfl <;> rfl) (by rcases hz with rfl | rfl <;> rfl) hw hd kk
theorem qm_set0_7 (E : qm_E) (σ : qm_M) (id : Nat) (x : Int32) : (qm_fs E σ 0 id).set 7 (.int x) = qm_fs E (qm_si σ id 7 x) 0 id := by simp [qm_fs, qm_si]
theorem qr_put0_7 {l : Launch} {E : qm_E} {d : Nat} {own : String} {cc : ByteArray} {nL : Nat} {pc : Nat} {lv : List (Nat × Value)} {st : List Value} {σ : qm_M} {r : Option Value × qm_M} {id idx : Nat} {x : Int32} (hkd : qm_kind id = 1) (hw : Cond.fieldLink own idx (TX2 7).1 (TX2 7).2.1 (TX2 7).2.2.1 ∈ qm_ws) (hd : decode cc pc = .ok (.putfield idx, 3)) (kk : qm_Wp l E d own cc nL (pc + 3) lv st (qm_si σ id 7 x) r) : qm_Wp l E d own cc nL pc lv (.int x :: .ref (qm_a E id) :: st) σ r := qr_putG (c := 0) (ty := .int) hkd (by decide) rfl qm_in0 tyX2_ok nmX2 (by decide) (by simp [qm_fs]) (qm_set0_7 E σ id x) (fun i hi => qm_si_ne σ _ x hi) (fun _ _ => rfl) rfl (by decide +kernel) rfl rfl hw hd kk
theorem qm_set0_8 (E : qm_E) (σ : qm_M) (id : Nat) (x : Int32) : (qm_fs E σ 0 id).set 8 (.int x) = qm_fs E (qm_si σ id 8 x) 0 id := by simp [qm_fs, qm_si]
theorem qr_put0_8 {l : Launch} {E : qm_E} {d : Nat} {own : String} {cc : ByteArray} {nL : Nat} {pc : Nat} {lv : List (Nat × Value)} {st : List Value} {σ : qm_M} {r : Option Value × qm_M} {id idx : Nat} {x : Int32} (hkd : qm_kind id = 1) (hw : Cond.fieldLink own idx (TX2 8).1 (TX2 8).2.1 (TX2 8).2.2.1 ∈ qm_ws) (hd : decode cc pc = .ok (.putfield idx, 3)) (kk : qm_Wp l E d own cc nL (pc + 3) lv st (qm_si σ id 8 x) r) : qm_Wp l E d own cc nL pc lv (.int x :: .ref (qm_a E id) :: st) σ r := qr_putG (c := 0) (ty := .int) hkd (by decide) rfl qm_in0 tyX2_ok nmX2 (by decide) (by simp [qm_fs]) (qm_set0_8 E σ id x) (fun i hi => qm_si_ne σ _ x hi) (fun _ _ => rfl) rfl (by decide +kernel) rfl rfl hw hd kk
theorem qm_set0_9 (E : qm_E) (σ : qm_M) (id : Nat) (x : Int32) : (qm_fs E σ 0 id).set 9 (.int x) = qm_fs E (qm_si σ id 9 x) 0 id := by simp [qm_fs, qm_si]
theorem qr_put0_9 {l : Launch} {E : qm_E} {d : Nat} {own : String} {cc : ByteArray} {nL : Nat} {pc : Nat} {lv : List (Nat × Value)} {st : List Value} {σ : qm_M} {r : Option Value × qm_M} {id idx : Nat} {x : Int32} (hkd : qm_kind id = 1) (hw : Cond.fieldLink own idx (TX2 9).1 (TX2 9).2.1 (TX2 9).2.2.1 ∈ qm_ws) (hd : decode cc pc = .ok (.putfield idx, 3)) (kk : qm_Wp l E d own cc nL (pc + 3) lv st (qm_si σ id 9 x) r) : qm_Wp l E d own cc nL pc lv (.int x :: .ref (qm_a E id) :: st) σ r := qr_putG (c := 0) (ty := .int) hkd (by decide) rfl qm_in0 tyX2_ok nmX2 (by decide) (by simp [qm_fs]) (qm_set0_9 E σ id x) (fun i hi => qm_si_ne σ _ x hi) (fun _ _ => rfl) rfl (by decide +kernel) rfl rfl hw hd kk
theorem qm_set0_10 (E : qm_E) (σ : qm_M) (id : Nat) (x : Int32) : (qm_fs E σ 0 id).set 10 (.int x) = qm_fs E (qm_si σ id 10 x) 0 id := by simp [qm_fs, qm_si]
theorem qr_put0_10 {l : Launch} {E : qm_E} {d : Nat} {own : String} {cc : ByteArray} {nL : Nat} {pc : Nat} {lv : List (Nat × Value)} {st : List Value} {σ : qm_M} {r : Option Value × qm_M} {id idx : Nat} {x : Int32} (hkd : qm_kind id = 1) (hw : Cond.fieldLink own idx (TX2 10).1 (TX2 10).2.1 (TX2 10).2.2.1 ∈ qm_ws) (hd : decode cc pc = .ok (.putfield idx, 3)) (kk : qm_Wp l E d own cc nL (pc + 3) lv st (qm_si σ id 10 x) r) : qm_Wp l E d own cc nL pc lv (.int x :: .ref (qm_a E id) :: st) σ r := qr_putG (c := 0) (ty := .int) hkd (by decide) rfl qm_in0 tyX2_ok nmX2 (by decide) (by simp [qm_fs]) (qm_set0_10 E σ id x) (fun i hi => qm_si_ne σ _ x hi) (fun _ _ => rfl) rfl (by decide +kernel) rfl rfl hw hd kk
theorem qm_set0_11 (E : qm_E) (σ : qm_M) (id : Nat) (x : Int32) : (qm_fs E σ 0 id).set 11 (.int x) = qm_fs E (qm_si σ id 11 x) 0 id := by simp [qm_fs, qm_si]
theorem qr_put0_11 {l : Launch} {E : qm_E} {d : Nat} {own : String} {cc : ByteArray} {nL : Nat} {pc : Nat} {lv : List (Nat × Value)} {st : List Value} {σ : qm_M} {r : Option Value × qm_M} {id idx : Nat} {x : Int32} (hkd : qm_kind id = 1) (hw : Cond.fieldLink own idx (TX2 11).1 (TX2 11).2.1 (TX2 11).2.2.1 ∈ qm_ws) (hd : decode cc pc = .ok (.putfield idx, 3)) (kk : qm_Wp l E d own cc nL (pc + 3) lv st (qm_si σ id 11 x) r) : qm_Wp l E d own cc nL pc lv (.int x :: .ref (qm_a E id) :: st) σ r := qr_putG (c := 0) (ty := .int) hkd (by decide) rfl qm_in0 tyX2_ok nmX2 (by decide) (by simp [qm_fs]) (qm_set0_11 E σ id x) (fun i hi => qm_si_ne σ _ x hi) (fun _ _ => rfl) rfl (by decide +kernel) rfl rfl hw hd kk
theorem qm_set0_12 (E : qm_E) (σ : qm_M) (id : Nat) (x : Int64) : (qm_fs E σ 0 id).set 12 (.long x) = qm_fs E (qm_sl σ id 12 x) 0 id := by simp [qm_fs, qm_sl]
theorem qr_put0_12 {l : Launch} {E : qm_E} {d : Nat} {own : String} {cc : ByteArray} {nL : Nat} {pc : Nat} {lv : List (Nat × Value)} {st : List Value} {σ : qm_M} {r : Option Value × qm_M} {id idx : Nat} {x : Int64} (hkd : qm_kind id = 1) (hw : Cond.fieldLink own idx (TX2 12).1 (TX2 12).2.1 (TX2 12).2.2.1 ∈ qm_ws) (hd : decode cc pc = .ok (.putfield idx, 3)) (kk : qm_Wp l E d own cc nL (pc + 3) lv st (qm_sl σ id 12 x) r) : qm_Wp l E d own cc nL pc lv (.long x :: .ref (qm_a E id) :: st) σ r := qr_putG (c := 0) (ty := .long) hkd (by decide) rfl qm_in0 tyX2_ok nmX2 (by decide) (by simp [qm_fs]) (qm_set0_12 E σ id x) (fun _ _ => rfl) (fun i hi => qm_sl_ne σ _ x hi) rfl (by decide +kernel) rfl rfl hw hd kk
theorem qm_set0_13 (E : qm_E) (σ : qm_M) (id : Nat) (x : Int64) : (qm_fs E σ 0 id).set 13 (.long x) = qm_fs E (qm_sl σ id 13 x) 0 id := by simp [qm_fs, qm_sl]
theorem qr_put0_13 {l : Launch} {E : qm_E} {d : Nat} {own : String} {cc : ByteArray} {nL : Nat} {pc : Nat} {lv : List (Nat × Value)} {st : List Value} {σ : qm_M} {r : Option Value × qm_M} {id idx : Nat} {x : Int64} (hkd : qm_kind id = 1) (hw : Cond.fieldLink own idx (TX2 13).1 (TX2 13).2.1 (TX2 13).2.2.1 ∈ qm_ws) (hd : decode cc pc = .ok (.putfield idx, 3)) (kk : qm_Wp l E d own cc nL (pc + 3) lv st (qm_sl σ id 13 x) r) : qm_Wp l E d own cc nL pc lv (.long x :: .ref (qm_a E id) :: st) σ r := qr_putG (c := 0) (ty := .long) hkd (by decide) rfl qm_in0 tyX2_ok nmX2 (by decide) (by simp [qm_fs]) (qm_set0_13 E σ id x) (fun _ _ => rfl) (fun i hi => qm_sl_ne σ _ x hi) rfl (by decide +kernel) rfl rfl hw hd kk
theorem qr_get1 {l : Launch} {E : qm_E} {d : Nat} {own : String} {cc : ByteArray} {nL : Nat} {pc : Nat} {lv : List (Nat × Value)} {st : List Value} {σ : qm_M} {r : Option Value × qm_M} {id k idx : Nat} {v : Value} (hkd : qm_kind id = 2) (hk : k < 10) (hv : (qm_fs E σ 1 id)[k]? = some v) (hw : Cond.fieldLink own idx (TX3 k).1 (TX3 k).2.1 (TX3 k).2.2.1 ∈ qm_ws) (hd : decode cc pc = .ok (.getfield idx, 3)) (kk : qm_Wp l E d own cc nL (pc + 3) lv (v :: st) σ r) : qm_Wp l E d own cc nL pc lv (.ref (qm_a E id) :: st) σ r := qr_getG (c := 1) hkd (by decide) rfl qm_in1 hk hv hw hd kk
theorem qm_set1_1 (E : qm_E) (σ : qm_M) (id : Nat) (x : Int32) : (qm_fs E σ 1 id).set 1 (.int x) = qm_fs E (qm_si σ id 1 x) 1 id := by simp [qm_fs, qm_si]
theorem qr_put1_1 {l : Launch} {E : qm_E} {d : Nat} {own : String} {cc : ByteArray} {nL : Nat} {pc : Nat} {lv : List (Nat × Value)} {st : List Value} {σ : qm_M} {r : Option Value × qm_M} {id idx : Nat} {x : Int32} (hkd : qm_kind id = 2) (hw : Cond.fieldLink own idx (TX3 1).1 (TX3 1).2.1 (TX3 1).2.2.1 ∈ qm_ws) (hd : decode cc pc = .ok (.putfield idx, 3)) (kk : qm_Wp l E d own cc nL (pc + 3) lv st (qm_si σ id 1 x) r) : qm_Wp l E d own cc nL pc lv (.int x :: .ref (qm_a E id) :: st) σ r := qr_putG (c := 1) (ty := .int) hkd (by decide) rfl qm_in1 tyX3_ok nmX3 (by decide) (by simp [qm_fs]) (qm_set1_1 E σ id x) (fun i hi => qm_si_ne σ _ x hi) (fun _ _ => rfl) rfl (by decide +kernel) rfl rfl hw hd kk
theorem qm_set1_2 (E : qm_E) (σ : qm_M) (id : Nat) (x : Int32) : (qm_fs E σ 1 id).set 2 (.int x) = qm_fs E (qm_si σ id 2 x) 1 id := by simp [qm_fs, qm_si]
theorem qr_put1_2 {l : Launch} {E : qm_E} {d : Nat} {own : String} {cc : ByteArray} {nL : Nat} {pc : Nat} {lv : List (Nat × Value)} {st : List Value} {σ : qm_M} {r : Option Value × qm_M} {id idx : Nat} {x : Int32} (hkd : qm_kind id = 2) (hw : Cond.fieldLink own idx (TX3 2).1 (TX3 2).2.1 (TX3 2).2.2.1 ∈ qm_ws) (hd : decode cc pc = .ok (.putfield idx, 3)) (kk : qm_Wp l E d own cc nL (pc + 3) lv st (qm_si σ id 2 x) r) : qm_Wp l E d own cc nL pc lv (.int x :: .ref (qm_a E id) :: st) σ r := qr_putG (c := 1) (ty := .int) hkd (by decide) rfl qm_in1 tyX3_ok nmX3 (by decide) (by simp [qm_fs]) (qm_set1_2 E σ id x) (fun i hi => qm_si_ne σ _ x hi) (fun _ _ => rfl) rfl (by decide +kernel) rfl rfl hw hd kk
theorem qm_set1_3 (E : qm_E) (σ : qm_M) (id : Nat) (x : Int32) : (qm_fs E σ 1 id).set 3 (.int x) = qm_fs E (qm_si σ id 3 x) 1 id := by simp [qm_fs, qm_si]
theorem qr_put1_3 {l : Launch} {E : qm_E} {d : Nat} {own : String} {cc : ByteArray} {nL : Nat} {pc : Nat} {lv : List (Nat × Value)} {st : List Value} {σ : qm_M} {r : Option Value × qm_M} {id idx : Nat} {x : Int32} (hkd : qm_kind id = 2) (hw : Cond.fieldLink own idx (TX3 3).1 (TX3 3).2.1 (TX3 3).2.2.1 ∈ qm_ws) (hd : decode cc pc = .ok (.putfield idx, 3)) (kk : qm_Wp l E d own cc nL (pc + 3) lv st (qm_si σ id 3 x) r) : qm_Wp l E d own cc nL pc lv (.int x :: .ref (qm_a E id) :: st) σ r := qr_putG (c := 1) (ty := .int) hkd (by decide) rfl qm_in1 tyX3_ok nmX3 (by decide) (by simp [qm_fs]) (qm_set1_3 E σ id x) (fun i hi => qm_si_ne σ _ x hi) (fun _ _ => rfl) rfl (by decide +kernel) rfl rfl hw hd kk
theorem qm_set1_4 (E : qm_E) (σ : qm_M) (id : Nat) (x : Int32) : (qm_fs E σ 1 id).set 4 (.int x) = qm_fs E (qm_si σ id 4 x) 1 id := by simp [qm_fs, qm_si]
theorem qr_put1_4 {l : Launch} {E : qm_E} {d : Nat} {own : String} {cc : ByteArray} {nL : Nat} {pc : Nat} {lv : List (Nat × Value)} {st : List Value} {σ : qm_M} {r : Option Value × qm_M} {id idx : Nat} {x : Int32} (hkd : qm_kind id = 2) (hw : Cond.fieldLink own idx (TX3 4).1 (TX3 4).2.1 (TX3 4).2.2.1 ∈ qm_ws) (hd : decode cc pc = .ok (.putfield idx, 3)) (kk : qm_Wp l E d own cc nL (pc + 3) lv st (qm_si σ id 4 x) r) : qm_Wp l E d own cc nL pc lv (.int x :: .ref (qm_a E id) :: st) σ r := qr_putG (c := 1) (ty := .int) hkd (by decide) rfl qm_in1 tyX3_ok nmX3 (by decide) (by simp [qm_fs]) (qm_set1_4 E σ id x) (fun i hi => qm_si_ne σ _ x hi) (fun _ _ => rfl) rfl (by decide +kernel) rfl rfl hw hd kk
theorem qm_set1_5 (E : qm_E) (σ : qm_M) (id : Nat) (x : Int32) : (qm_fs E σ 1 id).set 5 (.int x) = qm_fs E (qm_si σ id 5 x) 1 id := by simp [qm_fs, qm_si]
theorem qr_put1_5 {l : Launch} {E : qm_E} {d : Nat} {own : String} {cc : ByteArray} {nL : Nat} {pc : Nat} {lv : List (Nat × Value)} {st : List Value} {σ : qm_M} {r : Option Value × qm_M} {id idx : Nat} {x : Int32} (hkd : qm_kind id = 2) (hw : Cond.fieldLink own idx (TX3 5).1 (TX3 5).2.1 (TX3 5).2.2.1 ∈ qm_ws) (hd : decode cc pc = .ok (.putfield idx, 3)) (kk : qm_Wp l E d own cc nL (pc + 3) lv st (qm_si σ id 5 x) r) : qm_Wp l E d own cc nL pc lv (.int x :: .ref (qm_a E id) :: st) σ r := qr_putG (c := 1) (ty := .int) hkd (by decide) rfl qm_in1 tyX3_ok nmX3 (by decide) (by simp [qm_fs]) (qm_set1_5 E σ id x) (fun i hi => qm_si_ne σ _ x hi) (fun _ _ => rfl) rfl (by decide +kernel) rfl rfl hw hd kk
theorem qm_set1_6 (E : qm_E) (σ : qm_M) (id : Nat) (x : Int32) : (qm_fs E σ 1 id).set 6 (.int x) = qm_fs E (qm_si σ id 6 x) 1 id := by simp [qm_fs, qm_si]
theorem qr_put1_6 {l : Launch} {E : qm_E} {d : Nat} {own : String} {cc : ByteArray} {nL : Nat} {pc : Nat} {lv : List (Nat × Value)} {st : List Value} {σ : qm_M} {r : Option Value × qm_M} {id idx : Nat} {x : Int32} (hkd : qm_kind id = 2) (hw : Cond.fieldLink own idx (TX3 6).1 (TX3 6).2.1 (TX3 6).2.2.1 ∈ qm_ws) (hd : decode cc pc = .ok (.putfield idx, 3)) (kk : qm_Wp l E d own cc nL (pc + 3) lv st (qm_si σ id 6 x) r) : qm_Wp l E d own cc nL pc lv (.int x :: .ref (qm_a E id) :: st) σ r := qr_putG (c := 1) (ty := .int) hkd (by decide) rfl qm_in1 tyX3_ok nmX3 (by decide) (by simp [qm_fs]) (qm_set1_6 E σ id x) (fun i hi => qm_si_ne σ _ x hi) (fun _ _ => rfl) rfl (by decide +kernel) rfl rfl hw hd kk
theorem qm_set1_7 (E : qm_E) (σ : qm_M) (id : Nat) (x : Int32) : (qm_fs E σ 1 id).set 7 (.int x) = qm_fs E (qm_si σ id 7 x) 1 id := by simp [qm_fs, qm_si]
theorem qr_put1_7 {l : Launch} {E : qm_E} {d : Nat} {own : String} {cc : ByteArray} {nL : Nat} {pc : Nat} {lv : List (Nat × Value)} {st : List Value} {σ : qm_M} {r : Option Value × qm_M} {id idx : Nat} {x : Int32} (hkd : qm_kind id = 2) (hw : Cond.fieldLink own idx (TX3 7).1 (TX3 7).2.1 (TX3 7).2.2.1 ∈ qm_ws) (hd : decode cc pc = .ok (.putfield idx, 3)) (kk : qm_Wp l E d own cc nL (pc + 3) lv st (qm_si σ id 7 x) r) : qm_Wp l E d own cc nL pc lv (.int x :: .ref (qm_a E id) :: st) σ r := qr_putG (c := 1) (ty := .int) hkd (by decide) rfl qm_in1 tyX3_ok nmX3 (by decide) (by simp [qm_fs]) (qm_set1_7 E σ id x) (fun i hi => qm_si_ne σ _ x hi) (fun _ _ => rfl) rfl (by decide +kernel) rfl rfl hw hd kk
theorem qm_set1_8 (E : qm_E) (σ : qm_M) (id : Nat) (x : Int32) : (qm_fs E σ 1 id).set 8 (.int x) = qm_fs E (qm_si σ id 8 x) 1 id := by simp [qm_fs, qm_si]
theorem qr_put1_8 {l : Launch} {E : qm_E} {d : Nat} {own : String} {cc : ByteArray} {nL : Nat} {pc : Nat} {lv : List (Nat × Value)} {st : List Value} {σ : qm_M} {r : Option Value × qm_M} {id idx : Nat} {x : Int32} (hkd : qm_kind id = 2) (hw : Cond.fieldLink own idx (TX3 8).1 (TX3 8).2.1 (TX3 8).2.2.1 ∈ qm_ws) (hd : decode cc pc = .ok (.putfield idx, 3)) (kk : qm_Wp l E d own cc nL (pc + 3) lv st (qm_si σ id 8 x) r) : qm_Wp l E d own cc nL pc lv (.int x :: .ref (qm_a E id) :: st) σ r := qr_putG (c := 1) (ty := .int) hkd (by decide) rfl qm_in1 tyX3_ok nmX3 (by decide) (by simp [qm_fs]) (qm_set1_8 E σ id x) (fun i hi => qm_si_ne σ _ x hi) (fun _ _ => rfl) rfl (by decide +kernel) rfl rfl hw hd kk
theorem qm_set1_9 (E : qm_E) (σ : qm_M) (id : Nat) (x : Int32) : (qm_fs E σ 1 id).set 9 (.int x) = qm_fs E (qm_si σ id 9 x) 1 id := by simp [qm_fs, qm_si]
theorem qr_put1_9 {l : Launch} {E : qm_E} {d : Nat} {own : String} {cc : ByteArray} {nL : Nat} {pc : Nat} {lv : List (Nat × Value)} {st : List Value} {σ : qm_M} {r : Option Value × qm_M} {id idx : Nat} {x : Int32} (hkd : qm_kind id = 2) (hw : Cond.fieldLink own idx (TX3 9).1 (TX3 9).2.1 (TX3 9).2.2.1 ∈ qm_ws) (hd : decode cc pc = .ok (.putfield idx, 3)) (kk : qm_Wp l E d own cc nL (pc + 3) lv st (qm_si σ id 9 x) r) : qm_Wp l E d own cc nL pc lv (.int x :: .ref (qm_a E id) :: st) σ r := qr_putG (c := 1) (ty := .int) hkd (by decide) rfl qm_in1 tyX3_ok nmX3 (by decide) (by simp [qm_fs]) (qm_set1_9 E σ id x) (fun i hi => qm_si_ne σ _ x hi) (fun _ _ => rfl) rfl (by decide +kernel) rfl rfl hw hd kk
theorem qr_get2 {l : Launch} {E : qm_E} {d : Nat} {own : String} {cc : ByteArray} {nL : Nat} {pc : Nat} {lv : List (Nat × Value)} {st : List Value} {σ : qm_M} {r : Option Value × qm_M} {id k idx : Nat} {v : Value} (hkd : qm_kind id = 3) (hk : k < 2) (hv : (qm_fs E σ 2 id)[k]? = some v) (hw : Cond.fieldLink own idx (TX4 k).1 (TX4 k).2.1 (TX4 k).2.2.1 ∈ qm_ws) (hd : decode cc pc = .ok (.getfield idx, 3)) (kk : qm_Wp l E d own cc nL (pc + 3) lv (v :: st) σ r) : qm_Wp l E d own cc nL pc lv (.ref (qm_a E id) :: st) σ r := qr_getG (c := 2) hkd (by decide) rfl qm_in2 hk hv hw hd kk
theorem qm_set2_1 (E : qm_E) (σ : qm_M) (id : Nat) (x : Int32) : (qm_fs E σ 2 id).set 1 (.int x) = qm_fs E (qm_si σ id 1 x) 2 id := by simp [qm_fs, qm_si]
theorem qr_put2_1 {l : Launch} {E : qm_E} {d : Nat} {own : String} {cc : ByteArray} {nL : Nat} {pc : Nat} {lv : List (Nat × Value)} {st : List Value} {σ : qm_M} {r : Option Value × qm_M} {id idx : Nat} {x : Int32} (hkd : qm_kind id = 3) (hw : Cond.fieldLink own idx (TX4 1).1 (TX4 1).2.1 (TX4 1).2.2.1 ∈ qm_ws) (hd : decode cc pc = .ok (.putfield idx, 3)) (kk : qm_Wp l E d own cc nL (pc + 3) lv st (qm_si σ id 1 x) r) : qm_Wp l E d own cc nL pc lv (.int x :: .ref (qm_a E id) :: st) σ r := qr_putG (c := 2) (ty := .int) hkd (by decide) rfl qm_in2 tyX4_ok nmX4 (by decide) (by simp [qm_fs]) (qm_set2_1 E σ id x) (fun i hi => qm_si_ne σ _ x hi) (fun _ _ => rfl) rfl (by decide +kernel) rfl rfl hw hd kk
theorem qr_get3 {l : Launch} {E : qm_E} {d : Nat} {own : String} {cc : ByteArray} {nL : Nat} {pc : Nat} {lv : List (Nat × Value)} {st : List Value} {σ : qm_M} {r : Option Value × qm_M} {id k idx : Nat} {v : Value} (hkd : qm_kind id = 4) (hk : k < 10) (hv : (qm_fs E σ 3 id)[k]? = some v) (hw : Cond.fieldLink own idx (TX5 k).1 (TX5 k).2.1 (TX5 k).2.2.1 ∈ qm_ws) (hd : decode cc pc = .ok (.getfield idx, 3)) (kk : qm_Wp l E d own cc nL (pc + 3) lv (v :: st) σ r) : qm_Wp l E d own cc nL pc lv (.ref (qm_a E id) :: st) σ r := qr_getG (c := 3) hkd (by decide) rfl qm_in3 hk hv hw hd kk
theorem qm_set3_1 (E : qm_E) (σ : qm_M) (id : Nat) (x : Int32) : (qm_fs E σ 3 id).set 1 (.int x) = qm_fs E (qm_si σ id 1 x) 3 id := by simp [qm_fs, qm_si]
theorem qr_put3_1 {l : Launch} {E : qm_E} {d : Nat} {own : String} {cc : ByteArray} {nL : Nat} {pc : Nat} {lv : List (Nat × Value)} {st : List Value} {σ : qm_M} {r : Option Value × qm_M} {id idx : Nat} {x : Int32} (hkd : qm_kind id = 4) (hw : Cond.fieldLink own idx (TX5 1).1 (TX5 1).2.1 (TX5 1).2.2.1 ∈ qm_ws) (hd : decode cc pc = .ok (.putfield idx, 3)) (kk : qm_Wp l E d own cc nL (pc + 3) lv st (qm_si σ id 1 x) r) : qm_Wp l E d own cc nL pc lv (.int x :: .ref (qm_a E id) :: st) σ r := qr_putG (c := 3) (ty := .int) hkd (by decide) rfl qm_in3 tyX5_ok nmX5 (by decide) (by simp [qm_fs]) (qm_set3_1 E σ id x) (fun i hi => qm_si_ne σ _ x hi) (fun _ _ => rfl) rfl (by decide +kernel) rfl rfl hw hd kk
theorem qm_set3_5 (E : qm_E) (σ : qm_M) (id : Nat) (x : Int32) : (qm_fs E σ 3 id).set 5 (.int x) = qm_fs E (qm_si σ id 5 x) 3 id := by simp [qm_fs, qm_si]
theorem qr_put3_5 {l : Launch} {E : qm_E} {d : Nat} {own : String} {cc : ByteArray} {nL : Nat} {pc : Nat} {lv : List (Nat × Value)} {st : List Value} {σ : qm_M} {r : Option Value × qm_M} {id idx : Nat} {x : Int32} (hkd : qm_kind id = 4) (hw : Cond.fieldLink own idx (TX5 5).1 (TX5 5).2.1 (TX5 5).2.2.1 ∈ qm_ws) (hd : decode cc pc = .ok (.putfield idx, 3)) (kk : qm_Wp l E d own cc nL (pc + 3) lv st (qm_si σ id 5 x) r) : qm_Wp l E d own cc nL pc lv (.int x :: .ref (qm_a E id) :: st) σ r := qr_putG (c := 3) (ty := .int) hkd (by decide) rfl qm_in3 tyX5_ok nmX5 (by decide) (by simp [qm_fs]) (qm_set3_5 E σ id x) (fun i hi => qm_si_ne σ _ x hi) (fun _ _ => rfl) rfl (by decide +kernel) rfl rfl hw hd kk
theorem qm_set3_7 (E : qm_E) (σ : qm_M) (id : Nat) (x : Int32) : (qm_fs E σ 3 id).set 7 (.int x) = qm_fs E (qm_si σ id 7 x) 3 id := by simp [qm_fs, qm_si]
theorem qr_put3_7 {l : Launch} {E : qm_E} {d : Nat} {own : String} {cc : ByteArray} {nL : Nat} {pc : Nat} {lv : List (Nat × Value)} {st : List Value} {σ : qm_M} {r : Option Value × qm_M} {id idx : Nat} {x : Int32} (hkd : qm_kind id = 4) (hw : Cond.fieldLink own idx (TX5 7).1 (TX5 7).2.1 (TX5 7).2.2.1 ∈ qm_ws) (hd : decode cc pc = .ok (.putfield idx, 3)) (kk : qm_Wp l E d own cc nL (pc + 3) lv st (qm_si σ id 7 x) r) : qm_Wp l E d own cc nL pc lv (.int x :: .ref (qm_a E id) :: st) σ r := qr_putG (c := 3) (ty := .int) hkd (by decide) rfl qm_in3 tyX5_ok nmX5 (by decide) (by simp [qm_fs]) (qm_set3_7 E σ id x) (fun i hi => qm_si_ne σ _ x hi) (fun _ _ => rfl) rfl (by decide +kernel) rfl rfl hw hd kk
theorem qm_set3_8 (E : qm_E) (σ : qm_M) (id : Nat) (x : Int32) : (qm_fs E σ 3 id).set 8 (.int x) = qm_fs E (qm_si σ id 8 x) 3 id := by simp [qm_fs, qm_si]
theorem qr_put3_8 {l : Launch} {E : qm_E} {d : Nat} {own : String} {cc : ByteArray} {nL : Nat} {pc : Nat} {lv : List (Nat × Value)} {st : List Value} {σ : qm_M} {r : Option Value × qm_M} {id idx : Nat} {x : Int32} (hkd : qm_kind id = 4) (hw : Cond.fieldLink own idx (TX5 8).1 (TX5 8).2.1 (TX5 8).2.2.1 ∈ qm_ws) (hd : decode cc pc = .ok (.putfield idx, 3)) (kk : qm_Wp l E d own cc nL (pc + 3) lv st (qm_si σ id 8 x) r) : qm_Wp l E d own cc nL pc lv (.int x :: .ref (qm_a E id) :: st) σ r := qr_putG (c := 3) (ty := .int) hkd (by decide) rfl qm_in3 tyX5_ok nmX5 (by decide) (by simp [qm_fs]) (qm_set3_8 E σ id x) (fun i hi => qm_si_ne σ _ x hi) (fun _ _ => rfl) rfl (by decide +kernel) rfl rfl hw hd kk
theorem qm_set3_9 (E : qm_E) (σ : qm_M) (id : Nat) (x : Int32) : (qm_fs E σ 3 id).set 9 (.int x) = qm_fs E (qm_si σ id 9 x) 3 id := by simp [qm_fs, qm_si]
theorem qr_put3_9 {l : Launch} {E : qm_E} {d : Nat} {own : String} {cc : ByteArray} {nL : Nat} {pc : Nat} {lv : List (Nat × Value)} {st : List Value} {σ : qm_M} {r : Option Value × qm_M} {id idx : Nat} {x : Int32} (hkd : qm_kind id = 4) (hw : Cond.fieldLink own idx (TX5 9).1 (TX5 9).2.1 (TX5 9).2.2.1 ∈ qm_ws) (hd : decode cc pc = .ok (.putfield idx, 3)) (kk : qm_Wp l E d own cc nL (pc + 3) lv st (qm_si σ id 9 x) r) : qm_Wp l E d own cc nL pc lv (.int x :: .ref (qm_a E id) :: st) σ r := qr_putG (c := 3) (ty := .int) hkd (by decide) rfl qm_in3 tyX5_ok nmX5 (by decide) (by simp [qm_fs]) (qm_set3_9 E σ id x) (fun i hi => qm_si_ne σ _ x hi) (fun _ _ => rfl) rfl (by decide +kernel) rfl rfl hw hd kk
theorem qr_get4 {l : Launch} {E : qm_E} {d : Nat} {own : String} {cc : ByteArray} {nL : Nat} {pc : Nat} {lv : List (Nat × Value)} {st : List Value} {σ : qm_M} {r : Option Value × qm_M} {id k idx : Nat} {v : Value} (hkd : qm_kind id = 5) (hk : k < 9) (hv : (qm_fs E σ 4 id)[k]? = some v) (hw : Cond.fieldLink own idx (TX6 k).1 (TX6 k).2.1 (TX6 k).2.2.1 ∈ qm_ws) (hd : decode cc pc = .ok (.getfield idx, 3)) (kk : qm_Wp l E d own cc nL (pc + 3) lv (v :: st) σ r) : qm_Wp l E d own cc nL pc lv (.ref (qm_a E id) :: st) σ r := qr_getG (c := 4) hkd (by decide) rfl qm_in4 hk hv hw hd kk
theorem qm_set4_2 (E : qm_E) (σ : qm_M) (id : Nat) (x : Int32) : (qm_fs E σ 4 id).set 2 (.int x) = qm_fs E (qm_si σ id 2 x) 4 id := by simp [qm_fs, qm_si]
theorem qr_put4_2 {l : Launch} {E : qm_E} {d : Nat} {own : String} {cc : ByteArray} {nL : Nat} {pc : Nat} {lv : List (Nat × Value)} {st : List Value} {σ : qm_M} {r : Option Value × qm_M} {id idx : Nat} {x : Int32} (hkd : qm_kind id = 5) (hw : Cond.fieldLink own idx (TX6 2).1 (TX6 2).2.1 (TX6 2).2.2.1 ∈ qm_ws) (hd : decode cc pc = .ok (.putfield idx, 3)) (kk : qm_Wp l E d own cc nL (pc + 3) lv st (qm_si σ id 2 x) r) : qm_Wp l E d own cc nL pc lv (.int x :: .ref (qm_a E id) :: st) σ r := qr_putG (c := 4) (ty := .int) hkd (by decide) rfl qm_in4 tyX6_ok nmX6 (by decide) (by simp [qm_fs]) (qm_set4_2 E σ id x) (fun i hi => qm_si_ne σ _ x hi) (fun _ _ => rfl) rfl (by decide +kernel) rfl rfl hw hd kk
theorem qm_set4_3 (E : qm_E) (σ : qm_M) (id : Nat) (x : Int32) : (qm_fs E σ 4 id).set 3 (.int x) = qm_fs E (qm_si σ id 3 x) 4 id := by simp [qm_fs, qm_si]
theorem qr_put4_3 {l : Launch} {E : qm_E} {d : Nat} {own : String} {cc : ByteArray} {nL : Nat} {pc : Nat} {lv : List (Nat × Value)} {st : List Value} {σ : qm_M} {r : Option Value × qm_M} {id idx : Nat} {x : Int32} (hkd : qm_kind id = 5) (hw : Cond.fieldLink own idx (TX6 3).1 (TX6 3).2.1 (TX6 3).2.2.1 ∈ qm_ws) (hd : decode cc pc = .ok (.putfield idx, 3)) (kk : qm_Wp l E d own cc nL (pc + 3) lv st (qm_si σ id 3 x) r) : qm_Wp l E d own cc nL pc lv (.int x :: .ref (qm_a E id) :: st) σ r := qr_putG (c := 4) (ty := .int) hkd (by decide) rfl qm_in4 tyX6_ok nmX6 (by decide) (by simp [qm_fs]) (qm_set4_3 E σ id x) (fun i hi => qm_si_ne σ _ x hi) (fun _ _ => rfl) rfl (by decide +kernel) rfl rfl hw hd kk
theorem qm_set4_6 (E : qm_E) (σ : qm_M) (id : Nat) (x : Int32) : (qm_fs E σ 4 id).set 6 (.int x) = qm_fs E (qm_si σ id 6 x) 4 id := by simp [qm_fs, qm_si]
theorem qr_put4_6 {l : Launch} {E : qm_E} {d : Nat} {own : String} {cc : ByteArray} {nL : Nat} {pc : Nat} {lv : List (Nat × Value)} {st : List Value} {σ : qm_M} {r : Option Value × qm_M} {id idx : Nat} {x : Int32} (hkd : qm_kind id = 5) (hw : Cond.fieldLink own idx (TX6 6).1 (TX6 6).2.1 (TX6 6).2.2.1 ∈ qm_ws) (hd : decode cc pc = .ok (.putfield idx, 3)) (kk : qm_Wp l E d own cc nL (pc + 3) lv st (qm_si σ id 6 x) r) : qm_Wp l E d own cc nL pc lv (.int x :: .ref (qm_a E id) :: st) σ r := qr_putG (c := 4) (ty := .int) hkd (by decide) rfl qm_in4 tyX6_ok nmX6 (by decide) (by simp [qm_fs]) (qm_set4_6 E σ id x) (fun i hi => qm_si_ne σ _ x hi) (fun _ _ => rfl) rfl (by decide +kernel) rfl rfl hw hd kk
theorem qm_set4_7 (E : qm_E) (σ : qm_M) (id : Nat) (x : Int32) : (qm_fs E σ 4 id).set 7 (.int x) = qm_fs E (qm_si σ id 7 x) 4 id := by simp [qm_fs, qm_si]
theorem qr_put4_7 {l : Launch} {E : qm_E} {d : Nat} {own : String} {cc : ByteArray} {nL : Nat} {pc : Nat} {lv : List (Nat × Value)} {st : List Value} {σ : qm_M} {r : Option Value × qm_M} {id idx : Nat} {x : Int32} (hkd : qm_kind id = 5) (hw : Cond.fieldLink own idx (TX6 7).1 (TX6 7).2.1 (TX6 7).2.2.1 ∈ qm_ws) (hd : decode cc pc = .ok (.putfield idx, 3)) (kk : qm_Wp l E d own cc nL (pc + 3) lv st (qm_si σ id 7 x) r) : qm_Wp l E d own cc nL pc lv (.int x :: .ref (qm_a E id) :: st) σ r := qr_putG (c := 4) (ty := .int) hkd (by decide) rfl qm_in4 tyX6_ok nmX6 (by decide) (by simp [qm_fs]) (qm_set4_7 E σ id x) (fun i hi => qm_si_ne σ _ x hi) (fun _ _ => rfl) rfl (by decide +kernel) rfl rfl hw hd kk
theorem qm_set4_8 (E : qm_E) (σ : qm_M) (id : Nat) (x : Int32) : (qm_fs E σ 4 id).set 8 (.int x) = qm_fs E (qm_si σ id 8 x) 4 id := by simp [qm_fs, qm_si]
theorem qr_put4_8 {l : Launch} {E : qm_E} {d : Nat} {own : String} {cc : ByteArray} {nL : Nat} {pc : Nat} {lv : List (Nat × Value)} {st : List Value} {σ : qm_M} {r : Option Value × qm_M} {id idx : Nat} {x : Int32} (hkd : qm_kind id = 5) (hw : Cond.fieldLink own idx (TX6 8).1 (TX6 8).2.1 (TX6 8).2.2.1 ∈ qm_ws) (hd : decode cc pc = .ok (.putfield idx, 3)) (kk : qm_Wp l E d own cc nL (pc + 3) lv st (qm_si σ id 8 x) r) : qm_Wp l E d own cc nL pc lv (.int x :: .ref (qm_a E id) :: st) σ r := qr_putG (c := 4) (ty := .int) hkd (by decide) rfl qm_in4 tyX6_ok nmX6 (by decide) (by simp [qm_fs]) (qm_set4_8 E σ id x) (fun i hi => qm_si_ne σ _ x hi) (fun _ _ => rfl) rfl (by decide +kernel) rfl rfl hw hd kk
theorem qr_get5 {l : Launch} {E : qm_E} {d : Nat} {own : String} {cc : ByteArray} {nL : Nat} {pc : Nat} {lv : List (Nat × Value)} {st : List Value} {σ : qm_M} {r : Option Value × qm_M} {id k idx : Nat} {v : Value} (hkd : qm_kind id = 6) (hk : k < 17) (hv : (qm_fs E σ 5 id)[k]? = some v) (hw : Cond.fieldLink own idx (TX7 k).1 (TX7 k).2.1 (TX7 k).2.2.1 ∈ qm_ws) (hd : decode cc pc = .ok (.getfield idx, 3)) (kk : qm_Wp l E d own cc nL (pc + 3) lv (v :: st) σ r) : qm_Wp l E d own cc nL pc lv (.ref (qm_a E id) :: st) σ r := qr_getG (c := 5) hkd (by decide) rfl qm_in5 hk hv hw hd kk
theorem qm_set5_2 (E : qm_E) (σ : qm_M) (id : Nat) (x : Int32) : (qm_fs E σ 5 id).set 2 (.int x) = qm_fs E (qm_si σ id 2 x) 5 id := by simp [qm_fs, qm_si]
theorem qr_put5_2 {l : Launch} {E : qm_E} {d : Nat} {own : String} {cc : ByteArray} {nL : Nat} {pc : Nat} {lv : List (Nat × Value)} {st : List Value} {σ : qm_M} {r : Option Value × qm_M} {id idx : Nat} {x : Int32} (hkd : qm_kind id = 6) (hw : Cond.fieldLink own idx (TX7 2).1 (TX7 2).2.1 (TX7 2).2.2.1 ∈ qm_ws) (hd : decode cc pc = .ok (.putfield idx, 3)) (kk : qm_Wp l E d own cc nL (pc + 3) lv st (qm_si σ id 2 x) r) : qm_Wp l E d own cc nL pc lv (.int x :: .ref (qm_a E id) :: st) σ r := qr_putG (c := 5) (ty := .int) hkd (by decide) rfl qm_in5 tyX7_ok nmX7 (by decide) (by simp [qm_fs]) (qm_set5_2 E σ id x) (fun i hi => qm_si_ne σ _ x hi) (fun _ _ => rfl) rfl (by decide +kernel) rfl rfl hw hd kk
theorem qm_set5_4 (E : qm_E) (σ : qm_M) (id : Nat) (x : Int64) : (qm_fs E σ 5 id).set 4 (.long x) = qm_fs E (qm_sl σ id 4 x) 5 id := by simp [qm_fs, qm_sl]
theorem qr_put5_4 {l : Launch} {E : qm_E} {d : Nat} {own : String} {cc : ByteArray} {nL : Nat} {pc : Nat} {lv : List (Nat × Value)} {st : List Value} {σ : qm_M} {r : Option Value × qm_M} {id idx : Nat} {x : Int64} (hkd : qm_kind id = 6) (hw : Cond.fieldLink own idx (TX7 4).1 (TX7 4).2.1 (TX7 4).2.2.1 ∈ qm_ws) (hd : decode cc pc = .ok (.putfield idx, 3)) (kk : qm_Wp l E d own cc nL (pc + 3) lv st (qm_sl σ id 4 x) r) : qm_Wp l E d own cc nL pc lv (.long x :: .ref (qm_a E id) :: st) σ r := qr_putG (c := 5) (ty := .long) hkd (by decide) rfl qm_in5 tyX7_ok nmX7 (by decide) (by simp [qm_fs]) (qm_set5_4 E σ id x) (fun _ _ => rfl) (fun i hi => qm_sl_ne σ _ x hi) rfl (by decide +kernel) rfl rfl hw hd kk
theorem qm_set5_5 (E : qm_E) (σ : qm_M) (id : Nat) (x : Int64) : (qm_fs E σ 5 id).set 5 (.long x) = qm_fs E (qm_sl σ id 5 x) 5 id := by simp [qm_fs, qm_sl]
theorem qr_put5_5 {l : Launch} {E : qm_E} {d : Nat} {own : String} {cc : ByteArray} {nL : Nat} {pc : Nat} {lv : List (Nat × Value)} {st : List Value} {σ : qm_M} {r : Option Value × qm_M} {id idx : Nat} {x : Int64} (hkd : qm_kind id = 6) (hw : Cond.fieldLink own idx (TX7 5).1 (TX7 5).2.1 (TX7 5).2.2.1 ∈ qm_ws) (hd : decode cc pc = .ok (.putfield idx, 3)) (kk : qm_Wp l E d own cc nL (pc + 3) lv st (qm_sl σ id 5 x) r) : qm_Wp l E d own cc nL pc lv (.long x :: .ref (qm_a E id) :: st) σ r := qr_putG (c := 5) (ty := .long) hkd (by decide) rfl qm_in5 tyX7_ok nmX7 (by decide) (by simp [qm_fs]) (qm_set5_5 E σ id x) (fun _ _ => rfl) (fun i hi => qm_sl_ne σ _ x hi) rfl (by decide +kernel) rfl rfl hw hd kk
theorem qm_set5_7 (E : qm_E) (σ : qm_M) (id : Nat) (x : Int32) : (qm_fs E σ 5 id).set 7 (.int x) = qm_fs E (qm_si σ id 7 x) 5 id := by simp [qm_fs, qm_si]
theorem qr_put5_7 {l : Launch} {E : qm_E} {d : Nat} {own : String} {cc : ByteArray} {nL : Nat} {pc : Nat} {lv : List (Nat × Value)} {st : List Value} {σ : qm_M} {r : Option Value × qm_M} {id idx : Nat} {x : Int32} (hkd : qm_kind id = 6) (hw : Cond.fieldLink own idx (TX7 7).1 (TX7 7).2.1 (TX7 7).2.2.1 ∈ qm_ws) (hd : decode cc pc = .ok (.putfield idx, 3)) (kk : qm_Wp l E d own cc nL (pc + 3) lv st (qm_si σ id 7 x) r) : qm_Wp l E d own cc nL pc lv (.int x :: .ref (qm_a E id) :: st) σ r := qr_putG (c := 5) (ty := .int) hkd (by decide) rfl qm_in5 tyX7_ok nmX7 (by decide) (by simp [qm_fs]) (qm_set5_7 E σ id x) (fun i hi => qm_si_ne σ _ x hi) (fun _ _ => rfl) rfl (by decide +kernel) rfl rfl hw hd kk
theorem qm_set5_8 (E : qm_E) (σ : qm_M) (id : Nat) (x : Int32) : (qm_fs E σ 5 id).set 8 (.int x) = qm_fs E (qm_si σ id 8 x) 5 id := by simp [qm_fs, qm_si]
theorem qr_put5_8 {l : Launch} {E : qm_E} {d : Nat} {own : String} {cc : ByteArray} {nL : Nat} {pc : Nat} {lv : List (Nat × Value)} {st : List Value} {σ : qm_M} {r : Option Value × qm_M} {id idx : Nat} {x : Int32} (hkd : qm_kind id = 6) (hw : Cond.fieldLink own idx (TX7 8).1 (TX7 8).2.1 (TX7 8).2.2.1 ∈ qm_ws) (hd : decode cc pc = .ok (.putfield idx, 3)) (kk : qm_Wp l E d own cc nL (pc + 3) lv st (qm_si σ id 8 x) r) : qm_Wp l E d own cc nL pc lv (.int x :: .ref (qm_a E id) :: st) σ r := qr_putG (c := 5) (ty := .int) hkd (by decide) rfl qm_in5 tyX7_ok nmX7 (by decide) (by simp [qm_fs]) (qm_set5_8 E σ id x) (fun i hi => qm_si_ne σ _ x hi) (fun _ _ => rfl) rfl (by decide +kernel) rfl rfl hw hd kk
theorem qm_set5_9 (E : qm_E) (σ : qm_M) (id : Nat) (x : Int32) : (qm_fs E σ 5 id).set 9 (.int x) = qm_fs E (qm_si σ id 9 x) 5 id := by simp [qm_fs, qm_si]
theorem qr_put5_9 {l : Launch} {E : qm_E} {d : Nat} {own : String} {cc : ByteArray} {nL : Nat} {pc : Nat} {lv : List (Nat × Value)} {st : List Value} {σ : qm_M} {r : Option Value × qm_M} {id idx : Nat} {x : Int32} (hkd : qm_kind id = 6) (hw : Cond.fieldLink own idx (TX7 9).1 (TX7 9).2.1 (TX7 9).2.2.1 ∈ qm_ws) (hd : decode cc pc = .ok (.putfield idx, 3)) (kk : qm_Wp l E d own cc nL (pc + 3) lv st (qm_si σ id 9 x) r) : qm_Wp l E d own cc nL pc lv (.int x :: .ref (qm_a E id) :: st) σ r := qr_putG (c := 5) (ty := .int) hkd (by decide) rfl qm_in5 tyX7_ok nmX7 (by decide) (by simp [qm_fs]) (qm_set5_9 E σ id x) (fun i hi => qm_si_ne σ _ x hi) (fun _ _ => rfl) rfl (by decide +kernel) rfl rfl hw hd kk
theorem qm_set5_10 (E : qm_E) (σ : qm_M) (id : Nat) (x : Int32) : (qm_fs E σ 5 id).set 10 (.int x) = qm_fs E (qm_si σ id 10 x) 5 id := by simp [qm_fs, qm_si]
theorem qr_put5_10 {l : Launch} {E : qm_E} {d : Nat} {own : String} {cc : ByteArray} {nL : Nat} {pc : Nat} {lv : List (Nat × Value)} {st : List Value} {σ : qm_M} {r : Option Value × qm_M} {id idx : Nat} {x : Int32} (hkd : qm_kind id = 6) (hw : Cond.fieldLink own idx (TX7 10).1 (TX7 10).2.1 (TX7 10).2.2.1 ∈ qm_ws) (hd : decode cc pc = .ok (.putfield idx, 3)) (kk : qm_Wp l E d own cc nL (pc + 3) lv st (qm_si σ id 10 x) r) : qm_Wp l E d own cc nL pc lv (.int x :: .ref (qm_a E id) :: st) σ r := qr_putG (c := 5) (ty := .int) hkd (by decide) rfl qm_in5 tyX7_ok nmX7 (by decide) (by simp [qm_fs]) (qm_set5_10 E σ id x) (fun i hi => qm_si_ne σ _ x hi) (fun _ _ => rfl) rfl (by decide +kernel) rfl rfl hw hd kk
theorem qm_set5_14 (E : qm_E) (σ : qm_M) (id : Nat) (x : Int32) : (qm_fs E σ 5 id).set 14 (.int x) = qm_fs E (qm_si σ id 14 x) 5 id := by simp [qm_fs, qm_si]
theorem qr_put5_14 {l : Launch} {E : qm_E} {d : Nat} {own : String} {cc : ByteArray} {nL : Nat} {pc : Nat} {lv : List (Nat × Value)} {st : List Value} {σ : qm_M} {r : Option Value × qm_M} {id idx : Nat} {x : Int32} (hkd : qm_kind id = 6) (hw : Cond.fieldLink own idx (TX7 14).1 (TX7 14).2.1 (TX7 14).2.2.1 ∈ qm_ws) (hd : decode cc pc = .ok (.putfield idx, 3)) (kk : qm_Wp l E d own cc nL (pc + 3) lv st (qm_si σ id 14 x) r) : qm_Wp l E d own cc nL pc lv (.int x :: .ref (qm_a E id) :: st) σ r := qr_putG (c := 5) (ty := .int) hkd (by decide) rfl qm_in5 tyX7_ok nmX7 (by decide) (by simp [qm_fs]) (qm_set5_14 E σ id x) (fun i hi => qm_si_ne σ _ x hi) (fun _ _ => rfl) rfl (by decide +kernel) rfl rfl hw hd kk
theorem qm_set5_15 (E : qm_E) (σ : qm_M) (id : Nat) (x : Int32) : (qm_fs E σ 5 id).set 15 (.int x) = qm_fs E (qm_si σ id 15 x) 5 id := by simp [qm_fs, qm_si]
theorem qr_put5_15 {l : Launch} {E : qm_E} {d : Nat} {own : String} {cc : ByteArray} {nL : Nat} {pc : Nat} {lv : List (Nat × Value)} {st : List Value} {σ : qm_M} {r : Option Value × qm_M} {id idx : Nat} {x : Int32} (hkd : qm_kind id = 6) (hw : Cond.fieldLink own idx (TX7 15).1 (TX7 15).2.1 (TX7 15).2.2.1 ∈ qm_ws) (hd : decode cc pc = .ok (.putfield idx, 3)) (kk : qm_Wp l E d own cc nL (pc + 3) lv st (qm_si σ id 15 x) r) : qm_Wp l E d own cc nL pc lv (.int x :: .ref (qm_a E id) :: st) σ r := qr_putG (c := 5) (ty := .int) hkd (by decide) rfl qm_in5 tyX7_ok nmX7 (by decide) (by simp [qm_fs]) (qm_set5_15 E σ id x) (fun i hi => qm_si_ne σ _ x hi) (fun _ _ => rfl) rfl (by decide +kernel) rfl rfl hw hd kk
theorem qm_set5_16 (E : qm_E) (σ : qm_M) (id : Nat) (x : Int32) : (qm_fs E σ 5 id).set 16 (.int x) = qm_fs E (qm_si σ id 16 x) 5 id := by simp [qm_fs, qm_si]
theorem qr_put5_16 {l : Launch} {E : qm_E} {d : Nat} {own : String} {cc : ByteArray} {nL : Nat} {pc : Nat} {lv : List (Nat × Value)} {st : List Value} {σ : qm_M} {r : Option Value × qm_M} {id idx : Nat} {x : Int32} (hkd : qm_kind id = 6) (hw : Cond.fieldLink own idx (TX7 16).1 (TX7 16).2.1 (TX7 16).2.2.1 ∈ qm_ws) (hd : decode cc pc = .ok (.putfield idx, 3)) (kk : qm_Wp l E d own cc nL (pc + 3) lv st (qm_si σ id 16 x) r) : qm_Wp l E d own cc nL pc lv (.int x :: .ref (qm_a E id) :: st) σ r := qr_putG (c := 5) (ty := .int) hkd (by decide) rfl qm_in5 tyX7_ok nmX7 (by decide) (by simp [qm_fs]) (qm_set5_16 E σ id x) (fun i hi => qm_si_ne σ _ x hi) (fun _ _ => rfl) rfl (by decide +kernel) rfl rfl hw hd kk
end
section
-- calls: the callee's contract, then on
section QMC
variable {l : Launch} {E : qm_E} {d : Nat} {own : String} {cc : ByteArray} {nL : Nat} {pc : Nat} {lv : List (Nat × Value)} {st st0 : List Value} {σ σ1 : qm_M} {r : Option Value × qm_M}
variable {d1 : Nat} {y : MethodName} {cc1 : ByteArray} {nL1 : Nat} {ret1 : Option FieldType} {As : List Value} {v1 : Option Value} {idx n : Nat}
theorem qm_blind {E : qm_E} {σ : qm_M} {As : List Value} : FrameBlind (va_Pc As (qm_W E σ)) := fun a U g mk h => ⟨h.1, h.2.1, h.2.2.1.call g mk a, qm_Z.moved (u := U) (U := U.calling g mk a) (Vm.Alike.refl U.vm) h.2.2.2⟩
theorem qm_pre {E : qm_E} {σ : qm_M} {As : List Value} {s : State} {H : Heap} {locs : List Loc} (hH : qm_H E σ H) (hK : qm_K E s) (hZ : qm_Z E s s.heap) (hS : va_S (qm_A E) s.heap H locs) : ∀ U : State, U.heap = H → s.WarmedH U.vm → va_Pc As (qm_W E σ) As.toArray U := by
  intro U hU hW
  refine ⟨rfl, by rw [hU]; exact hH, hK.warm hW, ?_⟩
  rw [hU]
  exact (hZ.moved hW.alike).kept hS.2.1
theorem qm_cb {R : Room} {s : State} {args : Array Value} (hts : ∀ w ∈ qm_ws, w.before args s = true) (hc : Cond.code y cc1 nL1 ret1 ∈ qm_ws) (hi : Cond.initialized y.cls ∈ qm_ws) (hl : Cond.methodLink own idx y ∈ qm_ws) (hd : y.cls ≠ "java/lang/invoke/MethodHandle" ∧ y.cls ≠ "java/lang/invoke/VarHandle" ∧ (parseMethodDescriptor y.desc).map (fun d => d.parameters.length) = some n) (hn : nL1 ≤ 21) (hdd : d1 + 1 ≤ d) (hR : d ≤ R.frames ∧ 40 * d ≤ R.locals) : CallB R s args own idx y cc1 nL1 ret1 (.code y cc1 nL1 ret1 :: qm_ws) (qm_rm d1) 0 0 n := by
  refine callB_of n hts (ws' := qm_ws) ?_ rfl rfl rfl (hts _ hi) (hts _ hl) hd ⟨?_, ?_⟩
  · intro w hw
    rcases List.mem_cons.mp hw with rfl | h
    · exact qm_good _ hc
    · exact qm_good _ h
  · show d1 + 1 ≤ R.frames
    omega
  · show 8 + (nL1 + 11) + 40 * d1 ≤ R.locals
    omega
theorem qm_back {p : Program} {e : Env} {R : Room} {s : State} {m : MethodId} {args : Array Value} {below : List Frame} {meth : Method} {c : Code} {H : Heap} {locs : List Loc} {ls : Array Slot} {cells slots : Nat} {Q : State → Prop} {a : Array Value} (hr : va_Run p l e R s m args below meth c H locs cells slots 0 0 (F0 m pc ls st0) st (qm_Q E (v1, σ1) a) (qm_A E)) (hS : va_S (qm_A E) s.heap H locs)
    (kk : ∀ (H1 : Heap) (locs1 : List Loc), qm_H E σ1 H1 → va_S (qm_A E) s.heap H1 locs1 → W p l e R s m args below meth c H1 locs1 cells slots Q (F0 m (pc + 3) ls (v1.toList ++ st))) : W p l e R s m args below meth c H locs cells slots Q (F0 m pc ls st0) := by
  intro T hT X
  obtain ⟨v, st₀, t, T', L, h0, X', hL, e1, e2, ⟨hv, hW, hF⟩, stp⟩ := hr T hT X
  cases hv
  obtain ⟨hz, hk⟩ := hF
  rw [h0] at hz hk
  obtain ⟨t2, a1, b1⟩ := kk T'.heap (locs ++ L) (by rw [e1]; exact hW.1) ⟨Nat.le_trans hS.1 (by rw [e1]; exact hz), fun q h1 h2 => by rw [e1, hk q (Nat.lt_of_lt_of_le h1 hS.1) h2]; exact hS.2.1 q h1 h2, fun q hq => by
      rcases List.mem_append.mp hq with h | h
      · exact hS.2.2 q h
      · exact hL q h⟩ T' rfl X'
  exact ⟨t2, stp t2 a1, b1⟩
theorem qr_callS (hM : qm_Ct l E d1 y cc1 nL1 ret1 As σ (v1, σ1)) (hc : Cond.code y cc1 nL1 ret1 ∈ qm_ws) (hi : Cond.initialized y.cls ∈ qm_ws) (hl : Cond.methodLink own idx y ∈ qm_ws) (hs : Cond.static y ∈ qm_ws) (hdd : y.cls ≠ "java/lang/invoke/MethodHandle" ∧ y.cls ≠ "java/lang/invoke/VarHandle" ∧ (parseMethodDescriptor y.desc).map (fun d => d.parameters.length) = some As.length) (hn : nL1 ≤ 21) (hd1 : d1 + 1 ≤ d) (hst : st0 = As.reverse ++ st) (hcat : (st.map fun v => v.category).sum ≤ 8) (hd : decode cc pc = .ok (.invokestatic idx, 3))
    (kk : qm_Wp l E d own cc nL (pc + 3) lv (v1.toList ++ st) σ1 r) : qm_Wp l E d own cc nL pc lv st0 σ r := by
  intro p e R s m args below meth c0 cells slots Q C F H locs ls hH hS hlv
  refine qm_back (va_runS (As := As) (rest := st) (n := As.length) ⟨C.1, C.2.1, C.2.2.1, C.2.2.2.1, C.2.2.2.2.1⟩ hM ⟨qm_cb C.2.2.2.2.1 hc hi hl hdd hn hd1 C.2.2.2.2.2.2.2.1, C.2.2.2.2.1 _ hs⟩ ⟨qm_blind, qm_pre hH C.2.2.2.2.2.1 C.2.2.2.2.2.2.1 hS⟩ rfl rfl hlv.1 hst (lv_room (rest := st0) hcat) hd C.2.2.2.2.2.2.2.2) hS (fun H1 locs1 h1 h2 => kk p e R s m args below meth c0 cells slots Q C F H1 locs1 ls h1 h2 hlv)
theorem qr_callN {host : String} (hM : qm_Ct l E d1 y cc1 nL1 ret1 As σ (v1, σ1)) (hc : Cond.code y cc1 nL1 ret1 ∈ qm_ws) (hi : Cond.initialized y.cls ∈ qm_ws) (hl : (own, idx, y, host) ∈ qm_nest) (hs : Cond.static y ∈ qm_ws) (hdd : y.cls ≠ "java/lang/invoke/MethodHandle" ∧ y.cls ≠ "java/lang/invoke/VarHandle" ∧ (parseMethodDescriptor y.desc).map (fun d => d.parameters.length) = some As.length) (hn : nL1 ≤ 21) (hd1 : d1 + 1 ≤ d) (hst : st0 = As.reverse ++ st) (hcat : (st.map fun v => v.category).sum ≤ 8) (hd : decode cc pc = .ok (.invokestatic idx, 3))
    (kk : qm_Wp l E d own cc nL (pc + 3) lv (v1.toList ++ st) σ1 r) : qm_Wp l E d own cc nL pc lv st0 σ r := by
  intro p e R s m args below meth c0 cells slots Q C F H locs ls hH hS hlv
  have hg : GoodIn qm_ws (Cond.code y cc1 nL1 ret1 :: qm_ws) := fun w hw => by
    rcases List.mem_cons.mp hw with rfl | h
    · exact qm_good _ hc
    · exact qm_good _ h
  have hR := C.2.2.2.2.2.2.2.1
  refine qm_back (va_runSN (As := As) (rest := st) (n := As.length) ⟨C.1, C.2.1, C.2.2.1, C.2.2.2.1, C.2.2.2.2.1⟩ hM ⟨va_cnB As.length C.2.2.2.2.1 hg rfl rfl rfl (C.2.2.2.2.2.1.2 _ hl) (C.2.2.2.2.1 _ hi) hdd ⟨?_, ?_⟩, C.2.2.2.2.1 _ hs, trivial⟩ ⟨qm_blind, qm_pre hH C.2.2.2.2.2.1 C.2.2.2.2.2.2.1 hS⟩ rfl rfl hlv.1 hst (lv_room (rest := st0) hcat) hd C.2.2.2.2.2.2.2.2) hS (fun H1 locs1 h1 h2 => kk p e R s m args below meth c0 cells slots Q C F H1 locs1 ls h1 h2 hlv)
  · show d1 + 1 ≤ R.frames
    omega
  · show 8 + (nL1 + 11) + 40 * d1 ≤ R.locals
    omega
theorem qr_callV {id c : Nat} {Cn : String} {T : u_T} {N : Nat} (hkd : qm_kind id = c + 1) (hc6 : c < 6) (hcl : vwCl[c]? = some (Cn, T, N)) (hM : qm_Ct l E d1 y cc1 nL1 ret1 (.ref (qm_a E id) :: As) σ (v1, σ1)) (hc : Cond.code y cc1 nL1 ret1 ∈ qm_ws) (hi : Cond.initialized y.cls ∈ qm_ws) (hl : Cond.methodLink own idx y ∈ qm_ws) (hs : Cond.instanceMethod y ∈ qm_ws) (hse : Cond.selects Cn y y ∈ qm_ws) (hdd : y.cls ≠ "java/lang/invoke/MethodHandle" ∧ y.cls ≠ "java/lang/invoke/VarHandle" ∧ (parseMethodDescriptor y.desc).map (fun d => d.parameters.length) = some As.length) (hn : nL1 ≤ 21) (hd1 : d1 + 1 ≤ d) (hst : st0 = As.reverse ++ .ref (qm_a E id) :: st) (hcat : (st.map fun v => v.category).sum ≤ 8) (hd : decode cc pc = .ok (.invokevirtual idx, 3))
    (kk : qm_Wp l E d own cc nL (pc + 3) lv (v1.toList ++ st) σ1 r) : qm_Wp l E d own cc nL pc lv st0 σ r := by
  intro p e R s m args below meth c0 cells slots Q C F H locs ls hH hS hlv
  have hat := hH id (by omega)
  rw [qm_lay_obj E σ hkd hc6] at hat
  have hP : va_P E.1 vwCl [(qm_a E id, .inr (c, qm_fs E σ c id))] H := fun j q hq => by
    match j, hq with
    | 0, hq => cases hq; exact hat
    | j + 1, hq => simp at hq
  refine qm_back (va_runV (C := Cn) (As := As) (rest := st) (n := As.length) (b := qm_a E id) ⟨C.1, C.2.1, C.2.2.1, C.2.2.2.1, C.2.2.2.2.1⟩ hM ⟨qm_cb C.2.2.2.2.1 hc hi hl hdd hn hd1 C.2.2.2.2.2.2.2.1, C.2.2.2.2.1 _ hs, C.2.2.2.2.1 _ hse⟩ ⟨qm_blind, va_recv C.2.2.2.2.2.1.1 hP hcl (q0 := 0) rfl, qm_pre hH C.2.2.2.2.2.1 C.2.2.2.2.2.2.1 hS⟩ rfl rfl hlv.1 hst (lv_room (rest := st0) hcat) hd C.2.2.2.2.2.2.2.2) hS (fun H1 locs1 h1 h2 => kk p e R s m args below meth c0 cells slots Q C F H1 locs1 ls h1 h2 hlv)
end QMC
end
