section
-- ===== PART A: goes FIRST, ahead of the names: the tables' words, and 'selects' of the private methods out of them =====
/-- a private method of a class that the tables say can be made, by its rows of tables_1 -/
def lw_okq (q : MethodName × Nat) : Prop := (q.1.cls ≠ "java/lang/invoke/MethodHandle" ∧ q.1.cls ≠ "java/lang/invoke/VarHandle") ∧ Cond.instantiable q.1.cls q.2 ∈ tables_1 ∧ Cond.privateMethod q.1 ∈ tables_1 ∧ Cond.instanceMethod q.1 ∈ tables_1
theorem lw_p0 : lw_okq (⟨"RopeVote$Page", "fitsAt", "(I)Z"⟩, 2) := ⟨⟨by decide +kernel, by decide +kernel⟩, List.mem_of_getElem? (i := 28) (by decide +kernel), List.mem_of_getElem? (i := 200) (by decide +kernel), List.mem_of_getElem? (i := 201) (by decide +kernel)⟩
theorem lw_p1 : lw_okq (⟨"RopeVote$Rope", "leanAhead", "(LRopeVote$Standing;II)I"⟩, 3) := ⟨⟨by decide +kernel, by decide +kernel⟩, List.mem_of_getElem? (i := 44) (by decide +kernel), List.mem_of_getElem? (i := 333) (by decide +kernel), List.mem_of_getElem? (i := 334) (by decide +kernel)⟩
theorem lw_p2 : lw_okq (⟨"RopeVote$Rope", "leanBehind", "(LRopeVote$Standing;II)I"⟩, 3) := ⟨⟨by decide +kernel, by decide +kernel⟩, List.mem_of_getElem? (i := 44) (by decide +kernel), List.mem_of_getElem? (i := 337) (by decide +kernel), List.mem_of_getElem? (i := 338) (by decide +kernel)⟩
theorem lw_p3 : lw_okq (⟨"RopeVote", "leansLeft", "(II)I"⟩, 12) := ⟨⟨by decide +kernel, by decide +kernel⟩, List.mem_of_getElem? (i := 20) (by decide +kernel), List.mem_of_getElem? (i := 362) (by decide +kernel), List.mem_of_getElem? (i := 363) (by decide +kernel)⟩
theorem lw_p4 : lw_okq (⟨"RopeVote", "bestQuestion", "(I)I"⟩, 12) := ⟨⟨by decide +kernel, by decide +kernel⟩, List.mem_of_getElem? (i := 20) (by decide +kernel), List.mem_of_getElem? (i := 405) (by decide +kernel), List.mem_of_getElem? (i := 406) (by decide +kernel)⟩
theorem lw_p5 : lw_okq (⟨"RopeVote", "mostAlike", "(I)I"⟩, 12) := ⟨⟨by decide +kernel, by decide +kernel⟩, List.mem_of_getElem? (i := 20) (by decide +kernel), List.mem_of_getElem? (i := 409) (by decide +kernel), List.mem_of_getElem? (i := 410) (by decide +kernel)⟩
theorem lw_p6 : lw_okq (⟨"RopeVote", "isQuestion", "(I)Z"⟩, 12) := ⟨⟨by decide +kernel, by decide +kernel⟩, List.mem_of_getElem? (i := 20) (by decide +kernel), List.mem_of_getElem? (i := 437) (by decide +kernel), List.mem_of_getElem? (i := 438) (by decide +kernel)⟩
theorem lw_p7 : lw_okq (⟨"RopeVote", "howManyLean", "(II)I"⟩, 12) := ⟨⟨by decide +kernel, by decide +kernel⟩, List.mem_of_getElem? (i := 20) (by decide +kernel), List.mem_of_getElem? (i := 444) (by decide +kernel), List.mem_of_getElem? (i := 445) (by decide +kernel)⟩
theorem lw_p8 : lw_okq (⟨"RopeVote", "ordersDecided", "(III)I"⟩, 12) := ⟨⟨by decide +kernel, by decide +kernel⟩, List.mem_of_getElem? (i := 20) (by decide +kernel), List.mem_of_getElem? (i := 498) (by decide +kernel), List.mem_of_getElem? (i := 499) (by decide +kernel)⟩
theorem lw_p9 : lw_okq (⟨"RopeVote", "fillSubsetSums", "(IIZ)V"⟩, 12) := ⟨⟨by decide +kernel, by decide +kernel⟩, List.mem_of_getElem? (i := 20) (by decide +kernel), List.mem_of_getElem? (i := 502) (by decide +kernel), List.mem_of_getElem? (i := 503) (by decide +kernel)⟩
theorem lw_p10 : lw_okq (⟨"RopeVote", "partsCarried", "(III)I"⟩, 12) := ⟨⟨by decide +kernel, by decide +kernel⟩, List.mem_of_getElem? (i := 20) (by decide +kernel), List.mem_of_getElem? (i := 518) (by decide +kernel), List.mem_of_getElem? (i := 519) (by decide +kernel)⟩
theorem lw_p11 : lw_okq (⟨"RopeVote", "fewestCut", "(II)I"⟩, 12) := ⟨⟨by decide +kernel, by decide +kernel⟩, List.mem_of_getElem? (i := 20) (by decide +kernel), List.mem_of_getElem? (i := 529) (by decide +kernel), List.mem_of_getElem? (i := 530) (by decide +kernel)⟩
theorem lw_p12 : lw_okq (⟨"RopeVote", "fewestTurned", "(II)I"⟩, 12) := ⟨⟨by decide +kernel, by decide +kernel⟩, List.mem_of_getElem? (i := 20) (by decide +kernel), List.mem_of_getElem? (i := 540) (by decide +kernel), List.mem_of_getElem? (i := 541) (by decide +kernel)⟩
theorem lw_p13 : lw_okq (⟨"RopeVote", "comesOutTurned", "(III)Z"⟩, 12) := ⟨⟨by decide +kernel, by decide +kernel⟩, List.mem_of_getElem? (i := 20) (by decide +kernel), List.mem_of_getElem? (i := 544) (by decide +kernel), List.mem_of_getElem? (i := 545) (by decide +kernel)⟩
theorem lw_p14 : lw_okq (⟨"RopeVote", "leanOtherwise", "(III)V"⟩, 12) := ⟨⟨by decide +kernel, by decide +kernel⟩, List.mem_of_getElem? (i := 20) (by decide +kernel), List.mem_of_getElem? (i := 548) (by decide +kernel), List.mem_of_getElem? (i := 549) (by decide +kernel)⟩
theorem lw_p15 : lw_okq (⟨"RopeVote", "tidesTillAgain", "()I"⟩, 12) := ⟨⟨by decide +kernel, by decide +kernel⟩, List.mem_of_getElem? (i := 20) (by decide +kernel), List.mem_of_getElem? (i := 556) (by decide +kernel), List.mem_of_getElem? (i := 557) (by decide +kernel)⟩
def lw_privs_1 : List (MethodName × Nat) := [(⟨"RopeVote$Page", "fitsAt", "(I)Z"⟩, 2), (⟨"RopeVote$Rope", "leanAhead", "(LRopeVote$Standing;II)I"⟩, 3), (⟨"RopeVote$Rope", "leanBehind", "(LRopeVote$Standing;II)I"⟩, 3), (⟨"RopeVote", "leansLeft", "(II)I"⟩, 12), (⟨"RopeVote", "bestQuestion", "(I)I"⟩, 12), (⟨"RopeVote", "mostAlike", "(I)I"⟩, 12), (⟨"RopeVote", "isQuestion", "(I)Z"⟩, 12), (⟨"RopeVote", "howManyLean", "(II)I"⟩, 12), (⟨"RopeVote", "ordersDecided", "(III)I"⟩, 12), (⟨"RopeVote", "fillSubsetSums", "(IIZ)V"⟩, 12), (⟨"RopeVote", "partsCarried", "(III)I"⟩, 12), (⟨"RopeVote", "fewestCut", "(II)I"⟩, 12), (⟨"RopeVote", "fewestTurned", "(II)I"⟩, 12), (⟨"RopeVote", "comesOutTurned", "(III)Z"⟩, 12), (⟨"RopeVote", "leanOtherwise", "(III)V"⟩, 12), (⟨"RopeVote", "tidesTillAgain", "()I"⟩, 12)]
theorem lw_r1 : ∀ q ∈ lw_privs_1, lw_okq q := List.forall_mem_cons.mpr ⟨lw_p0, List.forall_mem_cons.mpr ⟨lw_p1, List.forall_mem_cons.mpr ⟨lw_p2, List.forall_mem_cons.mpr ⟨lw_p3, List.forall_mem_cons.mpr ⟨lw_p4, List.forall_mem_cons.mpr ⟨lw_p5, List.forall_mem_cons.mpr ⟨lw_p6, List.forall_mem_cons.mpr ⟨lw_p7, List.forall_mem_cons.mpr ⟨lw_p8, List.forall_mem_cons.mpr ⟨lw_p9, List.forall_mem_cons.mpr ⟨lw_p10, List.forall_mem_cons.mpr ⟨lw_p11, List.forall_mem_cons.mpr ⟨lw_p12, List.forall_mem_cons.mpr ⟨lw_p13, List.forall_mem_cons.mpr ⟨lw_p14, List.forall_mem_cons.mpr ⟨lw_p15, fun _ h => absurd h List.not_mem_nil⟩⟩⟩⟩⟩⟩⟩⟩⟩⟩⟩⟩⟩⟩⟩⟩
theorem lw_p16 : lw_okq (⟨"RopeVote", "firstLike", "(I)I"⟩, 12) := ⟨⟨by decide +kernel, by decide +kernel⟩, List.mem_of_getElem? (i := 20) (by decide +kernel), List.mem_of_getElem? (i := 565) (by decide +kernel), List.mem_of_getElem? (i := 566) (by decide +kernel)⟩
theorem lw_p17 : lw_okq (⟨"RopeVote", "howManyCarriedNow", "()I"⟩, 12) := ⟨⟨by decide +kernel, by decide +kernel⟩, List.mem_of_getElem? (i := 20) (by decide +kernel), List.mem_of_getElem? (i := 614) (by decide +kernel), List.mem_of_getElem? (i := 615) (by decide +kernel)⟩
theorem lw_p18 : lw_okq (⟨"RopeVote", "mixedQuestion", "(JI)J"⟩, 12) := ⟨⟨by decide +kernel, by decide +kernel⟩, List.mem_of_getElem? (i := 20) (by decide +kernel), List.mem_of_getElem? (i := 630) (by decide +kernel), List.mem_of_getElem? (i := 631) (by decide +kernel)⟩
theorem lw_p19 : lw_okq (⟨"RopeVoteModel", "read", "()I"⟩, 37) := ⟨⟨by decide +kernel, by decide +kernel⟩, List.mem_of_getElem? (i := 640) (by decide +kernel), List.mem_of_getElem? (i := 773) (by decide +kernel), List.mem_of_getElem? (i := 774) (by decide +kernel)⟩
theorem lw_p20 : lw_okq (⟨"RopeVoteModel", "readOne", "(I)I"⟩, 37) := ⟨⟨by decide +kernel, by decide +kernel⟩, List.mem_of_getElem? (i := 640) (by decide +kernel), List.mem_of_getElem? (i := 777) (by decide +kernel), List.mem_of_getElem? (i := 778) (by decide +kernel)⟩
theorem lw_p21 : lw_okq (⟨"RopeVoteModel", "at", "(I)I"⟩, 37) := ⟨⟨by decide +kernel, by decide +kernel⟩, List.mem_of_getElem? (i := 640) (by decide +kernel), List.mem_of_getElem? (i := 781) (by decide +kernel), List.mem_of_getElem? (i := 782) (by decide +kernel)⟩
theorem lw_p22 : lw_okq (⟨"RopeVoteModel", "isMussel", "(I)Z"⟩, 37) := ⟨⟨by decide +kernel, by decide +kernel⟩, List.mem_of_getElem? (i := 640) (by decide +kernel), List.mem_of_getElem? (i := 799) (by decide +kernel), List.mem_of_getElem? (i := 800) (by decide +kernel)⟩
theorem lw_p23 : lw_okq (⟨"RopeVoteModel", "musselNow", "(II)I"⟩, 37) := ⟨⟨by decide +kernel, by decide +kernel⟩, List.mem_of_getElem? (i := 640) (by decide +kernel), List.mem_of_getElem? (i := 806) (by decide +kernel), List.mem_of_getElem? (i := 807) (by decide +kernel)⟩
theorem lw_p24 : lw_okq (⟨"RopeVoteModel", "leansOf", "(II)I"⟩, 37) := ⟨⟨by decide +kernel, by decide +kernel⟩, List.mem_of_getElem? (i := 640) (by decide +kernel), List.mem_of_getElem? (i := 810) (by decide +kernel), List.mem_of_getElem? (i := 811) (by decide +kernel)⟩
theorem lw_p25 : lw_okq (⟨"RopeVoteModel", "laySums", "(II)V"⟩, 37) := ⟨⟨by decide +kernel, by decide +kernel⟩, List.mem_of_getElem? (i := 640) (by decide +kernel), List.mem_of_getElem? (i := 814) (by decide +kernel), List.mem_of_getElem? (i := 815) (by decide +kernel)⟩
theorem lw_p26 : lw_okq (⟨"RopeVoteModel", "sumOf", "(I)I"⟩, 37) := ⟨⟨by decide +kernel, by decide +kernel⟩, List.mem_of_getElem? (i := 640) (by decide +kernel), List.mem_of_getElem? (i := 818) (by decide +kernel), List.mem_of_getElem? (i := 819) (by decide +kernel)⟩
theorem lw_p27 : lw_okq (⟨"RopeVoteModel", "isFelt", "(I)Z"⟩, 37) := ⟨⟨by decide +kernel, by decide +kernel⟩, List.mem_of_getElem? (i := 640) (by decide +kernel), List.mem_of_getElem? (i := 822) (by decide +kernel), List.mem_of_getElem? (i := 823) (by decide +kernel)⟩
theorem lw_p28 : lw_okq (⟨"RopeVoteModel", "pulls", "(II)I"⟩, 37) := ⟨⟨by decide +kernel, by decide +kernel⟩, List.mem_of_getElem? (i := 640) (by decide +kernel), List.mem_of_getElem? (i := 826) (by decide +kernel), List.mem_of_getElem? (i := 827) (by decide +kernel)⟩
theorem lw_p29 : lw_okq (⟨"RopeVoteModel", "leanAhead", "(II)I"⟩, 37) := ⟨⟨by decide +kernel, by decide +kernel⟩, List.mem_of_getElem? (i := 640) (by decide +kernel), List.mem_of_getElem? (i := 830) (by decide +kernel), List.mem_of_getElem? (i := 831) (by decide +kernel)⟩
theorem lw_p30 : lw_okq (⟨"RopeVoteModel", "leanBehind", "(II)I"⟩, 37) := ⟨⟨by decide +kernel, by decide +kernel⟩, List.mem_of_getElem? (i := 640) (by decide +kernel), List.mem_of_getElem? (i := 837) (by decide +kernel), List.mem_of_getElem? (i := 838) (by decide +kernel)⟩
theorem lw_p31 : lw_okq (⟨"RopeVoteModel", "askOf", "(I)I"⟩, 37) := ⟨⟨by decide +kernel, by decide +kernel⟩, List.mem_of_getElem? (i := 640) (by decide +kernel), List.mem_of_getElem? (i := 841) (by decide +kernel), List.mem_of_getElem? (i := 842) (by decide +kernel)⟩
def lw_privs_2 : List (MethodName × Nat) := [(⟨"RopeVote", "firstLike", "(I)I"⟩, 12), (⟨"RopeVote", "howManyCarriedNow", "()I"⟩, 12), (⟨"RopeVote", "mixedQuestion", "(JI)J"⟩, 12), (⟨"RopeVoteModel", "read", "()I"⟩, 37), (⟨"RopeVoteModel", "readOne", "(I)I"⟩, 37), (⟨"RopeVoteModel", "at", "(I)I"⟩, 37), (⟨"RopeVoteModel", "isMussel", "(I)Z"⟩, 37), (⟨"RopeVoteModel", "musselNow", "(II)I"⟩, 37), (⟨"RopeVoteModel", "leansOf", "(II)I"⟩, 37), (⟨"RopeVoteModel", "laySums", "(II)V"⟩, 37), (⟨"RopeVoteModel", "sumOf", "(I)I"⟩, 37), (⟨"RopeVoteModel", "isFelt", "(I)Z"⟩, 37), (⟨"RopeVoteModel", "pulls", "(II)I"⟩, 37), (⟨"RopeVoteModel", "leanAhead", "(II)I"⟩, 37), (⟨"RopeVoteModel", "leanBehind", "(II)I"⟩, 37), (⟨"RopeVoteModel", "askOf", "(I)I"⟩, 37)]
theorem lw_r2 : ∀ q ∈ lw_privs_2, lw_okq q := List.forall_mem_cons.mpr ⟨lw_p16, List.forall_mem_cons.mpr ⟨lw_p17, List.forall_mem_cons.mpr ⟨lw_p18, List.forall_mem_cons.mpr ⟨lw_p19, List.forall_mem_cons.mpr ⟨lw_p20, List.forall_mem_cons.mpr ⟨lw_p21, List.forall_mem_cons.mpr ⟨lw_p22, List.forall_mem_cons.mpr ⟨lw_p23, List.forall_mem_cons.mpr ⟨lw_p24, List.forall_mem_cons.mpr ⟨lw_p25, List.forall_mem_cons.mpr ⟨lw_p26, List.forall_mem_cons.mpr ⟨lw_p27, List.forall_mem_cons.mpr ⟨lw_p28, List.forall_mem_cons.mpr ⟨lw_p29, List.forall_mem_cons.mpr ⟨lw_p30, List.forall_mem_cons.mpr ⟨lw_p31, fun _ h => absurd h List.not_mem_nil⟩⟩⟩⟩⟩⟩⟩⟩⟩⟩⟩⟩⟩⟩⟩⟩
theorem lw_p32 : lw_okq (⟨"RopeVoteModel", "worstOn", "(I)I"⟩, 37) := ⟨⟨by decide +kernel, by decide +kernel⟩, List.mem_of_getElem? (i := 640) (by decide +kernel), List.mem_of_getElem? (i := 846) (by decide +kernel), List.mem_of_getElem? (i := 847) (by decide +kernel)⟩
theorem lw_p33 : lw_okq (⟨"RopeVoteModel", "isQuestion", "(I)Z"⟩, 37) := ⟨⟨by decide +kernel, by decide +kernel⟩, List.mem_of_getElem? (i := 640) (by decide +kernel), List.mem_of_getElem? (i := 861) (by decide +kernel), List.mem_of_getElem? (i := 862) (by decide +kernel)⟩
theorem lw_p34 : lw_okq (⟨"RopeVoteModel", "questionNow", "(II)I"⟩, 37) := ⟨⟨by decide +kernel, by decide +kernel⟩, List.mem_of_getElem? (i := 640) (by decide +kernel), List.mem_of_getElem? (i := 865) (by decide +kernel), List.mem_of_getElem? (i := 866) (by decide +kernel)⟩
theorem lw_p35 : lw_okq (⟨"RopeVoteModel", "outOf", "(I)I"⟩, 37) := ⟨⟨by decide +kernel, by decide +kernel⟩, List.mem_of_getElem? (i := 640) (by decide +kernel), List.mem_of_getElem? (i := 869) (by decide +kernel), List.mem_of_getElem? (i := 870) (by decide +kernel)⟩
theorem lw_p36 : lw_okq (⟨"RopeVoteModel", "leaning", "(II)I"⟩, 37) := ⟨⟨by decide +kernel, by decide +kernel⟩, List.mem_of_getElem? (i := 640) (by decide +kernel), List.mem_of_getElem? (i := 873) (by decide +kernel), List.mem_of_getElem? (i := 874) (by decide +kernel)⟩
theorem lw_p37 : lw_okq (⟨"RopeVoteModel", "turnTide", "()V"⟩, 37) := ⟨⟨by decide +kernel, by decide +kernel⟩, List.mem_of_getElem? (i := 640) (by decide +kernel), List.mem_of_getElem? (i := 885) (by decide +kernel), List.mem_of_getElem? (i := 886) (by decide +kernel)⟩
theorem lw_p38 : lw_okq (⟨"RopeVoteModel", "felt", "()I"⟩, 37) := ⟨⟨by decide +kernel, by decide +kernel⟩, List.mem_of_getElem? (i := 640) (by decide +kernel), List.mem_of_getElem? (i := 893) (by decide +kernel), List.mem_of_getElem? (i := 894) (by decide +kernel)⟩
theorem lw_p39 : lw_okq (⟨"RopeVoteModel", "sayNow", "(III)I"⟩, 37) := ⟨⟨by decide +kernel, by decide +kernel⟩, List.mem_of_getElem? (i := 640) (by decide +kernel), List.mem_of_getElem? (i := 913) (by decide +kernel), List.mem_of_getElem? (i := 914) (by decide +kernel)⟩
theorem lw_p40 : lw_okq (⟨"RopeVoteModel", "forBy", "(II)I"⟩, 37) := ⟨⟨by decide +kernel, by decide +kernel⟩, List.mem_of_getElem? (i := 640) (by decide +kernel), List.mem_of_getElem? (i := 917) (by decide +kernel), List.mem_of_getElem? (i := 918) (by decide +kernel)⟩
theorem lw_p41 : lw_okq (⟨"RopeVoteModel", "chanceNow", "(III)I"⟩, 37) := ⟨⟨by decide +kernel, by decide +kernel⟩, List.mem_of_getElem? (i := 640) (by decide +kernel), List.mem_of_getElem? (i := 934) (by decide +kernel), List.mem_of_getElem? (i := 935) (by decide +kernel)⟩
theorem lw_p42 : lw_okq (⟨"RopeVoteModel", "cutsNow", "(III)I"⟩, 37) := ⟨⟨by decide +kernel, by decide +kernel⟩, List.mem_of_getElem? (i := 640) (by decide +kernel), List.mem_of_getElem? (i := 942) (by decide +kernel), List.mem_of_getElem? (i := 943) (by decide +kernel)⟩
theorem lw_p43 : lw_okq (⟨"RopeVoteModel", "turnsNow", "(III)I"⟩, 37) := ⟨⟨by decide +kernel, by decide +kernel⟩, List.mem_of_getElem? (i := 640) (by decide +kernel), List.mem_of_getElem? (i := 950) (by decide +kernel), List.mem_of_getElem? (i := 951) (by decide +kernel)⟩
theorem lw_p44 : lw_okq (⟨"RopeVoteModel", "saveLeans", "()V"⟩, 37) := ⟨⟨by decide +kernel, by decide +kernel⟩, List.mem_of_getElem? (i := 640) (by decide +kernel), List.mem_of_getElem? (i := 954) (by decide +kernel), List.mem_of_getElem? (i := 955) (by decide +kernel)⟩
theorem lw_p45 : lw_okq (⟨"RopeVoteModel", "otherwise", "(I)I"⟩, 37) := ⟨⟨by decide +kernel, by decide +kernel⟩, List.mem_of_getElem? (i := 640) (by decide +kernel), List.mem_of_getElem? (i := 958) (by decide +kernel), List.mem_of_getElem? (i := 959) (by decide +kernel)⟩
theorem lw_p46 : lw_okq (⟨"RopeVoteModel", "loadLeans", "()V"⟩, 37) := ⟨⟨by decide +kernel, by decide +kernel⟩, List.mem_of_getElem? (i := 640) (by decide +kernel), List.mem_of_getElem? (i := 962) (by decide +kernel), List.mem_of_getElem? (i := 963) (by decide +kernel)⟩
theorem lw_p47 : lw_okq (⟨"RopeVoteModel", "settleNow", "(I)I"⟩, 37) := ⟨⟨by decide +kernel, by decide +kernel⟩, List.mem_of_getElem? (i := 640) (by decide +kernel), List.mem_of_getElem? (i := 970) (by decide +kernel), List.mem_of_getElem? (i := 971) (by decide +kernel)⟩
def lw_privs_3 : List (MethodName × Nat) := [(⟨"RopeVoteModel", "worstOn", "(I)I"⟩, 37), (⟨"RopeVoteModel", "isQuestion", "(I)Z"⟩, 37), (⟨"RopeVoteModel", "questionNow", "(II)I"⟩, 37), (⟨"RopeVoteModel", "outOf", "(I)I"⟩, 37), (⟨"RopeVoteModel", "leaning", "(II)I"⟩, 37), (⟨"RopeVoteModel", "turnTide", "()V"⟩, 37), (⟨"RopeVoteModel", "felt", "()I"⟩, 37), (⟨"RopeVoteModel", "sayNow", "(III)I"⟩, 37), (⟨"RopeVoteModel", "forBy", "(II)I"⟩, 37), (⟨"RopeVoteModel", "chanceNow", "(III)I"⟩, 37), (⟨"RopeVoteModel", "cutsNow", "(III)I"⟩, 37), (⟨"RopeVoteModel", "turnsNow", "(III)I"⟩, 37), (⟨"RopeVoteModel", "saveLeans", "()V"⟩, 37), (⟨"RopeVoteModel", "otherwise", "(I)I"⟩, 37), (⟨"RopeVoteModel", "loadLeans", "()V"⟩, 37), (⟨"RopeVoteModel", "settleNow", "(I)I"⟩, 37)]
theorem lw_r3 : ∀ q ∈ lw_privs_3, lw_okq q := List.forall_mem_cons.mpr ⟨lw_p32, List.forall_mem_cons.mpr ⟨lw_p33, List.forall_mem_cons.mpr ⟨lw_p34, List.forall_mem_cons.mpr ⟨lw_p35, List.forall_mem_cons.mpr ⟨lw_p36, List.forall_mem_cons.mpr ⟨lw_p37, List.forall_mem_cons.mpr ⟨lw_p38, List.forall_mem_cons.mpr ⟨lw_p39, List.forall_mem_cons.mpr ⟨lw_p40, List.forall_mem_cons.mpr ⟨lw_p41, List.forall_mem_cons.mpr ⟨lw_p42, List.forall_mem_cons.mpr ⟨lw_p43, List.forall_mem_cons.mpr ⟨lw_p44, List.forall_mem_cons.mpr ⟨lw_p45, List.forall_mem_cons.mpr ⟨lw_p46, List.forall_mem_cons.mpr ⟨lw_p47, fun _ h => absurd h List.not_mem_nil⟩⟩⟩⟩⟩⟩⟩⟩⟩⟩⟩⟩⟩⟩⟩⟩
theorem lw_p48 : lw_okq (⟨"RopeVoteModel", "leansTold", "()J"⟩, 37) := ⟨⟨by decide +kernel, by decide +kernel⟩, List.mem_of_getElem? (i := 640) (by decide +kernel), List.mem_of_getElem? (i := 974) (by decide +kernel), List.mem_of_getElem? (i := 975) (by decide +kernel)⟩
theorem lw_p49 : lw_okq (⟨"RopeVoteModel", "tidesNow", "(III)I"⟩, 37) := ⟨⟨by decide +kernel, by decide +kernel⟩, List.mem_of_getElem? (i := 640) (by decide +kernel), List.mem_of_getElem? (i := 991) (by decide +kernel), List.mem_of_getElem? (i := 992) (by decide +kernel)⟩
theorem lw_p50 : lw_okq (⟨"RopeVoteModel", "draw", "(I)I"⟩, 37) := ⟨⟨by decide +kernel, by decide +kernel⟩, List.mem_of_getElem? (i := 640) (by decide +kernel), List.mem_of_getElem? (i := 995) (by decide +kernel), List.mem_of_getElem? (i := 996) (by decide +kernel)⟩
theorem lw_p51 : lw_okq (⟨"RopeVoteModel", "howMany", "(I)I"⟩, 37) := ⟨⟨by decide +kernel, by decide +kernel⟩, List.mem_of_getElem? (i := 640) (by decide +kernel), List.mem_of_getElem? (i := 1015) (by decide +kernel), List.mem_of_getElem? (i := 1016) (by decide +kernel)⟩
theorem lw_p52 : lw_okq (⟨"RopeVoteModel", "weights", "()I"⟩, 37) := ⟨⟨by decide +kernel, by decide +kernel⟩, List.mem_of_getElem? (i := 640) (by decide +kernel), List.mem_of_getElem? (i := 1019) (by decide +kernel), List.mem_of_getElem? (i := 1020) (by decide +kernel)⟩
theorem lw_p53 : lw_okq (⟨"RopeVoteModel", "carriedNow", "()I"⟩, 37) := ⟨⟨by decide +kernel, by decide +kernel⟩, List.mem_of_getElem? (i := 640) (by decide +kernel), List.mem_of_getElem? (i := 1023) (by decide +kernel), List.mem_of_getElem? (i := 1024) (by decide +kernel)⟩
theorem lw_p54 : lw_okq (⟨"RopeVoteModel", "mix", "(J)V"⟩, 37) := ⟨⟨by decide +kernel, by decide +kernel⟩, List.mem_of_getElem? (i := 640) (by decide +kernel), List.mem_of_getElem? (i := 1032) (by decide +kernel), List.mem_of_getElem? (i := 1033) (by decide +kernel)⟩
theorem lw_p55 : lw_okq (⟨"RopeVoteModel", "mixQuestion", "(I)V"⟩, 37) := ⟨⟨by decide +kernel, by decide +kernel⟩, List.mem_of_getElem? (i := 640) (by decide +kernel), List.mem_of_getElem? (i := 1037) (by decide +kernel), List.mem_of_getElem? (i := 1038) (by decide +kernel)⟩
def lw_privs_4 : List (MethodName × Nat) := [(⟨"RopeVoteModel", "leansTold", "()J"⟩, 37), (⟨"RopeVoteModel", "tidesNow", "(III)I"⟩, 37), (⟨"RopeVoteModel", "draw", "(I)I"⟩, 37), (⟨"RopeVoteModel", "howMany", "(I)I"⟩, 37), (⟨"RopeVoteModel", "weights", "()I"⟩, 37), (⟨"RopeVoteModel", "carriedNow", "()I"⟩, 37), (⟨"RopeVoteModel", "mix", "(J)V"⟩, 37), (⟨"RopeVoteModel", "mixQuestion", "(I)V"⟩, 37)]
theorem lw_r4 : ∀ q ∈ lw_privs_4, lw_okq q := List.forall_mem_cons.mpr ⟨lw_p48, List.forall_mem_cons.mpr ⟨lw_p49, List.forall_mem_cons.mpr ⟨lw_p50, List.forall_mem_cons.mpr ⟨lw_p51, List.forall_mem_cons.mpr ⟨lw_p52, List.forall_mem_cons.mpr ⟨lw_p53, List.forall_mem_cons.mpr ⟨lw_p54, List.forall_mem_cons.mpr ⟨lw_p55, fun _ h => absurd h List.not_mem_nil⟩⟩⟩⟩⟩⟩⟩⟩
def lw_privs : List (MethodName × Nat) := lw_privs_1 ++ (lw_privs_2 ++ (lw_privs_3 ++ (lw_privs_4)))
def lw_tbl : List Cond := k2_sels lw_privs ++ tables_1
theorem lw_privs_ok : ∀ q ∈ lw_privs, lw_okq q := by
  show ∀ q ∈ lw_privs_1 ++ (lw_privs_2 ++ (lw_privs_3 ++ (lw_privs_4))), lw_okq q
  exact List.forall_mem_append.mpr ⟨lw_r1, List.forall_mem_append.mpr ⟨lw_r2, List.forall_mem_append.mpr ⟨lw_r3, lw_r4⟩⟩⟩
-- ===== end of PART A; then your names; then what follows =====
end
section
def va_AOA (ty : FieldType) (U : State) : Prop := (Cond.arrayOver (.array ty)).before #[] U = true
theorem va_AOA.of {ty : FieldType} {A : Array Value} {U : State} (h : (Cond.arrayOver (.array ty)).before A U = true) : va_AOA ty U := h
theorem va_AOA.use {ty : FieldType} {A : Array Value} {U : State} (h : va_AOA ty U) : (Cond.arrayOver (.array ty)).before A U = true := h
/-! ===== BEGIN words of one list among another's, by their places ===== -/
theorem goodIn_r {big : List Cond} (ws : List Cond) (ps : List Nat) (hp : ws = ps.filterMap (fun i => big[i]?)) (h : ws.all goodWord = true) : GoodIn big ws := by
  intro w hw
  have h1 := List.all_eq_true.mp h w hw
  rw [hp] at hw
  obtain ⟨i, -, hi⟩ := List.mem_filterMap.mp hw
  have hm : w ∈ big := by first | exact List.mem_of_getElem? hi | exact List.getElem?_mem hi
  exact ⟨hm, good_of_word h1⟩
theorem goodIn_app {big a b : List Cond} (ha : GoodIn big a) (hb : GoodIn big b) : GoodIn big (a ++ b) := fun w h => (List.mem_append.mp h).elim (ha w) (hb w)
theorem goodIn_ca {big a b : List Cond} {c : Cond} (ha : GoodIn big (c :: a)) (hb : GoodIn big b) : GoodIn big (c :: (a ++ b)) := fun w h => (List.mem_cons.mp h).elim (fun e => ha w (List.mem_cons.mpr (Or.inl e))) (fun h => (List.mem_append.mp h).elim (fun h => ha w (List.mem_cons.mpr (Or.inr h))) (hb w))
theorem goodIn_sub {big ws : List Cond} (hm : ∀ w ∈ ws, w ∈ big) (h : ws.all goodWord = true) : GoodIn big ws := fun w hw => ⟨hm w hw, good_of_word (List.all_eq_true.mp h w hw)⟩
/-! ===== END ===== -/

/-! ===== BEGIN new T[n][m]: the outer array a place, the inner ones among the pooled ===== -/
/-- f, but v at every address of l -/
def vr_up {α : Type} (f : Nat → α) (l : List Nat) (v : α) : Nat → α := fun a => if a ∈ l then v else f a
theorem vr_up_in {α : Type} {f : Nat → α} {l : List Nat} {v : α} {a : Nat} (h : a ∈ l) : vr_up f l v a = v := if_pos h
theorem vr_up_ne {α : Type} {f : Nat → α} {l : List Nat} {v : α} {a : Nat} (h : a ∉ l) : vr_up f l v a = f a := if_neg h
theorem vr_rows {L l : List Nat} {f : Nat → va_E} {e : va_E} (h : ∀ a, a ∈ l → a ∉ L) : va_pl L f ++ l.map (fun a => (a, e)) = va_pl (L ++ l) (vr_up f l e) := by
  unfold va_pl
  rw [List.map_append]
  congr 1
  · apply List.map_congr_left
    intro a ha
    rw [vr_up_ne (fun q => h a q ha)]
  · apply List.map_congr_left
    intro a ha
    rw [vr_up_in ha]
theorem vr_lay {X rows : va_W} {x : Nat × va_E} {pl : va_W} {D : va_G} {cl : List vw_C} {H : Heap} (hP : va_P D cl (((X ++ pl) ++ [x]) ++ rows) H) : va_P D cl ((X ++ [x]) ++ (pl ++ rows)) H := by
  rw [List.append_assoc (X ++ pl)] at hP
  have h := va_P.swap hP
  rw [← List.append_assoc X] at h
  have h2 := va_P.swap h
  rw [List.append_assoc (X ++ [x])] at h2
  exact h2
theorem vr_layD {X rows : va_W} {x : Nat × va_E} {pl : va_W} {A : Nat → Prop} (hD : va_D A (((X ++ pl) ++ [x]) ++ rows)) : va_D A ((X ++ [x]) ++ (pl ++ rows)) := by
  rw [List.append_assoc (X ++ pl)] at hD
  have h := va_D.swap hD
  rw [← List.append_assoc X] at h
  have h2 := va_D.swap h
  rw [List.append_assoc (X ++ [x])] at h2
  exact h2
theorem vr_outer (c : ClassId) (N h0 : Nat) : ∀ i : Nat, Jvm.Free.Multi.outerC c N h0 i = arrV c N (fun j => va_rf (if j < i then some (h0 + 1 + j) else none))
  | 0 => by
    show ({ cls := c, slots := Array.replicate N .null, vm := .none } : Cell) = _
    rw [arrV_new]
    refine congrArg (arrV c N) (funext fun j => ?_)
    simp [va_rf]
  | i + 1 => by
    show (Jvm.Free.Multi.outerC c N h0 i).setSlot i (.ref (h0 + 1 + i)) = _
    rw [vr_outer c N h0 i, arrV_store]
    refine congrArg (arrV c N) (funext fun j => ?_)
    by_cases e : j = i
    · subst e
      simp [updV, va_rf]
    · by_cases h : j < i
      · simp [updV, e, h, Nat.lt_succ_of_lt h]
      · simp [updV, e, h, show ¬ j < i + 1 by omega]
section VGM
variable {p : Program} {l : Launch} {e : Env} {R : Room} {s : State} {m : MethodId} {args : Array Value} {below : List Frame} {meth : Method} {c : Code} {H : Heap} {locs : List Loc} {cells slots : Nat} {Q : State → Prop}
variable {cc : ByteArray} {pc : Nat} {ls : Array Slot} {rest : List Value} {D : va_G} {cl : List vw_C} {A : Nat → Prop} {a : Nat} {tys : List (ClassId × FieldType)} {ws : va_W} {H0 : Heap}
theorem va_mna {X : va_W} {L : List Nat} {f : Nat → va_E} {cc : ByteArray} (hexec : p.tables.exec = Jvm.exec) (hb : c.code = cc) {own : String} {index : Nat} {ty : FieldType} {cy : ClassId} (hown : s.vm.findClass own = some m.cls) (hclink : (Cond.classLink own index ("[" ++ (FieldType.array ty).toString)).before args s = true) (hover : va_AOA ty s) (harr : (Cond.arrayClass ty).before args s = true) (hcy : s.vm.findClass (FieldType.array ty).toString = some cy)
    (hK : va_K D cl tys s) (hP : va_P D cl (X ++ va_pl L f) H) (hD : va_D A (X ++ va_pl L f)) (hS : va_S A H0 H locs) (hA : ∀ q, H0.size ≤ q → A q) {n k : Int32} {N' K' : Nat} {z : vp_A} (hn : ¬ n < 0) (hk : ¬ k < 0) (hN : n.toNatClampNeg = N') (hM : k.toNatClampNeg = K')
    (hb1 : N' * 4 ≤ 536870912) (hb2 : K' * componentBytes ty ≤ 536870912) (hb3 : K' ≤ 536870912) (hdf : fits ty (defaultValue ty) = true) (hdd : (defaultValue ty).isDefault = true) (hcells : cells + (1 + N') ≤ R.cells) (hslots : slots + (N' + N' * K') ≤ R.slots) (hz : ∀ c : ClassId, Jvm.Free.Multi.innerC c K' (defaultValue ty) = vp_cell c z) (hdg : decode cc pc = .ok (.multianewarray index 2, 4))
    (kk : ∀ (q : Nat) (r : Nat → Nat) (cA : ClassId) (H1 : Heap), (∀ i j : Nat, i < N' → j < N' → r i = r j → i = j) → (∀ i : Nat, i < N' → r i ∉ L) → va_K D cl (tys ++ [(cA, .array ty)]) s →
      va_P D cl ((X ++ [(q, .inl (cA, N', .inr (.inr (.inr (.inr (fun i => if i < N' then some (r i) else none))))))]) ++ va_pl (L ++ (List.range N').map r) (vr_up f ((List.range N').map r) (.inl (cy, z)))) H1 → va_D A ((X ++ [(q, .inl (cA, N', .inr (.inr (.inr (.inr (fun i => if i < N' then some (r i) else none))))))]) ++ va_pl (L ++ (List.range N').map r) (vr_up f ((List.range N').map r) (.inl (cy, z)))) → va_S A H0 H1 locs →
      W p l e R s m args below meth c H1 locs (cells + 1 + N') (slots + N' + N' * K') Q (F0 m (pc + 4) ls (.ref q :: rest))) : W p l e R s m args below meth c H locs cells slots Q (F0 m pc ls (.int k :: .int n :: rest)) := by
  subst hN
  subst hM
  intro T hT Xs
  obtain ⟨vm₁, cA, comp, -, fA, fC, hO, -, X', step⟩ := Xs.multianewarray2F hexec hown hclink (va_AOA.use hover) harr (g := F0 m pc ls (.int k :: .int n :: rest)) rfl (by rw [hb]; exact hdg) rfl hn hk hb1 hb2 hb3 hdf hdd hcells hslots
  have ec : some cy = some comp := hcy.symm.trans fC
  cases ec
  generalize hF : Jvm.Free.Multi.fill (T.setVm vm₁) cA cy n.toNatClampNeg k.toNatClampNeg (defaultValue ty) n.toNatClampNeg = F at X' step
  have hTh : (T.setVm vm₁).heap = H := hT
  obtain ⟨f1, f2, -, -⟩ := Jvm.Free.Multi.fill_facts (T.setVm vm₁) cA cy n.toNatClampNeg k.toNatClampNeg (defaultValue ty) n.toNatClampNeg
  rw [hF, hTh] at f1 f2
  have hold : ∀ x : Nat, x < H.size → F.heap[x]? = H[x]? := fun x hx => by
    have := Jvm.Free.Multi.fill_old (T.setVm vm₁) cA cy n.toNatClampNeg k.toNatClampNeg (defaultValue ty) (a := x) (by rw [hTh]; exact hx) n.toNatClampNeg
    rw [hF, hTh] at this
    exact this
  have hrow : ∀ j : Nat, j < n.toNatClampNeg → F.heap[H.size + 1 + j]? = some (vp_cell cy z) := fun j hj => by
    have := Jvm.Free.Multi.fill_inner (T.setVm vm₁) cA cy n.toNatClampNeg k.toNatClampNeg (defaultValue ty) n.toNatClampNeg j hj
    rw [hF, hTh, hz] at this
    exact this
  have hout : Jvm.Free.Multi.outerC cA n.toNatClampNeg H.size n.toNatClampNeg = vp_cell cA (n.toNatClampNeg, .inr (.inr (.inr (.inr (fun i => if i < n.toNatClampNeg then some (H.size + 1 + i) else none))))) := by
    rw [vp_cell_q]
    exact vr_outer cA n.toNatClampNeg H.size n.toNatClampNeg
  rw [hout] at f2
  have hlt : ∀ a, a ∈ L → a < H.size := fun a ha => by
    obtain ⟨k9, hk9⟩ := va_pl_get (X := X) (f := f) ha
    exact (hP k9 _ hk9).lt
  have hnl : ∀ i : Nat, i < n.toNatClampNeg → H.size + 1 + i ∉ L := fun i _ h => by
    have := hlt _ h
    omega
  have hnm : ∀ a, a ∈ (List.range n.toNatClampNeg).map (fun i => H.size + 1 + i) → a ∉ L := fun a ha h => by
    obtain ⟨i, -, rfl⟩ := List.mem_map.mp ha
    have := hlt _ h
    omega
  have hP0 : va_P D cl (X ++ va_pl L f) F.heap := hP.kept (fun k9 x hx => hold x.1 ((hP k9 x hx).lt))
  have hP1 : va_P D cl ((X ++ va_pl L f) ++ [(H.size, .inl (cA, n.toNatClampNeg, .inr (.inr (.inr (.inr (fun i => if i < n.toNatClampNeg then some (H.size + 1 + i) else none))))))]) F.heap := hP0.app (fun k9 x hx => by
    have h0 : k9 < 1 := (List.getElem?_eq_some_iff.mp hx).1
    rw [show k9 = 0 by omega] at hx
    cases hx
    exact f2)
  have hP2 : va_P D cl (((X ++ va_pl L f) ++ [(H.size, .inl (cA, n.toNatClampNeg, .inr (.inr (.inr (.inr (fun i => if i < n.toNatClampNeg then some (H.size + 1 + i) else none))))))]) ++ ((List.range n.toNatClampNeg).map (fun i => H.size + 1 + i)).map (fun a => (a, .inl (cy, z)))) F.heap := hP1.app (fun k9 x hx => by
    obtain ⟨a, ha, rfl⟩ := List.mem_map.mp (List.mem_of_getElem? hx)
    obtain ⟨i, hi, rfl⟩ := List.mem_map.mp ha
    exact hrow i (List.mem_range.mp hi))
  have hD2 : va_D A (((X ++ va_pl L f) ++ [(H.size, .inl (cA, n.toNatClampNeg, .inr (.inr (.inr (.inr (fun i => if i < n.toNatClampNeg then some (H.size + 1 + i) else none))))))]) ++ ((List.range n.toNatClampNeg).map (fun i => H.size + 1 + i)).map (fun a => (a, .inl (cy, z)))) := by
    have hD1 := hD.push (e := .inl (cA, n.toNatClampNeg, .inr (.inr (.inr (.inr (fun i => if i < n.toNatClampNeg then some (H.size + 1 + i) else none)))))) hP rfl (hA _ hS.1)
    generalize hW1 : (X ++ va_pl L f) ++ [(H.size, .inl (cA, n.toNatClampNeg, .inr (.inr (.inr (.inr (fun i => if i < n.toNatClampNeg then some (H.size + 1 + i) else none))))))] = W1 at hD1 hP1 ⊢
    have hle : ∀ (k9 : Nat) (x : Nat × va_E), W1[k9]? = some x → x.1 ≤ H.size := fun k9 x hx => by
      rw [← hW1] at hx
      by_cases hl : k9 < (X ++ va_pl L f).length
      · rw [List.getElem?_append_left hl] at hx
        exact Nat.le_of_lt ((hP k9 x hx).lt)
      · rw [List.getElem?_append_right (by omega)] at hx
        have h0 : k9 - (X ++ va_pl L f).length < 1 := (List.getElem?_eq_some_iff.mp hx).1
        rw [show k9 - (X ++ va_pl L f).length = 0 by omega] at hx
        cases hx
        exact Nat.le_refl _
    have hr : ∀ (k9 : Nat) (x : Nat × va_E), (((List.range n.toNatClampNeg).map (fun i => H.size + 1 + i)).map (fun a => ((a, .inl (cy, z)) : Nat × va_E)))[k9]? = some x → x.1 = H.size + 1 + k9 := fun k9 x hx => by
      rw [List.getElem?_map, List.getElem?_map] at hx
      by_cases h9 : k9 < n.toNatClampNeg
      · rw [List.getElem?_range h9] at hx
        cases hx
        rfl
      · have hn0 : (List.range n.toNatClampNeg)[k9]? = none := List.getElem?_eq_none (by rw [List.length_range]; omega)
        rw [hn0] at hx
        cases hx
    refine ⟨fun i j x y hi hj hxy => ?_, fun k9 x hx => ?_⟩
    · by_cases h1 : i < W1.length <;> by_cases h2 : j < W1.length
      · rw [List.getElem?_append_left h1] at hi
        rw [List.getElem?_append_left h2] at hj
        exact hD1.1 i j x y hi hj hxy
      · rw [List.getElem?_append_left h1] at hi
        rw [List.getElem?_append_right (by omega)] at hj
        have := hle _ _ hi
        have := hr _ _ hj
        omega
      · rw [List.getElem?_append_right (by omega)] at hi
        rw [List.getElem?_append_left h2] at hj
        have := hle _ _ hj
        have := hr _ _ hi
        omega
      · rw [List.getElem?_append_right (by omega)] at hi hj
        have := hr _ _ hi
        have := hr _ _ hj
        omega
    · by_cases h1 : k9 < W1.length
      · rw [List.getElem?_append_left h1] at hx
        exact hD1.2 k9 x hx
      · rw [List.getElem?_append_right (by omega)] at hx
        have := hr _ _ hx
        exact hA _ (by have := hS.1; omega)
  have hAr : ArrOfT s cA (.array ty) := fun N9 z9 => by
    obtain ⟨-, k9, hk9, cm9, hkk9⟩ := (hO 0 0 0).1
    exact ⟨(fun q hq => by cases hq), k9, hk9, cm9, hkk9⟩
  have hK2 : va_K D cl (tys ++ [(cA, .array ty)]) s := ⟨hK.1, fun k9 x hx => by
    by_cases hl : k9 < tys.length
    · rw [List.getElem?_append_left hl] at hx
      exact hK.2 k9 x hx
    · rw [List.getElem?_append_right (by omega)] at hx
      have h0 : k9 - tys.length < 1 := (List.getElem?_eq_some_iff.mp hx).1
      rw [show k9 - tys.length = 0 by omega] at hx
      cases hx
      exact ⟨hAr, fA⟩⟩
  obtain ⟨t, a1, b1⟩ := kk H.size (fun i => H.size + 1 + i) cA F.heap (fun i j _ _ h => by have h9 : H.size + 1 + i = H.size + 1 + j := h; omega) hnl hK2 (by rw [← vr_rows hnm]; exact vr_lay hP2) (by rw [← vr_rows hnm]; exact vr_layD hD2) ⟨by rw [f1]; have := hS.1; omega, fun x h1 h2 => (hold x (Nat.lt_of_lt_of_le h1 hS.1)).trans (hS.2.1 x h1 h2), hS.2.2⟩ F rfl X'
  refine ⟨t, step t ?_, b1⟩
  have e : T.heap.size = H.size := by rw [hT]
  rw [e]
  exact a1
end VGM
/-! ===== END ===== -/

/-! ===== BEGIN printed: names, fields, word lists, decode rows ===== -/
def RX0 : String := "RopeVote$Crank"
def TX0 : u_T := fun k => match k with
  | _ => ("", "", "", false)
def tyX0 : Nat → FieldType := fun k => match k with
  | _ => .int
abbrev wsX00 : List Cond := u_ws RX0 TX0 0
theorem nmX0 : ∀ a, a < 0 → ∀ b, b < 0 → a ≠ b → (TX0 a).2.1 ≠ (TX0 b).2.1 := by decide +kernel
theorem tyX0_ok : ∀ k, k < 0 → parseFieldDescriptor (TX0 k).2.2.1 = some (tyX0 k) := by decide +kernel
abbrev cX0_init : ByteArray := prog_2_method_1_code
def yX0_init : MethodName := ⟨RX0, "<init>", "()V"⟩
abbrev cX0_number : ByteArray := prog_2_method_2_code
def yX0_number : MethodName := ⟨RX0, "number", "()I"⟩
abbrev cX0_pulled : ByteArray := prog_2_method_3_code
def yX0_pulled : MethodName := ⟨RX0, "pulled", "(III)I"⟩
abbrev cX0_driftsAlong : ByteArray := prog_2_method_4_code
def yX0_driftsAlong : MethodName := ⟨RX0, "driftsAlong", "()Z"⟩
def RX1 : String := "RopeVote$Elder"
def TX1 : u_T := fun k => match k with
  | _ => ("", "", "", false)
def tyX1 : Nat → FieldType := fun k => match k with
  | _ => .int
abbrev wsX10 : List Cond := u_ws RX1 TX1 0
theorem nmX1 : ∀ a, a < 0 → ∀ b, b < 0 → a ≠ b → (TX1 a).2.1 ≠ (TX1 b).2.1 := by decide +kernel
theorem tyX1_ok : ∀ k, k < 0 → parseFieldDescriptor (TX1 k).2.2.1 = some (tyX1 k) := by decide +kernel
abbrev cX1_init : ByteArray := prog_3_method_1_code
def yX1_init : MethodName := ⟨RX1, "<init>", "()V"⟩
abbrev cX1_number : ByteArray := prog_3_method_2_code
def yX1_number : MethodName := ⟨RX1, "number", "()I"⟩
abbrev cX1_pulled : ByteArray := prog_3_method_3_code
def yX1_pulled : MethodName := ⟨RX1, "pulled", "(III)I"⟩
def RX2 : String := "RopeVote$Knot"
def TX2 : u_T := fun k => match k with
  | _ => ("", "", "", false)
def tyX2 : Nat → FieldType := fun k => match k with
  | _ => .int
abbrev wsX20 : List Cond := u_ws RX2 TX2 0
theorem nmX2 : ∀ a, a < 0 → ∀ b, b < 0 → a ≠ b → (TX2 a).2.1 ≠ (TX2 b).2.1 := by decide +kernel
theorem tyX2_ok : ∀ k, k < 0 → parseFieldDescriptor (TX2 k).2.2.1 = some (tyX2 k) := by decide +kernel
abbrev cX2_init : ByteArray := prog_4_method_1_code
def yX2_init : MethodName := ⟨RX2, "<init>", "()V"⟩
abbrev cX2_number : ByteArray := prog_4_method_2_code
def yX2_number : MethodName := ⟨RX2, "number", "()I"⟩
abbrev cX2_pulled : ByteArray := prog_4_method_3_code
def yX2_pulled : MethodName := ⟨RX2, "pulled", "(III)I"⟩
def RX3 : String := "RopeVote$Mussel"
def TX3 : u_T := fun k => match k with
  | _ => ("", "", "", false)
def tyX3 : Nat → FieldType := fun k => match k with
  | _ => .int
abbrev wsX30 : List Cond := u_ws RX3 TX3 0
theorem nmX3 : ∀ a, a < 0 → ∀ b, b < 0 → a ≠ b → (TX3 a).2.1 ≠ (TX3 b).2.1 := by decide +kernel
theorem tyX3_ok : ∀ k, k < 0 → parseFieldDescriptor (TX3 k).2.2.1 = some (tyX3 k) := by decide +kernel
abbrev cX3_init : ByteArray := prog_5_method_1_code
def yX3_init : MethodName := ⟨RX3, "<init>", "()V"⟩
abbrev cX3_number : ByteArray := prog_5_method_2_code
def yX3_number : MethodName := ⟨RX3, "number", "()I"⟩
abbrev cX3_pulled : ByteArray := prog_5_method_3_code
def yX3_pulled : MethodName := ⟨RX3, "pulled", "(III)I"⟩
abbrev cX3_driftsAlong : ByteArray := prog_5_method_4_code
def yX3_driftsAlong : MethodName := ⟨RX3, "driftsAlong", "()Z"⟩
def RX4 : String := "RopeVote$Page"
def TX4 : u_T := fun k => match k with
  | 0 => ("RopeVote$Page", "letters", "[I", true)
  | _ => ("RopeVote$Page", "length", "I", false)
def tyX4 : Nat → FieldType := fun k => match k with
  | 0 => .array .int
  | _ => .int
abbrev wsX40 : List Cond := u_ws RX4 TX4 2
theorem nmX4 : ∀ a, a < 2 → ∀ b, b < 2 → a ≠ b → (TX4 a).2.1 ≠ (TX4 b).2.1 := by decide +kernel
theorem tyX4_ok : ∀ k, k < 2 → parseFieldDescriptor (TX4 k).2.2.1 = some (tyX4 k) := by decide +kernel
abbrev cX4_init : ByteArray := prog_6_method_1_code
def yX4_init : MethodName := ⟨RX4, "<init>", "()V"⟩
abbrev cX4_firstFault : ByteArray := prog_6_method_2_code
def yX4_firstFault : MethodName := ⟨RX4, "firstFault", "()I"⟩
abbrev cX4_fitsAt : ByteArray := prog_6_method_3_code
def yX4_fitsAt : MethodName := ⟨RX4, "fitsAt", "(I)Z"⟩
abbrev cX4_readsAsRope : ByteArray := prog_6_method_4_code
def yX4_readsAsRope : MethodName := ⟨RX4, "readsAsRope", "()Z"⟩
abbrev cX4_kindAt : ByteArray := prog_6_method_5_code
def yX4_kindAt : MethodName := ⟨RX4, "kindAt", "(I)I"⟩
abbrev cX4_weightAt : ByteArray := prog_6_method_6_code
def yX4_weightAt : MethodName := ⟨RX4, "weightAt", "(I)I"⟩
abbrev cX4_leanAt : ByteArray := prog_6_method_7_code
def yX4_leanAt : MethodName := ⟨RX4, "leanAt", "(II)I"⟩
def RX5 : String := "RopeVote$Rope"
def TX5 : u_T := fun k => match k with
  | 0 => ("RopeVote$Rope", "kinds", "[LRopeVote$Mussel;", true)
  | 1 => ("RopeVote$Rope", "hung", "[I", true)
  | _ => ("RopeVote$Rope", "size", "I", false)
def tyX5 : Nat → FieldType := fun k => match k with
  | 0 => .array (.object "RopeVote$Mussel")
  | 1 => .array .int
  | _ => .int
abbrev wsX50 : List Cond := u_ws RX5 TX5 3
theorem nmX5 : ∀ a, a < 3 → ∀ b, b < 3 → a ≠ b → (TX5 a).2.1 ≠ (TX5 b).2.1 := by decide +kernel
theorem tyX5_ok : ∀ k, k < 3 → parseFieldDescriptor (TX5 k).2.2.1 = some (tyX5 k) := by decide +kernel
abbrev cX5_init : ByteArray := prog_7_method_1_code
def yX5_init : MethodName := ⟨RX5, "<init>", "()V"⟩
abbrev cX5_has : ByteArray := prog_7_method_2_code
def yX5_has : MethodName := ⟨RX5, "has", "(I)Z"⟩
abbrev cX5_hang : ByteArray := prog_7_method_3_code
def yX5_hang : MethodName := ⟨RX5, "hang", "(II)V"⟩
abbrev cX5_kindOf : ByteArray := prog_7_method_4_code
def yX5_kindOf : MethodName := ⟨RX5, "kindOf", "(I)LRopeVote$Mussel;"⟩
abbrev cX5_feltIn : ByteArray := prog_7_method_5_code
def yX5_feltIn : MethodName := ⟨RX5, "feltIn", "(LRopeVote$Standing;)I"⟩
abbrev cX5_sumOf : ByteArray := prog_7_method_6_code
def yX5_sumOf : MethodName := ⟨RX5, "sumOf", "(LRopeVote$Standing;I)I"⟩
abbrev cX5_pullOf : ByteArray := prog_7_method_7_code
def yX5_pullOf : MethodName := ⟨RX5, "pullOf", "(LRopeVote$Standing;II)I"⟩
abbrev cX5_leanAhead : ByteArray := prog_7_method_8_code
def yX5_leanAhead : MethodName := ⟨RX5, "leanAhead", "(LRopeVote$Standing;II)I"⟩
abbrev cX5_leanBehind : ByteArray := prog_7_method_9_code
def yX5_leanBehind : MethodName := ⟨RX5, "leanBehind", "(LRopeVote$Standing;II)I"⟩
abbrev cX5_drift : ByteArray := prog_7_method_10_code
def yX5_drift : MethodName := ⟨RX5, "drift", "(LRopeVote$Standing;)V"⟩
def RX6 : String := "RopeVote$Standing"
def TX6 : u_T := fun k => match k with
  | 0 => ("RopeVote$Standing", "weights", "[I", true)
  | 1 => ("RopeVote$Standing", "leans", "[[I", true)
  | 2 => ("RopeVote$Standing", "cutThreads", "[I", true)
  | 3 => ("RopeVote$Standing", "asked", "[I", true)
  | 4 => ("RopeVote$Standing", "carried", "[I", true)
  | 5 => ("RopeVote$Standing", "seenMussels", "[I", true)
  | 6 => ("RopeVote$Standing", "seenQuestions", "[I", true)
  | 7 => ("RopeVote$Standing", "seenSums", "[I", true)
  | 8 => ("RopeVote$Standing", "seenCount", "I", false)
  | _ => ("RopeVote$Standing", "tideCount", "I", false)
def tyX6 : Nat → FieldType := fun k => match k with
  | 0 => .array .int
  | 1 => .array (.array .int)
  | 2 => .array .int
  | 3 => .array .int
  | 4 => .array .int
  | 5 => .array .int
  | 6 => .array .int
  | 7 => .array .int
  | 8 => .int
  | _ => .int
abbrev wsX60 : List Cond := u_ws RX6 TX6 10
theorem nmX6 : ∀ a, a < 10 → ∀ b, b < 10 → a ≠ b → (TX6 a).2.1 ≠ (TX6 b).2.1 := by decide +kernel
theorem tyX6_ok : ∀ k, k < 10 → parseFieldDescriptor (TX6 k).2.2.1 = some (tyX6 k) := by decide +kernel
abbrev cX6_init : ByteArray := prog_8_method_1_code
def yX6_init : MethodName := ⟨RX6, "<init>", "()V"⟩
abbrev cX6_turnRound : ByteArray := prog_8_method_2_code
def yX6_turnRound : MethodName := ⟨RX6, "turnRound", "(II)V"⟩
abbrev cX6_addSeen : ByteArray := prog_8_method_3_code
def yX6_addSeen : MethodName := ⟨RX6, "addSeen", "(III)V"⟩
abbrev cX6_seenAllows : ByteArray := prog_8_method_4_code
def yX6_seenAllows : MethodName := ⟨RX6, "seenAllows", "(III)Z"⟩
abbrev cX6_leanCode : ByteArray := prog_8_method_5_code
def yX6_leanCode : MethodName := ⟨RX6, "leanCode", "()J"⟩
abbrev cX6_clearAll : ByteArray := prog_8_method_6_code
def yX6_clearAll : MethodName := ⟨RX6, "clearAll", "()V"⟩
abbrev cX6_takeFrom : ByteArray := prog_8_method_7_code
def yX6_takeFrom : MethodName := ⟨RX6, "takeFrom", "(LRopeVote$Standing;)V"⟩
def RX7 : String := "RopeVote$Swayed"
def TX7 : u_T := fun k => match k with
  | _ => ("", "", "", false)
def tyX7 : Nat → FieldType := fun k => match k with
  | _ => .int
abbrev wsX70 : List Cond := u_ws RX7 TX7 0
theorem nmX7 : ∀ a, a < 0 → ∀ b, b < 0 → a ≠ b → (TX7 a).2.1 ≠ (TX7 b).2.1 := by decide +kernel
theorem tyX7_ok : ∀ k, k < 0 → parseFieldDescriptor (TX7 k).2.2.1 = some (tyX7 k) := by decide +kernel
abbrev cX7_init : ByteArray := prog_9_method_1_code
def yX7_init : MethodName := ⟨RX7, "<init>", "()V"⟩
abbrev cX7_number : ByteArray := prog_9_method_2_code
def yX7_number : MethodName := ⟨RX7, "number", "()I"⟩
abbrev cX7_pulled : ByteArray := prog_9_method_3_code
def yX7_pulled : MethodName := ⟨RX7, "pulled", "(III)I"⟩
def RX8 : String := "RopeVote"
def TX8 : u_T := fun k => match k with
  | 0 => ("RopeVote", "page", "LRopeVote$Page;", true)
  | 1 => ("RopeVote", "rope", "LRopeVote$Rope;", true)
  | 2 => ("RopeVote", "now", "LRopeVote$Standing;", true)
  | 3 => ("RopeVote", "kept", "LRopeVote$Standing;", true)
  | 4 => ("RopeVote", "trial", "LRopeVote$Standing;", true)
  | 5 => ("RopeVote", "subsetSums", "[I", true)
  | 6 => ("RopeVote", "carriedBySize", "[I", true)
  | 7 => ("RopeVote", "sumsByLean", "[I", true)
  | 8 => ("RopeVote", "leanCodes", "[J", true)
  | 9 => ("RopeVote", "imageKept", "Z", false)
  | 10 => ("RopeVote", "ropesRead", "I", false)
  | _ => ("RopeVote", "fewTurnsDone", "I", false)
def tyX8 : Nat → FieldType := fun k => match k with
  | 0 => .object "RopeVote$Page"
  | 1 => .object "RopeVote$Rope"
  | 2 => .object "RopeVote$Standing"
  | 3 => .object "RopeVote$Standing"
  | 4 => .object "RopeVote$Standing"
  | 5 => .array .int
  | 6 => .array .int
  | 7 => .array .int
  | 8 => .array .long
  | 9 => .boolean
  | 10 => .int
  | _ => .int
abbrev wsX80 : List Cond := u_ws RX8 TX8 12
theorem nmX8 : ∀ a, a < 12 → ∀ b, b < 12 → a ≠ b → (TX8 a).2.1 ≠ (TX8 b).2.1 := by decide +kernel
theorem tyX8_ok : ∀ k, k < 12 → parseFieldDescriptor (TX8 k).2.2.1 = some (tyX8 k) := by decide +kernel
abbrev cX8_init : ByteArray := prog_1_method_1_code
def yX8_init : MethodName := ⟨RX8, "<init>", "()V"⟩
abbrev cX8_letter : ByteArray := prog_1_method_2_code
def yX8_letter : MethodName := ⟨RX8, "letter", "(I)I"⟩
abbrev cX8_blank : ByteArray := prog_1_method_3_code
def yX8_blank : MethodName := ⟨RX8, "blank", "()I"⟩
abbrev cX8_fault : ByteArray := prog_1_method_4_code
def yX8_fault : MethodName := ⟨RX8, "fault", "()I"⟩
abbrev cX8_rope : ByteArray := prog_1_method_5_code
def yX8_rope : MethodName := ⟨RX8, "rope", "()I"⟩
abbrev cX8_mussel : ByteArray := prog_1_method_6_code
def yX8_mussel : MethodName := ⟨RX8, "mussel", "(II)I"⟩
abbrev cX8_as : ByteArray := prog_1_method_7_code
def yX8_as : MethodName := ⟨RX8, "as", "(II)I"⟩
abbrev cX8_question : ByteArray := prog_1_method_8_code
def yX8_question : MethodName := ⟨RX8, "question", "(II)I"⟩
abbrev cX8_ask : ByteArray := prog_1_method_9_code
def yX8_ask : MethodName := ⟨RX8, "ask", "(I)I"⟩
abbrev cX8_tide : ByteArray := prog_1_method_10_code
def yX8_tide : MethodName := ⟨RX8, "tide", "()I"⟩
abbrev cX8_cut : ByteArray := prog_1_method_11_code
def yX8_cut : MethodName := ⟨RX8, "cut", "(I)I"⟩
abbrev cX8_tie : ByteArray := prog_1_method_12_code
def yX8_tie : MethodName := ⟨RX8, "tie", "(I)I"⟩
abbrev cX8_turn : ByteArray := prog_1_method_13_code
def yX8_turn : MethodName := ⟨RX8, "turn", "(III)I"⟩
abbrev cX8_grow : ByteArray := prog_1_method_14_code
def yX8_grow : MethodName := ⟨RX8, "grow", "(II)I"⟩
abbrev cX8_say : ByteArray := prog_1_method_15_code
def yX8_say : MethodName := ⟨RX8, "say", "(III)I"⟩
abbrev cX8_chance : ByteArray := prog_1_method_16_code
def yX8_chance : MethodName := ⟨RX8, "chance", "(III)I"⟩
abbrev cX8_cuts : ByteArray := prog_1_method_17_code
def yX8_cuts : MethodName := ⟨RX8, "cuts", "(III)I"⟩
abbrev cX8_fewTurns : ByteArray := prog_1_method_18_code
def yX8_fewTurns : MethodName := ⟨RX8, "fewTurns", "(III)I"⟩
abbrev cX8_settle : ByteArray := prog_1_method_19_code
def yX8_settle : MethodName := ⟨RX8, "settle", "(I)I"⟩
abbrev cX8_see : ByteArray := prog_1_method_20_code
def yX8_see : MethodName := ⟨RX8, "see", "(III)I"⟩
abbrev cX8_forget : ByteArray := prog_1_method_21_code
def yX8_forget : MethodName := ⟨RX8, "forget", "()I"⟩
abbrev cX8_tides : ByteArray := prog_1_method_22_code
def yX8_tides : MethodName := ⟨RX8, "tides", "(III)I"⟩
abbrev cX8_image : ByteArray := prog_1_method_23_code
def yX8_image : MethodName := ⟨RX8, "image", "()I"⟩
abbrev cX8_restore : ByteArray := prog_1_method_24_code
def yX8_restore : MethodName := ⟨RX8, "restore", "()I"⟩
abbrev cX8_count : ByteArray := prog_1_method_25_code
def yX8_count : MethodName := ⟨RX8, "count", "(I)I"⟩
abbrev cX8_digest : ByteArray := prog_1_method_26_code
def yX8_digest : MethodName := ⟨RX8, "digest", "()J"⟩
abbrev cX8_mixedQuestion : ByteArray := prog_1_method_27_code
def yX8_mixedQuestion : MethodName := ⟨RX8, "mixedQuestion", "(JI)J"⟩
abbrev cX8_mixed : ByteArray := prog_1_method_28_code
def yX8_mixed : MethodName := ⟨RX8, "mixed", "(JJ)J"⟩
abbrev cX8_isQuestion : ByteArray := prog_1_method_29_code
def yX8_isQuestion : MethodName := ⟨RX8, "isQuestion", "(I)Z"⟩
abbrev cX8_isWay : ByteArray := prog_1_method_30_code
def yX8_isWay : MethodName := ⟨RX8, "isWay", "(I)Z"⟩
abbrev cX8_isHalf : ByteArray := prog_1_method_31_code
def yX8_isHalf : MethodName := ⟨RX8, "isHalf", "(I)Z"⟩
abbrev cX8_totalOf : ByteArray := prog_1_method_32_code
def yX8_totalOf : MethodName := ⟨RX8, "totalOf", "([I)I"⟩
abbrev cX8_howManyLean : ByteArray := prog_1_method_33_code
def yX8_howManyLean : MethodName := ⟨RX8, "howManyLean", "(II)I"⟩
abbrev cX8_howManyCarriedNow : ByteArray := prog_1_method_34_code
def yX8_howManyCarriedNow : MethodName := ⟨RX8, "howManyCarriedNow", "()I"⟩
abbrev cX8_outcomeOf : ByteArray := prog_1_method_35_code
def yX8_outcomeOf : MethodName := ⟨RX8, "outcomeOf", "(I)I"⟩
abbrev cX8_isOfKind : ByteArray := prog_1_method_36_code
def yX8_isOfKind : MethodName := ⟨RX8, "isOfKind", "(LRopeVote$Mussel;I)Z"⟩
abbrev cX8_ordersDecided : ByteArray := prog_1_method_37_code
def yX8_ordersDecided : MethodName := ⟨RX8, "ordersDecided", "(III)I"⟩
abbrev cX8_partsCarried : ByteArray := prog_1_method_38_code
def yX8_partsCarried : MethodName := ⟨RX8, "partsCarried", "(III)I"⟩
abbrev cX8_fillSubsetSums : ByteArray := prog_1_method_39_code
def yX8_fillSubsetSums : MethodName := ⟨RX8, "fillSubsetSums", "(IIZ)V"⟩
abbrev cX8_power : ByteArray := prog_1_method_40_code
def yX8_power : MethodName := ⟨RX8, "power", "(II)I"⟩
abbrev cX8_inLowestTerms : ByteArray := prog_1_method_41_code
def yX8_inLowestTerms : MethodName := ⟨RX8, "inLowestTerms", "(III)I"⟩
abbrev cX8_greatestDivisor : ByteArray := prog_1_method_42_code
def yX8_greatestDivisor : MethodName := ⟨RX8, "greatestDivisor", "(II)I"⟩
abbrev cX8_fewestCut : ByteArray := prog_1_method_43_code
def yX8_fewestCut : MethodName := ⟨RX8, "fewestCut", "(II)I"⟩
abbrev cX8_fewestTurned : ByteArray := prog_1_method_44_code
def yX8_fewestTurned : MethodName := ⟨RX8, "fewestTurned", "(II)I"⟩
abbrev cX8_comesOutTurned : ByteArray := prog_1_method_45_code
def yX8_comesOutTurned : MethodName := ⟨RX8, "comesOutTurned", "(III)Z"⟩
abbrev cX8_leanOtherwise : ByteArray := prog_1_method_46_code
def yX8_leanOtherwise : MethodName := ⟨RX8, "leanOtherwise", "(III)V"⟩
abbrev cX8_toldOfBits : ByteArray := prog_1_method_47_code
def yX8_toldOfBits : MethodName := ⟨RX8, "toldOfBits", "(II)I"⟩
abbrev cX8_tidesTillAgain : ByteArray := prog_1_method_48_code
def yX8_tidesTillAgain : MethodName := ⟨RX8, "tidesTillAgain", "()I"⟩
abbrev cX8_firstLike : ByteArray := prog_1_method_49_code
def yX8_firstLike : MethodName := ⟨RX8, "firstLike", "(I)I"⟩
abbrev cX8_leansLeft : ByteArray := prog_1_method_50_code
def yX8_leansLeft : MethodName := ⟨RX8, "leansLeft", "(II)I"⟩
abbrev cX8_bestQuestion : ByteArray := prog_1_method_51_code
def yX8_bestQuestion : MethodName := ⟨RX8, "bestQuestion", "(I)I"⟩
abbrev cX8_mostAlike : ByteArray := prog_1_method_52_code
def yX8_mostAlike : MethodName := ⟨RX8, "mostAlike", "(I)I"⟩
abbrev cX8_nextSeed : ByteArray := prog_1_method_53_code
def yX8_nextSeed : MethodName := ⟨RX8, "nextSeed", "(I)I"⟩
abbrev cX8_drawOf : ByteArray := prog_1_method_54_code
def yX8_drawOf : MethodName := ⟨RX8, "drawOf", "(II)I"⟩
def RX9 : String := "RopeVoteModel"
def TX9 : u_T := fun k => match k with
  | 0 => ("RopeVoteModel", "ropes", "I", false)
  | 1 => ("RopeVoteModel", "mussels", "I", false)
  | 2 => ("RopeVoteModel", "kindOf", "[I", true)
  | 3 => ("RopeVoteModel", "weightOf", "[I", true)
  | 4 => ("RopeVoteModel", "leanOf", "[I", true)
  | 5 => ("RopeVoteModel", "cutThreads", "I", false)
  | 6 => ("RopeVoteModel", "tides", "I", false)
  | 7 => ("RopeVoteModel", "askedOf", "[I", true)
  | 8 => ("RopeVoteModel", "carriedOf", "[I", true)
  | 9 => ("RopeVoteModel", "asks", "I", false)
  | 10 => ("RopeVoteModel", "seen", "I", false)
  | 11 => ("RopeVoteModel", "seenMussel", "[I", true)
  | 12 => ("RopeVoteModel", "seenQuestion", "[I", true)
  | 13 => ("RopeVoteModel", "seenSum", "[I", true)
  | 14 => ("RopeVoteModel", "pageLength", "I", false)
  | 15 => ("RopeVoteModel", "page", "[B", true)
  | 16 => ("RopeVoteModel", "isWhole", "Z", false)
  | 17 => ("RopeVoteModel", "newMussels", "I", false)
  | 18 => ("RopeVoteModel", "newLean", "[I", true)
  | 19 => ("RopeVoteModel", "savedLean", "[I", true)
  | 20 => ("RopeVoteModel", "history", "[J", true)
  | 21 => ("RopeVoteModel", "sumBy", "[I", true)
  | 22 => ("RopeVoteModel", "seedNow", "J", false)
  | 23 => ("RopeVoteModel", "keptNow", "[I", true)
  | 24 => ("RopeVoteModel", "isKept", "Z", false)
  | 25 => ("RopeVoteModel", "keptRope", "I", false)
  | 26 => ("RopeVoteModel", "keptCut", "I", false)
  | 27 => ("RopeVoteModel", "keptTides", "I", false)
  | 28 => ("RopeVoteModel", "keptSeen", "I", false)
  | 29 => ("RopeVoteModel", "keptWeight", "[I", true)
  | 30 => ("RopeVoteModel", "keptLean", "[I", true)
  | 31 => ("RopeVoteModel", "keptAsked", "[I", true)
  | 32 => ("RopeVoteModel", "keptCarried", "[I", true)
  | 33 => ("RopeVoteModel", "keptMussel", "[I", true)
  | 34 => ("RopeVoteModel", "keptQuestion", "[I", true)
  | 35 => ("RopeVoteModel", "keptSum", "[I", true)
  | _ => ("RopeVoteModel", "h", "J", false)
def tyX9 : Nat → FieldType := fun k => match k with
  | 0 => .int
  | 1 => .int
  | 2 => .array .int
  | 3 => .array .int
  | 4 => .array .int
  | 5 => .int
  | 6 => .int
  | 7 => .array .int
  | 8 => .array .int
  | 9 => .int
  | 10 => .int
  | 11 => .array .int
  | 12 => .array .int
  | 13 => .array .int
  | 14 => .int
  | 15 => .array .byte
  | 16 => .boolean
  | 17 => .int
  | 18 => .array .int
  | 19 => .array .int
  | 20 => .array .long
  | 21 => .array .int
  | 22 => .long
  | 23 => .array .int
  | 24 => .boolean
  | 25 => .int
  | 26 => .int
  | 27 => .int
  | 28 => .int
  | 29 => .array .int
  | 30 => .array .int
  | 31 => .array .int
  | 32 => .array .int
  | 33 => .array .int
  | 34 => .array .int
  | 35 => .array .int
  | _ => .long
abbrev wsX90 : List Cond := u_ws RX9 TX9 37
theorem nmX9 : ∀ a, a < 37 → ∀ b, b < 37 → a ≠ b → (TX9 a).2.1 ≠ (TX9 b).2.1 := by decide +kernel
theorem tyX9_ok : ∀ k, k < 37 → parseFieldDescriptor (TX9 k).2.2.1 = some (tyX9 k) := by decide +kernel
abbrev cX9_init : ByteArray := prog_11_method_1_code
def yX9_init : MethodName := ⟨RX9, "<init>", "()V"⟩
abbrev cX9_within : ByteArray := prog_11_method_3_code
def yX9_within : MethodName := ⟨RX9, "within", "(III)Z"⟩
abbrev cX9_isIn : ByteArray := prog_11_method_4_code
def yX9_isIn : MethodName := ⟨RX9, "isIn", "(II)Z"⟩
abbrev cX9_size : ByteArray := prog_11_method_5_code
def yX9_size : MethodName := ⟨RX9, "size", "(I)I"⟩
abbrev cX9_divisor : ByteArray := prog_11_method_6_code
def yX9_divisor : MethodName := ⟨RX9, "divisor", "(II)I"⟩
abbrev cX9_part : ByteArray := prog_11_method_7_code
def yX9_part : MethodName := ⟨RX9, "part", "(III)I"⟩
abbrev cX9_letter : ByteArray := prog_11_method_8_code
def yX9_letter : MethodName := ⟨RX9, "letter", "(I)I"⟩
abbrev cX9_blank : ByteArray := prog_11_method_9_code
def yX9_blank : MethodName := ⟨RX9, "blank", "()I"⟩
abbrev cX9_kindBy : ByteArray := prog_11_method_10_code
def yX9_kindBy : MethodName := ⟨RX9, "kindBy", "(I)I"⟩
abbrev cX9_at : ByteArray := prog_11_method_11_code
def yX9_at : MethodName := ⟨RX9, "at", "(I)I"⟩
abbrev cX9_isLean : ByteArray := prog_11_method_12_code
def yX9_isLean : MethodName := ⟨RX9, "isLean", "(I)Z"⟩
abbrev cX9_readOne : ByteArray := prog_11_method_13_code
def yX9_readOne : MethodName := ⟨RX9, "readOne", "(I)I"⟩
abbrev cX9_read : ByteArray := prog_11_method_14_code
def yX9_read : MethodName := ⟨RX9, "read", "()I"⟩
abbrev cX9_fault : ByteArray := prog_11_method_15_code
def yX9_fault : MethodName := ⟨RX9, "fault", "()I"⟩
abbrev cX9_rope : ByteArray := prog_11_method_16_code
def yX9_rope : MethodName := ⟨RX9, "rope", "()I"⟩
abbrev cX9_isMussel : ByteArray := prog_11_method_17_code
def yX9_isMussel : MethodName := ⟨RX9, "isMussel", "(I)Z"⟩
abbrev cX9_isQuestion : ByteArray := prog_11_method_18_code
def yX9_isQuestion : MethodName := ⟨RX9, "isQuestion", "(I)Z"⟩
abbrev cX9_isFelt : ByteArray := prog_11_method_19_code
def yX9_isFelt : MethodName := ⟨RX9, "isFelt", "(I)Z"⟩
abbrev cX9_felt : ByteArray := prog_11_method_20_code
def yX9_felt : MethodName := ⟨RX9, "felt", "()I"⟩
abbrev cX9_leanAhead : ByteArray := prog_11_method_21_code
def yX9_leanAhead : MethodName := ⟨RX9, "leanAhead", "(II)I"⟩
abbrev cX9_leanBehind : ByteArray := prog_11_method_22_code
def yX9_leanBehind : MethodName := ⟨RX9, "leanBehind", "(II)I"⟩
abbrev cX9_pulls : ByteArray := prog_11_method_23_code
def yX9_pulls : MethodName := ⟨RX9, "pulls", "(II)I"⟩
abbrev cX9_sumOf : ByteArray := prog_11_method_24_code
def yX9_sumOf : MethodName := ⟨RX9, "sumOf", "(I)I"⟩
abbrev cX9_outOf : ByteArray := prog_11_method_25_code
def yX9_outOf : MethodName := ⟨RX9, "outOf", "(I)I"⟩
abbrev cX9_leaning : ByteArray := prog_11_method_26_code
def yX9_leaning : MethodName := ⟨RX9, "leaning", "(II)I"⟩
abbrev cX9_musselNow : ByteArray := prog_11_method_27_code
def yX9_musselNow : MethodName := ⟨RX9, "musselNow", "(II)I"⟩
abbrev cX9_isTold : ByteArray := prog_11_method_28_code
def yX9_isTold : MethodName := ⟨RX9, "isTold", "(I)Z"⟩
abbrev cX9_mussel : ByteArray := prog_11_method_29_code
def yX9_mussel : MethodName := ⟨RX9, "mussel", "(II)I"⟩
abbrev cX9_as : ByteArray := prog_11_method_30_code
def yX9_as : MethodName := ⟨RX9, "as", "(II)I"⟩
abbrev cX9_questionNow : ByteArray := prog_11_method_31_code
def yX9_questionNow : MethodName := ⟨RX9, "questionNow", "(II)I"⟩
abbrev cX9_question : ByteArray := prog_11_method_32_code
def yX9_question : MethodName := ⟨RX9, "question", "(II)I"⟩
abbrev cX9_ask : ByteArray := prog_11_method_33_code
def yX9_ask : MethodName := ⟨RX9, "ask", "(I)I"⟩
abbrev cX9_turnTide : ByteArray := prog_11_method_34_code
def yX9_turnTide : MethodName := ⟨RX9, "turnTide", "()V"⟩
abbrev cX9_tide : ByteArray := prog_11_method_35_code
def yX9_tide : MethodName := ⟨RX9, "tide", "()I"⟩
abbrev cX9_cut : ByteArray := prog_11_method_36_code
def yX9_cut : MethodName := ⟨RX9, "cut", "(I)I"⟩
abbrev cX9_tie : ByteArray := prog_11_method_37_code
def yX9_tie : MethodName := ⟨RX9, "tie", "(I)I"⟩
abbrev cX9_turn : ByteArray := prog_11_method_38_code
def yX9_turn : MethodName := ⟨RX9, "turn", "(III)I"⟩
abbrev cX9_grow : ByteArray := prog_11_method_39_code
def yX9_grow : MethodName := ⟨RX9, "grow", "(II)I"⟩
abbrev cX9_orders : ByteArray := prog_11_method_40_code
def yX9_orders : MethodName := ⟨RX9, "orders", "(I)I"⟩
abbrev cX9_forBy : ByteArray := prog_11_method_41_code
def yX9_forBy : MethodName := ⟨RX9, "forBy", "(II)I"⟩
abbrev cX9_sayNow : ByteArray := prog_11_method_42_code
def yX9_sayNow : MethodName := ⟨RX9, "sayNow", "(III)I"⟩
abbrev cX9_say : ByteArray := prog_11_method_43_code
def yX9_say : MethodName := ⟨RX9, "say", "(III)I"⟩
abbrev cX9_chanceNow : ByteArray := prog_11_method_44_code
def yX9_chanceNow : MethodName := ⟨RX9, "chanceNow", "(III)I"⟩
abbrev cX9_chance : ByteArray := prog_11_method_45_code
def yX9_chance : MethodName := ⟨RX9, "chance", "(III)I"⟩
abbrev cX9_cutsNow : ByteArray := prog_11_method_46_code
def yX9_cutsNow : MethodName := ⟨RX9, "cutsNow", "(III)I"⟩
abbrev cX9_cuts : ByteArray := prog_11_method_47_code
def yX9_cuts : MethodName := ⟨RX9, "cuts", "(III)I"⟩
abbrev cX9_saveLeans : ByteArray := prog_11_method_48_code
def yX9_saveLeans : MethodName := ⟨RX9, "saveLeans", "()V"⟩
abbrev cX9_loadLeans : ByteArray := prog_11_method_49_code
def yX9_loadLeans : MethodName := ⟨RX9, "loadLeans", "()V"⟩
abbrev cX9_otherwise : ByteArray := prog_11_method_50_code
def yX9_otherwise : MethodName := ⟨RX9, "otherwise", "(I)I"⟩
abbrev cX9_turnsNow : ByteArray := prog_11_method_51_code
def yX9_turnsNow : MethodName := ⟨RX9, "turnsNow", "(III)I"⟩
abbrev cX9_fewTurns : ByteArray := prog_11_method_52_code
def yX9_fewTurns : MethodName := ⟨RX9, "fewTurns", "(III)I"⟩
abbrev cX9_leansTold : ByteArray := prog_11_method_53_code
def yX9_leansTold : MethodName := ⟨RX9, "leansTold", "()J"⟩
abbrev cX9_settleNow : ByteArray := prog_11_method_54_code
def yX9_settleNow : MethodName := ⟨RX9, "settleNow", "(I)I"⟩
abbrev cX9_settle : ByteArray := prog_11_method_55_code
def yX9_settle : MethodName := ⟨RX9, "settle", "(I)I"⟩
abbrev cX9_see : ByteArray := prog_11_method_56_code
def yX9_see : MethodName := ⟨RX9, "see", "(III)I"⟩
abbrev cX9_forget : ByteArray := prog_11_method_57_code
def yX9_forget : MethodName := ⟨RX9, "forget", "()I"⟩
abbrev cX9_laySums : ByteArray := prog_11_method_58_code
def yX9_laySums : MethodName := ⟨RX9, "laySums", "(II)V"⟩
abbrev cX9_leansOf : ByteArray := prog_11_method_59_code
def yX9_leansOf : MethodName := ⟨RX9, "leansOf", "(II)I"⟩
abbrev cX9_worstOn : ByteArray := prog_11_method_60_code
def yX9_worstOn : MethodName := ⟨RX9, "worstOn", "(I)I"⟩
abbrev cX9_askOf : ByteArray := prog_11_method_61_code
def yX9_askOf : MethodName := ⟨RX9, "askOf", "(I)I"⟩
abbrev cX9_draw : ByteArray := prog_11_method_62_code
def yX9_draw : MethodName := ⟨RX9, "draw", "(I)I"⟩
abbrev cX9_tidesNow : ByteArray := prog_11_method_63_code
def yX9_tidesNow : MethodName := ⟨RX9, "tidesNow", "(III)I"⟩
abbrev cX9_tides : ByteArray := prog_11_method_64_code
def yX9_tides : MethodName := ⟨RX9, "tides", "(III)I"⟩
abbrev cX9_image : ByteArray := prog_11_method_65_code
def yX9_image : MethodName := ⟨RX9, "image", "()I"⟩
abbrev cX9_restore : ByteArray := prog_11_method_66_code
def yX9_restore : MethodName := ⟨RX9, "restore", "()I"⟩
abbrev cX9_weights : ByteArray := prog_11_method_67_code
def yX9_weights : MethodName := ⟨RX9, "weights", "()I"⟩
abbrev cX9_carriedNow : ByteArray := prog_11_method_68_code
def yX9_carriedNow : MethodName := ⟨RX9, "carriedNow", "()I"⟩
abbrev cX9_howMany : ByteArray := prog_11_method_69_code
def yX9_howMany : MethodName := ⟨RX9, "howMany", "(I)I"⟩
abbrev cX9_count : ByteArray := prog_11_method_70_code
def yX9_count : MethodName := ⟨RX9, "count", "(I)I"⟩
abbrev cX9_mix : ByteArray := prog_11_method_71_code
def yX9_mix : MethodName := ⟨RX9, "mix", "(J)V"⟩
abbrev cX9_mixQuestion : ByteArray := prog_11_method_72_code
def yX9_mixQuestion : MethodName := ⟨RX9, "mixQuestion", "(I)V"⟩
abbrev cX9_digest : ByteArray := prog_11_method_73_code
def yX9_digest : MethodName := ⟨RX9, "digest", "()J"⟩
def RJ11 : String := "java/lang/Character"
def TJ11 : u_T := fun k => match k with
  | _ => ("", "", "", false)
def tyJ11 : Nat → FieldType := fun k => match k with
  | _ => .int
abbrev wsJ110 : List Cond := u_ws RJ11 TJ11 0
theorem nmJ11 : ∀ a, a < 0 → ∀ b, b < 0 → a ≠ b → (TJ11 a).2.1 ≠ (TJ11 b).2.1 := by decide +kernel
theorem tyJ11_ok : ∀ k, k < 0 → parseFieldDescriptor (TJ11 k).2.2.1 = some (tyJ11 k) := by decide +kernel
abbrev cJ11_isValidCodePoint_9a6ad : ByteArray := prog_12_method_11_code
def yJ11_isValidCodePoint_9a6ad : MethodName := ⟨RJ11, "isValidCodePoint", "(I)Z"⟩
abbrev cJ11_highSurrogate_5068e : ByteArray := prog_12_method_28_code
def yJ11_highSurrogate_5068e : MethodName := ⟨RJ11, "highSurrogate", "(I)C"⟩
abbrev cJ11_lowSurrogate_5068e : ByteArray := prog_12_method_29_code
def yJ11_lowSurrogate_5068e : MethodName := ⟨RJ11, "lowSurrogate", "(I)C"⟩
def RJ6 : String := "java/lang/Integer"
def TJ6 : u_T := fun k => match k with
  | _ => ("", "", "", false)
def tyJ6 : Nat → FieldType := fun k => match k with
  | _ => .int
abbrev wsJ60 : List Cond := u_ws RJ6 TJ6 0
theorem nmJ6 : ∀ a, a < 0 → ∀ b, b < 0 → a ≠ b → (TJ6 a).2.1 ≠ (TJ6 b).2.1 := by decide +kernel
theorem tyJ6_ok : ∀ k, k < 0 → parseFieldDescriptor (TJ6 k).2.2.1 = some (tyJ6 k) := by decide +kernel
abbrev cJ6_bitCount_0f7a4 : ByteArray := prog_13_method_49_code
def yJ6_bitCount_0f7a4 : MethodName := ⟨RJ6, "bitCount", "(I)I"⟩
def RJ9 : String := "java/lang/Math"
def TJ9 : u_T := fun k => match k with
  | _ => ("", "", "", false)
def tyJ9 : Nat → FieldType := fun k => match k with
  | _ => .int
abbrev wsJ90 : List Cond := u_ws RJ9 TJ9 0
theorem nmJ9 : ∀ a, a < 0 → ∀ b, b < 0 → a ≠ b → (TJ9 a).2.1 ≠ (TJ9 b).2.1 := by decide +kernel
theorem tyJ9_ok : ∀ k, k < 0 → parseFieldDescriptor (TJ9 k).2.2.1 = some (tyJ9 k) := by decide +kernel
abbrev cJ9_max_7cf53 : ByteArray := prog_14_method_65_code
def yJ9_max_7cf53 : MethodName := ⟨RJ9, "max", "(II)I"⟩
abbrev cJ9_min_7cf53 : ByteArray := prog_14_method_69_code
def yJ9_min_7cf53 : MethodName := ⟨RJ9, "min", "(II)I"⟩
def RJ0 : String := "java/lang/String"
def TJ0 : u_T := fun k => match k with
  | _ => ("", "", "", false)
def tyJ0 : Nat → FieldType := fun k => match k with
  | _ => .int
abbrev wsJ00 : List Cond := u_ws RJ0 TJ0 0
theorem nmJ0 : ∀ a, a < 0 → ∀ b, b < 0 → a ≠ b → (TJ0 a).2.1 ≠ (TJ0 b).2.1 := by decide +kernel
theorem tyJ0_ok : ∀ k, k < 0 → parseFieldDescriptor (TJ0 k).2.2.1 = some (tyJ0 k) := by decide +kernel
abbrev cJ0_length_8abf5 : ByteArray := prog_15_method_54_code
def yJ0_length_8abf5 : MethodName := ⟨RJ0, "length", "()I"⟩
abbrev cJ0_indexOf_0f7a4 : ByteArray := prog_15_method_79_code
def yJ0_indexOf_0f7a4 : MethodName := ⟨RJ0, "indexOf", "(I)I"⟩
abbrev cJ0_indexOf_7cf53 : ByteArray := prog_15_method_80_code
def yJ0_indexOf_7cf53 : MethodName := ⟨RJ0, "indexOf", "(II)I"⟩
abbrev cJ0_coder_7d493 : ByteArray := prog_15_method_152_code
def yJ0_coder_7d493 : MethodName := ⟨RJ0, "coder", "()B"⟩
abbrev cJ0_isLatin1_aae02 : ByteArray := prog_15_method_154_code
def yJ0_isLatin1_aae02 : MethodName := ⟨RJ0, "isLatin1", "()Z"⟩
abbrev cJ0_checkBoundsBeginEnd_23922 : ByteArray := prog_15_method_158_code
def yJ0_checkBoundsBeginEnd_23922 : MethodName := ⟨RJ0, "checkBoundsBeginEnd", "(III)V"⟩
def RJ1 : String := "java/lang/StringLatin1"
def TJ1 : u_T := fun k => match k with
  | _ => ("", "", "", false)
def tyJ1 : Nat → FieldType := fun k => match k with
  | _ => .int
abbrev wsJ10 : List Cond := u_ws RJ1 TJ1 0
theorem nmJ1 : ∀ a, a < 0 → ∀ b, b < 0 → a ≠ b → (TJ1 a).2.1 ≠ (TJ1 b).2.1 := by decide +kernel
theorem tyJ1_ok : ∀ k, k < 0 → parseFieldDescriptor (TJ1 k).2.2.1 = some (tyJ1 k) := by decide +kernel
abbrev cJ1_canEncode_9a6ad : ByteArray := prog_16_method_4_code
def yJ1_canEncode_9a6ad : MethodName := ⟨RJ1, "canEncode", "(I)Z"⟩
abbrev cJ1_indexOf_4cfef : ByteArray := prog_16_method_22_code
def yJ1_indexOf_4cfef : MethodName := ⟨RJ1, "indexOf", "([BIII)I"⟩
abbrev cJ1_indexOfChar_4cfef : ByteArray := prog_16_method_23_code
def yJ1_indexOfChar_4cfef : MethodName := ⟨RJ1, "indexOfChar", "([BIII)I"⟩
def RJ2 : String := "java/lang/StringUTF16"
def TJ2 : u_T := fun k => match k with
  | _ => ("", "", "", false)
def tyJ2 : Nat → FieldType := fun k => match k with
  | _ => .int
abbrev wsJ20 : List Cond := u_ws RJ2 TJ2 0
theorem nmJ2 : ∀ a, a < 0 → ∀ b, b < 0 → a ≠ b → (TJ2 a).2.1 ≠ (TJ2 b).2.1 := by decide +kernel
theorem tyJ2_ok : ∀ k, k < 0 → parseFieldDescriptor (TJ2 k).2.2.1 = some (tyJ2 k) := by decide +kernel
abbrev cJ2_getChar_3b067 : ByteArray := prog_17_method_5_code
def yJ2_getChar_3b067 : MethodName := ⟨RJ2, "getChar", "([BI)C"⟩
abbrev cJ2_length_9d52b : ByteArray := prog_17_method_6_code
def yJ2_length_9d52b : MethodName := ⟨RJ2, "length", "([B)I"⟩
abbrev cJ2_indexOf_4cfef : ByteArray := prog_17_method_40_code
def yJ2_indexOf_4cfef : MethodName := ⟨RJ2, "indexOf", "([BIII)I"⟩
abbrev cJ2_indexOfChar_4cfef : ByteArray := prog_17_method_47_code
def yJ2_indexOfChar_4cfef : MethodName := ⟨RJ2, "indexOfChar", "([BIII)I"⟩
abbrev cJ2_indexOfCharUnsafe_4cfef : ByteArray := prog_17_method_48_code
def yJ2_indexOfCharUnsafe_4cfef : MethodName := ⟨RJ2, "indexOfCharUnsafe", "([BIII)I"⟩
abbrev cJ2_indexOfSupplementary_4cfef : ByteArray := prog_17_method_49_code
def yJ2_indexOfSupplementary_4cfef : MethodName := ⟨RJ2, "indexOfSupplementary", "([BIII)I"⟩
abbrev cJ2_checkBoundsBeginEnd_d044e : ByteArray := prog_17_method_93_code
def yJ2_checkBoundsBeginEnd_d044e : MethodName := ⟨RJ2, "checkBoundsBeginEnd", "(II[B)V"⟩
def RJ10 : String := "java/lang/System"
def TJ10 : u_T := fun k => match k with
  | _ => ("", "", "", false)
def tyJ10 : Nat → FieldType := fun k => match k with
  | _ => .int
abbrev wsJ100 : List Cond := u_ws RJ10 TJ10 0
theorem nmJ10 : ∀ a, a < 0 → ∀ b, b < 0 → a ≠ b → (TJ10 a).2.1 ≠ (TJ10 b).2.1 := by decide +kernel
theorem tyJ10_ok : ∀ k, k < 0 → parseFieldDescriptor (TJ10 k).2.2.1 = some (tyJ10 k) := by decide +kernel
def RJ3 : String := "jdk/internal/util/Preconditions"
def TJ3 : u_T := fun k => match k with
  | _ => ("", "", "", false)
def tyJ3 : Nat → FieldType := fun k => match k with
  | _ => .int
abbrev wsJ30 : List Cond := u_ws RJ3 TJ3 0
theorem nmJ3 : ∀ a, a < 0 → ∀ b, b < 0 → a ≠ b → (TJ3 a).2.1 ≠ (TJ3 b).2.1 := by decide +kernel
theorem tyJ3_ok : ∀ k, k < 0 → parseFieldDescriptor (TJ3 k).2.2.1 = some (tyJ3 k) := by decide +kernel
abbrev cJ3_checkFromToIndex_8c36e : ByteArray := prog_19_method_12_code
def yJ3_checkFromToIndex_8c36e : MethodName := ⟨RJ3, "checkFromToIndex", "(IIILjava/util/function/BiFunction;)I"⟩
def RL : String := "RopeVoteLaw"
abbrev cL_law : ByteArray := code
def yL_law : MethodName := ⟨RL, "law", "([I)Z"⟩
set_option maxRecDepth 20000 in
set_option maxRecDepth 20000 in
set_option maxRecDepth 20000 in
set_option maxRecDepth 20000 in
set_option maxRecDepth 20000 in
set_option maxRecDepth 20000 in
set_option maxRecDepth 20000 in
set_option maxRecDepth 20000 in
set_option maxRecDepth 20000 in
set_option maxRecDepth 20000 in
set_option maxRecDepth 20000 in
set_option maxRecDepth 20000 in
set_option maxRecDepth 20000 in
set_option maxRecDepth 20000 in
set_option maxRecDepth 20000 in
set_option maxRecDepth 20000 in
set_option maxRecDepth 20000 in
set_option maxRecDepth 20000 in
set_option maxRecDepth 20000 in
set_option maxRecDepth 20000 in
set_option maxRecDepth 20000 in
set_option maxRecDepth 20000 in
set_option maxRecDepth 20000 in
set_option maxRecDepth 20000 in
set_option maxRecDepth 20000 in
set_option maxRecDepth 20000 in
set_option maxRecDepth 20000 in
set_option maxRecDepth 20000 in
set_option maxRecDepth 20000 in
set_option maxRecDepth 20000 in
set_option maxRecDepth 20000 in
set_option maxRecDepth 20000 in
set_option maxRecDepth 20000 in
set_option maxRecDepth 20000 in
set_option maxRecDepth 20000 in
set_option maxRecDepth 20000 in
set_option maxRecDepth 20000 in
set_option maxRecDepth 20000 in
set_option maxRecDepth 20000 in
set_option maxRecDepth 20000 in
set_option maxRecDepth 20000 in
set_option maxRecDepth 20000 in
set_option maxRecDepth 20000 in
set_option maxRecDepth 20000 in
set_option maxRecDepth 20000 in
set_option maxRecDepth 20000 in
set_option maxRecDepth 20000 in
set_option maxRecDepth 20000 in
set_option maxRecDepth 20000 in
set_option maxRecDepth 20000 in
set_option maxRecDepth 20000 in
set_option maxRecDepth 20000 in
set_option maxRecDepth 20000 in
set_option maxRecDepth 20000 in
set_option maxRecDepth 20000 in
set_option maxRecDepth 20000 in
set_option maxRecDepth 20000 in
set_option maxRecDepth 20000 in
set_option maxRecDepth 20000 in
set_option maxRecDepth 20000 in
set_option maxRecDepth 20000 in
set_option maxRecDepth 20000 in
set_option maxRecDepth 20000 in
set_option maxRecDepth 20000 in
set_option maxRecDepth 20000 in
set_option maxRecDepth 20000 in
set_option maxRecDepth 20000 in
set_option maxRecDepth 20000 in
set_option maxRecDepth 20000 in
set_option maxRecDepth 20000 in
set_option maxRecDepth 20000 in
set_option maxRecDepth 20000 in
set_option maxRecDepth 20000 in
set_option maxRecDepth 20000 in
set_option maxRecDepth 20000 in
set_option maxRecDepth 20000 in
set_option maxRecDepth 20000 in
set_option maxRecDepth 20000 in
set_option maxRecDepth 20000 in
set_option maxRecDepth 20000 in
set_option maxRecDepth 20000 in
set_option maxRecDepth 20000 in
set_option maxRecDepth 20000 in
set_option maxRecDepth 20000 in
set_option maxRecDepth 20000 in
set_option maxRecDepth 20000 in
set_option maxRecDepth 20000 in
set_option maxRecDepth 20000 in
set_option maxRecDepth 20000 in
set_option maxRecDepth 20000 in
set_option maxRecDepth 20000 in
set_option maxRecDepth 20000 in
set_option maxRecDepth 20000 in
set_option maxRecDepth 20000 in
set_option maxRecDepth 20000 in
set_option maxRecDepth 20000 in
set_option maxRecDepth 20000 in
set_option maxRecDepth 20000 in
set_option maxRecDepth 20000 in
set_option maxRecDepth 20000 in
set_option maxRecDepth 20000 in
set_option maxRecDepth 20000 in
set_option maxRecDepth 20000 in
set_option maxRecDepth 20000 in
set_option maxRecDepth 20000 in
set_option maxRecDepth 20000 in
set_option maxRecDepth 20000 in
set_option maxRecDepth 20000 in
set_option maxRecDepth 20000 in
set_option maxRecDepth 20000 in
set_option maxRecDepth 20000 in
set_option maxRecDepth 20000 in
set_option maxRecDepth 20000 in
set_option maxRecDepth 20000 in
set_option maxRecDepth 20000 in
set_option maxRecDepth 20000 in
set_option maxRecDepth 20000 in
set_option maxRecDepth 20000 in
set_option maxRecDepth 20000 in
set_option maxRecDepth 20000 in
set_option maxRecDepth 20000 in
set_option maxRecDepth 20000 in
set_option maxRecDepth 20000 in
set_option maxRecDepth 20000 in
set_option maxRecDepth 20000 in
set_option maxRecDepth 20000 in
set_option maxRecDepth 20000 in
set_option maxRecDepth 20000 in
set_option maxRecDepth 20000 in
set_option maxRecDepth 20000 in
set_option maxRecDepth 20000 in
set_option maxRecDepth 20000 in
set_option maxRecDepth 20000 in
set_option maxRecDepth 20000 in
set_option maxRecDepth 20000 in
set_option maxRecDepth 20000 in
set_option maxRecDepth 20000 in
set_option maxRecDepth 20000 in
set_option maxRecDepth 20000 in
set_option maxRecDepth 20000 in
set_option maxRecDepth 20000 in
set_option maxRecDepth 20000 in
set_option maxRecDepth 20000 in
set_option maxRecDepth 20000 in
set_option maxRecDepth 20000 in
set_option maxRecDepth 20000 in
set_option maxRecDepth 20000 in
set_option maxRecDepth 20000 in
set_option maxRecDepth 20000 in
set_option maxRecDepth 20000 in
set_option maxRecDepth 20000 in
set_option maxRecDepth 20000 in
set_option maxRecDepth 20000 in
set_option maxRecDepth 20000 in
set_option maxRecDepth 20000 in
set_option maxRecDepth 20000 in
set_option maxRecDepth 20000 in
set_option maxRecDepth 20000 in
set_option maxRecDepth 20000 in
set_option maxRecDepth 20000 in
set_option maxRecDepth 20000 in
set_option maxRecDepth 20000 in
set_option maxRecDepth 20000 in
set_option maxRecDepth 20000 in
set_option maxRecDepth 20000 in
set_option maxRecDepth 20000 in
set_option maxRecDepth 20000 in
set_option maxRecDepth 20000 in
set_option maxRecDepth 20000 in
set_option maxRecDepth 20000 in
set_option maxRecDepth 20000 in
set_option maxRecDepth 20000 in
set_option maxRecDepth 20000 in
set_option maxRecDepth 20000 in
set_option maxRecDepth 20000 in
set_option maxRecDepth 20000 in
set_option maxRecDepth 20000 in
set_option maxRecDepth 20000 in
set_option maxRecDepth 20000 in
set_option maxRecDepth 20000 in
set_option maxRecDepth 20000 in
set_option maxRecDepth 20000 in
set_option maxRecDepth 20000 in
set_option maxRecDepth 20000 in
set_option maxRecDepth 20000 in
set_option maxRecDepth 20000 in
set_option maxRecDepth 20000 in
set_option maxRecDepth 20000 in
set_option maxRecDepth 20000 in
set_option maxRecDepth 20000 in
set_option maxRecDepth 20000 in
set_option maxRecDepth 20000 in
set_option maxRecDepth 20000 in
set_option maxRecDepth 20000 in
set_option maxRecDepth 20000 in
set_option maxRecDepth 20000 in
set_option maxRecDepth 20000 in
set_option maxRecDepth 20000 in
set_option maxRecDepth 20000 in
set_option maxRecDepth 20000 in
set_option maxRecDepth 20000 in
set_option maxRecDepth 20000 in
set_option maxRecDepth 20000 in
set_option maxRecDepth 20000 in
set_option maxRecDepth 20000 in
set_option maxRecDepth 20000 in
set_option maxRecDepth 20000 in
set_option maxRecDepth 20000 in
set_option maxRecDepth 20000 in
set_option maxRecDepth 20000 in
set_option maxRecDepth 20000 in
set_option maxRecDepth 20000 in
set_option maxRecDepth 20000 in
set_option maxRecDepth 20000 in
set_option maxRecDepth 20000 in
set_option maxRecDepth 20000 in
set_option maxRecDepth 20000 in
set_option maxRecDepth 20000 in
set_option maxRecDepth 20000 in
set_option maxRecDepth 20000 in
set_option maxRecDepth 20000 in
set_option maxRecDepth 20000 in
set_option maxRecDepth 20000 in
set_option maxRecDepth 20000 in
set_option maxRecDepth 20000 in
set_option maxRecDepth 20000 in
set_option maxRecDepth 20000 in
set_option maxRecDepth 20000 in
set_option maxRecDepth 20000 in
set_option maxRecDepth 20000 in
set_option maxRecDepth 20000 in
set_option maxRecDepth 20000 in
set_option maxRecDepth 20000 in
set_option maxRecDepth 20000 in
set_option maxRecDepth 20000 in
set_option maxRecDepth 20000 in
set_option maxRecDepth 20000 in
set_option maxRecDepth 20000 in
set_option maxRecDepth 20000 in
set_option maxRecDepth 20000 in
set_option maxRecDepth 20000 in
set_option maxRecDepth 20000 in
set_option maxRecDepth 20000 in
set_option maxRecDepth 20000 in
set_option maxRecDepth 20000 in
set_option maxRecDepth 20000 in
set_option maxRecDepth 20000 in
set_option maxRecDepth 20000 in
set_option maxRecDepth 20000 in
set_option maxRecDepth 20000 in
set_option maxRecDepth 20000 in
set_option maxRecDepth 20000 in
set_option maxRecDepth 20000 in
set_option maxRecDepth 20000 in
set_option maxRecDepth 20000 in
set_option maxRecDepth 20000 in
set_option maxRecDepth 20000 in
set_option maxRecDepth 20000 in
set_option maxRecDepth 20000 in
set_option maxRecDepth 20000 in
set_option maxRecDepth 20000 in
set_option maxRecDepth 20000 in
set_option maxRecDepth 20000 in
set_option maxRecDepth 20000 in
set_option maxRecDepth 20000 in
set_option maxRecDepth 20000 in
set_option maxRecDepth 20000 in
set_option maxRecDepth 20000 in
set_option maxRecDepth 20000 in
set_option maxRecDepth 20000 in
set_option maxRecDepth 20000 in
set_option maxRecDepth 20000 in
set_option maxRecDepth 20000 in
set_option maxRecDepth 20000 in
set_option maxRecDepth 20000 in
set_option maxRecDepth 20000 in
set_option maxRecDepth 20000 in
set_option maxRecDepth 20000 in
set_option maxRecDepth 20000 in
set_option maxRecDepth 20000 in
set_option maxRecDepth 20000 in
set_option maxRecDepth 20000 in
set_option maxRecDepth 20000 in
set_option maxRecDepth 20000 in
set_option maxRecDepth 20000 in
set_option maxRecDepth 20000 in
set_option maxRecDepth 20000 in
set_option maxRecDepth 20000 in
set_option maxRecDepth 20000 in
set_option maxRecDepth 20000 in
set_option maxRecDepth 20000 in
set_option maxRecDepth 20000 in
set_option maxRecDepth 20000 in
set_option maxRecDepth 20000 in
set_option maxRecDepth 20000 in
set_option maxRecDepth 20000 in
set_option maxRecDepth 20000 in
set_option maxRecDepth 20000 in
set_option maxRecDepth 20000 in
set_option maxRecDepth 20000 in
set_option maxRecDepth 20000 in
set_option maxRecDepth 20000 in
set_option maxRecDepth 20000 in
set_option maxRecDepth 20000 in
set_option maxRecDepth 20000 in
set_option maxRecDepth 20000 in
set_option maxRecDepth 20000 in
set_option maxRecDepth 20000 in
set_option maxRecDepth 20000 in
set_option maxRecDepth 20000 in
set_option maxRecDepth 20000 in
set_option maxRecDepth 20000 in
set_option maxRecDepth 20000 in
set_option maxRecDepth 20000 in
set_option maxRecDepth 20000 in
set_option maxRecDepth 20000 in
set_option maxRecDepth 20000 in
set_option maxRecDepth 20000 in
set_option maxRecDepth 20000 in
set_option maxRecDepth 20000 in
set_option maxRecDepth 20000 in
set_option maxRecDepth 20000 in
set_option maxRecDepth 20000 in
set_option maxRecDepth 20000 in
set_option maxRecDepth 20000 in
set_option maxRecDepth 20000 in
set_option maxRecDepth 20000 in
set_option maxRecDepth 20000 in
set_option maxRecDepth 20000 in
set_option maxRecDepth 20000 in
set_option maxRecDepth 20000 in
set_option maxRecDepth 20000 in
set_option maxRecDepth 20000 in
set_option maxRecDepth 20000 in
set_option maxRecDepth 20000 in
set_option maxRecDepth 20000 in
set_option maxRecDepth 20000 in
set_option maxRecDepth 20000 in
set_option maxRecDepth 20000 in
set_option maxRecDepth 20000 in
set_option maxRecDepth 20000 in
set_option maxRecDepth 20000 in
set_option maxRecDepth 20000 in
set_option maxRecDepth 20000 in
set_option maxRecDepth 20000 in
set_option maxRecDepth 20000 in
set_option maxRecDepth 20000 in
set_option maxRecDepth 20000 in
set_option maxRecDepth 20000 in
set_option maxRecDepth 20000 in
set_option maxRecDepth 20000 in
set_option maxRecDepth 20000 in
set_option maxRecDepth 20000 in
set_option maxRecDepth 20000 in
set_option maxRecDepth 20000 in
set_option maxRecDepth 20000 in
set_option maxRecDepth 20000 in
set_option maxRecDepth 20000 in
set_option maxRecDepth 20000 in
set_option maxRecDepth 20000 in
set_option maxRecDepth 20000 in
set_option maxRecDepth 20000 in
set_option maxRecDepth 20000 in
set_option maxRecDepth 20000 in
set_option maxRecDepth 20000 in
set_option maxRecDepth 20000 in
set_option maxRecDepth 20000 in
set_option maxRecDepth 20000 in
set_option maxRecDepth 20000 in
set_option maxRecDepth 20000 in
set_option maxRecDepth 20000 in
set_option maxRecDepth 20000 in
set_option maxRecDepth 20000 in
set_option maxRecDepth 20000 in
set_option maxRecDepth 20000 in
set_option maxRecDepth 20000 in
set_option maxRecDepth 20000 in
set_option maxRecDepth 20000 in
set_option maxRecDepth 20000 in
set_option maxRecDepth 20000 in
set_option maxRecDepth 20000 in
set_option maxRecDepth 20000 in
set_option maxRecDepth 20000 in
set_option maxRecDepth 20000 in
set_option maxRecDepth 20000 in
set_option maxRecDepth 20000 in
set_option maxRecDepth 20000 in
set_option maxRecDepth 20000 in
set_option maxRecDepth 20000 in
set_option maxRecDepth 20000 in
set_option maxRecDepth 20000 in
set_option maxRecDepth 20000 in
set_option maxRecDepth 20000 in
set_option maxRecDepth 20000 in
set_option maxRecDepth 20000 in
set_option maxRecDepth 20000 in
set_option maxRecDepth 20000 in
set_option maxRecDepth 20000 in
set_option maxRecDepth 20000 in
set_option maxRecDepth 20000 in
set_option maxRecDepth 20000 in
set_option maxRecDepth 20000 in
set_option maxRecDepth 20000 in
set_option maxRecDepth 20000 in
set_option maxRecDepth 20000 in
set_option maxRecDepth 20000 in
set_option maxRecDepth 20000 in
set_option maxRecDepth 20000 in
set_option maxRecDepth 20000 in
set_option maxRecDepth 20000 in
set_option maxRecDepth 20000 in
set_option maxRecDepth 20000 in
set_option maxRecDepth 20000 in
set_option maxRecDepth 20000 in
set_option maxRecDepth 20000 in
set_option maxRecDepth 20000 in
set_option maxRecDepth 20000 in
set_option maxRecDepth 20000 in
set_option maxRecDepth 20000 in
set_option maxRecDepth 20000 in
set_option maxRecDepth 20000 in
set_option maxRecDepth 20000 in
set_option maxRecDepth 20000 in
set_option maxRecDepth 20000 in
set_option maxRecDepth 20000 in
set_option maxRecDepth 20000 in
set_option maxRecDepth 20000 in
set_option maxRecDepth 20000 in
set_option maxRecDepth 20000 in
set_option maxRecDepth 20000 in
set_option maxRecDepth 20000 in
set_option maxRecDepth 20000 in
set_option maxRecDepth 20000 in
set_option maxRecDepth 20000 in
set_option maxRecDepth 20000 in
set_option maxRecDepth 20000 in
set_option maxRecDepth 20000 in
set_option maxRecDepth 20000 in
set_option maxRecDepth 20000 in
set_option maxRecDepth 20000 in
set_option maxRecDepth 20000 in
set_option maxRecDepth 20000 in
set_option maxRecDepth 20000 in
set_option maxRecDepth 20000 in
set_option maxRecDepth 20000 in
set_option maxRecDepth 20000 in
set_option maxRecDepth 20000 in
set_option maxRecDepth 20000 in
set_option maxRecDepth 20000 in
set_option maxRecDepth 20000 in
set_option maxRecDepth 20000 in
set_option maxRecDepth 20000 in
set_option maxRecDepth 20000 in
set_option maxRecDepth 20000 in
set_option maxRecDepth 20000 in
set_option maxRecDepth 20000 in
set_option maxRecDepth 20000 in
set_option maxRecDepth 20000 in
set_option maxRecDepth 20000 in
set_option maxRecDepth 20000 in
set_option maxRecDepth 20000 in
set_option maxRecDepth 20000 in
set_option maxRecDepth 20000 in
set_option maxRecDepth 20000 in
set_option maxRecDepth 20000 in
set_option maxRecDepth 20000 in
set_option maxRecDepth 20000 in
set_option maxRecDepth 20000 in
set_option maxRecDepth 20000 in
set_option maxRecDepth 20000 in
set_option maxRecDepth 20000 in
set_option maxRecDepth 20000 in
set_option maxRecDepth 20000 in
set_option maxRecDepth 20000 in
set_option maxRecDepth 20000 in
set_option maxRecDepth 20000 in
set_option maxRecDepth 20000 in
set_option maxRecDepth 20000 in
set_option maxRecDepth 20000 in
set_option maxRecDepth 20000 in
set_option maxRecDepth 20000 in
set_option maxRecDepth 20000 in
set_option maxRecDepth 20000 in
set_option maxRecDepth 20000 in
set_option maxRecDepth 20000 in
set_option maxRecDepth 20000 in
set_option maxRecDepth 20000 in
set_option maxRecDepth 20000 in
set_option maxRecDepth 20000 in
set_option maxRecDepth 20000 in
set_option maxRecDepth 20000 in
set_option maxRecDepth 20000 in
set_option maxRecDepth 20000 in
set_option maxRecDepth 20000 in
set_option maxRecDepth 20000 in
set_option maxRecDepth 20000 in
set_option maxRecDepth 20000 in
set_option maxRecDepth 20000 in
set_option maxRecDepth 20000 in
set_option maxRecDepth 20000 in
set_option maxRecDepth 20000 in
set_option maxRecDepth 20000 in
set_option maxRecDepth 20000 in
set_option maxRecDepth 20000 in
set_option maxRecDepth 20000 in
set_option maxRecDepth 20000 in
set_option maxRecDepth 20000 in
set_option maxRecDepth 20000 in
set_option maxRecDepth 20000 in
set_option maxRecDepth 20000 in
set_option maxRecDepth 20000 in
set_option maxRecDepth 20000 in
set_option maxRecDepth 20000 in
set_option maxRecDepth 20000 in
set_option maxRecDepth 20000 in
set_option maxRecDepth 20000 in
set_option maxRecDepth 20000 in
set_option maxRecDepth 20000 in
set_option maxRecDepth 20000 in
set_option maxRecDepth 20000 in
set_option maxRecDepth 20000 in
set_option maxRecDepth 20000 in
set_option maxRecDepth 20000 in
set_option maxRecDepth 20000 in
set_option maxRecDepth 20000 in
set_option maxRecDepth 20000 in
set_option maxRecDepth 20000 in
set_option maxRecDepth 20000 in
set_option maxRecDepth 20000 in
set_option maxRecDepth 20000 in
set_option maxRecDepth 20000 in
set_option maxRecDepth 20000 in
set_option maxRecDepth 20000 in
set_option maxRecDepth 20000 in
set_option maxRecDepth 20000 in
set_option maxRecDepth 20000 in
set_option maxRecDepth 20000 in
set_option maxRecDepth 20000 in
set_option maxRecDepth 20000 in
set_option maxRecDepth 20000 in
set_option maxRecDepth 20000 in
set_option maxRecDepth 20000 in
set_option maxRecDepth 20000 in
set_option maxRecDepth 20000 in
set_option maxRecDepth 20000 in
set_option maxRecDepth 20000 in
set_option maxRecDepth 20000 in
set_option maxRecDepth 20000 in
set_option maxRecDepth 20000 in
set_option maxRecDepth 20000 in
set_option maxRecDepth 20000 in
set_option maxRecDepth 20000 in
set_option maxRecDepth 20000 in
set_option maxRecDepth 20000 in
set_option maxRecDepth 20000 in
set_option maxRecDepth 20000 in
set_option maxRecDepth 20000 in
set_option maxRecDepth 20000 in
set_option maxRecDepth 20000 in
set_option maxRecDepth 20000 in
set_option maxRecDepth 20000 in
set_option maxRecDepth 20000 in
set_option maxRecDepth 20000 in
set_option maxRecDepth 20000 in
set_option maxRecDepth 20000 in
set_option maxRecDepth 20000 in
set_option maxRecDepth 20000 in
set_option maxRecDepth 20000 in
set_option maxRecDepth 20000 in
set_option maxRecDepth 20000 in
set_option maxRecDepth 20000 in
set_option maxRecDepth 20000 in
set_option maxRecDepth 20000 in
set_option maxRecDepth 20000 in
set_option maxRecDepth 20000 in
set_option maxRecDepth 20000 in
set_option maxRecDepth 20000 in
set_option maxRecDepth 20000 in
set_option maxRecDepth 20000 in
set_option maxRecDepth 20000 in
set_option maxRecDepth 20000 in
set_option maxRecDepth 20000 in
set_option maxRecDepth 20000 in
set_option maxRecDepth 20000 in
set_option maxRecDepth 20000 in
set_option maxRecDepth 20000 in
set_option maxRecDepth 20000 in
set_option maxRecDepth 20000 in
set_option maxRecDepth 20000 in
set_option maxRecDepth 20000 in
set_option maxRecDepth 20000 in
set_option maxRecDepth 20000 in
set_option maxRecDepth 20000 in
set_option maxRecDepth 20000 in
set_option maxRecDepth 20000 in
set_option maxRecDepth 20000 in
set_option maxRecDepth 20000 in
set_option maxRecDepth 20000 in
set_option maxRecDepth 20000 in
set_option maxRecDepth 20000 in
set_option maxRecDepth 20000 in
set_option maxRecDepth 20000 in
set_option maxRecDepth 20000 in
set_option maxRecDepth 20000 in
set_option maxRecDepth 20000 in
set_option maxRecDepth 20000 in
set_option maxRecDepth 20000 in
set_option maxRecDepth 20000 in
set_option maxRecDepth 20000 in
set_option maxRecDepth 20000 in
set_option maxRecDepth 20000 in
set_option maxRecDepth 20000 in
set_option maxRecDepth 20000 in
set_option maxRecDepth 20000 in
set_option maxRecDepth 20000 in
set_option maxRecDepth 20000 in
set_option maxRecDepth 20000 in
set_option maxRecDepth 20000 in
set_option maxRecDepth 20000 in
set_option maxRecDepth 20000 in
set_option maxRecDepth 20000 in
set_option maxRecDepth 20000 in
set_option maxRecDepth 20000 in
set_option maxRecDepth 20000 in
set_option maxRecDepth 20000 in
set_option maxRecDepth 20000 in
set_option maxRecDepth 20000 in
set_option maxRecDepth 20000 in
set_option maxRecDepth 20000 in
set_option maxRecDepth 20000 in
set_option maxRecDepth 20000 in
set_option maxRecDepth 20000 in
set_option maxRecDepth 20000 in
set_option maxRecDepth 20000 in
set_option maxRecDepth 20000 in
set_option maxRecDepth 20000 in
set_option maxRecDepth 20000 in
set_option maxRecDepth 20000 in
set_option maxRecDepth 20000 in
set_option maxRecDepth 20000 in
set_option maxRecDepth 20000 in
set_option maxRecDepth 20000 in
set_option maxRecDepth 20000 in
set_option maxRecDepth 20000 in
set_option maxRecDepth 20000 in
set_option maxRecDepth 20000 in
set_option maxRecDepth 20000 in
set_option maxRecDepth 20000 in
set_option maxRecDepth 20000 in
set_option maxRecDepth 20000 in
set_option maxRecDepth 20000 in
set_option maxRecDepth 20000 in
set_option maxRecDepth 20000 in
set_option maxRecDepth 20000 in
set_option maxRecDepth 20000 in
set_option maxRecDepth 20000 in
set_option maxRecDepth 20000 in
set_option maxRecDepth 20000 in
set_option maxRecDepth 20000 in
set_option maxRecDepth 20000 in
set_option maxRecDepth 20000 in
set_option maxRecDepth 20000 in
set_option maxRecDepth 20000 in
set_option maxRecDepth 20000 in
set_option maxRecDepth 20000 in
set_option maxRecDepth 20000 in
set_option maxRecDepth 20000 in
set_option maxRecDepth 20000 in
set_option maxRecDepth 20000 in
set_option maxRecDepth 20000 in
set_option maxRecDepth 20000 in
set_option maxRecDepth 20000 in
set_option maxRecDepth 20000 in
set_option maxRecDepth 20000 in
set_option maxRecDepth 20000 in
set_option maxRecDepth 20000 in
set_option maxRecDepth 20000 in
set_option maxRecDepth 20000 in
set_option maxRecDepth 20000 in
set_option maxRecDepth 20000 in
set_option maxRecDepth 20000 in
set_option maxRecDepth 20000 in
set_option maxRecDepth 20000 in
set_option maxRecDepth 20000 in
set_option maxRecDepth 20000 in
set_option maxRecDepth 20000 in
set_option maxRecDepth 20000 in
set_option maxRecDepth 20000 in
set_option maxRecDepth 20000 in
set_option maxRecDepth 20000 in
set_option maxRecDepth 20000 in
set_option maxRecDepth 20000 in
set_option maxRecDepth 20000 in
set_option maxRecDepth 20000 in
set_option maxRecDepth 20000 in
set_option maxRecDepth 20000 in
set_option maxRecDepth 20000 in
set_option maxRecDepth 20000 in
set_option maxRecDepth 20000 in
set_option maxRecDepth 20000 in
set_option maxRecDepth 20000 in
set_option maxRecDepth 20000 in
set_option maxRecDepth 20000 in
set_option maxRecDepth 20000 in
abbrev vwCl : List vw_C := [(RX0, TX0, 0), (RX1, TX1, 0), (RX2, TX2, 0), (RX3, TX3, 0), (RX4, TX4, 2), (RX5, TX5, 3), (RX6, TX6, 10), (RX7, TX7, 0), (RX8, TX8, 12), (RX9, TX9, 37)]
end
section
theorem dX0_init_0 : decode cX0_init 0 = .ok (.aload_n 0, 1) := by decide +kernel
theorem dX0_init_1 : decode cX0_init 1 = .ok (.invokespecial 1, 3) := by decide +kernel
theorem dX0_init_4 : decode cX0_init 4 = .ok (.return_, 1) := by decide +kernel
theorem dX0_number_0 : decode cX0_number 0 = .ok (.iconst 2, 1) := by decide +kernel
theorem dX0_number_1 : decode cX0_number 1 = .ok (.ireturn, 1) := by decide +kernel
theorem dX0_pulled_0 : decode cX0_pulled 0 = .ok (.iload_n 1, 1) := by decide +kernel
theorem dX0_pulled_1 : decode cX0_pulled 1 = .ok (.ineg, 1) := by decide +kernel
theorem dX0_pulled_2 : decode cX0_pulled 2 = .ok (.iload_n 2, 1) := by decide +kernel
theorem dX0_pulled_3 : decode cX0_pulled 3 = .ok (.imul, 1) := by decide +kernel
theorem dX0_pulled_4 : decode cX0_pulled 4 = .ok (.ireturn, 1) := by decide +kernel
theorem dX0_driftsAlong_0 : decode cX0_driftsAlong 0 = .ok (.iconst 0, 1) := by decide +kernel
theorem dX0_driftsAlong_1 : decode cX0_driftsAlong 1 = .ok (.ireturn, 1) := by decide +kernel
theorem dX1_init_0 : decode cX1_init 0 = .ok (.aload_n 0, 1) := by decide +kernel
theorem dX1_init_1 : decode cX1_init 1 = .ok (.invokespecial 1, 3) := by decide +kernel
theorem dX1_init_4 : decode cX1_init 4 = .ok (.return_, 1) := by decide +kernel
theorem dX1_number_0 : decode cX1_number 0 = .ok (.iconst 1, 1) := by decide +kernel
theorem dX1_number_1 : decode cX1_number 1 = .ok (.ireturn, 1) := by decide +kernel
theorem dX1_pulled_0 : decode cX1_pulled 0 = .ok (.iconst 2, 1) := by decide +kernel
theorem dX1_pulled_1 : decode cX1_pulled 1 = .ok (.iload_n 1, 1) := by decide +kernel
theorem dX1_pulled_2 : decode cX1_pulled 2 = .ok (.imul, 1) := by decide +kernel
theorem dX1_pulled_3 : decode cX1_pulled 3 = .ok (.iload_n 2, 1) := by decide +kernel
theorem dX1_pulled_4 : decode cX1_pulled 4 = .ok (.imul, 1) := by decide +kernel
theorem dX1_pulled_5 : decode cX1_pulled 5 = .ok (.ireturn, 1) := by decide +kernel
theorem dX2_init_0 : decode cX2_init 0 = .ok (.aload_n 0, 1) := by decide +kernel
theorem dX2_init_1 : decode cX2_init 1 = .ok (.invokespecial 1, 3) := by decide +kernel
theorem dX2_init_4 : decode cX2_init 4 = .ok (.return_, 1) := by decide +kernel
theorem dX2_number_0 : decode cX2_number 0 = .ok (.iconst 3, 1) := by decide +kernel
theorem dX2_number_1 : decode cX2_number 1 = .ok (.ireturn, 1) := by decide +kernel
theorem dX2_pulled_0 : decode cX2_pulled 0 = .ok (.iload_n 1, 1) := by decide +kernel
theorem dX2_pulled_1 : decode cX2_pulled 1 = .ok (.iload_n 3, 1) := by decide +kernel
theorem dX2_pulled_2 : decode cX2_pulled 2 = .ok (.imul, 1) := by decide +kernel
theorem dX2_pulled_3 : decode cX2_pulled 3 = .ok (.ireturn, 1) := by decide +kernel
theorem dX3_init_0 : decode cX3_init 0 = .ok (.aload_n 0, 1) := by decide +kernel
theorem dX3_init_1 : decode cX3_init 1 = .ok (.invokespecial 1, 3) := by decide +kernel
theorem dX3_init_4 : decode cX3_init 4 = .ok (.return_, 1) := by decide +kernel
theorem dX3_number_0 : decode cX3_number 0 = .ok (.iconst 0, 1) := by decide +kernel
theorem dX3_number_1 : decode cX3_number 1 = .ok (.ireturn, 1) := by decide +kernel
theorem dX3_pulled_0 : decode cX3_pulled 0 = .ok (.iload_n 1, 1) := by decide +kernel
theorem dX3_pulled_1 : decode cX3_pulled 1 = .ok (.iload_n 2, 1) := by decide +kernel
theorem dX3_pulled_2 : decode cX3_pulled 2 = .ok (.imul, 1) := by decide +kernel
theorem dX3_pulled_3 : decode cX3_pulled 3 = .ok (.ireturn, 1) := by decide +kernel
theorem dX3_driftsAlong_0 : decode cX3_driftsAlong 0 = .ok (.iconst 1, 1) := by decide +kernel
theorem dX3_driftsAlong_1 : decode cX3_driftsAlong 1 = .ok (.ireturn, 1) := by decide +kernel
theorem dX4_init_0 : decode cX4_init 0 = .ok (.aload_n 0, 1) := by decide +kernel
theorem dX4_init_1 : decode cX4_init 1 = .ok (.invokespecial 3, 3) := by decide +kernel
theorem dX4_init_4 : decode cX4_init 4 = .ok (.aload_n 0, 1) := by decide +kernel
theorem dX4_init_5 : decode cX4_init 5 = .ok (.bipush 50, 2) := by decide +kernel
theorem dX4_init_7 : decode cX4_init 7 = .ok (.newarray .int, 2) := by decide +kernel
theorem dX4_init_9 : decode cX4_init 9 = .ok (.putfield 9, 3) := by decide +kernel
theorem dX4_init_12 : decode cX4_init 12 = .ok (.return_, 1) := by decide +kernel
theorem dX4_firstFault_0 : decode cX4_firstFault 0 = .ok (.iconst 0, 1) := by decide +kernel
theorem dX4_firstFault_1 : decode cX4_firstFault 1 = .ok (.istore_n 1, 1) := by decide +kernel
theorem dX4_firstFault_2 : decode cX4_firstFault 2 = .ok (.iload_n 1, 1) := by decide +kernel
theorem dX4_firstFault_3 : decode cX4_firstFault 3 = .ok (.aload_n 0, 1) := by decide +kernel
theorem dX4_firstFault_4 : decode cX4_firstFault 4 = .ok (.getfield 15, 3) := by decide +kernel
theorem dX4_firstFault_7 : decode cX4_firstFault 7 = .ok (.if_icmp .ge 17, 3) := by decide +kernel
theorem dX4_firstFault_10 : decode cX4_firstFault 10 = .ok (.aload_n 0, 1) := by decide +kernel
theorem dX4_firstFault_11 : decode cX4_firstFault 11 = .ok (.iload_n 1, 1) := by decide +kernel
theorem dX4_firstFault_12 : decode cX4_firstFault 12 = .ok (.invokevirtual 19, 3) := by decide +kernel
theorem dX4_firstFault_15 : decode cX4_firstFault 15 = .ok (.ifCond .eq 9, 3) := by decide +kernel
theorem dX4_firstFault_18 : decode cX4_firstFault 18 = .ok (.iinc 1 1, 3) := by decide +kernel
theorem dX4_firstFault_21 : decode cX4_firstFault 21 = .ok (.goto (-19), 3) := by decide +kernel
theorem dX4_firstFault_24 : decode cX4_firstFault 24 = .ok (.iload_n 1, 1) := by decide +kernel
theorem dX4_firstFault_25 : decode cX4_firstFault 25 = .ok (.ireturn, 1) := by decide +kernel
theorem dX4_fitsAt_0 : decode cX4_fitsAt 0 = .ok (.iload_n 1, 1) := by decide +kernel
theorem dX4_fitsAt_1 : decode cX4_fitsAt 1 = .ok (.bipush 47, 2) := by decide +kernel
theorem dX4_fitsAt_3 : decode cX4_fitsAt 3 = .ok (.if_icmp .lt 5, 3) := by decide +kernel
theorem dX4_fitsAt_6 : decode cX4_fitsAt 6 = .ok (.iconst 0, 1) := by decide +kernel
theorem dX4_fitsAt_7 : decode cX4_fitsAt 7 = .ok (.ireturn, 1) := by decide +kernel
theorem dX4_fitsAt_8 : decode cX4_fitsAt 8 = .ok (.aload_n 0, 1) := by decide +kernel
theorem dX4_fitsAt_9 : decode cX4_fitsAt 9 = .ok (.getfield 9, 3) := by decide +kernel
theorem dX4_fitsAt_12 : decode cX4_fitsAt 12 = .ok (.iload_n 1, 1) := by decide +kernel
theorem dX4_fitsAt_13 : decode cX4_fitsAt 13 = .ok (.iaload, 1) := by decide +kernel
theorem dX4_fitsAt_14 : decode cX4_fitsAt 14 = .ok (.istore_n 2, 1) := by decide +kernel
theorem dX4_fitsAt_15 : decode cX4_fitsAt 15 = .ok (.iload_n 1, 1) := by decide +kernel
theorem dX4_fitsAt_16 : decode cX4_fitsAt 16 = .ok (.bipush 6, 2) := by decide +kernel
theorem dX4_fitsAt_18 : decode cX4_fitsAt 18 = .ok (.irem, 1) := by decide +kernel
theorem dX4_fitsAt_19 : decode cX4_fitsAt 19 = .ok (.lookupswitch 79 #[(0, 33), (1, 49), (5, 67)], 33) := by decide +kernel
theorem dX4_fitsAt_52 : decode cX4_fitsAt 52 = .ok (.ldc 23, 2) := by decide +kernel
theorem dX4_fitsAt_54 : decode cX4_fitsAt 54 = .ok (.iload_n 2, 1) := by decide +kernel
theorem dX4_fitsAt_55 : decode cX4_fitsAt 55 = .ok (.i2c, 1) := by decide +kernel
theorem dX4_fitsAt_56 : decode cX4_fitsAt 56 = .ok (.invokevirtual 25, 3) := by decide +kernel
theorem dX4_fitsAt_59 : decode cX4_fitsAt 59 = .ok (.ifCond .lt 7, 3) := by decide +kernel
theorem dX4_fitsAt_62 : decode cX4_fitsAt 62 = .ok (.iconst 1, 1) := by decide +kernel
theorem dX4_fitsAt_63 : decode cX4_fitsAt 63 = .ok (.goto 4, 3) := by decide +kernel
theorem dX4_fitsAt_66 : decode cX4_fitsAt 66 = .ok (.iconst 0, 1) := by decide +kernel
theorem dX4_fitsAt_67 : decode cX4_fitsAt 67 = .ok (.ireturn, 1) := by decide +kernel
theorem dX4_fitsAt_68 : decode cX4_fitsAt 68 = .ok (.iload_n 2, 1) := by decide +kernel
theorem dX4_fitsAt_69 : decode cX4_fitsAt 69 = .ok (.bipush 49, 2) := by decide +kernel
theorem dX4_fitsAt_71 : decode cX4_fitsAt 71 = .ok (.if_icmp .lt 13, 3) := by decide +kernel
theorem dX4_fitsAt_74 : decode cX4_fitsAt 74 = .ok (.iload_n 2, 1) := by decide +kernel
theorem dX4_fitsAt_75 : decode cX4_fitsAt 75 = .ok (.bipush 57, 2) := by decide +kernel
theorem dX4_fitsAt_77 : decode cX4_fitsAt 77 = .ok (.if_icmp .gt 7, 3) := by decide +kernel
theorem dX4_fitsAt_80 : decode cX4_fitsAt 80 = .ok (.iconst 1, 1) := by decide +kernel
theorem dX4_fitsAt_81 : decode cX4_fitsAt 81 = .ok (.goto 4, 3) := by decide +kernel
theorem dX4_fitsAt_84 : decode cX4_fitsAt 84 = .ok (.iconst 0, 1) := by decide +kernel
theorem dX4_fitsAt_85 : decode cX4_fitsAt 85 = .ok (.ireturn, 1) := by decide +kernel
theorem dX4_fitsAt_86 : decode cX4_fitsAt 86 = .ok (.iload_n 2, 1) := by decide +kernel
theorem dX4_fitsAt_87 : decode cX4_fitsAt 87 = .ok (.bipush 44, 2) := by decide +kernel
theorem dX4_fitsAt_89 : decode cX4_fitsAt 89 = .ok (.if_icmp .ne 7, 3) := by decide +kernel
theorem dX4_fitsAt_92 : decode cX4_fitsAt 92 = .ok (.iconst 1, 1) := by decide +kernel
theorem dX4_fitsAt_93 : decode cX4_fitsAt 93 = .ok (.goto 4, 3) := by decide +kernel
theorem dX4_fitsAt_96 : decode cX4_fitsAt 96 = .ok (.iconst 0, 1) := by decide +kernel
theorem dX4_fitsAt_97 : decode cX4_fitsAt 97 = .ok (.ireturn, 1) := by decide +kernel
theorem dX4_fitsAt_98 : decode cX4_fitsAt 98 = .ok (.iload_n 2, 1) := by decide +kernel
theorem dX4_fitsAt_99 : decode cX4_fitsAt 99 = .ok (.bipush 43, 2) := by decide +kernel
theorem dX4_fitsAt_101 : decode cX4_fitsAt 101 = .ok (.if_icmp .eq 15, 3) := by decide +kernel
theorem dX4_fitsAt_104 : decode cX4_fitsAt 104 = .ok (.iload_n 2, 1) := by decide +kernel
theorem dX4_fitsAt_105 : decode cX4_fitsAt 105 = .ok (.bipush 45, 2) := by decide +kernel
theorem dX4_fitsAt_107 : decode cX4_fitsAt 107 = .ok (.if_icmp .eq 9, 3) := by decide +kernel
theorem dX4_fitsAt_110 : decode cX4_fitsAt 110 = .ok (.iload_n 2, 1) := by decide +kernel
theorem dX4_fitsAt_111 : decode cX4_fitsAt 111 = .ok (.bipush 48, 2) := by decide +kernel
theorem dX4_fitsAt_113 : decode cX4_fitsAt 113 = .ok (.if_icmp .ne 7, 3) := by decide +kernel
theorem dX4_fitsAt_116 : decode cX4_fitsAt 116 = .ok (.iconst 1, 1) := by decide +kernel
theorem dX4_fitsAt_117 : decode cX4_fitsAt 117 = .ok (.goto 4, 3) := by decide +kernel
theorem dX4_fitsAt_120 : decode cX4_fitsAt 120 = .ok (.iconst 0, 1) := by decide +kernel
theorem dX4_fitsAt_121 : decode cX4_fitsAt 121 = .ok (.ireturn, 1) := by decide +kernel
theorem dX4_readsAsRope_0 : decode cX4_readsAsRope 0 = .ok (.aload_n 0, 1) := by decide +kernel
theorem dX4_readsAsRope_1 : decode cX4_readsAsRope 1 = .ok (.getfield 15, 3) := by decide +kernel
theorem dX4_readsAsRope_4 : decode cX4_readsAsRope 4 = .ok (.bipush 6, 2) := by decide +kernel
theorem dX4_readsAsRope_6 : decode cX4_readsAsRope 6 = .ok (.irem, 1) := by decide +kernel
theorem dX4_readsAsRope_7 : decode cX4_readsAsRope 7 = .ok (.iconst 5, 1) := by decide +kernel
theorem dX4_readsAsRope_8 : decode cX4_readsAsRope 8 = .ok (.if_icmp .ne 7, 3) := by decide +kernel
theorem dX4_readsAsRope_11 : decode cX4_readsAsRope 11 = .ok (.iconst 1, 1) := by decide +kernel
theorem dX4_readsAsRope_12 : decode cX4_readsAsRope 12 = .ok (.goto 4, 3) := by decide +kernel
theorem dX4_readsAsRope_15 : decode cX4_readsAsRope 15 = .ok (.iconst 0, 1) := by decide +kernel
theorem dX4_readsAsRope_16 : decode cX4_readsAsRope 16 = .ok (.istore_n 1, 1) := by decide +kernel
theorem dX4_readsAsRope_17 : decode cX4_readsAsRope 17 = .ok (.aload_n 0, 1) := by decide +kernel
theorem dX4_readsAsRope_18 : decode cX4_readsAsRope 18 = .ok (.getfield 15, 3) := by decide +kernel
theorem dX4_readsAsRope_21 : decode cX4_readsAsRope 21 = .ok (.bipush 11, 2) := by decide +kernel
theorem dX4_readsAsRope_23 : decode cX4_readsAsRope 23 = .ok (.if_icmp .lt 22, 3) := by decide +kernel
theorem dX4_readsAsRope_26 : decode cX4_readsAsRope 26 = .ok (.iload_n 1, 1) := by decide +kernel
theorem dX4_readsAsRope_27 : decode cX4_readsAsRope 27 = .ok (.ifCond .eq 18, 3) := by decide +kernel
theorem dX4_readsAsRope_30 : decode cX4_readsAsRope 30 = .ok (.aload_n 0, 1) := by decide +kernel
theorem dX4_readsAsRope_31 : decode cX4_readsAsRope 31 = .ok (.invokevirtual 31, 3) := by decide +kernel
theorem dX4_readsAsRope_34 : decode cX4_readsAsRope 34 = .ok (.aload_n 0, 1) := by decide +kernel
theorem dX4_readsAsRope_35 : decode cX4_readsAsRope 35 = .ok (.getfield 15, 3) := by decide +kernel
theorem dX4_readsAsRope_38 : decode cX4_readsAsRope 38 = .ok (.if_icmp .ne 7, 3) := by decide +kernel
theorem dX4_readsAsRope_41 : decode cX4_readsAsRope 41 = .ok (.iconst 1, 1) := by decide +kernel
theorem dX4_readsAsRope_42 : decode cX4_readsAsRope 42 = .ok (.goto 4, 3) := by decide +kernel
theorem dX4_readsAsRope_45 : decode cX4_readsAsRope 45 = .ok (.iconst 0, 1) := by decide +kernel
theorem dX4_readsAsRope_46 : decode cX4_readsAsRope 46 = .ok (.ireturn, 1) := by decide +kernel
theorem dX4_kindAt_0 : decode cX4_kindAt 0 = .ok (.ldc 23, 2) := by decide +kernel
theorem dX4_kindAt_2 : decode cX4_kindAt 2 = .ok (.aload_n 0, 1) := by decide +kernel
theorem dX4_kindAt_3 : decode cX4_kindAt 3 = .ok (.getfield 9, 3) := by decide +kernel
theorem dX4_kindAt_6 : decode cX4_kindAt 6 = .ok (.iload_n 1, 1) := by decide +kernel
theorem dX4_kindAt_7 : decode cX4_kindAt 7 = .ok (.bipush 6, 2) := by decide +kernel
theorem dX4_kindAt_9 : decode cX4_kindAt 9 = .ok (.imul, 1) := by decide +kernel
theorem dX4_kindAt_10 : decode cX4_kindAt 10 = .ok (.iaload, 1) := by decide +kernel
theorem dX4_kindAt_11 : decode cX4_kindAt 11 = .ok (.i2c, 1) := by decide +kernel
theorem dX4_kindAt_12 : decode cX4_kindAt 12 = .ok (.invokevirtual 25, 3) := by decide +kernel
theorem dX4_kindAt_15 : decode cX4_kindAt 15 = .ok (.ireturn, 1) := by decide +kernel
theorem dX4_weightAt_0 : decode cX4_weightAt 0 = .ok (.aload_n 0, 1) := by decide +kernel
theorem dX4_weightAt_1 : decode cX4_weightAt 1 = .ok (.getfield 9, 3) := by decide +kernel
theorem dX4_weightAt_4 : decode cX4_weightAt 4 = .ok (.iload_n 1, 1) := by decide +kernel
theorem dX4_weightAt_5 : decode cX4_weightAt 5 = .ok (.bipush 6, 2) := by decide +kernel
theorem dX4_weightAt_7 : decode cX4_weightAt 7 = .ok (.imul, 1) := by decide +kernel
theorem dX4_weightAt_8 : decode cX4_weightAt 8 = .ok (.iconst 1, 1) := by decide +kernel
theorem dX4_weightAt_9 : decode cX4_weightAt 9 = .ok (.iadd, 1) := by decide +kernel
theorem dX4_weightAt_10 : decode cX4_weightAt 10 = .ok (.iaload, 1) := by decide +kernel
theorem dX4_weightAt_11 : decode cX4_weightAt 11 = .ok (.bipush 48, 2) := by decide +kernel
theorem dX4_weightAt_13 : decode cX4_weightAt 13 = .ok (.isub, 1) := by decide +kernel
theorem dX4_weightAt_14 : decode cX4_weightAt 14 = .ok (.ireturn, 1) := by decide +kernel
theorem dX4_leanAt_0 : decode cX4_leanAt 0 = .ok (.aload_n 0, 1) := by decide +kernel
theorem dX4_leanAt_1 : decode cX4_leanAt 1 = .ok (.getfield 9, 3) := by decide +kernel
theorem dX4_leanAt_4 : decode cX4_leanAt 4 = .ok (.iload_n 1, 1) := by decide +kernel
theorem dX4_leanAt_5 : decode cX4_leanAt 5 = .ok (.bipush 6, 2) := by decide +kernel
theorem dX4_leanAt_7 : decode cX4_leanAt 7 = .ok (.imul, 1) := by decide +kernel
theorem dX4_leanAt_8 : decode cX4_leanAt 8 = .ok (.iconst 2, 1) := by decide +kernel
theorem dX4_leanAt_9 : decode cX4_leanAt 9 = .ok (.iadd, 1) := by decide +kernel
theorem dX4_leanAt_10 : decode cX4_leanAt 10 = .ok (.iload_n 2, 1) := by decide +kernel
theorem dX4_leanAt_11 : decode cX4_leanAt 11 = .ok (.iadd, 1) := by decide +kernel
theorem dX4_leanAt_12 : decode cX4_leanAt 12 = .ok (.iaload, 1) := by decide +kernel
theorem dX4_leanAt_13 : decode cX4_leanAt 13 = .ok (.istore_n 3, 1) := by decide +kernel
theorem dX4_leanAt_14 : decode cX4_leanAt 14 = .ok (.iload_n 3, 1) := by decide +kernel
theorem dX4_leanAt_15 : decode cX4_leanAt 15 = .ok (.bipush 43, 2) := by decide +kernel
theorem dX4_leanAt_17 : decode cX4_leanAt 17 = .ok (.if_icmp .ne 5, 3) := by decide +kernel
theorem dX4_leanAt_20 : decode cX4_leanAt 20 = .ok (.iconst 1, 1) := by decide +kernel
theorem dX4_leanAt_21 : decode cX4_leanAt 21 = .ok (.ireturn, 1) := by decide +kernel
theorem dX4_leanAt_22 : decode cX4_leanAt 22 = .ok (.iload_n 3, 1) := by decide +kernel
theorem dX4_leanAt_23 : decode cX4_leanAt 23 = .ok (.bipush 45, 2) := by decide +kernel
theorem dX4_leanAt_25 : decode cX4_leanAt 25 = .ok (.if_icmp .ne 7, 3) := by decide +kernel
theorem dX4_leanAt_28 : decode cX4_leanAt 28 = .ok (.iconst (-1), 1) := by decide +kernel
theorem dX4_leanAt_29 : decode cX4_leanAt 29 = .ok (.goto 4, 3) := by decide +kernel
theorem dX4_leanAt_32 : decode cX4_leanAt 32 = .ok (.iconst 0, 1) := by decide +kernel
theorem dX4_leanAt_33 : decode cX4_leanAt 33 = .ok (.ireturn, 1) := by decide +kernel
theorem dX5_init_0 : decode cX5_init 0 = .ok (.aload_n 0, 1) := by decide +kernel
theorem dX5_init_1 : decode cX5_init 1 = .ok (.invokespecial 3, 3) := by decide +kernel
theorem dX5_init_4 : decode cX5_init 4 = .ok (.aload_n 0, 1) := by decide +kernel
theorem dX5_init_5 : decode cX5_init 5 = .ok (.iconst 5, 1) := by decide +kernel
theorem dX5_init_6 : decode cX5_init 6 = .ok (.anewarray 9, 3) := by decide +kernel
theorem dX5_init_9 : decode cX5_init 9 = .ok (.dup, 1) := by decide +kernel
theorem dX5_init_10 : decode cX5_init 10 = .ok (.iconst 0, 1) := by decide +kernel
theorem dX5_init_11 : decode cX5_init 11 = .ok (.new 9, 3) := by decide +kernel
theorem dX5_init_14 : decode cX5_init 14 = .ok (.dup, 1) := by decide +kernel
theorem dX5_init_15 : decode cX5_init 15 = .ok (.invokespecial 11, 3) := by decide +kernel
theorem dX5_init_18 : decode cX5_init 18 = .ok (.aastore, 1) := by decide +kernel
theorem dX5_init_19 : decode cX5_init 19 = .ok (.dup, 1) := by decide +kernel
theorem dX5_init_20 : decode cX5_init 20 = .ok (.iconst 1, 1) := by decide +kernel
theorem dX5_init_21 : decode cX5_init 21 = .ok (.new 12, 3) := by decide +kernel
theorem dX5_init_24 : decode cX5_init 24 = .ok (.dup, 1) := by decide +kernel
theorem dX5_init_25 : decode cX5_init 25 = .ok (.invokespecial 14, 3) := by decide +kernel
theorem dX5_init_28 : decode cX5_init 28 = .ok (.aastore, 1) := by decide +kernel
theorem dX5_init_29 : decode cX5_init 29 = .ok (.dup, 1) := by decide +kernel
theorem dX5_init_30 : decode cX5_init 30 = .ok (.iconst 2, 1) := by decide +kernel
theorem dX5_init_31 : decode cX5_init 31 = .ok (.new 15, 3) := by decide +kernel
theorem dX5_init_34 : decode cX5_init 34 = .ok (.dup, 1) := by decide +kernel
theorem dX5_init_35 : decode cX5_init 35 = .ok (.invokespecial 17, 3) := by decide +kernel
theorem dX5_init_38 : decode cX5_init 38 = .ok (.aastore, 1) := by decide +kernel
theorem dX5_init_39 : decode cX5_init 39 = .ok (.dup, 1) := by decide +kernel
theorem dX5_init_40 : decode cX5_init 40 = .ok (.iconst 3, 1) := by decide +kernel
theorem dX5_init_41 : decode cX5_init 41 = .ok (.new 18, 3) := by decide +kernel
theorem dX5_init_44 : decode cX5_init 44 = .ok (.dup, 1) := by decide +kernel
theorem dX5_init_45 : decode cX5_init 45 = .ok (.invokespecial 20, 3) := by decide +kernel
theorem dX5_init_48 : decode cX5_init 48 = .ok (.aastore, 1) := by decide +kernel
theorem dX5_init_49 : decode cX5_init 49 = .ok (.dup, 1) := by decide +kernel
theorem dX5_init_50 : decode cX5_init 50 = .ok (.iconst 4, 1) := by decide +kernel
theorem dX5_init_51 : decode cX5_init 51 = .ok (.new 21, 3) := by decide +kernel
theorem dX5_init_54 : decode cX5_init 54 = .ok (.dup, 1) := by decide +kernel
theorem dX5_init_55 : decode cX5_init 55 = .ok (.invokespecial 23, 3) := by decide +kernel
theorem dX5_init_58 : decode cX5_init 58 = .ok (.aastore, 1) := by decide +kernel
theorem dX5_init_59 : decode cX5_init 59 = .ok (.putfield 24, 3) := by decide +kernel
theorem dX5_init_62 : decode cX5_init 62 = .ok (.aload_n 0, 1) := by decide +kernel
theorem dX5_init_63 : decode cX5_init 63 = .ok (.bipush 8, 2) := by decide +kernel
theorem dX5_init_65 : decode cX5_init 65 = .ok (.newarray .int, 2) := by decide +kernel
theorem dX5_init_67 : decode cX5_init 67 = .ok (.putfield 30, 3) := by decide +kernel
theorem dX5_init_70 : decode cX5_init 70 = .ok (.return_, 1) := by decide +kernel
theorem dX5_has_0 : decode cX5_has 0 = .ok (.iload_n 1, 1) := by decide +kernel
theorem dX5_has_1 : decode cX5_has 1 = .ok (.ifCond .lt 15, 3) := by decide +kernel
theorem dX5_has_4 : decode cX5_has 4 = .ok (.iload_n 1, 1) := by decide +kernel
theorem dX5_has_5 : decode cX5_has 5 = .ok (.aload_n 0, 1) := by decide +kernel
theorem dX5_has_6 : decode cX5_has 6 = .ok (.getfield 34, 3) := by decide +kernel
theorem dX5_has_9 : decode cX5_has 9 = .ok (.if_icmp .ge 7, 3) := by decide +kernel
theorem dX5_has_12 : decode cX5_has 12 = .ok (.iconst 1, 1) := by decide +kernel
theorem dX5_has_13 : decode cX5_has 13 = .ok (.goto 4, 3) := by decide +kernel
theorem dX5_has_16 : decode cX5_has 16 = .ok (.iconst 0, 1) := by decide +kernel
theorem dX5_has_17 : decode cX5_has 17 = .ok (.ireturn, 1) := by decide +kernel
theorem dX5_hang_0 : decode cX5_hang 0 = .ok (.iload_n 2, 1) := by decide +kernel
theorem dX5_hang_1 : decode cX5_hang 1 = .ok (.ifCond .lt 19, 3) := by decide +kernel
theorem dX5_hang_4 : decode cX5_hang 4 = .ok (.iload_n 2, 1) := by decide +kernel
theorem dX5_hang_5 : decode cX5_hang 5 = .ok (.aload_n 0, 1) := by decide +kernel
theorem dX5_hang_6 : decode cX5_hang 6 = .ok (.getfield 24, 3) := by decide +kernel
theorem dX5_hang_9 : decode cX5_hang 9 = .ok (.arraylength, 1) := by decide +kernel
theorem dX5_hang_10 : decode cX5_hang 10 = .ok (.if_icmp .ge 10, 3) := by decide +kernel
theorem dX5_hang_13 : decode cX5_hang 13 = .ok (.aload_n 0, 1) := by decide +kernel
theorem dX5_hang_14 : decode cX5_hang 14 = .ok (.getfield 30, 3) := by decide +kernel
theorem dX5_hang_17 : decode cX5_hang 17 = .ok (.iload_n 1, 1) := by decide +kernel
theorem dX5_hang_18 : decode cX5_hang 18 = .ok (.iload_n 2, 1) := by decide +kernel
theorem dX5_hang_19 : decode cX5_hang 19 = .ok (.iastore, 1) := by decide +kernel
theorem dX5_hang_20 : decode cX5_hang 20 = .ok (.return_, 1) := by decide +kernel
theorem dX5_kindOf_0 : decode cX5_kindOf 0 = .ok (.aload_n 0, 1) := by decide +kernel
theorem dX5_kindOf_1 : decode cX5_kindOf 1 = .ok (.getfield 24, 3) := by decide +kernel
theorem dX5_kindOf_4 : decode cX5_kindOf 4 = .ok (.aload_n 0, 1) := by decide +kernel
theorem dX5_kindOf_5 : decode cX5_kindOf 5 = .ok (.getfield 30, 3) := by decide +kernel
theorem dX5_kindOf_8 : decode cX5_kindOf 8 = .ok (.iload_n 1, 1) := by decide +kernel
theorem dX5_kindOf_9 : decode cX5_kindOf 9 = .ok (.iaload, 1) := by decide +kernel
theorem dX5_kindOf_10 : decode cX5_kindOf 10 = .ok (.aaload, 1) := by decide +kernel
theorem dX5_kindOf_11 : decode cX5_kindOf 11 = .ok (.areturn, 1) := by decide +kernel
theorem dX5_feltIn_0 : decode cX5_feltIn 0 = .ok (.iconst 0, 1) := by decide +kernel
theorem dX5_feltIn_1 : decode cX5_feltIn 1 = .ok (.istore_n 2, 1) := by decide +kernel
theorem dX5_feltIn_2 : decode cX5_feltIn 2 = .ok (.iload_n 2, 1) := by decide +kernel
theorem dX5_feltIn_3 : decode cX5_feltIn 3 = .ok (.aload_n 0, 1) := by decide +kernel
theorem dX5_feltIn_4 : decode cX5_feltIn 4 = .ok (.getfield 34, 3) := by decide +kernel
theorem dX5_feltIn_7 : decode cX5_feltIn 7 = .ok (.if_icmp .ge 18, 3) := by decide +kernel
theorem dX5_feltIn_10 : decode cX5_feltIn 10 = .ok (.aload_n 1, 1) := by decide +kernel
theorem dX5_feltIn_11 : decode cX5_feltIn 11 = .ok (.getfield 38, 3) := by decide +kernel
theorem dX5_feltIn_14 : decode cX5_feltIn 14 = .ok (.iload_n 2, 1) := by decide +kernel
theorem dX5_feltIn_15 : decode cX5_feltIn 15 = .ok (.iaload, 1) := by decide +kernel
theorem dX5_feltIn_16 : decode cX5_feltIn 16 = .ok (.ifCond .ne 9, 3) := by decide +kernel
theorem dX5_feltIn_19 : decode cX5_feltIn 19 = .ok (.iinc 2 1, 3) := by decide +kernel
theorem dX5_feltIn_22 : decode cX5_feltIn 22 = .ok (.goto (-20), 3) := by decide +kernel
theorem dX5_feltIn_25 : decode cX5_feltIn 25 = .ok (.iload_n 2, 1) := by decide +kernel
theorem dX5_feltIn_26 : decode cX5_feltIn 26 = .ok (.ireturn, 1) := by decide +kernel
theorem dX5_sumOf_0 : decode cX5_sumOf 0 = .ok (.aload_n 0, 1) := by decide +kernel
theorem dX5_sumOf_1 : decode cX5_sumOf 1 = .ok (.aload_n 1, 1) := by decide +kernel
theorem dX5_sumOf_2 : decode cX5_sumOf 2 = .ok (.invokevirtual 43, 3) := by decide +kernel
theorem dX5_sumOf_5 : decode cX5_sumOf 5 = .ok (.istore_n 3, 1) := by decide +kernel
theorem dX5_sumOf_6 : decode cX5_sumOf 6 = .ok (.iconst 0, 1) := by decide +kernel
theorem dX5_sumOf_7 : decode cX5_sumOf 7 = .ok (.istore 4, 2) := by decide +kernel
theorem dX5_sumOf_9 : decode cX5_sumOf 9 = .ok (.iconst 0, 1) := by decide +kernel
theorem dX5_sumOf_10 : decode cX5_sumOf 10 = .ok (.istore 5, 2) := by decide +kernel
theorem dX5_sumOf_12 : decode cX5_sumOf 12 = .ok (.iload 5, 2) := by decide +kernel
theorem dX5_sumOf_14 : decode cX5_sumOf 14 = .ok (.iload_n 3, 1) := by decide +kernel
theorem dX5_sumOf_15 : decode cX5_sumOf 15 = .ok (.if_icmp .ge 22, 3) := by decide +kernel
theorem dX5_sumOf_18 : decode cX5_sumOf 18 = .ok (.iload 4, 2) := by decide +kernel
theorem dX5_sumOf_20 : decode cX5_sumOf 20 = .ok (.aload_n 0, 1) := by decide +kernel
theorem dX5_sumOf_21 : decode cX5_sumOf 21 = .ok (.aload_n 1, 1) := by decide +kernel
theorem dX5_sumOf_22 : decode cX5_sumOf 22 = .ok (.iload 5, 2) := by decide +kernel
theorem dX5_sumOf_24 : decode cX5_sumOf 24 = .ok (.iload_n 2, 1) := by decide +kernel
theorem dX5_sumOf_25 : decode cX5_sumOf 25 = .ok (.invokevirtual 47, 3) := by decide +kernel
theorem dX5_sumOf_28 : decode cX5_sumOf 28 = .ok (.iadd, 1) := by decide +kernel
theorem dX5_sumOf_29 : decode cX5_sumOf 29 = .ok (.istore 4, 2) := by decide +kernel
theorem dX5_sumOf_31 : decode cX5_sumOf 31 = .ok (.iinc 5 1, 3) := by decide +kernel
theorem dX5_sumOf_34 : decode cX5_sumOf 34 = .ok (.goto (-22), 3) := by decide +kernel
theorem dX5_sumOf_37 : decode cX5_sumOf 37 = .ok (.iload 4, 2) := by decide +kernel
theorem dX5_sumOf_39 : decode cX5_sumOf 39 = .ok (.ireturn, 1) := by decide +kernel
theorem dX5_pullOf_0 : decode cX5_pullOf 0 = .ok (.aload_n 0, 1) := by decide +kernel
theorem dX5_pullOf_1 : decode cX5_pullOf 1 = .ok (.aload_n 1, 1) := by decide +kernel
theorem dX5_pullOf_2 : decode cX5_pullOf 2 = .ok (.iload_n 2, 1) := by decide +kernel
theorem dX5_pullOf_3 : decode cX5_pullOf 3 = .ok (.iload_n 3, 1) := by decide +kernel
theorem dX5_pullOf_4 : decode cX5_pullOf 4 = .ok (.invokevirtual 51, 3) := by decide +kernel
theorem dX5_pullOf_7 : decode cX5_pullOf 7 = .ok (.istore 4, 2) := by decide +kernel
theorem dX5_pullOf_9 : decode cX5_pullOf 9 = .ok (.aload_n 0, 1) := by decide +kernel
theorem dX5_pullOf_10 : decode cX5_pullOf 10 = .ok (.aload_n 1, 1) := by decide +kernel
theorem dX5_pullOf_11 : decode cX5_pullOf 11 = .ok (.iload_n 2, 1) := by decide +kernel
theorem dX5_pullOf_12 : decode cX5_pullOf 12 = .ok (.iload_n 3, 1) := by decide +kernel
theorem dX5_pullOf_13 : decode cX5_pullOf 13 = .ok (.invokevirtual 54, 3) := by decide +kernel
theorem dX5_pullOf_16 : decode cX5_pullOf 16 = .ok (.istore 5, 2) := by decide +kernel
theorem dX5_pullOf_18 : decode cX5_pullOf 18 = .ok (.iload 4, 2) := by decide +kernel
theorem dX5_pullOf_20 : decode cX5_pullOf 20 = .ok (.iload 5, 2) := by decide +kernel
theorem dX5_pullOf_22 : decode cX5_pullOf 22 = .ok (.if_icmp .ne 8, 3) := by decide +kernel
theorem dX5_pullOf_25 : decode cX5_pullOf 25 = .ok (.iload 4, 2) := by decide +kernel
theorem dX5_pullOf_27 : decode cX5_pullOf 27 = .ok (.goto 4, 3) := by decide +kernel
theorem dX5_pullOf_30 : decode cX5_pullOf 30 = .ok (.iconst 0, 1) := by decide +kernel
theorem dX5_pullOf_31 : decode cX5_pullOf 31 = .ok (.istore 6, 2) := by decide +kernel
theorem dX5_pullOf_33 : decode cX5_pullOf 33 = .ok (.aload_n 0, 1) := by decide +kernel
theorem dX5_pullOf_34 : decode cX5_pullOf 34 = .ok (.iload_n 2, 1) := by decide +kernel
theorem dX5_pullOf_35 : decode cX5_pullOf 35 = .ok (.invokevirtual 57, 3) := by decide +kernel
theorem dX5_pullOf_38 : decode cX5_pullOf 38 = .ok (.aload_n 1, 1) := by decide +kernel
theorem dX5_pullOf_39 : decode cX5_pullOf 39 = .ok (.getfield 61, 3) := by decide +kernel
theorem dX5_pullOf_42 : decode cX5_pullOf 42 = .ok (.iload_n 2, 1) := by decide +kernel
theorem dX5_pullOf_43 : decode cX5_pullOf 43 = .ok (.iaload, 1) := by decide +kernel
theorem dX5_pullOf_44 : decode cX5_pullOf 44 = .ok (.aload_n 1, 1) := by decide +kernel
theorem dX5_pullOf_45 : decode cX5_pullOf 45 = .ok (.getfield 64, 3) := by decide +kernel
theorem dX5_pullOf_48 : decode cX5_pullOf 48 = .ok (.iload_n 3, 1) := by decide +kernel
theorem dX5_pullOf_49 : decode cX5_pullOf 49 = .ok (.aaload, 1) := by decide +kernel
theorem dX5_pullOf_50 : decode cX5_pullOf 50 = .ok (.iload_n 2, 1) := by decide +kernel
theorem dX5_pullOf_51 : decode cX5_pullOf 51 = .ok (.iaload, 1) := by decide +kernel
theorem dX5_pullOf_52 : decode cX5_pullOf 52 = .ok (.iload 6, 2) := by decide +kernel
theorem dX5_pullOf_54 : decode cX5_pullOf 54 = .ok (.invokevirtual 68, 3) := by decide +kernel
theorem dX5_pullOf_57 : decode cX5_pullOf 57 = .ok (.ireturn, 1) := by decide +kernel
theorem dX5_leanAhead_0 : decode cX5_leanAhead 0 = .ok (.iload_n 2, 1) := by decide +kernel
theorem dX5_leanAhead_1 : decode cX5_leanAhead 1 = .ok (.iconst 1, 1) := by decide +kernel
theorem dX5_leanAhead_2 : decode cX5_leanAhead 2 = .ok (.if_icmp .lt 12, 3) := by decide +kernel
theorem dX5_leanAhead_5 : decode cX5_leanAhead 5 = .ok (.aload_n 1, 1) := by decide +kernel
theorem dX5_leanAhead_6 : decode cX5_leanAhead 6 = .ok (.getfield 38, 3) := by decide +kernel
theorem dX5_leanAhead_9 : decode cX5_leanAhead 9 = .ok (.iload_n 2, 1) := by decide +kernel
theorem dX5_leanAhead_10 : decode cX5_leanAhead 10 = .ok (.iaload, 1) := by decide +kernel
theorem dX5_leanAhead_11 : decode cX5_leanAhead 11 = .ok (.ifCond .eq 5, 3) := by decide +kernel
theorem dX5_leanAhead_14 : decode cX5_leanAhead 14 = .ok (.iconst 0, 1) := by decide +kernel
theorem dX5_leanAhead_15 : decode cX5_leanAhead 15 = .ok (.ireturn, 1) := by decide +kernel
theorem dX5_leanAhead_16 : decode cX5_leanAhead 16 = .ok (.aload_n 1, 1) := by decide +kernel
theorem dX5_leanAhead_17 : decode cX5_leanAhead 17 = .ok (.getfield 64, 3) := by decide +kernel
theorem dX5_leanAhead_20 : decode cX5_leanAhead 20 = .ok (.iload_n 3, 1) := by decide +kernel
theorem dX5_leanAhead_21 : decode cX5_leanAhead 21 = .ok (.aaload, 1) := by decide +kernel
theorem dX5_leanAhead_22 : decode cX5_leanAhead 22 = .ok (.iload_n 2, 1) := by decide +kernel
theorem dX5_leanAhead_23 : decode cX5_leanAhead 23 = .ok (.iconst 1, 1) := by decide +kernel
theorem dX5_leanAhead_24 : decode cX5_leanAhead 24 = .ok (.isub, 1) := by decide +kernel
theorem dX5_leanAhead_25 : decode cX5_leanAhead 25 = .ok (.iaload, 1) := by decide +kernel
theorem dX5_leanAhead_26 : decode cX5_leanAhead 26 = .ok (.ireturn, 1) := by decide +kernel
theorem dX5_leanBehind_0 : decode cX5_leanBehind 0 = .ok (.iload_n 2, 1) := by decide +kernel
theorem dX5_leanBehind_1 : decode cX5_leanBehind 1 = .ok (.iconst 1, 1) := by decide +kernel
theorem dX5_leanBehind_2 : decode cX5_leanBehind 2 = .ok (.iadd, 1) := by decide +kernel
theorem dX5_leanBehind_3 : decode cX5_leanBehind 3 = .ok (.istore 4, 2) := by decide +kernel
theorem dX5_leanBehind_5 : decode cX5_leanBehind 5 = .ok (.iload 4, 2) := by decide +kernel
theorem dX5_leanBehind_7 : decode cX5_leanBehind 7 = .ok (.aload_n 0, 1) := by decide +kernel
theorem dX5_leanBehind_8 : decode cX5_leanBehind 8 = .ok (.getfield 34, 3) := by decide +kernel
theorem dX5_leanBehind_11 : decode cX5_leanBehind 11 = .ok (.if_icmp .ge 13, 3) := by decide +kernel
theorem dX5_leanBehind_14 : decode cX5_leanBehind 14 = .ok (.aload_n 1, 1) := by decide +kernel
theorem dX5_leanBehind_15 : decode cX5_leanBehind 15 = .ok (.getfield 38, 3) := by decide +kernel
theorem dX5_leanBehind_18 : decode cX5_leanBehind 18 = .ok (.iload 4, 2) := by decide +kernel
theorem dX5_leanBehind_20 : decode cX5_leanBehind 20 = .ok (.iaload, 1) := by decide +kernel
theorem dX5_leanBehind_21 : decode cX5_leanBehind 21 = .ok (.ifCond .eq 5, 3) := by decide +kernel
theorem dX5_leanBehind_24 : decode cX5_leanBehind 24 = .ok (.iconst 0, 1) := by decide +kernel
theorem dX5_leanBehind_25 : decode cX5_leanBehind 25 = .ok (.ireturn, 1) := by decide +kernel
theorem dX5_leanBehind_26 : decode cX5_leanBehind 26 = .ok (.aload_n 1, 1) := by decide +kernel
theorem dX5_leanBehind_27 : decode cX5_leanBehind 27 = .ok (.getfield 64, 3) := by decide +kernel
theorem dX5_leanBehind_30 : decode cX5_leanBehind 30 = .ok (.iload_n 3, 1) := by decide +kernel
theorem dX5_leanBehind_31 : decode cX5_leanBehind 31 = .ok (.aaload, 1) := by decide +kernel
theorem dX5_leanBehind_32 : decode cX5_leanBehind 32 = .ok (.iload 4, 2) := by decide +kernel
theorem dX5_leanBehind_34 : decode cX5_leanBehind 34 = .ok (.iaload, 1) := by decide +kernel
theorem dX5_leanBehind_35 : decode cX5_leanBehind 35 = .ok (.ireturn, 1) := by decide +kernel
theorem dX5_drift_0 : decode cX5_drift 0 = .ok (.iconst 0, 1) := by decide +kernel
theorem dX5_drift_1 : decode cX5_drift 1 = .ok (.istore_n 2, 1) := by decide +kernel
theorem dX5_drift_2 : decode cX5_drift 2 = .ok (.iload_n 2, 1) := by decide +kernel
theorem dX5_drift_3 : decode cX5_drift 3 = .ok (.iconst 3, 1) := by decide +kernel
theorem dX5_drift_4 : decode cX5_drift 4 = .ok (.if_icmp .ge 107, 3) := by decide +kernel
theorem dX5_drift_7 : decode cX5_drift 7 = .ok (.iconst 0, 1) := by decide +kernel
theorem dX5_drift_8 : decode cX5_drift 8 = .ok (.istore_n 3, 1) := by decide +kernel
theorem dX5_drift_9 : decode cX5_drift 9 = .ok (.iconst 0, 1) := by decide +kernel
theorem dX5_drift_10 : decode cX5_drift 10 = .ok (.istore 4, 2) := by decide +kernel
theorem dX5_drift_12 : decode cX5_drift 12 = .ok (.iload 4, 2) := by decide +kernel
theorem dX5_drift_14 : decode cX5_drift 14 = .ok (.aload_n 0, 1) := by decide +kernel
theorem dX5_drift_15 : decode cX5_drift 15 = .ok (.getfield 34, 3) := by decide +kernel
theorem dX5_drift_18 : decode cX5_drift 18 = .ok (.if_icmp .ge 87, 3) := by decide +kernel
theorem dX5_drift_21 : decode cX5_drift 21 = .ok (.aload_n 1, 1) := by decide +kernel
theorem dX5_drift_22 : decode cX5_drift 22 = .ok (.getfield 64, 3) := by decide +kernel
theorem dX5_drift_25 : decode cX5_drift 25 = .ok (.iload_n 2, 1) := by decide +kernel
theorem dX5_drift_26 : decode cX5_drift 26 = .ok (.aaload, 1) := by decide +kernel
theorem dX5_drift_27 : decode cX5_drift 27 = .ok (.iload 4, 2) := by decide +kernel
theorem dX5_drift_29 : decode cX5_drift 29 = .ok (.iaload, 1) := by decide +kernel
theorem dX5_drift_30 : decode cX5_drift 30 = .ok (.istore 5, 2) := by decide +kernel
theorem dX5_drift_32 : decode cX5_drift 32 = .ok (.aload_n 1, 1) := by decide +kernel
theorem dX5_drift_33 : decode cX5_drift 33 = .ok (.getfield 38, 3) := by decide +kernel
theorem dX5_drift_36 : decode cX5_drift 36 = .ok (.iload 4, 2) := by decide +kernel
theorem dX5_drift_38 : decode cX5_drift 38 = .ok (.iaload, 1) := by decide +kernel
theorem dX5_drift_39 : decode cX5_drift 39 = .ok (.ifCond .ne 7, 3) := by decide +kernel
theorem dX5_drift_42 : decode cX5_drift 42 = .ok (.iload_n 3, 1) := by decide +kernel
theorem dX5_drift_43 : decode cX5_drift 43 = .ok (.goto 4, 3) := by decide +kernel
theorem dX5_drift_46 : decode cX5_drift 46 = .ok (.iconst 0, 1) := by decide +kernel
theorem dX5_drift_47 : decode cX5_drift 47 = .ok (.istore 6, 2) := by decide +kernel
theorem dX5_drift_49 : decode cX5_drift 49 = .ok (.iload 6, 2) := by decide +kernel
theorem dX5_drift_51 : decode cX5_drift 51 = .ok (.iload 5, 2) := by decide +kernel
theorem dX5_drift_53 : decode cX5_drift 53 = .ok (.iadd, 1) := by decide +kernel
theorem dX5_drift_54 : decode cX5_drift 54 = .ok (.aload_n 0, 1) := by decide +kernel
theorem dX5_drift_55 : decode cX5_drift 55 = .ok (.aload_n 1, 1) := by decide +kernel
theorem dX5_drift_56 : decode cX5_drift 56 = .ok (.iload 4, 2) := by decide +kernel
theorem dX5_drift_58 : decode cX5_drift 58 = .ok (.iload_n 2, 1) := by decide +kernel
theorem dX5_drift_59 : decode cX5_drift 59 = .ok (.invokevirtual 54, 3) := by decide +kernel
theorem dX5_drift_62 : decode cX5_drift 62 = .ok (.iadd, 1) := by decide +kernel
theorem dX5_drift_63 : decode cX5_drift 63 = .ok (.istore 7, 2) := by decide +kernel
theorem dX5_drift_65 : decode cX5_drift 65 = .ok (.iload 7, 2) := by decide +kernel
theorem dX5_drift_67 : decode cX5_drift 67 = .ok (.ifCond .eq 29, 3) := by decide +kernel
theorem dX5_drift_70 : decode cX5_drift 70 = .ok (.aload_n 0, 1) := by decide +kernel
theorem dX5_drift_71 : decode cX5_drift 71 = .ok (.iload 4, 2) := by decide +kernel
theorem dX5_drift_73 : decode cX5_drift 73 = .ok (.invokevirtual 57, 3) := by decide +kernel
theorem dX5_drift_76 : decode cX5_drift 76 = .ok (.invokevirtual 72, 3) := by decide +kernel
theorem dX5_drift_79 : decode cX5_drift 79 = .ok (.ifCond .eq 17, 3) := by decide +kernel
theorem dX5_drift_82 : decode cX5_drift 82 = .ok (.aload_n 1, 1) := by decide +kernel
theorem dX5_drift_83 : decode cX5_drift 83 = .ok (.getfield 64, 3) := by decide +kernel
theorem dX5_drift_86 : decode cX5_drift 86 = .ok (.iload_n 2, 1) := by decide +kernel
theorem dX5_drift_87 : decode cX5_drift 87 = .ok (.aaload, 1) := by decide +kernel
theorem dX5_drift_88 : decode cX5_drift 88 = .ok (.iload 4, 2) := by decide +kernel
theorem dX5_drift_90 : decode cX5_drift 90 = .ok (.iload 7, 2) := by decide +kernel
theorem dX5_drift_92 : decode cX5_drift 92 = .ok (.invokestatic 76, 3) := by decide +kernel
theorem dX5_drift_95 : decode cX5_drift 95 = .ok (.iastore, 1) := by decide +kernel
theorem dX5_drift_96 : decode cX5_drift 96 = .ok (.iload 5, 2) := by decide +kernel
theorem dX5_drift_98 : decode cX5_drift 98 = .ok (.istore_n 3, 1) := by decide +kernel
theorem dX5_drift_99 : decode cX5_drift 99 = .ok (.iinc 4 1, 3) := by decide +kernel
theorem dX5_drift_102 : decode cX5_drift 102 = .ok (.goto (-90), 3) := by decide +kernel
theorem dX5_drift_105 : decode cX5_drift 105 = .ok (.iinc 2 1, 3) := by decide +kernel
theorem dX5_drift_108 : decode cX5_drift 108 = .ok (.goto (-106), 3) := by decide +kernel
theorem dX5_drift_111 : decode cX5_drift 111 = .ok (.return_, 1) := by decide +kernel
theorem dX6_init_0 : decode cX6_init 0 = .ok (.aload_n 0, 1) := by decide +kernel
theorem dX6_init_1 : decode cX6_init 1 = .ok (.invokespecial 3, 3) := by decide +kernel
theorem dX6_init_4 : decode cX6_init 4 = .ok (.aload_n 0, 1) := by decide +kernel
theorem dX6_init_5 : decode cX6_init 5 = .ok (.bipush 8, 2) := by decide +kernel
theorem dX6_init_7 : decode cX6_init 7 = .ok (.newarray .int, 2) := by decide +kernel
theorem dX6_init_9 : decode cX6_init 9 = .ok (.putfield 9, 3) := by decide +kernel
theorem dX6_init_12 : decode cX6_init 12 = .ok (.aload_n 0, 1) := by decide +kernel
theorem dX6_init_13 : decode cX6_init 13 = .ok (.iconst 3, 1) := by decide +kernel
theorem dX6_init_14 : decode cX6_init 14 = .ok (.bipush 8, 2) := by decide +kernel
theorem dX6_init_16 : decode cX6_init 16 = .ok (.multianewarray 15 2, 4) := by decide +kernel
theorem dX6_init_20 : decode cX6_init 20 = .ok (.putfield 17, 3) := by decide +kernel
theorem dX6_init_23 : decode cX6_init 23 = .ok (.aload_n 0, 1) := by decide +kernel
theorem dX6_init_24 : decode cX6_init 24 = .ok (.bipush 8, 2) := by decide +kernel
theorem dX6_init_26 : decode cX6_init 26 = .ok (.newarray .int, 2) := by decide +kernel
theorem dX6_init_28 : decode cX6_init 28 = .ok (.putfield 20, 3) := by decide +kernel
theorem dX6_init_31 : decode cX6_init 31 = .ok (.aload_n 0, 1) := by decide +kernel
theorem dX6_init_32 : decode cX6_init 32 = .ok (.iconst 3, 1) := by decide +kernel
theorem dX6_init_33 : decode cX6_init 33 = .ok (.newarray .int, 2) := by decide +kernel
theorem dX6_init_35 : decode cX6_init 35 = .ok (.putfield 23, 3) := by decide +kernel
theorem dX6_init_38 : decode cX6_init 38 = .ok (.aload_n 0, 1) := by decide +kernel
theorem dX6_init_39 : decode cX6_init 39 = .ok (.iconst 3, 1) := by decide +kernel
theorem dX6_init_40 : decode cX6_init 40 = .ok (.newarray .int, 2) := by decide +kernel
theorem dX6_init_42 : decode cX6_init 42 = .ok (.putfield 26, 3) := by decide +kernel
theorem dX6_init_45 : decode cX6_init 45 = .ok (.aload_n 0, 1) := by decide +kernel
theorem dX6_init_46 : decode cX6_init 46 = .ok (.bipush 6, 2) := by decide +kernel
theorem dX6_init_48 : decode cX6_init 48 = .ok (.newarray .int, 2) := by decide +kernel
theorem dX6_init_50 : decode cX6_init 50 = .ok (.putfield 29, 3) := by decide +kernel
theorem dX6_init_53 : decode cX6_init 53 = .ok (.aload_n 0, 1) := by decide +kernel
theorem dX6_init_54 : decode cX6_init 54 = .ok (.bipush 6, 2) := by decide +kernel
theorem dX6_init_56 : decode cX6_init 56 = .ok (.newarray .int, 2) := by decide +kernel
theorem dX6_init_58 : decode cX6_init 58 = .ok (.putfield 32, 3) := by decide +kernel
theorem dX6_init_61 : decode cX6_init 61 = .ok (.aload_n 0, 1) := by decide +kernel
theorem dX6_init_62 : decode cX6_init 62 = .ok (.bipush 6, 2) := by decide +kernel
theorem dX6_init_64 : decode cX6_init 64 = .ok (.newarray .int, 2) := by decide +kernel
theorem dX6_init_66 : decode cX6_init 66 = .ok (.putfield 35, 3) := by decide +kernel
theorem dX6_init_69 : decode cX6_init 69 = .ok (.return_, 1) := by decide +kernel
theorem dX6_turnRound_0 : decode cX6_turnRound 0 = .ok (.aload_n 0, 1) := by decide +kernel
theorem dX6_turnRound_1 : decode cX6_turnRound 1 = .ok (.getfield 17, 3) := by decide +kernel
theorem dX6_turnRound_4 : decode cX6_turnRound 4 = .ok (.iload_n 2, 1) := by decide +kernel
theorem dX6_turnRound_5 : decode cX6_turnRound 5 = .ok (.aaload, 1) := by decide +kernel
theorem dX6_turnRound_6 : decode cX6_turnRound 6 = .ok (.iload_n 1, 1) := by decide +kernel
theorem dX6_turnRound_7 : decode cX6_turnRound 7 = .ok (.iaload, 1) := by decide +kernel
theorem dX6_turnRound_8 : decode cX6_turnRound 8 = .ok (.istore_n 3, 1) := by decide +kernel
theorem dX6_turnRound_9 : decode cX6_turnRound 9 = .ok (.aload_n 0, 1) := by decide +kernel
theorem dX6_turnRound_10 : decode cX6_turnRound 10 = .ok (.getfield 17, 3) := by decide +kernel
theorem dX6_turnRound_13 : decode cX6_turnRound 13 = .ok (.iload_n 2, 1) := by decide +kernel
theorem dX6_turnRound_14 : decode cX6_turnRound 14 = .ok (.aaload, 1) := by decide +kernel
theorem dX6_turnRound_15 : decode cX6_turnRound 15 = .ok (.iload_n 1, 1) := by decide +kernel
theorem dX6_turnRound_16 : decode cX6_turnRound 16 = .ok (.iload_n 3, 1) := by decide +kernel
theorem dX6_turnRound_17 : decode cX6_turnRound 17 = .ok (.iconst 1, 1) := by decide +kernel
theorem dX6_turnRound_18 : decode cX6_turnRound 18 = .ok (.if_icmp .ne 7, 3) := by decide +kernel
theorem dX6_turnRound_21 : decode cX6_turnRound 21 = .ok (.iconst (-1), 1) := by decide +kernel
theorem dX6_turnRound_22 : decode cX6_turnRound 22 = .ok (.goto 6, 3) := by decide +kernel
theorem dX6_turnRound_25 : decode cX6_turnRound 25 = .ok (.iload_n 3, 1) := by decide +kernel
theorem dX6_turnRound_26 : decode cX6_turnRound 26 = .ok (.iconst 1, 1) := by decide +kernel
theorem dX6_turnRound_27 : decode cX6_turnRound 27 = .ok (.iadd, 1) := by decide +kernel
theorem dX6_turnRound_28 : decode cX6_turnRound 28 = .ok (.iastore, 1) := by decide +kernel
theorem dX6_turnRound_29 : decode cX6_turnRound 29 = .ok (.return_, 1) := by decide +kernel
theorem dX6_addSeen_0 : decode cX6_addSeen 0 = .ok (.aload_n 0, 1) := by decide +kernel
theorem dX6_addSeen_1 : decode cX6_addSeen 1 = .ok (.getfield 38, 3) := by decide +kernel
theorem dX6_addSeen_4 : decode cX6_addSeen 4 = .ok (.bipush 6, 2) := by decide +kernel
theorem dX6_addSeen_6 : decode cX6_addSeen 6 = .ok (.if_icmp .lt 4, 3) := by decide +kernel
theorem dX6_addSeen_9 : decode cX6_addSeen 9 = .ok (.return_, 1) := by decide +kernel
theorem dX6_addSeen_10 : decode cX6_addSeen 10 = .ok (.aload_n 0, 1) := by decide +kernel
theorem dX6_addSeen_11 : decode cX6_addSeen 11 = .ok (.getfield 29, 3) := by decide +kernel
theorem dX6_addSeen_14 : decode cX6_addSeen 14 = .ok (.aload_n 0, 1) := by decide +kernel
theorem dX6_addSeen_15 : decode cX6_addSeen 15 = .ok (.getfield 38, 3) := by decide +kernel
theorem dX6_addSeen_18 : decode cX6_addSeen 18 = .ok (.iload_n 1, 1) := by decide +kernel
theorem dX6_addSeen_19 : decode cX6_addSeen 19 = .ok (.iastore, 1) := by decide +kernel
theorem dX6_addSeen_20 : decode cX6_addSeen 20 = .ok (.aload_n 0, 1) := by decide +kernel
theorem dX6_addSeen_21 : decode cX6_addSeen 21 = .ok (.getfield 32, 3) := by decide +kernel
theorem dX6_addSeen_24 : decode cX6_addSeen 24 = .ok (.aload_n 0, 1) := by decide +kernel
theorem dX6_addSeen_25 : decode cX6_addSeen 25 = .ok (.getfield 38, 3) := by decide +kernel
theorem dX6_addSeen_28 : decode cX6_addSeen 28 = .ok (.iload_n 2, 1) := by decide +kernel
theorem dX6_addSeen_29 : decode cX6_addSeen 29 = .ok (.iastore, 1) := by decide +kernel
theorem dX6_addSeen_30 : decode cX6_addSeen 30 = .ok (.aload_n 0, 1) := by decide +kernel
theorem dX6_addSeen_31 : decode cX6_addSeen 31 = .ok (.getfield 35, 3) := by decide +kernel
theorem dX6_addSeen_34 : decode cX6_addSeen 34 = .ok (.aload_n 0, 1) := by decide +kernel
theorem dX6_addSeen_35 : decode cX6_addSeen 35 = .ok (.getfield 38, 3) := by decide +kernel
theorem dX6_addSeen_38 : decode cX6_addSeen 38 = .ok (.iload_n 3, 1) := by decide +kernel
theorem dX6_addSeen_39 : decode cX6_addSeen 39 = .ok (.iastore, 1) := by decide +kernel
theorem dX6_addSeen_40 : decode cX6_addSeen 40 = .ok (.aload_n 0, 1) := by decide +kernel
theorem dX6_addSeen_41 : decode cX6_addSeen 41 = .ok (.dup, 1) := by decide +kernel
theorem dX6_addSeen_42 : decode cX6_addSeen 42 = .ok (.getfield 38, 3) := by decide +kernel
theorem dX6_addSeen_45 : decode cX6_addSeen 45 = .ok (.iconst 1, 1) := by decide +kernel
theorem dX6_addSeen_46 : decode cX6_addSeen 46 = .ok (.iadd, 1) := by decide +kernel
theorem dX6_addSeen_47 : decode cX6_addSeen 47 = .ok (.putfield 38, 3) := by decide +kernel
theorem dX6_addSeen_50 : decode cX6_addSeen 50 = .ok (.return_, 1) := by decide +kernel
theorem dX6_seenAllows_0 : decode cX6_seenAllows 0 = .ok (.iconst 0, 1) := by decide +kernel
theorem dX6_seenAllows_1 : decode cX6_seenAllows 1 = .ok (.istore 4, 2) := by decide +kernel
theorem dX6_seenAllows_3 : decode cX6_seenAllows 3 = .ok (.iload 4, 2) := by decide +kernel
theorem dX6_seenAllows_5 : decode cX6_seenAllows 5 = .ok (.aload_n 0, 1) := by decide +kernel
theorem dX6_seenAllows_6 : decode cX6_seenAllows 6 = .ok (.getfield 38, 3) := by decide +kernel
theorem dX6_seenAllows_9 : decode cX6_seenAllows 9 = .ok (.if_icmp .ge 56, 3) := by decide +kernel
theorem dX6_seenAllows_12 : decode cX6_seenAllows 12 = .ok (.aload_n 0, 1) := by decide +kernel
theorem dX6_seenAllows_13 : decode cX6_seenAllows 13 = .ok (.getfield 29, 3) := by decide +kernel
theorem dX6_seenAllows_16 : decode cX6_seenAllows 16 = .ok (.iload 4, 2) := by decide +kernel
theorem dX6_seenAllows_18 : decode cX6_seenAllows 18 = .ok (.iaload, 1) := by decide +kernel
theorem dX6_seenAllows_19 : decode cX6_seenAllows 19 = .ok (.iload_n 1, 1) := by decide +kernel
theorem dX6_seenAllows_20 : decode cX6_seenAllows 20 = .ok (.if_icmp .ne 18, 3) := by decide +kernel
theorem dX6_seenAllows_23 : decode cX6_seenAllows 23 = .ok (.aload_n 0, 1) := by decide +kernel
theorem dX6_seenAllows_24 : decode cX6_seenAllows 24 = .ok (.getfield 32, 3) := by decide +kernel
theorem dX6_seenAllows_27 : decode cX6_seenAllows 27 = .ok (.iload 4, 2) := by decide +kernel
theorem dX6_seenAllows_29 : decode cX6_seenAllows 29 = .ok (.iaload, 1) := by decide +kernel
theorem dX6_seenAllows_30 : decode cX6_seenAllows 30 = .ok (.iload_n 2, 1) := by decide +kernel
theorem dX6_seenAllows_31 : decode cX6_seenAllows 31 = .ok (.if_icmp .ne 7, 3) := by decide +kernel
theorem dX6_seenAllows_34 : decode cX6_seenAllows 34 = .ok (.iconst 1, 1) := by decide +kernel
theorem dX6_seenAllows_35 : decode cX6_seenAllows 35 = .ok (.goto 4, 3) := by decide +kernel
theorem dX6_seenAllows_38 : decode cX6_seenAllows 38 = .ok (.iconst 0, 1) := by decide +kernel
theorem dX6_seenAllows_39 : decode cX6_seenAllows 39 = .ok (.istore 5, 2) := by decide +kernel
theorem dX6_seenAllows_41 : decode cX6_seenAllows 41 = .ok (.iload 5, 2) := by decide +kernel
theorem dX6_seenAllows_43 : decode cX6_seenAllows 43 = .ok (.ifCond .eq 16, 3) := by decide +kernel
theorem dX6_seenAllows_46 : decode cX6_seenAllows 46 = .ok (.aload_n 0, 1) := by decide +kernel
theorem dX6_seenAllows_47 : decode cX6_seenAllows 47 = .ok (.getfield 35, 3) := by decide +kernel
theorem dX6_seenAllows_50 : decode cX6_seenAllows 50 = .ok (.iload 4, 2) := by decide +kernel
theorem dX6_seenAllows_52 : decode cX6_seenAllows 52 = .ok (.iaload, 1) := by decide +kernel
theorem dX6_seenAllows_53 : decode cX6_seenAllows 53 = .ok (.iload_n 3, 1) := by decide +kernel
theorem dX6_seenAllows_54 : decode cX6_seenAllows 54 = .ok (.if_icmp .eq 5, 3) := by decide +kernel
theorem dX6_seenAllows_57 : decode cX6_seenAllows 57 = .ok (.iconst 0, 1) := by decide +kernel
theorem dX6_seenAllows_58 : decode cX6_seenAllows 58 = .ok (.ireturn, 1) := by decide +kernel
theorem dX6_seenAllows_59 : decode cX6_seenAllows 59 = .ok (.iinc 4 1, 3) := by decide +kernel
theorem dX6_seenAllows_62 : decode cX6_seenAllows 62 = .ok (.goto (-59), 3) := by decide +kernel
theorem dX6_seenAllows_65 : decode cX6_seenAllows 65 = .ok (.iconst 1, 1) := by decide +kernel
theorem dX6_seenAllows_66 : decode cX6_seenAllows 66 = .ok (.ireturn, 1) := by decide +kernel
theorem dX6_leanCode_0 : decode cX6_leanCode 0 = .ok (.lconst 0, 1) := by decide +kernel
theorem dX6_leanCode_1 : decode cX6_leanCode 1 = .ok (.lstore_n 1, 1) := by decide +kernel
theorem dX6_leanCode_2 : decode cX6_leanCode 2 = .ok (.iconst 0, 1) := by decide +kernel
theorem dX6_leanCode_3 : decode cX6_leanCode 3 = .ok (.istore_n 3, 1) := by decide +kernel
theorem dX6_leanCode_4 : decode cX6_leanCode 4 = .ok (.iload_n 3, 1) := by decide +kernel
theorem dX6_leanCode_5 : decode cX6_leanCode 5 = .ok (.iconst 3, 1) := by decide +kernel
theorem dX6_leanCode_6 : decode cX6_leanCode 6 = .ok (.if_icmp .ge 44, 3) := by decide +kernel
theorem dX6_leanCode_9 : decode cX6_leanCode 9 = .ok (.iconst 0, 1) := by decide +kernel
theorem dX6_leanCode_10 : decode cX6_leanCode 10 = .ok (.istore 4, 2) := by decide +kernel
theorem dX6_leanCode_12 : decode cX6_leanCode 12 = .ok (.iload 4, 2) := by decide +kernel
theorem dX6_leanCode_14 : decode cX6_leanCode 14 = .ok (.bipush 8, 2) := by decide +kernel
theorem dX6_leanCode_16 : decode cX6_leanCode 16 = .ok (.if_icmp .ge 28, 3) := by decide +kernel
theorem dX6_leanCode_19 : decode cX6_leanCode 19 = .ok (.lload_n 1, 1) := by decide +kernel
theorem dX6_leanCode_20 : decode cX6_leanCode 20 = .ok (.ldc2_w 42, 3) := by decide +kernel
theorem dX6_leanCode_23 : decode cX6_leanCode 23 = .ok (.lmul, 1) := by decide +kernel
theorem dX6_leanCode_24 : decode cX6_leanCode 24 = .ok (.aload_n 0, 1) := by decide +kernel
theorem dX6_leanCode_25 : decode cX6_leanCode 25 = .ok (.getfield 17, 3) := by decide +kernel
theorem dX6_leanCode_28 : decode cX6_leanCode 28 = .ok (.iload_n 3, 1) := by decide +kernel
theorem dX6_leanCode_29 : decode cX6_leanCode 29 = .ok (.aaload, 1) := by decide +kernel
theorem dX6_leanCode_30 : decode cX6_leanCode 30 = .ok (.iload 4, 2) := by decide +kernel
theorem dX6_leanCode_32 : decode cX6_leanCode 32 = .ok (.iaload, 1) := by decide +kernel
theorem dX6_leanCode_33 : decode cX6_leanCode 33 = .ok (.i2l, 1) := by decide +kernel
theorem dX6_leanCode_34 : decode cX6_leanCode 34 = .ok (.ladd, 1) := by decide +kernel
theorem dX6_leanCode_35 : decode cX6_leanCode 35 = .ok (.lconst 1, 1) := by decide +kernel
theorem dX6_leanCode_36 : decode cX6_leanCode 36 = .ok (.ladd, 1) := by decide +kernel
theorem dX6_leanCode_37 : decode cX6_leanCode 37 = .ok (.lstore_n 1, 1) := by decide +kernel
theorem dX6_leanCode_38 : decode cX6_leanCode 38 = .ok (.iinc 4 1, 3) := by decide +kernel
theorem dX6_leanCode_41 : decode cX6_leanCode 41 = .ok (.goto (-29), 3) := by decide +kernel
theorem dX6_leanCode_44 : decode cX6_leanCode 44 = .ok (.iinc 3 1, 3) := by decide +kernel
theorem dX6_leanCode_47 : decode cX6_leanCode 47 = .ok (.goto (-43), 3) := by decide +kernel
theorem dX6_leanCode_50 : decode cX6_leanCode 50 = .ok (.lload_n 1, 1) := by decide +kernel
theorem dX6_leanCode_51 : decode cX6_leanCode 51 = .ok (.lreturn, 1) := by decide +kernel
theorem dX6_clearAll_0 : decode cX6_clearAll 0 = .ok (.iconst 0, 1) := by decide +kernel
theorem dX6_clearAll_1 : decode cX6_clearAll 1 = .ok (.istore_n 1, 1) := by decide +kernel
theorem dX6_clearAll_2 : decode cX6_clearAll 2 = .ok (.iload_n 1, 1) := by decide +kernel
theorem dX6_clearAll_3 : decode cX6_clearAll 3 = .ok (.bipush 8, 2) := by decide +kernel
theorem dX6_clearAll_5 : decode cX6_clearAll 5 = .ok (.if_icmp .ge 45, 3) := by decide +kernel
theorem dX6_clearAll_8 : decode cX6_clearAll 8 = .ok (.aload_n 0, 1) := by decide +kernel
theorem dX6_clearAll_9 : decode cX6_clearAll 9 = .ok (.getfield 9, 3) := by decide +kernel
theorem dX6_clearAll_12 : decode cX6_clearAll 12 = .ok (.iload_n 1, 1) := by decide +kernel
theorem dX6_clearAll_13 : decode cX6_clearAll 13 = .ok (.iconst 0, 1) := by decide +kernel
theorem dX6_clearAll_14 : decode cX6_clearAll 14 = .ok (.iastore, 1) := by decide +kernel
theorem dX6_clearAll_15 : decode cX6_clearAll 15 = .ok (.aload_n 0, 1) := by decide +kernel
theorem dX6_clearAll_16 : decode cX6_clearAll 16 = .ok (.getfield 20, 3) := by decide +kernel
theorem dX6_clearAll_19 : decode cX6_clearAll 19 = .ok (.iload_n 1, 1) := by decide +kernel
theorem dX6_clearAll_20 : decode cX6_clearAll 20 = .ok (.iconst 0, 1) := by decide +kernel
theorem dX6_clearAll_21 : decode cX6_clearAll 21 = .ok (.iastore, 1) := by decide +kernel
theorem dX6_clearAll_22 : decode cX6_clearAll 22 = .ok (.iconst 0, 1) := by decide +kernel
theorem dX6_clearAll_23 : decode cX6_clearAll 23 = .ok (.istore_n 2, 1) := by decide +kernel
theorem dX6_clearAll_24 : decode cX6_clearAll 24 = .ok (.iload_n 2, 1) := by decide +kernel
theorem dX6_clearAll_25 : decode cX6_clearAll 25 = .ok (.iconst 3, 1) := by decide +kernel
theorem dX6_clearAll_26 : decode cX6_clearAll 26 = .ok (.if_icmp .ge 18, 3) := by decide +kernel
theorem dX6_clearAll_29 : decode cX6_clearAll 29 = .ok (.aload_n 0, 1) := by decide +kernel
theorem dX6_clearAll_30 : decode cX6_clearAll 30 = .ok (.getfield 17, 3) := by decide +kernel
theorem dX6_clearAll_33 : decode cX6_clearAll 33 = .ok (.iload_n 2, 1) := by decide +kernel
theorem dX6_clearAll_34 : decode cX6_clearAll 34 = .ok (.aaload, 1) := by decide +kernel
theorem dX6_clearAll_35 : decode cX6_clearAll 35 = .ok (.iload_n 1, 1) := by decide +kernel
theorem dX6_clearAll_36 : decode cX6_clearAll 36 = .ok (.iconst 0, 1) := by decide +kernel
theorem dX6_clearAll_37 : decode cX6_clearAll 37 = .ok (.iastore, 1) := by decide +kernel
theorem dX6_clearAll_38 : decode cX6_clearAll 38 = .ok (.iinc 2 1, 3) := by decide +kernel
theorem dX6_clearAll_41 : decode cX6_clearAll 41 = .ok (.goto (-17), 3) := by decide +kernel
theorem dX6_clearAll_44 : decode cX6_clearAll 44 = .ok (.iinc 1 1, 3) := by decide +kernel
theorem dX6_clearAll_47 : decode cX6_clearAll 47 = .ok (.goto (-45), 3) := by decide +kernel
theorem dX6_clearAll_50 : decode cX6_clearAll 50 = .ok (.iconst 0, 1) := by decide +kernel
theorem dX6_clearAll_51 : decode cX6_clearAll 51 = .ok (.istore_n 1, 1) := by decide +kernel
theorem dX6_clearAll_52 : decode cX6_clearAll 52 = .ok (.iload_n 1, 1) := by decide +kernel
theorem dX6_clearAll_53 : decode cX6_clearAll 53 = .ok (.iconst 3, 1) := by decide +kernel
theorem dX6_clearAll_54 : decode cX6_clearAll 54 = .ok (.if_icmp .ge 23, 3) := by decide +kernel
theorem dX6_clearAll_57 : decode cX6_clearAll 57 = .ok (.aload_n 0, 1) := by decide +kernel
theorem dX6_clearAll_58 : decode cX6_clearAll 58 = .ok (.getfield 23, 3) := by decide +kernel
theorem dX6_clearAll_61 : decode cX6_clearAll 61 = .ok (.iload_n 1, 1) := by decide +kernel
theorem dX6_clearAll_62 : decode cX6_clearAll 62 = .ok (.iconst 0, 1) := by decide +kernel
theorem dX6_clearAll_63 : decode cX6_clearAll 63 = .ok (.iastore, 1) := by decide +kernel
theorem dX6_clearAll_64 : decode cX6_clearAll 64 = .ok (.aload_n 0, 1) := by decide +kernel
theorem dX6_clearAll_65 : decode cX6_clearAll 65 = .ok (.getfield 26, 3) := by decide +kernel
theorem dX6_clearAll_68 : decode cX6_clearAll 68 = .ok (.iload_n 1, 1) := by decide +kernel
theorem dX6_clearAll_69 : decode cX6_clearAll 69 = .ok (.iconst 0, 1) := by decide +kernel
theorem dX6_clearAll_70 : decode cX6_clearAll 70 = .ok (.iastore, 1) := by decide +kernel
theorem dX6_clearAll_71 : decode cX6_clearAll 71 = .ok (.iinc 1 1, 3) := by decide +kernel
theorem dX6_clearAll_74 : decode cX6_clearAll 74 = .ok (.goto (-22), 3) := by decide +kernel
theorem dX6_clearAll_77 : decode cX6_clearAll 77 = .ok (.aload_n 0, 1) := by decide +kernel
theorem dX6_clearAll_78 : decode cX6_clearAll 78 = .ok (.iconst 0, 1) := by decide +kernel
theorem dX6_clearAll_79 : decode cX6_clearAll 79 = .ok (.putfield 38, 3) := by decide +kernel
theorem dX6_clearAll_82 : decode cX6_clearAll 82 = .ok (.aload_n 0, 1) := by decide +kernel
theorem dX6_clearAll_83 : decode cX6_clearAll 83 = .ok (.iconst 0, 1) := by decide +kernel
theorem dX6_clearAll_84 : decode cX6_clearAll 84 = .ok (.putfield 44, 3) := by decide +kernel
theorem dX6_clearAll_87 : decode cX6_clearAll 87 = .ok (.return_, 1) := by decide +kernel
theorem dX6_takeFrom_0 : decode cX6_takeFrom 0 = .ok (.aload_n 1, 1) := by decide +kernel
theorem dX6_takeFrom_1 : decode cX6_takeFrom 1 = .ok (.getfield 9, 3) := by decide +kernel
theorem dX6_takeFrom_4 : decode cX6_takeFrom 4 = .ok (.iconst 0, 1) := by decide +kernel
theorem dX6_takeFrom_5 : decode cX6_takeFrom 5 = .ok (.aload_n 0, 1) := by decide +kernel
theorem dX6_takeFrom_6 : decode cX6_takeFrom 6 = .ok (.getfield 9, 3) := by decide +kernel
theorem dX6_takeFrom_9 : decode cX6_takeFrom 9 = .ok (.iconst 0, 1) := by decide +kernel
theorem dX6_takeFrom_10 : decode cX6_takeFrom 10 = .ok (.bipush 8, 2) := by decide +kernel
theorem dX6_takeFrom_12 : decode cX6_takeFrom 12 = .ok (.invokestatic 47, 3) := by decide +kernel
theorem dX6_takeFrom_15 : decode cX6_takeFrom 15 = .ok (.aload_n 1, 1) := by decide +kernel
theorem dX6_takeFrom_16 : decode cX6_takeFrom 16 = .ok (.getfield 20, 3) := by decide +kernel
theorem dX6_takeFrom_19 : decode cX6_takeFrom 19 = .ok (.iconst 0, 1) := by decide +kernel
theorem dX6_takeFrom_20 : decode cX6_takeFrom 20 = .ok (.aload_n 0, 1) := by decide +kernel
theorem dX6_takeFrom_21 : decode cX6_takeFrom 21 = .ok (.getfield 20, 3) := by decide +kernel
theorem dX6_takeFrom_24 : decode cX6_takeFrom 24 = .ok (.iconst 0, 1) := by decide +kernel
theorem dX6_takeFrom_25 : decode cX6_takeFrom 25 = .ok (.bipush 8, 2) := by decide +kernel
theorem dX6_takeFrom_27 : decode cX6_takeFrom 27 = .ok (.invokestatic 47, 3) := by decide +kernel
theorem dX6_takeFrom_30 : decode cX6_takeFrom 30 = .ok (.iconst 0, 1) := by decide +kernel
theorem dX6_takeFrom_31 : decode cX6_takeFrom 31 = .ok (.istore_n 2, 1) := by decide +kernel
theorem dX6_takeFrom_32 : decode cX6_takeFrom 32 = .ok (.iload_n 2, 1) := by decide +kernel
theorem dX6_takeFrom_33 : decode cX6_takeFrom 33 = .ok (.iconst 3, 1) := by decide +kernel
theorem dX6_takeFrom_34 : decode cX6_takeFrom 34 = .ok (.if_icmp .ge 28, 3) := by decide +kernel
theorem dX6_takeFrom_37 : decode cX6_takeFrom 37 = .ok (.aload_n 1, 1) := by decide +kernel
theorem dX6_takeFrom_38 : decode cX6_takeFrom 38 = .ok (.getfield 17, 3) := by decide +kernel
theorem dX6_takeFrom_41 : decode cX6_takeFrom 41 = .ok (.iload_n 2, 1) := by decide +kernel
theorem dX6_takeFrom_42 : decode cX6_takeFrom 42 = .ok (.aaload, 1) := by decide +kernel
theorem dX6_takeFrom_43 : decode cX6_takeFrom 43 = .ok (.iconst 0, 1) := by decide +kernel
theorem dX6_takeFrom_44 : decode cX6_takeFrom 44 = .ok (.aload_n 0, 1) := by decide +kernel
theorem dX6_takeFrom_45 : decode cX6_takeFrom 45 = .ok (.getfield 17, 3) := by decide +kernel
theorem dX6_takeFrom_48 : decode cX6_takeFrom 48 = .ok (.iload_n 2, 1) := by decide +kernel
theorem dX6_takeFrom_49 : decode cX6_takeFrom 49 = .ok (.aaload, 1) := by decide +kernel
theorem dX6_takeFrom_50 : decode cX6_takeFrom 50 = .ok (.iconst 0, 1) := by decide +kernel
theorem dX6_takeFrom_51 : decode cX6_takeFrom 51 = .ok (.bipush 8, 2) := by decide +kernel
theorem dX6_takeFrom_53 : decode cX6_takeFrom 53 = .ok (.invokestatic 47, 3) := by decide +kernel
theorem dX6_takeFrom_56 : decode cX6_takeFrom 56 = .ok (.iinc 2 1, 3) := by decide +kernel
theorem dX6_takeFrom_59 : decode cX6_takeFrom 59 = .ok (.goto (-27), 3) := by decide +kernel
theorem dX6_takeFrom_62 : decode cX6_takeFrom 62 = .ok (.aload_n 1, 1) := by decide +kernel
theorem dX6_takeFrom_63 : decode cX6_takeFrom 63 = .ok (.getfield 23, 3) := by decide +kernel
theorem dX6_takeFrom_66 : decode cX6_takeFrom 66 = .ok (.iconst 0, 1) := by decide +kernel
theorem dX6_takeFrom_67 : decode cX6_takeFrom 67 = .ok (.aload_n 0, 1) := by decide +kernel
theorem dX6_takeFrom_68 : decode cX6_takeFrom 68 = .ok (.getfield 23, 3) := by decide +kernel
theorem dX6_takeFrom_71 : decode cX6_takeFrom 71 = .ok (.iconst 0, 1) := by decide +kernel
theorem dX6_takeFrom_72 : decode cX6_takeFrom 72 = .ok (.iconst 3, 1) := by decide +kernel
theorem dX6_takeFrom_73 : decode cX6_takeFrom 73 = .ok (.invokestatic 47, 3) := by decide +kernel
theorem dX6_takeFrom_76 : decode cX6_takeFrom 76 = .ok (.aload_n 1, 1) := by decide +kernel
theorem dX6_takeFrom_77 : decode cX6_takeFrom 77 = .ok (.getfield 26, 3) := by decide +kernel
theorem dX6_takeFrom_80 : decode cX6_takeFrom 80 = .ok (.iconst 0, 1) := by decide +kernel
theorem dX6_takeFrom_81 : decode cX6_takeFrom 81 = .ok (.aload_n 0, 1) := by decide +kernel
theorem dX6_takeFrom_82 : decode cX6_takeFrom 82 = .ok (.getfield 26, 3) := by decide +kernel
theorem dX6_takeFrom_85 : decode cX6_takeFrom 85 = .ok (.iconst 0, 1) := by decide +kernel
theorem dX6_takeFrom_86 : decode cX6_takeFrom 86 = .ok (.iconst 3, 1) := by decide +kernel
theorem dX6_takeFrom_87 : decode cX6_takeFrom 87 = .ok (.invokestatic 47, 3) := by decide +kernel
theorem dX6_takeFrom_90 : decode cX6_takeFrom 90 = .ok (.aload_n 1, 1) := by decide +kernel
theorem dX6_takeFrom_91 : decode cX6_takeFrom 91 = .ok (.getfield 29, 3) := by decide +kernel
theorem dX6_takeFrom_94 : decode cX6_takeFrom 94 = .ok (.iconst 0, 1) := by decide +kernel
theorem dX6_takeFrom_95 : decode cX6_takeFrom 95 = .ok (.aload_n 0, 1) := by decide +kernel
theorem dX6_takeFrom_96 : decode cX6_takeFrom 96 = .ok (.getfield 29, 3) := by decide +kernel
theorem dX6_takeFrom_99 : decode cX6_takeFrom 99 = .ok (.iconst 0, 1) := by decide +kernel
theorem dX6_takeFrom_100 : decode cX6_takeFrom 100 = .ok (.bipush 6, 2) := by decide +kernel
theorem dX6_takeFrom_102 : decode cX6_takeFrom 102 = .ok (.invokestatic 47, 3) := by decide +kernel
theorem dX6_takeFrom_105 : decode cX6_takeFrom 105 = .ok (.aload_n 1, 1) := by decide +kernel
theorem dX6_takeFrom_106 : decode cX6_takeFrom 106 = .ok (.getfield 32, 3) := by decide +kernel
theorem dX6_takeFrom_109 : decode cX6_takeFrom 109 = .ok (.iconst 0, 1) := by decide +kernel
theorem dX6_takeFrom_110 : decode cX6_takeFrom 110 = .ok (.aload_n 0, 1) := by decide +kernel
theorem dX6_takeFrom_111 : decode cX6_takeFrom 111 = .ok (.getfield 32, 3) := by decide +kernel
theorem dX6_takeFrom_114 : decode cX6_takeFrom 114 = .ok (.iconst 0, 1) := by decide +kernel
theorem dX6_takeFrom_115 : decode cX6_takeFrom 115 = .ok (.bipush 6, 2) := by decide +kernel
theorem dX6_takeFrom_117 : decode cX6_takeFrom 117 = .ok (.invokestatic 47, 3) := by decide +kernel
theorem dX6_takeFrom_120 : decode cX6_takeFrom 120 = .ok (.aload_n 1, 1) := by decide +kernel
theorem dX6_takeFrom_121 : decode cX6_takeFrom 121 = .ok (.getfield 35, 3) := by decide +kernel
theorem dX6_takeFrom_124 : decode cX6_takeFrom 124 = .ok (.iconst 0, 1) := by decide +kernel
theorem dX6_takeFrom_125 : decode cX6_takeFrom 125 = .ok (.aload_n 0, 1) := by decide +kernel
theorem dX6_takeFrom_126 : decode cX6_takeFrom 126 = .ok (.getfield 35, 3) := by decide +kernel
theorem dX6_takeFrom_129 : decode cX6_takeFrom 129 = .ok (.iconst 0, 1) := by decide +kernel
theorem dX6_takeFrom_130 : decode cX6_takeFrom 130 = .ok (.bipush 6, 2) := by decide +kernel
theorem dX6_takeFrom_132 : decode cX6_takeFrom 132 = .ok (.invokestatic 47, 3) := by decide +kernel
theorem dX6_takeFrom_135 : decode cX6_takeFrom 135 = .ok (.aload_n 0, 1) := by decide +kernel
theorem dX6_takeFrom_136 : decode cX6_takeFrom 136 = .ok (.aload_n 1, 1) := by decide +kernel
theorem dX6_takeFrom_137 : decode cX6_takeFrom 137 = .ok (.getfield 38, 3) := by decide +kernel
theorem dX6_takeFrom_140 : decode cX6_takeFrom 140 = .ok (.putfield 38, 3) := by decide +kernel
theorem dX6_takeFrom_143 : decode cX6_takeFrom 143 = .ok (.aload_n 0, 1) := by decide +kernel
theorem dX6_takeFrom_144 : decode cX6_takeFrom 144 = .ok (.aload_n 1, 1) := by decide +kernel
theorem dX6_takeFrom_145 : decode cX6_takeFrom 145 = .ok (.getfield 44, 3) := by decide +kernel
theorem dX6_takeFrom_148 : decode cX6_takeFrom 148 = .ok (.putfield 44, 3) := by decide +kernel
theorem dX6_takeFrom_151 : decode cX6_takeFrom 151 = .ok (.return_, 1) := by decide +kernel
theorem dX7_init_0 : decode cX7_init 0 = .ok (.aload_n 0, 1) := by decide +kernel
theorem dX7_init_1 : decode cX7_init 1 = .ok (.invokespecial 1, 3) := by decide +kernel
theorem dX7_init_4 : decode cX7_init 4 = .ok (.return_, 1) := by decide +kernel
theorem dX7_number_0 : decode cX7_number 0 = .ok (.iconst 4, 1) := by decide +kernel
theorem dX7_number_1 : decode cX7_number 1 = .ok (.ireturn, 1) := by decide +kernel
theorem dX7_pulled_0 : decode cX7_pulled 0 = .ok (.iload_n 3, 1) := by decide +kernel
theorem dX7_pulled_1 : decode cX7_pulled 1 = .ok (.ifCond .eq 9, 3) := by decide +kernel
theorem dX7_pulled_4 : decode cX7_pulled 4 = .ok (.iload_n 1, 1) := by decide +kernel
theorem dX7_pulled_5 : decode cX7_pulled 5 = .ok (.iload_n 3, 1) := by decide +kernel
theorem dX7_pulled_6 : decode cX7_pulled 6 = .ok (.imul, 1) := by decide +kernel
theorem dX7_pulled_7 : decode cX7_pulled 7 = .ok (.goto 6, 3) := by decide +kernel
theorem dX7_pulled_10 : decode cX7_pulled 10 = .ok (.iload_n 1, 1) := by decide +kernel
theorem dX7_pulled_11 : decode cX7_pulled 11 = .ok (.iload_n 2, 1) := by decide +kernel
theorem dX7_pulled_12 : decode cX7_pulled 12 = .ok (.imul, 1) := by decide +kernel
theorem dX7_pulled_13 : decode cX7_pulled 13 = .ok (.ireturn, 1) := by decide +kernel
theorem dX8_init_0 : decode cX8_init 0 = .ok (.aload_n 0, 1) := by decide +kernel
theorem dX8_init_1 : decode cX8_init 1 = .ok (.invokespecial 1, 3) := by decide +kernel
theorem dX8_init_4 : decode cX8_init 4 = .ok (.aload_n 0, 1) := by decide +kernel
theorem dX8_init_5 : decode cX8_init 5 = .ok (.new 7, 3) := by decide +kernel
theorem dX8_init_8 : decode cX8_init 8 = .ok (.dup, 1) := by decide +kernel
theorem dX8_init_9 : decode cX8_init 9 = .ok (.invokespecial 9, 3) := by decide +kernel
theorem dX8_init_12 : decode cX8_init 12 = .ok (.putfield 10, 3) := by decide +kernel
theorem dX8_init_15 : decode cX8_init 15 = .ok (.aload_n 0, 1) := by decide +kernel
theorem dX8_init_16 : decode cX8_init 16 = .ok (.new 16, 3) := by decide +kernel
theorem dX8_init_19 : decode cX8_init 19 = .ok (.dup, 1) := by decide +kernel
theorem dX8_init_20 : decode cX8_init 20 = .ok (.invokespecial 18, 3) := by decide +kernel
theorem dX8_init_23 : decode cX8_init 23 = .ok (.putfield 19, 3) := by decide +kernel
theorem dX8_init_26 : decode cX8_init 26 = .ok (.aload_n 0, 1) := by decide +kernel
theorem dX8_init_27 : decode cX8_init 27 = .ok (.new 23, 3) := by decide +kernel
theorem dX8_init_30 : decode cX8_init 30 = .ok (.dup, 1) := by decide +kernel
theorem dX8_init_31 : decode cX8_init 31 = .ok (.invokespecial 25, 3) := by decide +kernel
theorem dX8_init_34 : decode cX8_init 34 = .ok (.putfield 26, 3) := by decide +kernel
theorem dX8_init_37 : decode cX8_init 37 = .ok (.aload_n 0, 1) := by decide +kernel
theorem dX8_init_38 : decode cX8_init 38 = .ok (.new 23, 3) := by decide +kernel
theorem dX8_init_41 : decode cX8_init 41 = .ok (.dup, 1) := by decide +kernel
theorem dX8_init_42 : decode cX8_init 42 = .ok (.invokespecial 25, 3) := by decide +kernel
theorem dX8_init_45 : decode cX8_init 45 = .ok (.putfield 30, 3) := by decide +kernel
theorem dX8_init_48 : decode cX8_init 48 = .ok (.aload_n 0, 1) := by decide +kernel
theorem dX8_init_49 : decode cX8_init 49 = .ok (.new 23, 3) := by decide +kernel
theorem dX8_init_52 : decode cX8_init 52 = .ok (.dup, 1) := by decide +kernel
theorem dX8_init_53 : decode cX8_init 53 = .ok (.invokespecial 25, 3) := by decide +kernel
theorem dX8_init_56 : decode cX8_init 56 = .ok (.putfield 33, 3) := by decide +kernel
theorem dX8_init_59 : decode cX8_init 59 = .ok (.aload_n 0, 1) := by decide +kernel
theorem dX8_init_60 : decode cX8_init 60 = .ok (.sipush 256, 3) := by decide +kernel
theorem dX8_init_63 : decode cX8_init 63 = .ok (.newarray .int, 2) := by decide +kernel
theorem dX8_init_65 : decode cX8_init 65 = .ok (.putfield 36, 3) := by decide +kernel
theorem dX8_init_68 : decode cX8_init 68 = .ok (.aload_n 0, 1) := by decide +kernel
theorem dX8_init_69 : decode cX8_init 69 = .ok (.bipush 9, 2) := by decide +kernel
theorem dX8_init_71 : decode cX8_init 71 = .ok (.newarray .int, 2) := by decide +kernel
theorem dX8_init_73 : decode cX8_init 73 = .ok (.putfield 40, 3) := by decide +kernel
theorem dX8_init_76 : decode cX8_init 76 = .ok (.aload_n 0, 1) := by decide +kernel
theorem dX8_init_77 : decode cX8_init 77 = .ok (.iconst 3, 1) := by decide +kernel
theorem dX8_init_78 : decode cX8_init 78 = .ok (.newarray .int, 2) := by decide +kernel
theorem dX8_init_80 : decode cX8_init 80 = .ok (.putfield 43, 3) := by decide +kernel
theorem dX8_init_83 : decode cX8_init 83 = .ok (.aload_n 0, 1) := by decide +kernel
theorem dX8_init_84 : decode cX8_init 84 = .ok (.bipush 64, 2) := by decide +kernel
theorem dX8_init_86 : decode cX8_init 86 = .ok (.newarray .long, 2) := by decide +kernel
theorem dX8_init_88 : decode cX8_init 88 = .ok (.putfield 46, 3) := by decide +kernel
theorem dX8_init_91 : decode cX8_init 91 = .ok (.return_, 1) := by decide +kernel
theorem dX8_letter_0 : decode cX8_letter 0 = .ok (.iload_n 1, 1) := by decide +kernel
theorem dX8_letter_1 : decode cX8_letter 1 = .ok (.bipush 32, 2) := by decide +kernel
theorem dX8_letter_3 : decode cX8_letter 3 = .ok (.if_icmp .lt 9, 3) := by decide +kernel
theorem dX8_letter_6 : decode cX8_letter 6 = .ok (.iload_n 1, 1) := by decide +kernel
theorem dX8_letter_7 : decode cX8_letter 7 = .ok (.bipush 126, 2) := by decide +kernel
theorem dX8_letter_9 : decode cX8_letter 9 = .ok (.if_icmp .le 6, 3) := by decide +kernel
theorem dX8_letter_12 : decode cX8_letter 12 = .ok (.bipush (-102), 2) := by decide +kernel
theorem dX8_letter_14 : decode cX8_letter 14 = .ok (.ireturn, 1) := by decide +kernel
theorem dX8_letter_15 : decode cX8_letter 15 = .ok (.aload_n 0, 1) := by decide +kernel
theorem dX8_letter_16 : decode cX8_letter 16 = .ok (.getfield 10, 3) := by decide +kernel
theorem dX8_letter_19 : decode cX8_letter 19 = .ok (.getfield 50, 3) := by decide +kernel
theorem dX8_letter_22 : decode cX8_letter 22 = .ok (.bipush 50, 2) := by decide +kernel
theorem dX8_letter_24 : decode cX8_letter 24 = .ok (.if_icmp .lt 6, 3) := by decide +kernel
theorem dX8_letter_27 : decode cX8_letter 27 = .ok (.bipush (-104), 2) := by decide +kernel
theorem dX8_letter_29 : decode cX8_letter 29 = .ok (.ireturn, 1) := by decide +kernel
theorem dX8_letter_30 : decode cX8_letter 30 = .ok (.aload_n 0, 1) := by decide +kernel
theorem dX8_letter_31 : decode cX8_letter 31 = .ok (.getfield 10, 3) := by decide +kernel
theorem dX8_letter_34 : decode cX8_letter 34 = .ok (.getfield 54, 3) := by decide +kernel
theorem dX8_letter_37 : decode cX8_letter 37 = .ok (.aload_n 0, 1) := by decide +kernel
theorem dX8_letter_38 : decode cX8_letter 38 = .ok (.getfield 10, 3) := by decide +kernel
theorem dX8_letter_41 : decode cX8_letter 41 = .ok (.getfield 50, 3) := by decide +kernel
theorem dX8_letter_44 : decode cX8_letter 44 = .ok (.iload_n 1, 1) := by decide +kernel
theorem dX8_letter_45 : decode cX8_letter 45 = .ok (.iastore, 1) := by decide +kernel
theorem dX8_letter_46 : decode cX8_letter 46 = .ok (.aload_n 0, 1) := by decide +kernel
theorem dX8_letter_47 : decode cX8_letter 47 = .ok (.getfield 10, 3) := by decide +kernel
theorem dX8_letter_50 : decode cX8_letter 50 = .ok (.dup, 1) := by decide +kernel
theorem dX8_letter_51 : decode cX8_letter 51 = .ok (.getfield 50, 3) := by decide +kernel
theorem dX8_letter_54 : decode cX8_letter 54 = .ok (.iconst 1, 1) := by decide +kernel
theorem dX8_letter_55 : decode cX8_letter 55 = .ok (.iadd, 1) := by decide +kernel
theorem dX8_letter_56 : decode cX8_letter 56 = .ok (.putfield 50, 3) := by decide +kernel
theorem dX8_letter_59 : decode cX8_letter 59 = .ok (.aload_n 0, 1) := by decide +kernel
theorem dX8_letter_60 : decode cX8_letter 60 = .ok (.getfield 10, 3) := by decide +kernel
theorem dX8_letter_63 : decode cX8_letter 63 = .ok (.getfield 50, 3) := by decide +kernel
theorem dX8_letter_66 : decode cX8_letter 66 = .ok (.ireturn, 1) := by decide +kernel
theorem dX8_blank_0 : decode cX8_blank 0 = .ok (.aload_n 0, 1) := by decide +kernel
theorem dX8_blank_1 : decode cX8_blank 1 = .ok (.getfield 10, 3) := by decide +kernel
theorem dX8_blank_4 : decode cX8_blank 4 = .ok (.getfield 50, 3) := by decide +kernel
theorem dX8_blank_7 : decode cX8_blank 7 = .ok (.istore_n 1, 1) := by decide +kernel
theorem dX8_blank_8 : decode cX8_blank 8 = .ok (.aload_n 0, 1) := by decide +kernel
theorem dX8_blank_9 : decode cX8_blank 9 = .ok (.getfield 10, 3) := by decide +kernel
theorem dX8_blank_12 : decode cX8_blank 12 = .ok (.iconst 0, 1) := by decide +kernel
theorem dX8_blank_13 : decode cX8_blank 13 = .ok (.putfield 50, 3) := by decide +kernel
theorem dX8_blank_16 : decode cX8_blank 16 = .ok (.iload_n 1, 1) := by decide +kernel
theorem dX8_blank_17 : decode cX8_blank 17 = .ok (.ireturn, 1) := by decide +kernel
theorem dX8_fault_0 : decode cX8_fault 0 = .ok (.aload_n 0, 1) := by decide +kernel
theorem dX8_fault_1 : decode cX8_fault 1 = .ok (.getfield 10, 3) := by decide +kernel
theorem dX8_fault_4 : decode cX8_fault 4 = .ok (.invokevirtual 57, 3) := by decide +kernel
theorem dX8_fault_7 : decode cX8_fault 7 = .ok (.ireturn, 1) := by decide +kernel
theorem dX8_rope_0 : decode cX8_rope 0 = .ok (.aload_n 0, 1) := by decide +kernel
theorem dX8_rope_1 : decode cX8_rope 1 = .ok (.getfield 10, 3) := by decide +kernel
theorem dX8_rope_4 : decode cX8_rope 4 = .ok (.invokevirtual 61, 3) := by decide +kernel
theorem dX8_rope_7 : decode cX8_rope 7 = .ok (.ifCond .ne 6, 3) := by decide +kernel
theorem dX8_rope_10 : decode cX8_rope 10 = .ok (.bipush (-103), 2) := by decide +kernel
theorem dX8_rope_12 : decode cX8_rope 12 = .ok (.ireturn, 1) := by decide +kernel
theorem dX8_rope_13 : decode cX8_rope 13 = .ok (.aload_n 0, 1) := by decide +kernel
theorem dX8_rope_14 : decode cX8_rope 14 = .ok (.getfield 26, 3) := by decide +kernel
theorem dX8_rope_17 : decode cX8_rope 17 = .ok (.invokevirtual 65, 3) := by decide +kernel
theorem dX8_rope_20 : decode cX8_rope 20 = .ok (.aload_n 0, 1) := by decide +kernel
theorem dX8_rope_21 : decode cX8_rope 21 = .ok (.getfield 19, 3) := by decide +kernel
theorem dX8_rope_24 : decode cX8_rope 24 = .ok (.aload_n 0, 1) := by decide +kernel
theorem dX8_rope_25 : decode cX8_rope 25 = .ok (.getfield 10, 3) := by decide +kernel
theorem dX8_rope_28 : decode cX8_rope 28 = .ok (.getfield 50, 3) := by decide +kernel
theorem dX8_rope_31 : decode cX8_rope 31 = .ok (.iconst 1, 1) := by decide +kernel
theorem dX8_rope_32 : decode cX8_rope 32 = .ok (.iadd, 1) := by decide +kernel
theorem dX8_rope_33 : decode cX8_rope 33 = .ok (.bipush 6, 2) := by decide +kernel
theorem dX8_rope_35 : decode cX8_rope 35 = .ok (.idiv, 1) := by decide +kernel
theorem dX8_rope_36 : decode cX8_rope 36 = .ok (.putfield 68, 3) := by decide +kernel
theorem dX8_rope_39 : decode cX8_rope 39 = .ok (.iconst 0, 1) := by decide +kernel
theorem dX8_rope_40 : decode cX8_rope 40 = .ok (.istore_n 1, 1) := by decide +kernel
theorem dX8_rope_41 : decode cX8_rope 41 = .ok (.iload_n 1, 1) := by decide +kernel
theorem dX8_rope_42 : decode cX8_rope 42 = .ok (.aload_n 0, 1) := by decide +kernel
theorem dX8_rope_43 : decode cX8_rope 43 = .ok (.getfield 19, 3) := by decide +kernel
theorem dX8_rope_46 : decode cX8_rope 46 = .ok (.getfield 68, 3) := by decide +kernel
theorem dX8_rope_49 : decode cX8_rope 49 = .ok (.if_icmp .ge 75, 3) := by decide +kernel
theorem dX8_rope_52 : decode cX8_rope 52 = .ok (.aload_n 0, 1) := by decide +kernel
theorem dX8_rope_53 : decode cX8_rope 53 = .ok (.getfield 19, 3) := by decide +kernel
theorem dX8_rope_56 : decode cX8_rope 56 = .ok (.iload_n 1, 1) := by decide +kernel
theorem dX8_rope_57 : decode cX8_rope 57 = .ok (.aload_n 0, 1) := by decide +kernel
theorem dX8_rope_58 : decode cX8_rope 58 = .ok (.getfield 10, 3) := by decide +kernel
theorem dX8_rope_61 : decode cX8_rope 61 = .ok (.iload_n 1, 1) := by decide +kernel
theorem dX8_rope_62 : decode cX8_rope 62 = .ok (.invokevirtual 71, 3) := by decide +kernel
theorem dX8_rope_65 : decode cX8_rope 65 = .ok (.invokevirtual 75, 3) := by decide +kernel
theorem dX8_rope_68 : decode cX8_rope 68 = .ok (.aload_n 0, 1) := by decide +kernel
theorem dX8_rope_69 : decode cX8_rope 69 = .ok (.getfield 26, 3) := by decide +kernel
theorem dX8_rope_72 : decode cX8_rope 72 = .ok (.getfield 79, 3) := by decide +kernel
theorem dX8_rope_75 : decode cX8_rope 75 = .ok (.iload_n 1, 1) := by decide +kernel
theorem dX8_rope_76 : decode cX8_rope 76 = .ok (.aload_n 0, 1) := by decide +kernel
theorem dX8_rope_77 : decode cX8_rope 77 = .ok (.getfield 10, 3) := by decide +kernel
theorem dX8_rope_80 : decode cX8_rope 80 = .ok (.iload_n 1, 1) := by decide +kernel
theorem dX8_rope_81 : decode cX8_rope 81 = .ok (.invokevirtual 82, 3) := by decide +kernel
theorem dX8_rope_84 : decode cX8_rope 84 = .ok (.iastore, 1) := by decide +kernel
theorem dX8_rope_85 : decode cX8_rope 85 = .ok (.iconst 0, 1) := by decide +kernel
theorem dX8_rope_86 : decode cX8_rope 86 = .ok (.istore_n 2, 1) := by decide +kernel
theorem dX8_rope_87 : decode cX8_rope 87 = .ok (.iload_n 2, 1) := by decide +kernel
theorem dX8_rope_88 : decode cX8_rope 88 = .ok (.iconst 3, 1) := by decide +kernel
theorem dX8_rope_89 : decode cX8_rope 89 = .ok (.if_icmp .ge 29, 3) := by decide +kernel
theorem dX8_rope_92 : decode cX8_rope 92 = .ok (.aload_n 0, 1) := by decide +kernel
theorem dX8_rope_93 : decode cX8_rope 93 = .ok (.getfield 26, 3) := by decide +kernel
theorem dX8_rope_96 : decode cX8_rope 96 = .ok (.getfield 85, 3) := by decide +kernel
theorem dX8_rope_99 : decode cX8_rope 99 = .ok (.iload_n 2, 1) := by decide +kernel
theorem dX8_rope_100 : decode cX8_rope 100 = .ok (.aaload, 1) := by decide +kernel
theorem dX8_rope_101 : decode cX8_rope 101 = .ok (.iload_n 1, 1) := by decide +kernel
theorem dX8_rope_102 : decode cX8_rope 102 = .ok (.aload_n 0, 1) := by decide +kernel
theorem dX8_rope_103 : decode cX8_rope 103 = .ok (.getfield 10, 3) := by decide +kernel
theorem dX8_rope_106 : decode cX8_rope 106 = .ok (.iload_n 1, 1) := by decide +kernel
theorem dX8_rope_107 : decode cX8_rope 107 = .ok (.iload_n 2, 1) := by decide +kernel
theorem dX8_rope_108 : decode cX8_rope 108 = .ok (.invokevirtual 89, 3) := by decide +kernel
theorem dX8_rope_111 : decode cX8_rope 111 = .ok (.iastore, 1) := by decide +kernel
theorem dX8_rope_112 : decode cX8_rope 112 = .ok (.iinc 2 1, 3) := by decide +kernel
theorem dX8_rope_115 : decode cX8_rope 115 = .ok (.goto (-28), 3) := by decide +kernel
theorem dX8_rope_118 : decode cX8_rope 118 = .ok (.iinc 1 1, 3) := by decide +kernel
theorem dX8_rope_121 : decode cX8_rope 121 = .ok (.goto (-80), 3) := by decide +kernel
theorem dX8_rope_124 : decode cX8_rope 124 = .ok (.aload_n 0, 1) := by decide +kernel
theorem dX8_rope_125 : decode cX8_rope 125 = .ok (.getfield 10, 3) := by decide +kernel
theorem dX8_rope_128 : decode cX8_rope 128 = .ok (.iconst 0, 1) := by decide +kernel
theorem dX8_rope_129 : decode cX8_rope 129 = .ok (.putfield 50, 3) := by decide +kernel
theorem dX8_rope_132 : decode cX8_rope 132 = .ok (.aload_n 0, 1) := by decide +kernel
theorem dX8_rope_133 : decode cX8_rope 133 = .ok (.iconst 0, 1) := by decide +kernel
theorem dX8_rope_134 : decode cX8_rope 134 = .ok (.putfield 93, 3) := by decide +kernel
theorem dX8_rope_137 : decode cX8_rope 137 = .ok (.aload_n 0, 1) := by decide +kernel
theorem dX8_rope_138 : decode cX8_rope 138 = .ok (.dup, 1) := by decide +kernel
theorem dX8_rope_139 : decode cX8_rope 139 = .ok (.getfield 97, 3) := by decide +kernel
theorem dX8_rope_142 : decode cX8_rope 142 = .ok (.iconst 1, 1) := by decide +kernel
theorem dX8_rope_143 : decode cX8_rope 143 = .ok (.iadd, 1) := by decide +kernel
theorem dX8_rope_144 : decode cX8_rope 144 = .ok (.putfield 97, 3) := by decide +kernel
theorem dX8_rope_147 : decode cX8_rope 147 = .ok (.aload_n 0, 1) := by decide +kernel
theorem dX8_rope_148 : decode cX8_rope 148 = .ok (.getfield 19, 3) := by decide +kernel
theorem dX8_rope_151 : decode cX8_rope 151 = .ok (.getfield 68, 3) := by decide +kernel
theorem dX8_rope_154 : decode cX8_rope 154 = .ok (.ireturn, 1) := by decide +kernel
theorem dX8_mussel_0 : decode cX8_mussel 0 = .ok (.aload_n 0, 1) := by decide +kernel
theorem dX8_mussel_1 : decode cX8_mussel 1 = .ok (.getfield 19, 3) := by decide +kernel
theorem dX8_mussel_4 : decode cX8_mussel 4 = .ok (.iload_n 1, 1) := by decide +kernel
theorem dX8_mussel_5 : decode cX8_mussel 5 = .ok (.invokevirtual 100, 3) := by decide +kernel
theorem dX8_mussel_8 : decode cX8_mussel 8 = .ok (.ifCond .ne 6, 3) := by decide +kernel
theorem dX8_mussel_11 : decode cX8_mussel 11 = .ok (.bipush (-101), 2) := by decide +kernel
theorem dX8_mussel_13 : decode cX8_mussel 13 = .ok (.ireturn, 1) := by decide +kernel
theorem dX8_mussel_14 : decode cX8_mussel 14 = .ok (.iload_n 2, 1) := by decide +kernel
theorem dX8_mussel_15 : decode cX8_mussel 15 = .ok (.bipush 10, 2) := by decide +kernel
theorem dX8_mussel_17 : decode cX8_mussel 17 = .ok (.if_icmp .lt 29, 3) := by decide +kernel
theorem dX8_mussel_20 : decode cX8_mussel 20 = .ok (.iload_n 2, 1) := by decide +kernel
theorem dX8_mussel_21 : decode cX8_mussel 21 = .ok (.bipush 13, 2) := by decide +kernel
theorem dX8_mussel_23 : decode cX8_mussel 23 = .ok (.if_icmp .ge 23, 3) := by decide +kernel
theorem dX8_mussel_26 : decode cX8_mussel 26 = .ok (.bipush 100, 2) := by decide +kernel
theorem dX8_mussel_28 : decode cX8_mussel 28 = .ok (.aload_n 0, 1) := by decide +kernel
theorem dX8_mussel_29 : decode cX8_mussel 29 = .ok (.getfield 19, 3) := by decide +kernel
theorem dX8_mussel_32 : decode cX8_mussel 32 = .ok (.aload_n 0, 1) := by decide +kernel
theorem dX8_mussel_33 : decode cX8_mussel 33 = .ok (.getfield 26, 3) := by decide +kernel
theorem dX8_mussel_36 : decode cX8_mussel 36 = .ok (.iload_n 1, 1) := by decide +kernel
theorem dX8_mussel_37 : decode cX8_mussel 37 = .ok (.iload_n 2, 1) := by decide +kernel
theorem dX8_mussel_38 : decode cX8_mussel 38 = .ok (.bipush 10, 2) := by decide +kernel
theorem dX8_mussel_40 : decode cX8_mussel 40 = .ok (.isub, 1) := by decide +kernel
theorem dX8_mussel_41 : decode cX8_mussel 41 = .ok (.invokevirtual 104, 3) := by decide +kernel
theorem dX8_mussel_44 : decode cX8_mussel 44 = .ok (.iadd, 1) := by decide +kernel
theorem dX8_mussel_45 : decode cX8_mussel 45 = .ok (.ireturn, 1) := by decide +kernel
theorem dX8_mussel_46 : decode cX8_mussel 46 = .ok (.iload_n 2, 1) := by decide +kernel
theorem dX8_mussel_47 : decode cX8_mussel 47 = .ok (.bipush 20, 2) := by decide +kernel
theorem dX8_mussel_49 : decode cX8_mussel 49 = .ok (.if_icmp .lt 19, 3) := by decide +kernel
theorem dX8_mussel_52 : decode cX8_mussel 52 = .ok (.iload_n 2, 1) := by decide +kernel
theorem dX8_mussel_53 : decode cX8_mussel 53 = .ok (.bipush 23, 2) := by decide +kernel
theorem dX8_mussel_55 : decode cX8_mussel 55 = .ok (.if_icmp .ge 13, 3) := by decide +kernel
theorem dX8_mussel_58 : decode cX8_mussel 58 = .ok (.aload_n 0, 1) := by decide +kernel
theorem dX8_mussel_59 : decode cX8_mussel 59 = .ok (.iload_n 1, 1) := by decide +kernel
theorem dX8_mussel_60 : decode cX8_mussel 60 = .ok (.iload_n 2, 1) := by decide +kernel
theorem dX8_mussel_61 : decode cX8_mussel 61 = .ok (.bipush 20, 2) := by decide +kernel
theorem dX8_mussel_63 : decode cX8_mussel 63 = .ok (.isub, 1) := by decide +kernel
theorem dX8_mussel_64 : decode cX8_mussel 64 = .ok (.invokevirtual 108, 3) := by decide +kernel
theorem dX8_mussel_67 : decode cX8_mussel 67 = .ok (.ireturn, 1) := by decide +kernel
theorem dX8_mussel_68 : decode cX8_mussel 68 = .ok (.iload_n 2, 1) := by decide +kernel
theorem dX8_mussel_69 : decode cX8_mussel 69 = .ok (.tableswitch 122 0 7 #[47, 59, 69, 69, 69, 83, 104, 116], 47) := by decide +kernel
theorem dX8_mussel_116 : decode cX8_mussel 116 = .ok (.aload_n 0, 1) := by decide +kernel
theorem dX8_mussel_117 : decode cX8_mussel 117 = .ok (.getfield 19, 3) := by decide +kernel
theorem dX8_mussel_120 : decode cX8_mussel 120 = .ok (.iload_n 1, 1) := by decide +kernel
theorem dX8_mussel_121 : decode cX8_mussel 121 = .ok (.invokevirtual 111, 3) := by decide +kernel
theorem dX8_mussel_124 : decode cX8_mussel 124 = .ok (.invokevirtual 115, 3) := by decide +kernel
theorem dX8_mussel_127 : decode cX8_mussel 127 = .ok (.ireturn, 1) := by decide +kernel
theorem dX8_mussel_128 : decode cX8_mussel 128 = .ok (.aload_n 0, 1) := by decide +kernel
theorem dX8_mussel_129 : decode cX8_mussel 129 = .ok (.getfield 26, 3) := by decide +kernel
theorem dX8_mussel_132 : decode cX8_mussel 132 = .ok (.getfield 79, 3) := by decide +kernel
theorem dX8_mussel_135 : decode cX8_mussel 135 = .ok (.iload_n 1, 1) := by decide +kernel
theorem dX8_mussel_136 : decode cX8_mussel 136 = .ok (.iaload, 1) := by decide +kernel
theorem dX8_mussel_137 : decode cX8_mussel 137 = .ok (.ireturn, 1) := by decide +kernel
theorem dX8_mussel_138 : decode cX8_mussel 138 = .ok (.aload_n 0, 1) := by decide +kernel
theorem dX8_mussel_139 : decode cX8_mussel 139 = .ok (.getfield 26, 3) := by decide +kernel
theorem dX8_mussel_142 : decode cX8_mussel 142 = .ok (.getfield 85, 3) := by decide +kernel
theorem dX8_mussel_145 : decode cX8_mussel 145 = .ok (.iload_n 2, 1) := by decide +kernel
theorem dX8_mussel_146 : decode cX8_mussel 146 = .ok (.iconst 2, 1) := by decide +kernel
theorem dX8_mussel_147 : decode cX8_mussel 147 = .ok (.isub, 1) := by decide +kernel
theorem dX8_mussel_148 : decode cX8_mussel 148 = .ok (.aaload, 1) := by decide +kernel
theorem dX8_mussel_149 : decode cX8_mussel 149 = .ok (.iload_n 1, 1) := by decide +kernel
theorem dX8_mussel_150 : decode cX8_mussel 150 = .ok (.iaload, 1) := by decide +kernel
theorem dX8_mussel_151 : decode cX8_mussel 151 = .ok (.ireturn, 1) := by decide +kernel
theorem dX8_mussel_152 : decode cX8_mussel 152 = .ok (.iload_n 1, 1) := by decide +kernel
theorem dX8_mussel_153 : decode cX8_mussel 153 = .ok (.aload_n 0, 1) := by decide +kernel
theorem dX8_mussel_154 : decode cX8_mussel 154 = .ok (.getfield 19, 3) := by decide +kernel
theorem dX8_mussel_157 : decode cX8_mussel 157 = .ok (.aload_n 0, 1) := by decide +kernel
theorem dX8_mussel_158 : decode cX8_mussel 158 = .ok (.getfield 26, 3) := by decide +kernel
theorem dX8_mussel_161 : decode cX8_mussel 161 = .ok (.invokevirtual 120, 3) := by decide +kernel
theorem dX8_mussel_164 : decode cX8_mussel 164 = .ok (.if_icmp .ge 7, 3) := by decide +kernel
theorem dX8_mussel_167 : decode cX8_mussel 167 = .ok (.iconst 1, 1) := by decide +kernel
theorem dX8_mussel_168 : decode cX8_mussel 168 = .ok (.goto 4, 3) := by decide +kernel
theorem dX8_mussel_171 : decode cX8_mussel 171 = .ok (.iconst 0, 1) := by decide +kernel
theorem dX8_mussel_172 : decode cX8_mussel 172 = .ok (.ireturn, 1) := by decide +kernel
theorem dX8_mussel_173 : decode cX8_mussel 173 = .ok (.iconst 1, 1) := by decide +kernel
theorem dX8_mussel_174 : decode cX8_mussel 174 = .ok (.aload_n 0, 1) := by decide +kernel
theorem dX8_mussel_175 : decode cX8_mussel 175 = .ok (.getfield 26, 3) := by decide +kernel
theorem dX8_mussel_178 : decode cX8_mussel 178 = .ok (.getfield 124, 3) := by decide +kernel
theorem dX8_mussel_181 : decode cX8_mussel 181 = .ok (.iload_n 1, 1) := by decide +kernel
theorem dX8_mussel_182 : decode cX8_mussel 182 = .ok (.iaload, 1) := by decide +kernel
theorem dX8_mussel_183 : decode cX8_mussel 183 = .ok (.isub, 1) := by decide +kernel
theorem dX8_mussel_184 : decode cX8_mussel 184 = .ok (.ireturn, 1) := by decide +kernel
theorem dX8_mussel_185 : decode cX8_mussel 185 = .ok (.aload_n 0, 1) := by decide +kernel
theorem dX8_mussel_186 : decode cX8_mussel 186 = .ok (.iload_n 1, 1) := by decide +kernel
theorem dX8_mussel_187 : decode cX8_mussel 187 = .ok (.invokevirtual 127, 3) := by decide +kernel
theorem dX8_mussel_190 : decode cX8_mussel 190 = .ok (.ireturn, 1) := by decide +kernel
theorem dX8_mussel_191 : decode cX8_mussel 191 = .ok (.bipush (-102), 2) := by decide +kernel
theorem dX8_mussel_193 : decode cX8_mussel 193 = .ok (.ireturn, 1) := by decide +kernel
theorem dX8_as_0 : decode cX8_as 0 = .ok (.aload_n 0, 1) := by decide +kernel
theorem dX8_as_1 : decode cX8_as 1 = .ok (.getfield 19, 3) := by decide +kernel
theorem dX8_as_4 : decode cX8_as 4 = .ok (.iload_n 1, 1) := by decide +kernel
theorem dX8_as_5 : decode cX8_as 5 = .ok (.invokevirtual 100, 3) := by decide +kernel
theorem dX8_as_8 : decode cX8_as 8 = .ok (.ifCond .ne 6, 3) := by decide +kernel
theorem dX8_as_11 : decode cX8_as 11 = .ok (.bipush (-101), 2) := by decide +kernel
theorem dX8_as_13 : decode cX8_as 13 = .ok (.ireturn, 1) := by decide +kernel
theorem dX8_as_14 : decode cX8_as 14 = .ok (.iload_n 2, 1) := by decide +kernel
theorem dX8_as_15 : decode cX8_as 15 = .ok (.ifCond .lt 12, 3) := by decide +kernel
theorem dX8_as_18 : decode cX8_as 18 = .ok (.iload_n 2, 1) := by decide +kernel
theorem dX8_as_19 : decode cX8_as 19 = .ok (.ldc 130, 2) := by decide +kernel
theorem dX8_as_21 : decode cX8_as 21 = .ok (.invokevirtual 132, 3) := by decide +kernel
theorem dX8_as_24 : decode cX8_as 24 = .ok (.if_icmp .lt 6, 3) := by decide +kernel
theorem dX8_as_27 : decode cX8_as 27 = .ok (.bipush (-102), 2) := by decide +kernel
theorem dX8_as_29 : decode cX8_as 29 = .ok (.ireturn, 1) := by decide +kernel
theorem dX8_as_30 : decode cX8_as 30 = .ok (.aload_n 0, 1) := by decide +kernel
theorem dX8_as_31 : decode cX8_as 31 = .ok (.getfield 19, 3) := by decide +kernel
theorem dX8_as_34 : decode cX8_as 34 = .ok (.iload_n 1, 1) := by decide +kernel
theorem dX8_as_35 : decode cX8_as 35 = .ok (.invokevirtual 111, 3) := by decide +kernel
theorem dX8_as_38 : decode cX8_as 38 = .ok (.iload_n 2, 1) := by decide +kernel
theorem dX8_as_39 : decode cX8_as 39 = .ok (.invokestatic 136, 3) := by decide +kernel
theorem dX8_as_42 : decode cX8_as 42 = .ok (.ifCond .eq 7, 3) := by decide +kernel
theorem dX8_as_45 : decode cX8_as 45 = .ok (.iload_n 1, 1) := by decide +kernel
theorem dX8_as_46 : decode cX8_as 46 = .ok (.goto 4, 3) := by decide +kernel
theorem dX8_as_49 : decode cX8_as 49 = .ok (.iconst (-1), 1) := by decide +kernel
theorem dX8_as_50 : decode cX8_as 50 = .ok (.ireturn, 1) := by decide +kernel
theorem dX8_question_0 : decode cX8_question 0 = .ok (.aload_n 0, 1) := by decide +kernel
theorem dX8_question_1 : decode cX8_question 1 = .ok (.iload_n 1, 1) := by decide +kernel
theorem dX8_question_2 : decode cX8_question 2 = .ok (.invokevirtual 140, 3) := by decide +kernel
theorem dX8_question_5 : decode cX8_question 5 = .ok (.ifCond .ne 6, 3) := by decide +kernel
theorem dX8_question_8 : decode cX8_question 8 = .ok (.bipush (-101), 2) := by decide +kernel
theorem dX8_question_10 : decode cX8_question 10 = .ok (.ireturn, 1) := by decide +kernel
theorem dX8_question_11 : decode cX8_question 11 = .ok (.iload_n 2, 1) := by decide +kernel
theorem dX8_question_12 : decode cX8_question 12 = .ok (.tableswitch 107 0 5 #[40, 57, 73, 83, 93, 100], 40) := by decide +kernel
theorem dX8_question_52 : decode cX8_question 52 = .ok (.sipush 200, 3) := by decide +kernel
theorem dX8_question_55 : decode cX8_question 55 = .ok (.aload_n 0, 1) := by decide +kernel
theorem dX8_question_56 : decode cX8_question 56 = .ok (.getfield 19, 3) := by decide +kernel
theorem dX8_question_59 : decode cX8_question 59 = .ok (.aload_n 0, 1) := by decide +kernel
theorem dX8_question_60 : decode cX8_question 60 = .ok (.getfield 26, 3) := by decide +kernel
theorem dX8_question_63 : decode cX8_question 63 = .ok (.iload_n 1, 1) := by decide +kernel
theorem dX8_question_64 : decode cX8_question 64 = .ok (.invokevirtual 143, 3) := by decide +kernel
theorem dX8_question_67 : decode cX8_question 67 = .ok (.iadd, 1) := by decide +kernel
theorem dX8_question_68 : decode cX8_question 68 = .ok (.ireturn, 1) := by decide +kernel
theorem dX8_question_69 : decode cX8_question 69 = .ok (.aload_n 0, 1) := by decide +kernel
theorem dX8_question_70 : decode cX8_question 70 = .ok (.getfield 19, 3) := by decide +kernel
theorem dX8_question_73 : decode cX8_question 73 = .ok (.aload_n 0, 1) := by decide +kernel
theorem dX8_question_74 : decode cX8_question 74 = .ok (.getfield 26, 3) := by decide +kernel
theorem dX8_question_77 : decode cX8_question 77 = .ok (.iload_n 1, 1) := by decide +kernel
theorem dX8_question_78 : decode cX8_question 78 = .ok (.invokevirtual 143, 3) := by decide +kernel
theorem dX8_question_81 : decode cX8_question 81 = .ok (.invokestatic 147, 3) := by decide +kernel
theorem dX8_question_84 : decode cX8_question 84 = .ok (.ireturn, 1) := by decide +kernel
theorem dX8_question_85 : decode cX8_question 85 = .ok (.aload_n 0, 1) := by decide +kernel
theorem dX8_question_86 : decode cX8_question 86 = .ok (.getfield 26, 3) := by decide +kernel
theorem dX8_question_89 : decode cX8_question 89 = .ok (.getfield 150, 3) := by decide +kernel
theorem dX8_question_92 : decode cX8_question 92 = .ok (.iload_n 1, 1) := by decide +kernel
theorem dX8_question_93 : decode cX8_question 93 = .ok (.iaload, 1) := by decide +kernel
theorem dX8_question_94 : decode cX8_question 94 = .ok (.ireturn, 1) := by decide +kernel
theorem dX8_question_95 : decode cX8_question 95 = .ok (.aload_n 0, 1) := by decide +kernel
theorem dX8_question_96 : decode cX8_question 96 = .ok (.getfield 26, 3) := by decide +kernel
theorem dX8_question_99 : decode cX8_question 99 = .ok (.getfield 153, 3) := by decide +kernel
theorem dX8_question_102 : decode cX8_question 102 = .ok (.iload_n 1, 1) := by decide +kernel
theorem dX8_question_103 : decode cX8_question 103 = .ok (.iaload, 1) := by decide +kernel
theorem dX8_question_104 : decode cX8_question 104 = .ok (.ireturn, 1) := by decide +kernel
theorem dX8_question_105 : decode cX8_question 105 = .ok (.aload_n 0, 1) := by decide +kernel
theorem dX8_question_106 : decode cX8_question 106 = .ok (.iload_n 1, 1) := by decide +kernel
theorem dX8_question_107 : decode cX8_question 107 = .ok (.iconst 1, 1) := by decide +kernel
theorem dX8_question_108 : decode cX8_question 108 = .ok (.invokevirtual 156, 3) := by decide +kernel
theorem dX8_question_111 : decode cX8_question 111 = .ok (.ireturn, 1) := by decide +kernel
theorem dX8_question_112 : decode cX8_question 112 = .ok (.aload_n 0, 1) := by decide +kernel
theorem dX8_question_113 : decode cX8_question 113 = .ok (.iload_n 1, 1) := by decide +kernel
theorem dX8_question_114 : decode cX8_question 114 = .ok (.iconst (-1), 1) := by decide +kernel
theorem dX8_question_115 : decode cX8_question 115 = .ok (.invokevirtual 156, 3) := by decide +kernel
theorem dX8_question_118 : decode cX8_question 118 = .ok (.ireturn, 1) := by decide +kernel
theorem dX8_question_119 : decode cX8_question 119 = .ok (.bipush (-102), 2) := by decide +kernel
theorem dX8_question_121 : decode cX8_question 121 = .ok (.ireturn, 1) := by decide +kernel
theorem dX8_ask_0 : decode cX8_ask 0 = .ok (.aload_n 0, 1) := by decide +kernel
theorem dX8_ask_1 : decode cX8_ask 1 = .ok (.iload_n 1, 1) := by decide +kernel
theorem dX8_ask_2 : decode cX8_ask 2 = .ok (.invokevirtual 140, 3) := by decide +kernel
theorem dX8_ask_5 : decode cX8_ask 5 = .ok (.ifCond .ne 6, 3) := by decide +kernel
theorem dX8_ask_8 : decode cX8_ask 8 = .ok (.bipush (-101), 2) := by decide +kernel
theorem dX8_ask_10 : decode cX8_ask 10 = .ok (.ireturn, 1) := by decide +kernel
theorem dX8_ask_11 : decode cX8_ask 11 = .ok (.aload_n 0, 1) := by decide +kernel
theorem dX8_ask_12 : decode cX8_ask 12 = .ok (.getfield 26, 3) := by decide +kernel
theorem dX8_ask_15 : decode cX8_ask 15 = .ok (.getfield 150, 3) := by decide +kernel
theorem dX8_ask_18 : decode cX8_ask 18 = .ok (.iload_n 1, 1) := by decide +kernel
theorem dX8_ask_19 : decode cX8_ask 19 = .ok (.iaload, 1) := by decide +kernel
theorem dX8_ask_20 : decode cX8_ask 20 = .ok (.bipush 99, 2) := by decide +kernel
theorem dX8_ask_22 : decode cX8_ask 22 = .ok (.if_icmp .lt 6, 3) := by decide +kernel
theorem dX8_ask_25 : decode cX8_ask 25 = .ok (.bipush (-104), 2) := by decide +kernel
theorem dX8_ask_27 : decode cX8_ask 27 = .ok (.ireturn, 1) := by decide +kernel
theorem dX8_ask_28 : decode cX8_ask 28 = .ok (.aload_n 0, 1) := by decide +kernel
theorem dX8_ask_29 : decode cX8_ask 29 = .ok (.getfield 19, 3) := by decide +kernel
theorem dX8_ask_32 : decode cX8_ask 32 = .ok (.aload_n 0, 1) := by decide +kernel
theorem dX8_ask_33 : decode cX8_ask 33 = .ok (.getfield 26, 3) := by decide +kernel
theorem dX8_ask_36 : decode cX8_ask 36 = .ok (.iload_n 1, 1) := by decide +kernel
theorem dX8_ask_37 : decode cX8_ask 37 = .ok (.invokevirtual 143, 3) := by decide +kernel
theorem dX8_ask_40 : decode cX8_ask 40 = .ok (.invokestatic 147, 3) := by decide +kernel
theorem dX8_ask_43 : decode cX8_ask 43 = .ok (.istore_n 2, 1) := by decide +kernel
theorem dX8_ask_44 : decode cX8_ask 44 = .ok (.aload_n 0, 1) := by decide +kernel
theorem dX8_ask_45 : decode cX8_ask 45 = .ok (.getfield 26, 3) := by decide +kernel
theorem dX8_ask_48 : decode cX8_ask 48 = .ok (.getfield 150, 3) := by decide +kernel
theorem dX8_ask_51 : decode cX8_ask 51 = .ok (.iload_n 1, 1) := by decide +kernel
theorem dX8_ask_52 : decode cX8_ask 52 = .ok (.dup2, 1) := by decide +kernel
theorem dX8_ask_53 : decode cX8_ask 53 = .ok (.iaload, 1) := by decide +kernel
theorem dX8_ask_54 : decode cX8_ask 54 = .ok (.iconst 1, 1) := by decide +kernel
theorem dX8_ask_55 : decode cX8_ask 55 = .ok (.iadd, 1) := by decide +kernel
theorem dX8_ask_56 : decode cX8_ask 56 = .ok (.iastore, 1) := by decide +kernel
theorem dX8_ask_57 : decode cX8_ask 57 = .ok (.iload_n 2, 1) := by decide +kernel
theorem dX8_ask_58 : decode cX8_ask 58 = .ok (.ifCond .le 16, 3) := by decide +kernel
theorem dX8_ask_61 : decode cX8_ask 61 = .ok (.aload_n 0, 1) := by decide +kernel
theorem dX8_ask_62 : decode cX8_ask 62 = .ok (.getfield 26, 3) := by decide +kernel
theorem dX8_ask_65 : decode cX8_ask 65 = .ok (.getfield 153, 3) := by decide +kernel
theorem dX8_ask_68 : decode cX8_ask 68 = .ok (.iload_n 1, 1) := by decide +kernel
theorem dX8_ask_69 : decode cX8_ask 69 = .ok (.dup2, 1) := by decide +kernel
theorem dX8_ask_70 : decode cX8_ask 70 = .ok (.iaload, 1) := by decide +kernel
theorem dX8_ask_71 : decode cX8_ask 71 = .ok (.iconst 1, 1) := by decide +kernel
theorem dX8_ask_72 : decode cX8_ask 72 = .ok (.iadd, 1) := by decide +kernel
theorem dX8_ask_73 : decode cX8_ask 73 = .ok (.iastore, 1) := by decide +kernel
theorem dX8_ask_74 : decode cX8_ask 74 = .ok (.iload_n 2, 1) := by decide +kernel
theorem dX8_ask_75 : decode cX8_ask 75 = .ok (.ifCond .ge 7, 3) := by decide +kernel
theorem dX8_ask_78 : decode cX8_ask 78 = .ok (.iconst 2, 1) := by decide +kernel
theorem dX8_ask_79 : decode cX8_ask 79 = .ok (.goto 4, 3) := by decide +kernel
theorem dX8_ask_82 : decode cX8_ask 82 = .ok (.iload_n 2, 1) := by decide +kernel
theorem dX8_ask_83 : decode cX8_ask 83 = .ok (.ireturn, 1) := by decide +kernel
theorem dX8_tide_0 : decode cX8_tide 0 = .ok (.aload_n 0, 1) := by decide +kernel
theorem dX8_tide_1 : decode cX8_tide 1 = .ok (.getfield 19, 3) := by decide +kernel
theorem dX8_tide_4 : decode cX8_tide 4 = .ok (.getfield 68, 3) := by decide +kernel
theorem dX8_tide_7 : decode cX8_tide 7 = .ok (.ifCond .ne 6, 3) := by decide +kernel
theorem dX8_tide_10 : decode cX8_tide 10 = .ok (.bipush (-103), 2) := by decide +kernel
theorem dX8_tide_12 : decode cX8_tide 12 = .ok (.ireturn, 1) := by decide +kernel
theorem dX8_tide_13 : decode cX8_tide 13 = .ok (.aload_n 0, 1) := by decide +kernel
theorem dX8_tide_14 : decode cX8_tide 14 = .ok (.getfield 26, 3) := by decide +kernel
theorem dX8_tide_17 : decode cX8_tide 17 = .ok (.getfield 159, 3) := by decide +kernel
theorem dX8_tide_20 : decode cX8_tide 20 = .ok (.sipush 999, 3) := by decide +kernel
theorem dX8_tide_23 : decode cX8_tide 23 = .ok (.if_icmp .lt 6, 3) := by decide +kernel
theorem dX8_tide_26 : decode cX8_tide 26 = .ok (.bipush (-104), 2) := by decide +kernel
theorem dX8_tide_28 : decode cX8_tide 28 = .ok (.ireturn, 1) := by decide +kernel
theorem dX8_tide_29 : decode cX8_tide 29 = .ok (.aload_n 0, 1) := by decide +kernel
theorem dX8_tide_30 : decode cX8_tide 30 = .ok (.getfield 19, 3) := by decide +kernel
theorem dX8_tide_33 : decode cX8_tide 33 = .ok (.aload_n 0, 1) := by decide +kernel
theorem dX8_tide_34 : decode cX8_tide 34 = .ok (.getfield 26, 3) := by decide +kernel
theorem dX8_tide_37 : decode cX8_tide 37 = .ok (.invokevirtual 162, 3) := by decide +kernel
theorem dX8_tide_40 : decode cX8_tide 40 = .ok (.aload_n 0, 1) := by decide +kernel
theorem dX8_tide_41 : decode cX8_tide 41 = .ok (.getfield 26, 3) := by decide +kernel
theorem dX8_tide_44 : decode cX8_tide 44 = .ok (.dup, 1) := by decide +kernel
theorem dX8_tide_45 : decode cX8_tide 45 = .ok (.getfield 159, 3) := by decide +kernel
theorem dX8_tide_48 : decode cX8_tide 48 = .ok (.iconst 1, 1) := by decide +kernel
theorem dX8_tide_49 : decode cX8_tide 49 = .ok (.iadd, 1) := by decide +kernel
theorem dX8_tide_50 : decode cX8_tide 50 = .ok (.putfield 159, 3) := by decide +kernel
theorem dX8_tide_53 : decode cX8_tide 53 = .ok (.aload_n 0, 1) := by decide +kernel
theorem dX8_tide_54 : decode cX8_tide 54 = .ok (.getfield 26, 3) := by decide +kernel
theorem dX8_tide_57 : decode cX8_tide 57 = .ok (.getfield 159, 3) := by decide +kernel
theorem dX8_tide_60 : decode cX8_tide 60 = .ok (.ireturn, 1) := by decide +kernel
theorem dX8_cut_0 : decode cX8_cut 0 = .ok (.aload_n 0, 1) := by decide +kernel
theorem dX8_cut_1 : decode cX8_cut 1 = .ok (.getfield 19, 3) := by decide +kernel
theorem dX8_cut_4 : decode cX8_cut 4 = .ok (.iload_n 1, 1) := by decide +kernel
theorem dX8_cut_5 : decode cX8_cut 5 = .ok (.invokevirtual 100, 3) := by decide +kernel
theorem dX8_cut_8 : decode cX8_cut 8 = .ok (.ifCond .ne 6, 3) := by decide +kernel
theorem dX8_cut_11 : decode cX8_cut 11 = .ok (.bipush (-101), 2) := by decide +kernel
theorem dX8_cut_13 : decode cX8_cut 13 = .ok (.ireturn, 1) := by decide +kernel
theorem dX8_cut_14 : decode cX8_cut 14 = .ok (.aload_n 0, 1) := by decide +kernel
theorem dX8_cut_15 : decode cX8_cut 15 = .ok (.getfield 26, 3) := by decide +kernel
theorem dX8_cut_18 : decode cX8_cut 18 = .ok (.getfield 124, 3) := by decide +kernel
theorem dX8_cut_21 : decode cX8_cut 21 = .ok (.iload_n 1, 1) := by decide +kernel
theorem dX8_cut_22 : decode cX8_cut 22 = .ok (.iaload, 1) := by decide +kernel
theorem dX8_cut_23 : decode cX8_cut 23 = .ok (.iconst 1, 1) := by decide +kernel
theorem dX8_cut_24 : decode cX8_cut 24 = .ok (.if_icmp .ne 6, 3) := by decide +kernel
theorem dX8_cut_27 : decode cX8_cut 27 = .ok (.bipush (-103), 2) := by decide +kernel
theorem dX8_cut_29 : decode cX8_cut 29 = .ok (.ireturn, 1) := by decide +kernel
theorem dX8_cut_30 : decode cX8_cut 30 = .ok (.aload_n 0, 1) := by decide +kernel
theorem dX8_cut_31 : decode cX8_cut 31 = .ok (.getfield 26, 3) := by decide +kernel
theorem dX8_cut_34 : decode cX8_cut 34 = .ok (.getfield 124, 3) := by decide +kernel
theorem dX8_cut_37 : decode cX8_cut 37 = .ok (.iload_n 1, 1) := by decide +kernel
theorem dX8_cut_38 : decode cX8_cut 38 = .ok (.iconst 1, 1) := by decide +kernel
theorem dX8_cut_39 : decode cX8_cut 39 = .ok (.iastore, 1) := by decide +kernel
theorem dX8_cut_40 : decode cX8_cut 40 = .ok (.aload_n 0, 1) := by decide +kernel
theorem dX8_cut_41 : decode cX8_cut 41 = .ok (.getfield 19, 3) := by decide +kernel
theorem dX8_cut_44 : decode cX8_cut 44 = .ok (.aload_n 0, 1) := by decide +kernel
theorem dX8_cut_45 : decode cX8_cut 45 = .ok (.getfield 26, 3) := by decide +kernel
theorem dX8_cut_48 : decode cX8_cut 48 = .ok (.invokevirtual 120, 3) := by decide +kernel
theorem dX8_cut_51 : decode cX8_cut 51 = .ok (.ireturn, 1) := by decide +kernel
theorem dX8_tie_0 : decode cX8_tie 0 = .ok (.aload_n 0, 1) := by decide +kernel
theorem dX8_tie_1 : decode cX8_tie 1 = .ok (.getfield 19, 3) := by decide +kernel
theorem dX8_tie_4 : decode cX8_tie 4 = .ok (.iload_n 1, 1) := by decide +kernel
theorem dX8_tie_5 : decode cX8_tie 5 = .ok (.invokevirtual 100, 3) := by decide +kernel
theorem dX8_tie_8 : decode cX8_tie 8 = .ok (.ifCond .ne 6, 3) := by decide +kernel
theorem dX8_tie_11 : decode cX8_tie 11 = .ok (.bipush (-101), 2) := by decide +kernel
theorem dX8_tie_13 : decode cX8_tie 13 = .ok (.ireturn, 1) := by decide +kernel
theorem dX8_tie_14 : decode cX8_tie 14 = .ok (.aload_n 0, 1) := by decide +kernel
theorem dX8_tie_15 : decode cX8_tie 15 = .ok (.getfield 26, 3) := by decide +kernel
theorem dX8_tie_18 : decode cX8_tie 18 = .ok (.getfield 124, 3) := by decide +kernel
theorem dX8_tie_21 : decode cX8_tie 21 = .ok (.iload_n 1, 1) := by decide +kernel
theorem dX8_tie_22 : decode cX8_tie 22 = .ok (.iaload, 1) := by decide +kernel
theorem dX8_tie_23 : decode cX8_tie 23 = .ok (.ifCond .ne 6, 3) := by decide +kernel
theorem dX8_tie_26 : decode cX8_tie 26 = .ok (.bipush (-103), 2) := by decide +kernel
theorem dX8_tie_28 : decode cX8_tie 28 = .ok (.ireturn, 1) := by decide +kernel
theorem dX8_tie_29 : decode cX8_tie 29 = .ok (.aload_n 0, 1) := by decide +kernel
theorem dX8_tie_30 : decode cX8_tie 30 = .ok (.getfield 26, 3) := by decide +kernel
theorem dX8_tie_33 : decode cX8_tie 33 = .ok (.getfield 124, 3) := by decide +kernel
theorem dX8_tie_36 : decode cX8_tie 36 = .ok (.iload_n 1, 1) := by decide +kernel
theorem dX8_tie_37 : decode cX8_tie 37 = .ok (.iconst 0, 1) := by decide +kernel
theorem dX8_tie_38 : decode cX8_tie 38 = .ok (.iastore, 1) := by decide +kernel
theorem dX8_tie_39 : decode cX8_tie 39 = .ok (.aload_n 0, 1) := by decide +kernel
theorem dX8_tie_40 : decode cX8_tie 40 = .ok (.getfield 19, 3) := by decide +kernel
theorem dX8_tie_43 : decode cX8_tie 43 = .ok (.aload_n 0, 1) := by decide +kernel
theorem dX8_tie_44 : decode cX8_tie 44 = .ok (.getfield 26, 3) := by decide +kernel
theorem dX8_tie_47 : decode cX8_tie 47 = .ok (.invokevirtual 120, 3) := by decide +kernel
theorem dX8_tie_50 : decode cX8_tie 50 = .ok (.ireturn, 1) := by decide +kernel
theorem dX8_turn_0 : decode cX8_turn 0 = .ok (.aload_n 0, 1) := by decide +kernel
theorem dX8_turn_1 : decode cX8_turn 1 = .ok (.getfield 19, 3) := by decide +kernel
theorem dX8_turn_4 : decode cX8_turn 4 = .ok (.iload_n 1, 1) := by decide +kernel
theorem dX8_turn_5 : decode cX8_turn 5 = .ok (.invokevirtual 100, 3) := by decide +kernel
theorem dX8_turn_8 : decode cX8_turn 8 = .ok (.ifCond .eq 11, 3) := by decide +kernel
theorem dX8_turn_11 : decode cX8_turn 11 = .ok (.aload_n 0, 1) := by decide +kernel
theorem dX8_turn_12 : decode cX8_turn 12 = .ok (.iload_n 2, 1) := by decide +kernel
theorem dX8_turn_13 : decode cX8_turn 13 = .ok (.invokevirtual 140, 3) := by decide +kernel
theorem dX8_turn_16 : decode cX8_turn 16 = .ok (.ifCond .ne 6, 3) := by decide +kernel
theorem dX8_turn_19 : decode cX8_turn 19 = .ok (.bipush (-101), 2) := by decide +kernel
theorem dX8_turn_21 : decode cX8_turn 21 = .ok (.ireturn, 1) := by decide +kernel
theorem dX8_turn_22 : decode cX8_turn 22 = .ok (.iload_n 3, 1) := by decide +kernel
theorem dX8_turn_23 : decode cX8_turn 23 = .ok (.invokestatic 166, 3) := by decide +kernel
theorem dX8_turn_26 : decode cX8_turn 26 = .ok (.ifCond .ne 6, 3) := by decide +kernel
theorem dX8_turn_29 : decode cX8_turn 29 = .ok (.bipush (-102), 2) := by decide +kernel
theorem dX8_turn_31 : decode cX8_turn 31 = .ok (.ireturn, 1) := by decide +kernel
theorem dX8_turn_32 : decode cX8_turn 32 = .ok (.aload_n 0, 1) := by decide +kernel
theorem dX8_turn_33 : decode cX8_turn 33 = .ok (.getfield 26, 3) := by decide +kernel
theorem dX8_turn_36 : decode cX8_turn 36 = .ok (.getfield 85, 3) := by decide +kernel
theorem dX8_turn_39 : decode cX8_turn 39 = .ok (.iload_n 2, 1) := by decide +kernel
theorem dX8_turn_40 : decode cX8_turn 40 = .ok (.aaload, 1) := by decide +kernel
theorem dX8_turn_41 : decode cX8_turn 41 = .ok (.iload_n 1, 1) := by decide +kernel
theorem dX8_turn_42 : decode cX8_turn 42 = .ok (.iaload, 1) := by decide +kernel
theorem dX8_turn_43 : decode cX8_turn 43 = .ok (.istore 4, 2) := by decide +kernel
theorem dX8_turn_45 : decode cX8_turn 45 = .ok (.aload_n 0, 1) := by decide +kernel
theorem dX8_turn_46 : decode cX8_turn 46 = .ok (.getfield 26, 3) := by decide +kernel
theorem dX8_turn_49 : decode cX8_turn 49 = .ok (.getfield 85, 3) := by decide +kernel
theorem dX8_turn_52 : decode cX8_turn 52 = .ok (.iload_n 2, 1) := by decide +kernel
theorem dX8_turn_53 : decode cX8_turn 53 = .ok (.aaload, 1) := by decide +kernel
theorem dX8_turn_54 : decode cX8_turn 54 = .ok (.iload_n 1, 1) := by decide +kernel
theorem dX8_turn_55 : decode cX8_turn 55 = .ok (.iload_n 3, 1) := by decide +kernel
theorem dX8_turn_56 : decode cX8_turn 56 = .ok (.iastore, 1) := by decide +kernel
theorem dX8_turn_57 : decode cX8_turn 57 = .ok (.iload 4, 2) := by decide +kernel
theorem dX8_turn_59 : decode cX8_turn 59 = .ok (.iconst 1, 1) := by decide +kernel
theorem dX8_turn_60 : decode cX8_turn 60 = .ok (.iadd, 1) := by decide +kernel
theorem dX8_turn_61 : decode cX8_turn 61 = .ok (.ireturn, 1) := by decide +kernel
theorem dX8_grow_0 : decode cX8_grow 0 = .ok (.aload_n 0, 1) := by decide +kernel
theorem dX8_grow_1 : decode cX8_grow 1 = .ok (.getfield 19, 3) := by decide +kernel
theorem dX8_grow_4 : decode cX8_grow 4 = .ok (.iload_n 1, 1) := by decide +kernel
theorem dX8_grow_5 : decode cX8_grow 5 = .ok (.invokevirtual 100, 3) := by decide +kernel
theorem dX8_grow_8 : decode cX8_grow 8 = .ok (.ifCond .ne 6, 3) := by decide +kernel
theorem dX8_grow_11 : decode cX8_grow 11 = .ok (.bipush (-101), 2) := by decide +kernel
theorem dX8_grow_13 : decode cX8_grow 13 = .ok (.ireturn, 1) := by decide +kernel
theorem dX8_grow_14 : decode cX8_grow 14 = .ok (.iload_n 2, 1) := by decide +kernel
theorem dX8_grow_15 : decode cX8_grow 15 = .ok (.iconst 1, 1) := by decide +kernel
theorem dX8_grow_16 : decode cX8_grow 16 = .ok (.if_icmp .lt 9, 3) := by decide +kernel
theorem dX8_grow_19 : decode cX8_grow 19 = .ok (.iload_n 2, 1) := by decide +kernel
theorem dX8_grow_20 : decode cX8_grow 20 = .ok (.bipush 9, 2) := by decide +kernel
theorem dX8_grow_22 : decode cX8_grow 22 = .ok (.if_icmp .le 6, 3) := by decide +kernel
theorem dX8_grow_25 : decode cX8_grow 25 = .ok (.bipush (-102), 2) := by decide +kernel
theorem dX8_grow_27 : decode cX8_grow 27 = .ok (.ireturn, 1) := by decide +kernel
theorem dX8_grow_28 : decode cX8_grow 28 = .ok (.aload_n 0, 1) := by decide +kernel
theorem dX8_grow_29 : decode cX8_grow 29 = .ok (.getfield 26, 3) := by decide +kernel
theorem dX8_grow_32 : decode cX8_grow 32 = .ok (.getfield 79, 3) := by decide +kernel
theorem dX8_grow_35 : decode cX8_grow 35 = .ok (.iload_n 1, 1) := by decide +kernel
theorem dX8_grow_36 : decode cX8_grow 36 = .ok (.iaload, 1) := by decide +kernel
theorem dX8_grow_37 : decode cX8_grow 37 = .ok (.istore_n 3, 1) := by decide +kernel
theorem dX8_grow_38 : decode cX8_grow 38 = .ok (.aload_n 0, 1) := by decide +kernel
theorem dX8_grow_39 : decode cX8_grow 39 = .ok (.getfield 26, 3) := by decide +kernel
theorem dX8_grow_42 : decode cX8_grow 42 = .ok (.getfield 79, 3) := by decide +kernel
theorem dX8_grow_45 : decode cX8_grow 45 = .ok (.iload_n 1, 1) := by decide +kernel
theorem dX8_grow_46 : decode cX8_grow 46 = .ok (.iload_n 2, 1) := by decide +kernel
theorem dX8_grow_47 : decode cX8_grow 47 = .ok (.iastore, 1) := by decide +kernel
theorem dX8_grow_48 : decode cX8_grow 48 = .ok (.iload_n 3, 1) := by decide +kernel
theorem dX8_grow_49 : decode cX8_grow 49 = .ok (.ireturn, 1) := by decide +kernel
theorem dX8_say_0 : decode cX8_say 0 = .ok (.aload_n 0, 1) := by decide +kernel
theorem dX8_say_1 : decode cX8_say 1 = .ok (.getfield 19, 3) := by decide +kernel
theorem dX8_say_4 : decode cX8_say 4 = .ok (.iload_n 1, 1) := by decide +kernel
theorem dX8_say_5 : decode cX8_say 5 = .ok (.invokevirtual 100, 3) := by decide +kernel
theorem dX8_say_8 : decode cX8_say 8 = .ok (.ifCond .eq 11, 3) := by decide +kernel
theorem dX8_say_11 : decode cX8_say 11 = .ok (.aload_n 0, 1) := by decide +kernel
theorem dX8_say_12 : decode cX8_say 12 = .ok (.iload_n 2, 1) := by decide +kernel
theorem dX8_say_13 : decode cX8_say 13 = .ok (.invokevirtual 140, 3) := by decide +kernel
theorem dX8_say_16 : decode cX8_say 16 = .ok (.ifCond .ne 6, 3) := by decide +kernel
theorem dX8_say_19 : decode cX8_say 19 = .ok (.bipush (-101), 2) := by decide +kernel
theorem dX8_say_21 : decode cX8_say 21 = .ok (.ireturn, 1) := by decide +kernel
theorem dX8_say_22 : decode cX8_say 22 = .ok (.iload_n 3, 1) := by decide +kernel
theorem dX8_say_23 : decode cX8_say 23 = .ok (.invokestatic 169, 3) := by decide +kernel
theorem dX8_say_26 : decode cX8_say 26 = .ok (.ifCond .ne 6, 3) := by decide +kernel
theorem dX8_say_29 : decode cX8_say 29 = .ok (.bipush (-102), 2) := by decide +kernel
theorem dX8_say_31 : decode cX8_say 31 = .ok (.ireturn, 1) := by decide +kernel
theorem dX8_say_32 : decode cX8_say 32 = .ok (.aload_n 0, 1) := by decide +kernel
theorem dX8_say_33 : decode cX8_say 33 = .ok (.getfield 19, 3) := by decide +kernel
theorem dX8_say_36 : decode cX8_say 36 = .ok (.aload_n 0, 1) := by decide +kernel
theorem dX8_say_37 : decode cX8_say 37 = .ok (.getfield 26, 3) := by decide +kernel
theorem dX8_say_40 : decode cX8_say 40 = .ok (.invokevirtual 120, 3) := by decide +kernel
theorem dX8_say_43 : decode cX8_say 43 = .ok (.istore 4, 2) := by decide +kernel
theorem dX8_say_45 : decode cX8_say 45 = .ok (.aload_n 0, 1) := by decide +kernel
theorem dX8_say_46 : decode cX8_say 46 = .ok (.iload_n 1, 1) := by decide +kernel
theorem dX8_say_47 : decode cX8_say 47 = .ok (.iload_n 2, 1) := by decide +kernel
theorem dX8_say_48 : decode cX8_say 48 = .ok (.iload 4, 2) := by decide +kernel
theorem dX8_say_50 : decode cX8_say 50 = .ok (.invokevirtual 172, 3) := by decide +kernel
theorem dX8_say_53 : decode cX8_say 53 = .ok (.getstatic 176, 3) := by decide +kernel
theorem dX8_say_56 : decode cX8_say 56 = .ok (.iload 4, 2) := by decide +kernel
theorem dX8_say_58 : decode cX8_say 58 = .ok (.iaload, 1) := by decide +kernel
theorem dX8_say_59 : decode cX8_say 59 = .ok (.iload_n 3, 1) := by decide +kernel
theorem dX8_say_60 : decode cX8_say 60 = .ok (.invokestatic 179, 3) := by decide +kernel
theorem dX8_say_63 : decode cX8_say 63 = .ok (.ireturn, 1) := by decide +kernel
theorem dX8_chance_0 : decode cX8_chance 0 = .ok (.aload_n 0, 1) := by decide +kernel
theorem dX8_chance_1 : decode cX8_chance 1 = .ok (.iload_n 1, 1) := by decide +kernel
theorem dX8_chance_2 : decode cX8_chance 2 = .ok (.invokevirtual 140, 3) := by decide +kernel
theorem dX8_chance_5 : decode cX8_chance 5 = .ok (.ifCond .ne 6, 3) := by decide +kernel
theorem dX8_chance_8 : decode cX8_chance 8 = .ok (.bipush (-101), 2) := by decide +kernel
theorem dX8_chance_10 : decode cX8_chance 10 = .ok (.ireturn, 1) := by decide +kernel
theorem dX8_chance_11 : decode cX8_chance 11 = .ok (.iload_n 2, 1) := by decide +kernel
theorem dX8_chance_12 : decode cX8_chance 12 = .ok (.ifCond .lt 16, 3) := by decide +kernel
theorem dX8_chance_15 : decode cX8_chance 15 = .ok (.iload_n 2, 1) := by decide +kernel
theorem dX8_chance_16 : decode cX8_chance 16 = .ok (.bipush 10, 2) := by decide +kernel
theorem dX8_chance_18 : decode cX8_chance 18 = .ok (.if_icmp .gt 10, 3) := by decide +kernel
theorem dX8_chance_21 : decode cX8_chance 21 = .ok (.iload_n 3, 1) := by decide +kernel
theorem dX8_chance_22 : decode cX8_chance 22 = .ok (.invokestatic 169, 3) := by decide +kernel
theorem dX8_chance_25 : decode cX8_chance 25 = .ok (.ifCond .ne 6, 3) := by decide +kernel
theorem dX8_chance_28 : decode cX8_chance 28 = .ok (.bipush (-102), 2) := by decide +kernel
theorem dX8_chance_30 : decode cX8_chance 30 = .ok (.ireturn, 1) := by decide +kernel
theorem dX8_chance_31 : decode cX8_chance 31 = .ok (.aload_n 0, 1) := by decide +kernel
theorem dX8_chance_32 : decode cX8_chance 32 = .ok (.getfield 19, 3) := by decide +kernel
theorem dX8_chance_35 : decode cX8_chance 35 = .ok (.aload_n 0, 1) := by decide +kernel
theorem dX8_chance_36 : decode cX8_chance 36 = .ok (.getfield 26, 3) := by decide +kernel
theorem dX8_chance_39 : decode cX8_chance 39 = .ok (.invokevirtual 120, 3) := by decide +kernel
theorem dX8_chance_42 : decode cX8_chance 42 = .ok (.istore 4, 2) := by decide +kernel
theorem dX8_chance_44 : decode cX8_chance 44 = .ok (.aload_n 0, 1) := by decide +kernel
theorem dX8_chance_45 : decode cX8_chance 45 = .ok (.iload_n 1, 1) := by decide +kernel
theorem dX8_chance_46 : decode cX8_chance 46 = .ok (.iload_n 2, 1) := by decide +kernel
theorem dX8_chance_47 : decode cX8_chance 47 = .ok (.iload 4, 2) := by decide +kernel
theorem dX8_chance_49 : decode cX8_chance 49 = .ok (.invokevirtual 182, 3) := by decide +kernel
theorem dX8_chance_52 : decode cX8_chance 52 = .ok (.bipush 10, 2) := by decide +kernel
theorem dX8_chance_54 : decode cX8_chance 54 = .ok (.iload 4, 2) := by decide +kernel
theorem dX8_chance_56 : decode cX8_chance 56 = .ok (.invokestatic 185, 3) := by decide +kernel
theorem dX8_chance_59 : decode cX8_chance 59 = .ok (.iload_n 3, 1) := by decide +kernel
theorem dX8_chance_60 : decode cX8_chance 60 = .ok (.invokestatic 179, 3) := by decide +kernel
theorem dX8_chance_63 : decode cX8_chance 63 = .ok (.ireturn, 1) := by decide +kernel
theorem dX8_cuts_0 : decode cX8_cuts 0 = .ok (.aload_n 0, 1) := by decide +kernel
theorem dX8_cuts_1 : decode cX8_cuts 1 = .ok (.iload_n 1, 1) := by decide +kernel
theorem dX8_cuts_2 : decode cX8_cuts 2 = .ok (.invokevirtual 140, 3) := by decide +kernel
theorem dX8_cuts_5 : decode cX8_cuts 5 = .ok (.ifCond .ne 6, 3) := by decide +kernel
theorem dX8_cuts_8 : decode cX8_cuts 8 = .ok (.bipush (-101), 2) := by decide +kernel
theorem dX8_cuts_10 : decode cX8_cuts 10 = .ok (.ireturn, 1) := by decide +kernel
theorem dX8_cuts_11 : decode cX8_cuts 11 = .ok (.iload_n 2, 1) := by decide +kernel
theorem dX8_cuts_12 : decode cX8_cuts 12 = .ok (.invokestatic 166, 3) := by decide +kernel
theorem dX8_cuts_15 : decode cX8_cuts 15 = .ok (.ifCond .eq 10, 3) := by decide +kernel
theorem dX8_cuts_18 : decode cX8_cuts 18 = .ok (.iload_n 3, 1) := by decide +kernel
theorem dX8_cuts_19 : decode cX8_cuts 19 = .ok (.invokestatic 169, 3) := by decide +kernel
theorem dX8_cuts_22 : decode cX8_cuts 22 = .ok (.ifCond .ne 6, 3) := by decide +kernel
theorem dX8_cuts_25 : decode cX8_cuts 25 = .ok (.bipush (-102), 2) := by decide +kernel
theorem dX8_cuts_27 : decode cX8_cuts 27 = .ok (.ireturn, 1) := by decide +kernel
theorem dX8_cuts_28 : decode cX8_cuts 28 = .ok (.aload_n 0, 1) := by decide +kernel
theorem dX8_cuts_29 : decode cX8_cuts 29 = .ok (.iload_n 1, 1) := by decide +kernel
theorem dX8_cuts_30 : decode cX8_cuts 30 = .ok (.iload_n 2, 1) := by decide +kernel
theorem dX8_cuts_31 : decode cX8_cuts 31 = .ok (.invokevirtual 188, 3) := by decide +kernel
theorem dX8_cuts_34 : decode cX8_cuts 34 = .ok (.iload_n 3, 1) := by decide +kernel
theorem dX8_cuts_35 : decode cX8_cuts 35 = .ok (.invokestatic 191, 3) := by decide +kernel
theorem dX8_cuts_38 : decode cX8_cuts 38 = .ok (.ireturn, 1) := by decide +kernel
theorem dX8_fewTurns_0 : decode cX8_fewTurns 0 = .ok (.aload_n 0, 1) := by decide +kernel
theorem dX8_fewTurns_1 : decode cX8_fewTurns 1 = .ok (.iload_n 1, 1) := by decide +kernel
theorem dX8_fewTurns_2 : decode cX8_fewTurns 2 = .ok (.invokevirtual 140, 3) := by decide +kernel
theorem dX8_fewTurns_5 : decode cX8_fewTurns 5 = .ok (.ifCond .ne 6, 3) := by decide +kernel
theorem dX8_fewTurns_8 : decode cX8_fewTurns 8 = .ok (.bipush (-101), 2) := by decide +kernel
theorem dX8_fewTurns_10 : decode cX8_fewTurns 10 = .ok (.ireturn, 1) := by decide +kernel
theorem dX8_fewTurns_11 : decode cX8_fewTurns 11 = .ok (.iload_n 2, 1) := by decide +kernel
theorem dX8_fewTurns_12 : decode cX8_fewTurns 12 = .ok (.invokestatic 166, 3) := by decide +kernel
theorem dX8_fewTurns_15 : decode cX8_fewTurns 15 = .ok (.ifCond .eq 10, 3) := by decide +kernel
theorem dX8_fewTurns_18 : decode cX8_fewTurns 18 = .ok (.iload_n 3, 1) := by decide +kernel
theorem dX8_fewTurns_19 : decode cX8_fewTurns 19 = .ok (.invokestatic 169, 3) := by decide +kernel
theorem dX8_fewTurns_22 : decode cX8_fewTurns 22 = .ok (.ifCond .ne 6, 3) := by decide +kernel
theorem dX8_fewTurns_25 : decode cX8_fewTurns 25 = .ok (.bipush (-102), 2) := by decide +kernel
theorem dX8_fewTurns_27 : decode cX8_fewTurns 27 = .ok (.ireturn, 1) := by decide +kernel
theorem dX8_fewTurns_28 : decode cX8_fewTurns 28 = .ok (.aload_n 0, 1) := by decide +kernel
theorem dX8_fewTurns_29 : decode cX8_fewTurns 29 = .ok (.getfield 194, 3) := by decide +kernel
theorem dX8_fewTurns_32 : decode cX8_fewTurns 32 = .ok (.bipush 20, 2) := by decide +kernel
theorem dX8_fewTurns_34 : decode cX8_fewTurns 34 = .ok (.if_icmp .lt 6, 3) := by decide +kernel
theorem dX8_fewTurns_37 : decode cX8_fewTurns 37 = .ok (.bipush (-103), 2) := by decide +kernel
theorem dX8_fewTurns_39 : decode cX8_fewTurns 39 = .ok (.ireturn, 1) := by decide +kernel
theorem dX8_fewTurns_40 : decode cX8_fewTurns 40 = .ok (.aload_n 0, 1) := by decide +kernel
theorem dX8_fewTurns_41 : decode cX8_fewTurns 41 = .ok (.dup, 1) := by decide +kernel
theorem dX8_fewTurns_42 : decode cX8_fewTurns 42 = .ok (.getfield 194, 3) := by decide +kernel
theorem dX8_fewTurns_45 : decode cX8_fewTurns 45 = .ok (.iconst 1, 1) := by decide +kernel
theorem dX8_fewTurns_46 : decode cX8_fewTurns 46 = .ok (.iadd, 1) := by decide +kernel
theorem dX8_fewTurns_47 : decode cX8_fewTurns 47 = .ok (.putfield 194, 3) := by decide +kernel
theorem dX8_fewTurns_50 : decode cX8_fewTurns 50 = .ok (.aload_n 0, 1) := by decide +kernel
theorem dX8_fewTurns_51 : decode cX8_fewTurns 51 = .ok (.iload_n 1, 1) := by decide +kernel
theorem dX8_fewTurns_52 : decode cX8_fewTurns 52 = .ok (.iload_n 2, 1) := by decide +kernel
theorem dX8_fewTurns_53 : decode cX8_fewTurns 53 = .ok (.invokevirtual 197, 3) := by decide +kernel
theorem dX8_fewTurns_56 : decode cX8_fewTurns 56 = .ok (.iload_n 3, 1) := by decide +kernel
theorem dX8_fewTurns_57 : decode cX8_fewTurns 57 = .ok (.invokestatic 191, 3) := by decide +kernel
theorem dX8_fewTurns_60 : decode cX8_fewTurns 60 = .ok (.ireturn, 1) := by decide +kernel
theorem dX8_settle_0 : decode cX8_settle 0 = .ok (.iload_n 1, 1) := by decide +kernel
theorem dX8_settle_1 : decode cX8_settle 1 = .ok (.invokestatic 169, 3) := by decide +kernel
theorem dX8_settle_4 : decode cX8_settle 4 = .ok (.ifCond .ne 6, 3) := by decide +kernel
theorem dX8_settle_7 : decode cX8_settle 7 = .ok (.bipush (-102), 2) := by decide +kernel
theorem dX8_settle_9 : decode cX8_settle 9 = .ok (.ireturn, 1) := by decide +kernel
theorem dX8_settle_10 : decode cX8_settle 10 = .ok (.aload_n 0, 1) := by decide +kernel
theorem dX8_settle_11 : decode cX8_settle 11 = .ok (.getfield 19, 3) := by decide +kernel
theorem dX8_settle_14 : decode cX8_settle 14 = .ok (.getfield 68, 3) := by decide +kernel
theorem dX8_settle_17 : decode cX8_settle 17 = .ok (.ifCond .ne 6, 3) := by decide +kernel
theorem dX8_settle_20 : decode cX8_settle 20 = .ok (.bipush (-103), 2) := by decide +kernel
theorem dX8_settle_22 : decode cX8_settle 22 = .ok (.ireturn, 1) := by decide +kernel
theorem dX8_settle_23 : decode cX8_settle 23 = .ok (.aload_n 0, 1) := by decide +kernel
theorem dX8_settle_24 : decode cX8_settle 24 = .ok (.invokevirtual 200, 3) := by decide +kernel
theorem dX8_settle_27 : decode cX8_settle 27 = .ok (.istore_n 2, 1) := by decide +kernel
theorem dX8_settle_28 : decode cX8_settle 28 = .ok (.iload_n 1, 1) := by decide +kernel
theorem dX8_settle_29 : decode cX8_settle 29 = .ok (.ifCond .ne 7, 3) := by decide +kernel
theorem dX8_settle_32 : decode cX8_settle 32 = .ok (.iload_n 2, 1) := by decide +kernel
theorem dX8_settle_33 : decode cX8_settle 33 = .ok (.goto 8, 3) := by decide +kernel
theorem dX8_settle_36 : decode cX8_settle 36 = .ok (.aload_n 0, 1) := by decide +kernel
theorem dX8_settle_37 : decode cX8_settle 37 = .ok (.iload_n 2, 1) := by decide +kernel
theorem dX8_settle_38 : decode cX8_settle 38 = .ok (.invokevirtual 203, 3) := by decide +kernel
theorem dX8_settle_41 : decode cX8_settle 41 = .ok (.ireturn, 1) := by decide +kernel
theorem dX8_see_0 : decode cX8_see 0 = .ok (.aload_n 0, 1) := by decide +kernel
theorem dX8_see_1 : decode cX8_see 1 = .ok (.getfield 19, 3) := by decide +kernel
theorem dX8_see_4 : decode cX8_see 4 = .ok (.iload_n 1, 1) := by decide +kernel
theorem dX8_see_5 : decode cX8_see 5 = .ok (.invokevirtual 100, 3) := by decide +kernel
theorem dX8_see_8 : decode cX8_see 8 = .ok (.ifCond .eq 11, 3) := by decide +kernel
theorem dX8_see_11 : decode cX8_see 11 = .ok (.aload_n 0, 1) := by decide +kernel
theorem dX8_see_12 : decode cX8_see 12 = .ok (.iload_n 2, 1) := by decide +kernel
theorem dX8_see_13 : decode cX8_see 13 = .ok (.invokevirtual 140, 3) := by decide +kernel
theorem dX8_see_16 : decode cX8_see 16 = .ok (.ifCond .ne 6, 3) := by decide +kernel
theorem dX8_see_19 : decode cX8_see 19 = .ok (.bipush (-101), 2) := by decide +kernel
theorem dX8_see_21 : decode cX8_see 21 = .ok (.ireturn, 1) := by decide +kernel
theorem dX8_see_22 : decode cX8_see 22 = .ok (.iload_n 3, 1) := by decide +kernel
theorem dX8_see_23 : decode cX8_see 23 = .ok (.ifCond .lt 10, 3) := by decide +kernel
theorem dX8_see_26 : decode cX8_see 26 = .ok (.iload_n 3, 1) := by decide +kernel
theorem dX8_see_27 : decode cX8_see 27 = .ok (.sipush 400, 3) := by decide +kernel
theorem dX8_see_30 : decode cX8_see 30 = .ok (.if_icmp .le 6, 3) := by decide +kernel
theorem dX8_see_33 : decode cX8_see 33 = .ok (.bipush (-102), 2) := by decide +kernel
theorem dX8_see_35 : decode cX8_see 35 = .ok (.ireturn, 1) := by decide +kernel
theorem dX8_see_36 : decode cX8_see 36 = .ok (.aload_n 0, 1) := by decide +kernel
theorem dX8_see_37 : decode cX8_see 37 = .ok (.getfield 26, 3) := by decide +kernel
theorem dX8_see_40 : decode cX8_see 40 = .ok (.getfield 206, 3) := by decide +kernel
theorem dX8_see_43 : decode cX8_see 43 = .ok (.bipush 6, 2) := by decide +kernel
theorem dX8_see_45 : decode cX8_see 45 = .ok (.if_icmp .lt 6, 3) := by decide +kernel
theorem dX8_see_48 : decode cX8_see 48 = .ok (.bipush (-104), 2) := by decide +kernel
theorem dX8_see_50 : decode cX8_see 50 = .ok (.ireturn, 1) := by decide +kernel
theorem dX8_see_51 : decode cX8_see 51 = .ok (.aload_n 0, 1) := by decide +kernel
theorem dX8_see_52 : decode cX8_see 52 = .ok (.getfield 26, 3) := by decide +kernel
theorem dX8_see_55 : decode cX8_see 55 = .ok (.iload_n 1, 1) := by decide +kernel
theorem dX8_see_56 : decode cX8_see 56 = .ok (.iload_n 2, 1) := by decide +kernel
theorem dX8_see_57 : decode cX8_see 57 = .ok (.iload_n 3, 1) := by decide +kernel
theorem dX8_see_58 : decode cX8_see 58 = .ok (.sipush 200, 3) := by decide +kernel
theorem dX8_see_61 : decode cX8_see 61 = .ok (.isub, 1) := by decide +kernel
theorem dX8_see_62 : decode cX8_see 62 = .ok (.invokevirtual 209, 3) := by decide +kernel
theorem dX8_see_65 : decode cX8_see 65 = .ok (.aload_n 0, 1) := by decide +kernel
theorem dX8_see_66 : decode cX8_see 66 = .ok (.getfield 26, 3) := by decide +kernel
theorem dX8_see_69 : decode cX8_see 69 = .ok (.getfield 206, 3) := by decide +kernel
theorem dX8_see_72 : decode cX8_see 72 = .ok (.ireturn, 1) := by decide +kernel
theorem dX8_forget_0 : decode cX8_forget 0 = .ok (.aload_n 0, 1) := by decide +kernel
theorem dX8_forget_1 : decode cX8_forget 1 = .ok (.getfield 26, 3) := by decide +kernel
theorem dX8_forget_4 : decode cX8_forget 4 = .ok (.getfield 206, 3) := by decide +kernel
theorem dX8_forget_7 : decode cX8_forget 7 = .ok (.istore_n 1, 1) := by decide +kernel
theorem dX8_forget_8 : decode cX8_forget 8 = .ok (.aload_n 0, 1) := by decide +kernel
theorem dX8_forget_9 : decode cX8_forget 9 = .ok (.getfield 26, 3) := by decide +kernel
theorem dX8_forget_12 : decode cX8_forget 12 = .ok (.iconst 0, 1) := by decide +kernel
theorem dX8_forget_13 : decode cX8_forget 13 = .ok (.putfield 206, 3) := by decide +kernel
theorem dX8_forget_16 : decode cX8_forget 16 = .ok (.iload_n 1, 1) := by decide +kernel
theorem dX8_forget_17 : decode cX8_forget 17 = .ok (.ireturn, 1) := by decide +kernel
theorem dX8_tides_0 : decode cX8_tides 0 = .ok (.iload_n 1, 1) := by decide +kernel
theorem dX8_tides_1 : decode cX8_tides 1 = .ok (.iconst 1, 1) := by decide +kernel
theorem dX8_tides_2 : decode cX8_tides 2 = .ok (.if_icmp .lt 22, 3) := by decide +kernel
theorem dX8_tides_5 : decode cX8_tides 5 = .ok (.iload_n 1, 1) := by decide +kernel
theorem dX8_tides_6 : decode cX8_tides 6 = .ok (.bipush 60, 2) := by decide +kernel
theorem dX8_tides_8 : decode cX8_tides 8 = .ok (.if_icmp .gt 16, 3) := by decide +kernel
theorem dX8_tides_11 : decode cX8_tides 11 = .ok (.iload_n 2, 1) := by decide +kernel
theorem dX8_tides_12 : decode cX8_tides 12 = .ok (.ifCond .lt 12, 3) := by decide +kernel
theorem dX8_tides_15 : decode cX8_tides 15 = .ok (.iload_n 3, 1) := by decide +kernel
theorem dX8_tides_16 : decode cX8_tides 16 = .ok (.ifCond .lt 8, 3) := by decide +kernel
theorem dX8_tides_19 : decode cX8_tides 19 = .ok (.iload_n 3, 1) := by decide +kernel
theorem dX8_tides_20 : decode cX8_tides 20 = .ok (.iconst 2, 1) := by decide +kernel
theorem dX8_tides_21 : decode cX8_tides 21 = .ok (.if_icmp .le 6, 3) := by decide +kernel
theorem dX8_tides_24 : decode cX8_tides 24 = .ok (.bipush (-102), 2) := by decide +kernel
theorem dX8_tides_26 : decode cX8_tides 26 = .ok (.ireturn, 1) := by decide +kernel
theorem dX8_tides_27 : decode cX8_tides 27 = .ok (.aload_n 0, 1) := by decide +kernel
theorem dX8_tides_28 : decode cX8_tides 28 = .ok (.getfield 19, 3) := by decide +kernel
theorem dX8_tides_31 : decode cX8_tides 31 = .ok (.getfield 68, 3) := by decide +kernel
theorem dX8_tides_34 : decode cX8_tides 34 = .ok (.ifCond .ne 6, 3) := by decide +kernel
theorem dX8_tides_37 : decode cX8_tides 37 = .ok (.bipush (-103), 2) := by decide +kernel
theorem dX8_tides_39 : decode cX8_tides 39 = .ok (.ireturn, 1) := by decide +kernel
theorem dX8_tides_40 : decode cX8_tides 40 = .ok (.aload_n 0, 1) := by decide +kernel
theorem dX8_tides_41 : decode cX8_tides 41 = .ok (.getfield 33, 3) := by decide +kernel
theorem dX8_tides_44 : decode cX8_tides 44 = .ok (.aload_n 0, 1) := by decide +kernel
theorem dX8_tides_45 : decode cX8_tides 45 = .ok (.getfield 26, 3) := by decide +kernel
theorem dX8_tides_48 : decode cX8_tides 48 = .ok (.invokevirtual 213, 3) := by decide +kernel
theorem dX8_tides_51 : decode cX8_tides 51 = .ok (.iload_n 2, 1) := by decide +kernel
theorem dX8_tides_52 : decode cX8_tides 52 = .ok (.istore 4, 2) := by decide +kernel
theorem dX8_tides_54 : decode cX8_tides 54 = .ok (.iconst 0, 1) := by decide +kernel
theorem dX8_tides_55 : decode cX8_tides 55 = .ok (.istore 5, 2) := by decide +kernel
theorem dX8_tides_57 : decode cX8_tides 57 = .ok (.iconst 0, 1) := by decide +kernel
theorem dX8_tides_58 : decode cX8_tides 58 = .ok (.istore 6, 2) := by decide +kernel
theorem dX8_tides_60 : decode cX8_tides 60 = .ok (.iconst 0, 1) := by decide +kernel
theorem dX8_tides_61 : decode cX8_tides 61 = .ok (.istore 7, 2) := by decide +kernel
theorem dX8_tides_63 : decode cX8_tides 63 = .ok (.iload 7, 2) := by decide +kernel
theorem dX8_tides_65 : decode cX8_tides 65 = .ok (.iload_n 1, 1) := by decide +kernel
theorem dX8_tides_66 : decode cX8_tides 66 = .ok (.if_icmp .ge 93, 3) := by decide +kernel
theorem dX8_tides_69 : decode cX8_tides 69 = .ok (.iload 4, 2) := by decide +kernel
theorem dX8_tides_71 : decode cX8_tides 71 = .ok (.invokestatic 216, 3) := by decide +kernel
theorem dX8_tides_74 : decode cX8_tides 74 = .ok (.istore 4, 2) := by decide +kernel
theorem dX8_tides_76 : decode cX8_tides 76 = .ok (.iload 4, 2) := by decide +kernel
theorem dX8_tides_78 : decode cX8_tides 78 = .ok (.iconst 3, 1) := by decide +kernel
theorem dX8_tides_79 : decode cX8_tides 79 = .ok (.invokestatic 219, 3) := by decide +kernel
theorem dX8_tides_82 : decode cX8_tides 82 = .ok (.istore 8, 2) := by decide +kernel
theorem dX8_tides_84 : decode cX8_tides 84 = .ok (.aload_n 0, 1) := by decide +kernel
theorem dX8_tides_85 : decode cX8_tides 85 = .ok (.getfield 19, 3) := by decide +kernel
theorem dX8_tides_88 : decode cX8_tides 88 = .ok (.aload_n 0, 1) := by decide +kernel
theorem dX8_tides_89 : decode cX8_tides 89 = .ok (.getfield 33, 3) := by decide +kernel
theorem dX8_tides_92 : decode cX8_tides 92 = .ok (.iload 8, 2) := by decide +kernel
theorem dX8_tides_94 : decode cX8_tides 94 = .ok (.invokevirtual 143, 3) := by decide +kernel
theorem dX8_tides_97 : decode cX8_tides 97 = .ok (.istore 9, 2) := by decide +kernel
theorem dX8_tides_99 : decode cX8_tides 99 = .ok (.iload 6, 2) := by decide +kernel
theorem dX8_tides_101 : decode cX8_tides 101 = .ok (.iload 9, 2) := by decide +kernel
theorem dX8_tides_103 : decode cX8_tides 103 = .ok (.iadd, 1) := by decide +kernel
theorem dX8_tides_104 : decode cX8_tides 104 = .ok (.istore 6, 2) := by decide +kernel
theorem dX8_tides_106 : decode cX8_tides 106 = .ok (.iload 9, 2) := by decide +kernel
theorem dX8_tides_108 : decode cX8_tides 108 = .ok (.ifCond .le 6, 3) := by decide +kernel
theorem dX8_tides_111 : decode cX8_tides 111 = .ok (.iinc 5 1, 3) := by decide +kernel
theorem dX8_tides_114 : decode cX8_tides 114 = .ok (.iload 4, 2) := by decide +kernel
theorem dX8_tides_116 : decode cX8_tides 116 = .ok (.invokestatic 216, 3) := by decide +kernel
theorem dX8_tides_119 : decode cX8_tides 119 = .ok (.istore 4, 2) := by decide +kernel
theorem dX8_tides_121 : decode cX8_tides 121 = .ok (.aload_n 0, 1) := by decide +kernel
theorem dX8_tides_122 : decode cX8_tides 122 = .ok (.getfield 33, 3) := by decide +kernel
theorem dX8_tides_125 : decode cX8_tides 125 = .ok (.iload 4, 2) := by decide +kernel
theorem dX8_tides_127 : decode cX8_tides 127 = .ok (.aload_n 0, 1) := by decide +kernel
theorem dX8_tides_128 : decode cX8_tides 128 = .ok (.getfield 19, 3) := by decide +kernel
theorem dX8_tides_131 : decode cX8_tides 131 = .ok (.getfield 68, 3) := by decide +kernel
theorem dX8_tides_134 : decode cX8_tides 134 = .ok (.invokestatic 219, 3) := by decide +kernel
theorem dX8_tides_137 : decode cX8_tides 137 = .ok (.iload 8, 2) := by decide +kernel
theorem dX8_tides_139 : decode cX8_tides 139 = .ok (.invokevirtual 222, 3) := by decide +kernel
theorem dX8_tides_142 : decode cX8_tides 142 = .ok (.aload_n 0, 1) := by decide +kernel
theorem dX8_tides_143 : decode cX8_tides 143 = .ok (.getfield 19, 3) := by decide +kernel
theorem dX8_tides_146 : decode cX8_tides 146 = .ok (.aload_n 0, 1) := by decide +kernel
theorem dX8_tides_147 : decode cX8_tides 147 = .ok (.getfield 33, 3) := by decide +kernel
theorem dX8_tides_150 : decode cX8_tides 150 = .ok (.invokevirtual 162, 3) := by decide +kernel
theorem dX8_tides_153 : decode cX8_tides 153 = .ok (.iinc 7 1, 3) := by decide +kernel
theorem dX8_tides_156 : decode cX8_tides 156 = .ok (.goto (-93), 3) := by decide +kernel
theorem dX8_tides_159 : decode cX8_tides 159 = .ok (.iload_n 3, 1) := by decide +kernel
theorem dX8_tides_160 : decode cX8_tides 160 = .ok (.ifCond .ne 6, 3) := by decide +kernel
theorem dX8_tides_163 : decode cX8_tides 163 = .ok (.iload 5, 2) := by decide +kernel
theorem dX8_tides_165 : decode cX8_tides 165 = .ok (.ireturn, 1) := by decide +kernel
theorem dX8_tides_166 : decode cX8_tides 166 = .ok (.iload_n 3, 1) := by decide +kernel
theorem dX8_tides_167 : decode cX8_tides 167 = .ok (.iconst 1, 1) := by decide +kernel
theorem dX8_tides_168 : decode cX8_tides 168 = .ok (.if_icmp .ne 12, 3) := by decide +kernel
theorem dX8_tides_171 : decode cX8_tides 171 = .ok (.sipush 10000, 3) := by decide +kernel
theorem dX8_tides_174 : decode cX8_tides 174 = .ok (.iload 6, 2) := by decide +kernel
theorem dX8_tides_176 : decode cX8_tides 176 = .ok (.iadd, 1) := by decide +kernel
theorem dX8_tides_177 : decode cX8_tides 177 = .ok (.goto 5, 3) := by decide +kernel
theorem dX8_tides_180 : decode cX8_tides 180 = .ok (.iload 4, 2) := by decide +kernel
theorem dX8_tides_182 : decode cX8_tides 182 = .ok (.ireturn, 1) := by decide +kernel
theorem dX8_image_0 : decode cX8_image 0 = .ok (.aload_n 0, 1) := by decide +kernel
theorem dX8_image_1 : decode cX8_image 1 = .ok (.getfield 19, 3) := by decide +kernel
theorem dX8_image_4 : decode cX8_image 4 = .ok (.getfield 68, 3) := by decide +kernel
theorem dX8_image_7 : decode cX8_image 7 = .ok (.ifCond .ne 6, 3) := by decide +kernel
theorem dX8_image_10 : decode cX8_image 10 = .ok (.bipush (-103), 2) := by decide +kernel
theorem dX8_image_12 : decode cX8_image 12 = .ok (.ireturn, 1) := by decide +kernel
theorem dX8_image_13 : decode cX8_image 13 = .ok (.aload_n 0, 1) := by decide +kernel
theorem dX8_image_14 : decode cX8_image 14 = .ok (.getfield 30, 3) := by decide +kernel
theorem dX8_image_17 : decode cX8_image 17 = .ok (.aload_n 0, 1) := by decide +kernel
theorem dX8_image_18 : decode cX8_image 18 = .ok (.getfield 26, 3) := by decide +kernel
theorem dX8_image_21 : decode cX8_image 21 = .ok (.invokevirtual 213, 3) := by decide +kernel
theorem dX8_image_24 : decode cX8_image 24 = .ok (.aload_n 0, 1) := by decide +kernel
theorem dX8_image_25 : decode cX8_image 25 = .ok (.iconst 1, 1) := by decide +kernel
theorem dX8_image_26 : decode cX8_image 26 = .ok (.putfield 93, 3) := by decide +kernel
theorem dX8_image_29 : decode cX8_image 29 = .ok (.aload_n 0, 1) := by decide +kernel
theorem dX8_image_30 : decode cX8_image 30 = .ok (.getfield 26, 3) := by decide +kernel
theorem dX8_image_33 : decode cX8_image 33 = .ok (.getfield 159, 3) := by decide +kernel
theorem dX8_image_36 : decode cX8_image 36 = .ok (.ireturn, 1) := by decide +kernel
theorem dX8_restore_0 : decode cX8_restore 0 = .ok (.aload_n 0, 1) := by decide +kernel
theorem dX8_restore_1 : decode cX8_restore 1 = .ok (.getfield 93, 3) := by decide +kernel
theorem dX8_restore_4 : decode cX8_restore 4 = .ok (.ifCond .ne 6, 3) := by decide +kernel
theorem dX8_restore_7 : decode cX8_restore 7 = .ok (.bipush (-103), 2) := by decide +kernel
theorem dX8_restore_9 : decode cX8_restore 9 = .ok (.ireturn, 1) := by decide +kernel
theorem dX8_restore_10 : decode cX8_restore 10 = .ok (.aload_n 0, 1) := by decide +kernel
theorem dX8_restore_11 : decode cX8_restore 11 = .ok (.getfield 26, 3) := by decide +kernel
theorem dX8_restore_14 : decode cX8_restore 14 = .ok (.aload_n 0, 1) := by decide +kernel
theorem dX8_restore_15 : decode cX8_restore 15 = .ok (.getfield 30, 3) := by decide +kernel
theorem dX8_restore_18 : decode cX8_restore 18 = .ok (.invokevirtual 213, 3) := by decide +kernel
theorem dX8_restore_21 : decode cX8_restore 21 = .ok (.aload_n 0, 1) := by decide +kernel
theorem dX8_restore_22 : decode cX8_restore 22 = .ok (.getfield 26, 3) := by decide +kernel
theorem dX8_restore_25 : decode cX8_restore 25 = .ok (.getfield 159, 3) := by decide +kernel
theorem dX8_restore_28 : decode cX8_restore 28 = .ok (.ireturn, 1) := by decide +kernel
theorem dX8_count_0 : decode cX8_count 0 = .ok (.iload_n 1, 1) := by decide +kernel
theorem dX8_count_1 : decode cX8_count 1 = .ok (.tableswitch 166 0 11 #[63, 71, 83, 94, 105, 113, 124, 135, 140, 148, 156, 161], 63) := by decide +kernel
theorem dX8_count_64 : decode cX8_count 64 = .ok (.aload_n 0, 1) := by decide +kernel
theorem dX8_count_65 : decode cX8_count 65 = .ok (.getfield 19, 3) := by decide +kernel
theorem dX8_count_68 : decode cX8_count 68 = .ok (.getfield 68, 3) := by decide +kernel
theorem dX8_count_71 : decode cX8_count 71 = .ok (.ireturn, 1) := by decide +kernel
theorem dX8_count_72 : decode cX8_count 72 = .ok (.aload_n 0, 1) := by decide +kernel
theorem dX8_count_73 : decode cX8_count 73 = .ok (.getfield 19, 3) := by decide +kernel
theorem dX8_count_76 : decode cX8_count 76 = .ok (.aload_n 0, 1) := by decide +kernel
theorem dX8_count_77 : decode cX8_count 77 = .ok (.getfield 26, 3) := by decide +kernel
theorem dX8_count_80 : decode cX8_count 80 = .ok (.invokevirtual 120, 3) := by decide +kernel
theorem dX8_count_83 : decode cX8_count 83 = .ok (.ireturn, 1) := by decide +kernel
theorem dX8_count_84 : decode cX8_count 84 = .ok (.aload_n 0, 1) := by decide +kernel
end
section
theorem dX8_count_85 : decode cX8_count 85 = .ok (.getfield 26, 3) := by decide +kernel
theorem dX8_count_88 : decode cX8_count 88 = .ok (.getfield 124, 3) := by decide +kernel
theorem dX8_count_91 : decode cX8_count 91 = .ok (.invokestatic 225, 3) := by decide +kernel
theorem dX8_count_94 : decode cX8_count 94 = .ok (.ireturn, 1) := by decide +kernel
theorem dX8_count_95 : decode cX8_count 95 = .ok (.aload_n 0, 1) := by decide +kernel
theorem dX8_count_96 : decode cX8_count 96 = .ok (.getfield 26, 3) := by decide +kernel
theorem dX8_count_99 : decode cX8_count 99 = .ok (.getfield 79, 3) := by decide +kernel
theorem dX8_count_102 : decode cX8_count 102 = .ok (.invokestatic 225, 3) := by decide +kernel
theorem dX8_count_105 : decode cX8_count 105 = .ok (.ireturn, 1) := by decide +kernel
theorem dX8_count_106 : decode cX8_count 106 = .ok (.aload_n 0, 1) := by decide +kernel
theorem dX8_count_107 : decode cX8_count 107 = .ok (.getfield 26, 3) := by decide +kernel
theorem dX8_count_110 : decode cX8_count 110 = .ok (.getfield 159, 3) := by decide +kernel
theorem dX8_count_113 : decode cX8_count 113 = .ok (.ireturn, 1) := by decide +kernel
theorem dX8_count_114 : decode cX8_count 114 = .ok (.aload_n 0, 1) := by decide +kernel
theorem dX8_count_115 : decode cX8_count 115 = .ok (.getfield 26, 3) := by decide +kernel
theorem dX8_count_118 : decode cX8_count 118 = .ok (.getfield 150, 3) := by decide +kernel
theorem dX8_count_121 : decode cX8_count 121 = .ok (.invokestatic 225, 3) := by decide +kernel
theorem dX8_count_124 : decode cX8_count 124 = .ok (.ireturn, 1) := by decide +kernel
theorem dX8_count_125 : decode cX8_count 125 = .ok (.aload_n 0, 1) := by decide +kernel
theorem dX8_count_126 : decode cX8_count 126 = .ok (.getfield 26, 3) := by decide +kernel
theorem dX8_count_129 : decode cX8_count 129 = .ok (.getfield 153, 3) := by decide +kernel
theorem dX8_count_132 : decode cX8_count 132 = .ok (.invokestatic 225, 3) := by decide +kernel
theorem dX8_count_135 : decode cX8_count 135 = .ok (.ireturn, 1) := by decide +kernel
theorem dX8_count_136 : decode cX8_count 136 = .ok (.aload_n 0, 1) := by decide +kernel
theorem dX8_count_137 : decode cX8_count 137 = .ok (.invokevirtual 229, 3) := by decide +kernel
theorem dX8_count_140 : decode cX8_count 140 = .ok (.ireturn, 1) := by decide +kernel
theorem dX8_count_141 : decode cX8_count 141 = .ok (.aload_n 0, 1) := by decide +kernel
theorem dX8_count_142 : decode cX8_count 142 = .ok (.getfield 26, 3) := by decide +kernel
theorem dX8_count_145 : decode cX8_count 145 = .ok (.getfield 206, 3) := by decide +kernel
theorem dX8_count_148 : decode cX8_count 148 = .ok (.ireturn, 1) := by decide +kernel
theorem dX8_count_149 : decode cX8_count 149 = .ok (.aload_n 0, 1) := by decide +kernel
theorem dX8_count_150 : decode cX8_count 150 = .ok (.getfield 10, 3) := by decide +kernel
theorem dX8_count_153 : decode cX8_count 153 = .ok (.getfield 50, 3) := by decide +kernel
theorem dX8_count_156 : decode cX8_count 156 = .ok (.ireturn, 1) := by decide +kernel
theorem dX8_count_157 : decode cX8_count 157 = .ok (.aload_n 0, 1) := by decide +kernel
theorem dX8_count_158 : decode cX8_count 158 = .ok (.getfield 97, 3) := by decide +kernel
theorem dX8_count_161 : decode cX8_count 161 = .ok (.ireturn, 1) := by decide +kernel
theorem dX8_count_162 : decode cX8_count 162 = .ok (.aload_n 0, 1) := by decide +kernel
theorem dX8_count_163 : decode cX8_count 163 = .ok (.getfield 194, 3) := by decide +kernel
theorem dX8_count_166 : decode cX8_count 166 = .ok (.ireturn, 1) := by decide +kernel
theorem dX8_count_167 : decode cX8_count 167 = .ok (.bipush (-102), 2) := by decide +kernel
theorem dX8_count_169 : decode cX8_count 169 = .ok (.ireturn, 1) := by decide +kernel
theorem dX8_digest_0 : decode cX8_digest 0 = .ok (.ldc2_w 232, 3) := by decide +kernel
theorem dX8_digest_3 : decode cX8_digest 3 = .ok (.lstore_n 1, 1) := by decide +kernel
theorem dX8_digest_4 : decode cX8_digest 4 = .ok (.iconst 0, 1) := by decide +kernel
theorem dX8_digest_5 : decode cX8_digest 5 = .ok (.istore_n 3, 1) := by decide +kernel
theorem dX8_digest_6 : decode cX8_digest 6 = .ok (.iload_n 3, 1) := by decide +kernel
theorem dX8_digest_7 : decode cX8_digest 7 = .ok (.aload_n 0, 1) := by decide +kernel
theorem dX8_digest_8 : decode cX8_digest 8 = .ok (.getfield 19, 3) := by decide +kernel
theorem dX8_digest_11 : decode cX8_digest 11 = .ok (.getfield 68, 3) := by decide +kernel
theorem dX8_digest_14 : decode cX8_digest 14 = .ok (.if_icmp .ge 55, 3) := by decide +kernel
theorem dX8_digest_17 : decode cX8_digest 17 = .ok (.getstatic 234, 3) := by decide +kernel
theorem dX8_digest_20 : decode cX8_digest 20 = .ok (.astore 4, 2) := by decide +kernel
theorem dX8_digest_22 : decode cX8_digest 22 = .ok (.aload 4, 2) := by decide +kernel
theorem dX8_digest_24 : decode cX8_digest 24 = .ok (.arraylength, 1) := by decide +kernel
theorem dX8_digest_25 : decode cX8_digest 25 = .ok (.istore 5, 2) := by decide +kernel
theorem dX8_digest_27 : decode cX8_digest 27 = .ok (.iconst 0, 1) := by decide +kernel
theorem dX8_digest_28 : decode cX8_digest 28 = .ok (.istore 6, 2) := by decide +kernel
theorem dX8_digest_30 : decode cX8_digest 30 = .ok (.iload 6, 2) := by decide +kernel
theorem dX8_digest_32 : decode cX8_digest 32 = .ok (.iload 5, 2) := by decide +kernel
theorem dX8_digest_34 : decode cX8_digest 34 = .ok (.if_icmp .ge 29, 3) := by decide +kernel
theorem dX8_digest_37 : decode cX8_digest 37 = .ok (.aload 4, 2) := by decide +kernel
theorem dX8_digest_39 : decode cX8_digest 39 = .ok (.iload 6, 2) := by decide +kernel
theorem dX8_digest_41 : decode cX8_digest 41 = .ok (.iaload, 1) := by decide +kernel
theorem dX8_digest_42 : decode cX8_digest 42 = .ok (.istore 7, 2) := by decide +kernel
theorem dX8_digest_44 : decode cX8_digest 44 = .ok (.lload_n 1, 1) := by decide +kernel
theorem dX8_digest_45 : decode cX8_digest 45 = .ok (.aload_n 0, 1) := by decide +kernel
theorem dX8_digest_46 : decode cX8_digest 46 = .ok (.iload_n 3, 1) := by decide +kernel
theorem dX8_digest_47 : decode cX8_digest 47 = .ok (.iload 7, 2) := by decide +kernel
theorem dX8_digest_49 : decode cX8_digest 49 = .ok (.invokevirtual 237, 3) := by decide +kernel
theorem dX8_digest_52 : decode cX8_digest 52 = .ok (.i2l, 1) := by decide +kernel
theorem dX8_digest_53 : decode cX8_digest 53 = .ok (.invokestatic 240, 3) := by decide +kernel
theorem dX8_digest_56 : decode cX8_digest 56 = .ok (.lstore_n 1, 1) := by decide +kernel
theorem dX8_digest_57 : decode cX8_digest 57 = .ok (.iinc 6 1, 3) := by decide +kernel
theorem dX8_digest_60 : decode cX8_digest 60 = .ok (.goto (-30), 3) := by decide +kernel
theorem dX8_digest_63 : decode cX8_digest 63 = .ok (.iinc 3 1, 3) := by decide +kernel
theorem dX8_digest_66 : decode cX8_digest 66 = .ok (.goto (-60), 3) := by decide +kernel
theorem dX8_digest_69 : decode cX8_digest 69 = .ok (.aload_n 0, 1) := by decide +kernel
theorem dX8_digest_70 : decode cX8_digest 70 = .ok (.getfield 19, 3) := by decide +kernel
theorem dX8_digest_73 : decode cX8_digest 73 = .ok (.getfield 68, 3) := by decide +kernel
theorem dX8_digest_76 : decode cX8_digest 76 = .ok (.ifCond .le 45, 3) := by decide +kernel
theorem dX8_digest_79 : decode cX8_digest 79 = .ok (.iconst 0, 1) := by decide +kernel
theorem dX8_digest_80 : decode cX8_digest 80 = .ok (.istore_n 3, 1) := by decide +kernel
theorem dX8_digest_81 : decode cX8_digest 81 = .ok (.iload_n 3, 1) := by decide +kernel
theorem dX8_digest_82 : decode cX8_digest 82 = .ok (.iconst 3, 1) := by decide +kernel
theorem dX8_digest_83 : decode cX8_digest 83 = .ok (.if_icmp .ge 16, 3) := by decide +kernel
theorem dX8_digest_86 : decode cX8_digest 86 = .ok (.aload_n 0, 1) := by decide +kernel
theorem dX8_digest_87 : decode cX8_digest 87 = .ok (.lload_n 1, 1) := by decide +kernel
theorem dX8_digest_88 : decode cX8_digest 88 = .ok (.iload_n 3, 1) := by decide +kernel
theorem dX8_digest_89 : decode cX8_digest 89 = .ok (.invokevirtual 244, 3) := by decide +kernel
theorem dX8_digest_92 : decode cX8_digest 92 = .ok (.lstore_n 1, 1) := by decide +kernel
theorem dX8_digest_93 : decode cX8_digest 93 = .ok (.iinc 3 1, 3) := by decide +kernel
theorem dX8_digest_96 : decode cX8_digest 96 = .ok (.goto (-15), 3) := by decide +kernel
theorem dX8_digest_99 : decode cX8_digest 99 = .ok (.lload_n 1, 1) := by decide +kernel
theorem dX8_digest_100 : decode cX8_digest 100 = .ok (.aload_n 0, 1) := by decide +kernel
theorem dX8_digest_101 : decode cX8_digest 101 = .ok (.iconst 0, 1) := by decide +kernel
theorem dX8_digest_102 : decode cX8_digest 102 = .ok (.invokevirtual 248, 3) := by decide +kernel
theorem dX8_digest_105 : decode cX8_digest 105 = .ok (.i2l, 1) := by decide +kernel
theorem dX8_digest_106 : decode cX8_digest 106 = .ok (.invokestatic 240, 3) := by decide +kernel
theorem dX8_digest_109 : decode cX8_digest 109 = .ok (.lstore_n 1, 1) := by decide +kernel
theorem dX8_digest_110 : decode cX8_digest 110 = .ok (.lload_n 1, 1) := by decide +kernel
theorem dX8_digest_111 : decode cX8_digest 111 = .ok (.aload_n 0, 1) := by decide +kernel
theorem dX8_digest_112 : decode cX8_digest 112 = .ok (.iconst 1, 1) := by decide +kernel
theorem dX8_digest_113 : decode cX8_digest 113 = .ok (.invokevirtual 248, 3) := by decide +kernel
theorem dX8_digest_116 : decode cX8_digest 116 = .ok (.i2l, 1) := by decide +kernel
theorem dX8_digest_117 : decode cX8_digest 117 = .ok (.invokestatic 240, 3) := by decide +kernel
theorem dX8_digest_120 : decode cX8_digest 120 = .ok (.lstore_n 1, 1) := by decide +kernel
theorem dX8_digest_121 : decode cX8_digest 121 = .ok (.iconst 0, 1) := by decide +kernel
theorem dX8_digest_122 : decode cX8_digest 122 = .ok (.istore_n 3, 1) := by decide +kernel
theorem dX8_digest_123 : decode cX8_digest 123 = .ok (.iload_n 3, 1) := by decide +kernel
theorem dX8_digest_124 : decode cX8_digest 124 = .ok (.aload_n 0, 1) := by decide +kernel
theorem dX8_digest_125 : decode cX8_digest 125 = .ok (.getfield 10, 3) := by decide +kernel
theorem dX8_digest_128 : decode cX8_digest 128 = .ok (.getfield 50, 3) := by decide +kernel
theorem dX8_digest_131 : decode cX8_digest 131 = .ok (.if_icmp .ge 24, 3) := by decide +kernel
theorem dX8_digest_134 : decode cX8_digest 134 = .ok (.lload_n 1, 1) := by decide +kernel
theorem dX8_digest_135 : decode cX8_digest 135 = .ok (.aload_n 0, 1) := by decide +kernel
theorem dX8_digest_136 : decode cX8_digest 136 = .ok (.getfield 10, 3) := by decide +kernel
theorem dX8_digest_139 : decode cX8_digest 139 = .ok (.getfield 54, 3) := by decide +kernel
theorem dX8_digest_142 : decode cX8_digest 142 = .ok (.iload_n 3, 1) := by decide +kernel
theorem dX8_digest_143 : decode cX8_digest 143 = .ok (.iaload, 1) := by decide +kernel
theorem dX8_digest_144 : decode cX8_digest 144 = .ok (.i2l, 1) := by decide +kernel
theorem dX8_digest_145 : decode cX8_digest 145 = .ok (.invokestatic 240, 3) := by decide +kernel
theorem dX8_digest_148 : decode cX8_digest 148 = .ok (.lstore_n 1, 1) := by decide +kernel
theorem dX8_digest_149 : decode cX8_digest 149 = .ok (.iinc 3 1, 3) := by decide +kernel
theorem dX8_digest_152 : decode cX8_digest 152 = .ok (.goto (-29), 3) := by decide +kernel
theorem dX8_digest_155 : decode cX8_digest 155 = .ok (.iconst 0, 1) := by decide +kernel
theorem dX8_digest_156 : decode cX8_digest 156 = .ok (.istore_n 3, 1) := by decide +kernel
theorem dX8_digest_157 : decode cX8_digest 157 = .ok (.iload_n 3, 1) := by decide +kernel
theorem dX8_digest_158 : decode cX8_digest 158 = .ok (.bipush 11, 2) := by decide +kernel
theorem dX8_digest_160 : decode cX8_digest 160 = .ok (.if_icmp .gt 20, 3) := by decide +kernel
theorem dX8_digest_163 : decode cX8_digest 163 = .ok (.lload_n 1, 1) := by decide +kernel
theorem dX8_digest_164 : decode cX8_digest 164 = .ok (.aload_n 0, 1) := by decide +kernel
theorem dX8_digest_165 : decode cX8_digest 165 = .ok (.iload_n 3, 1) := by decide +kernel
theorem dX8_digest_166 : decode cX8_digest 166 = .ok (.invokevirtual 251, 3) := by decide +kernel
theorem dX8_digest_169 : decode cX8_digest 169 = .ok (.i2l, 1) := by decide +kernel
theorem dX8_digest_170 : decode cX8_digest 170 = .ok (.invokestatic 240, 3) := by decide +kernel
theorem dX8_digest_173 : decode cX8_digest 173 = .ok (.lstore_n 1, 1) := by decide +kernel
theorem dX8_digest_174 : decode cX8_digest 174 = .ok (.iinc 3 1, 3) := by decide +kernel
theorem dX8_digest_177 : decode cX8_digest 177 = .ok (.goto (-20), 3) := by decide +kernel
theorem dX8_digest_180 : decode cX8_digest 180 = .ok (.lload_n 1, 1) := by decide +kernel
theorem dX8_digest_181 : decode cX8_digest 181 = .ok (.lreturn, 1) := by decide +kernel
theorem dX8_mixedQuestion_0 : decode cX8_mixedQuestion 0 = .ok (.lload_n 1, 1) := by decide +kernel
theorem dX8_mixedQuestion_1 : decode cX8_mixedQuestion 1 = .ok (.lstore 4, 2) := by decide +kernel
theorem dX8_mixedQuestion_3 : decode cX8_mixedQuestion 3 = .ok (.iconst 0, 1) := by decide +kernel
theorem dX8_mixedQuestion_4 : decode cX8_mixedQuestion 4 = .ok (.istore 6, 2) := by decide +kernel
theorem dX8_mixedQuestion_6 : decode cX8_mixedQuestion 6 = .ok (.iload 6, 2) := by decide +kernel
theorem dX8_mixedQuestion_8 : decode cX8_mixedQuestion 8 = .ok (.iconst 5, 1) := by decide +kernel
theorem dX8_mixedQuestion_9 : decode cX8_mixedQuestion 9 = .ok (.if_icmp .gt 24, 3) := by decide +kernel
theorem dX8_mixedQuestion_12 : decode cX8_mixedQuestion 12 = .ok (.lload 4, 2) := by decide +kernel
theorem dX8_mixedQuestion_14 : decode cX8_mixedQuestion 14 = .ok (.aload_n 0, 1) := by decide +kernel
theorem dX8_mixedQuestion_15 : decode cX8_mixedQuestion 15 = .ok (.iload_n 3, 1) := by decide +kernel
theorem dX8_mixedQuestion_16 : decode cX8_mixedQuestion 16 = .ok (.iload 6, 2) := by decide +kernel
theorem dX8_mixedQuestion_18 : decode cX8_mixedQuestion 18 = .ok (.invokevirtual 254, 3) := by decide +kernel
theorem dX8_mixedQuestion_21 : decode cX8_mixedQuestion 21 = .ok (.i2l, 1) := by decide +kernel
theorem dX8_mixedQuestion_22 : decode cX8_mixedQuestion 22 = .ok (.invokestatic 240, 3) := by decide +kernel
theorem dX8_mixedQuestion_25 : decode cX8_mixedQuestion 25 = .ok (.lstore 4, 2) := by decide +kernel
theorem dX8_mixedQuestion_27 : decode cX8_mixedQuestion 27 = .ok (.iinc 6 1, 3) := by decide +kernel
theorem dX8_mixedQuestion_30 : decode cX8_mixedQuestion 30 = .ok (.goto (-24), 3) := by decide +kernel
theorem dX8_mixedQuestion_33 : decode cX8_mixedQuestion 33 = .ok (.iconst 0, 1) := by decide +kernel
theorem dX8_mixedQuestion_34 : decode cX8_mixedQuestion 34 = .ok (.istore 6, 2) := by decide +kernel
theorem dX8_mixedQuestion_36 : decode cX8_mixedQuestion 36 = .ok (.iload 6, 2) := by decide +kernel
theorem dX8_mixedQuestion_38 : decode cX8_mixedQuestion 38 = .ok (.aload_n 0, 1) := by decide +kernel
theorem dX8_mixedQuestion_39 : decode cX8_mixedQuestion 39 = .ok (.getfield 19, 3) := by decide +kernel
theorem dX8_mixedQuestion_42 : decode cX8_mixedQuestion 42 = .ok (.getfield 68, 3) := by decide +kernel
theorem dX8_mixedQuestion_45 : decode cX8_mixedQuestion 45 = .ok (.if_icmp .ge 41, 3) := by decide +kernel
theorem dX8_mixedQuestion_48 : decode cX8_mixedQuestion 48 = .ok (.lload 4, 2) := by decide +kernel
theorem dX8_mixedQuestion_50 : decode cX8_mixedQuestion 50 = .ok (.aload_n 0, 1) := by decide +kernel
theorem dX8_mixedQuestion_51 : decode cX8_mixedQuestion 51 = .ok (.iload 6, 2) := by decide +kernel
theorem dX8_mixedQuestion_53 : decode cX8_mixedQuestion 53 = .ok (.iload_n 3, 1) := by decide +kernel
theorem dX8_mixedQuestion_54 : decode cX8_mixedQuestion 54 = .ok (.iconst 0, 1) := by decide +kernel
theorem dX8_mixedQuestion_55 : decode cX8_mixedQuestion 55 = .ok (.invokevirtual 257, 3) := by decide +kernel
theorem dX8_mixedQuestion_58 : decode cX8_mixedQuestion 58 = .ok (.i2l, 1) := by decide +kernel
theorem dX8_mixedQuestion_59 : decode cX8_mixedQuestion 59 = .ok (.invokestatic 240, 3) := by decide +kernel
theorem dX8_mixedQuestion_62 : decode cX8_mixedQuestion 62 = .ok (.lstore 4, 2) := by decide +kernel
theorem dX8_mixedQuestion_64 : decode cX8_mixedQuestion 64 = .ok (.lload 4, 2) := by decide +kernel
theorem dX8_mixedQuestion_66 : decode cX8_mixedQuestion 66 = .ok (.aload_n 0, 1) := by decide +kernel
theorem dX8_mixedQuestion_67 : decode cX8_mixedQuestion 67 = .ok (.iload 6, 2) := by decide +kernel
theorem dX8_mixedQuestion_69 : decode cX8_mixedQuestion 69 = .ok (.iload_n 3, 1) := by decide +kernel
theorem dX8_mixedQuestion_70 : decode cX8_mixedQuestion 70 = .ok (.iconst 1, 1) := by decide +kernel
theorem dX8_mixedQuestion_71 : decode cX8_mixedQuestion 71 = .ok (.invokevirtual 257, 3) := by decide +kernel
theorem dX8_mixedQuestion_74 : decode cX8_mixedQuestion 74 = .ok (.i2l, 1) := by decide +kernel
theorem dX8_mixedQuestion_75 : decode cX8_mixedQuestion 75 = .ok (.invokestatic 240, 3) := by decide +kernel
theorem dX8_mixedQuestion_78 : decode cX8_mixedQuestion 78 = .ok (.lstore 4, 2) := by decide +kernel
theorem dX8_mixedQuestion_80 : decode cX8_mixedQuestion 80 = .ok (.iinc 6 1, 3) := by decide +kernel
theorem dX8_mixedQuestion_83 : decode cX8_mixedQuestion 83 = .ok (.goto (-47), 3) := by decide +kernel
theorem dX8_mixedQuestion_86 : decode cX8_mixedQuestion 86 = .ok (.lload 4, 2) := by decide +kernel
theorem dX8_mixedQuestion_88 : decode cX8_mixedQuestion 88 = .ok (.aload_n 0, 1) := by decide +kernel
theorem dX8_mixedQuestion_89 : decode cX8_mixedQuestion 89 = .ok (.iload_n 3, 1) := by decide +kernel
theorem dX8_mixedQuestion_90 : decode cX8_mixedQuestion 90 = .ok (.iconst 3, 1) := by decide +kernel
theorem dX8_mixedQuestion_91 : decode cX8_mixedQuestion 91 = .ok (.iconst 0, 1) := by decide +kernel
theorem dX8_mixedQuestion_92 : decode cX8_mixedQuestion 92 = .ok (.invokevirtual 260, 3) := by decide +kernel
theorem dX8_mixedQuestion_95 : decode cX8_mixedQuestion 95 = .ok (.i2l, 1) := by decide +kernel
theorem dX8_mixedQuestion_96 : decode cX8_mixedQuestion 96 = .ok (.invokestatic 240, 3) := by decide +kernel
theorem dX8_mixedQuestion_99 : decode cX8_mixedQuestion 99 = .ok (.lstore 4, 2) := by decide +kernel
theorem dX8_mixedQuestion_101 : decode cX8_mixedQuestion 101 = .ok (.lload 4, 2) := by decide +kernel
theorem dX8_mixedQuestion_103 : decode cX8_mixedQuestion 103 = .ok (.aload_n 0, 1) := by decide +kernel
theorem dX8_mixedQuestion_104 : decode cX8_mixedQuestion 104 = .ok (.iload_n 3, 1) := by decide +kernel
theorem dX8_mixedQuestion_105 : decode cX8_mixedQuestion 105 = .ok (.iconst 3, 1) := by decide +kernel
theorem dX8_mixedQuestion_106 : decode cX8_mixedQuestion 106 = .ok (.iconst 1, 1) := by decide +kernel
theorem dX8_mixedQuestion_107 : decode cX8_mixedQuestion 107 = .ok (.invokevirtual 260, 3) := by decide +kernel
theorem dX8_mixedQuestion_110 : decode cX8_mixedQuestion 110 = .ok (.i2l, 1) := by decide +kernel
theorem dX8_mixedQuestion_111 : decode cX8_mixedQuestion 111 = .ok (.invokestatic 240, 3) := by decide +kernel
theorem dX8_mixedQuestion_114 : decode cX8_mixedQuestion 114 = .ok (.lstore 4, 2) := by decide +kernel
theorem dX8_mixedQuestion_116 : decode cX8_mixedQuestion 116 = .ok (.lload 4, 2) := by decide +kernel
theorem dX8_mixedQuestion_118 : decode cX8_mixedQuestion 118 = .ok (.aload_n 0, 1) := by decide +kernel
theorem dX8_mixedQuestion_119 : decode cX8_mixedQuestion 119 = .ok (.iload_n 3, 1) := by decide +kernel
theorem dX8_mixedQuestion_120 : decode cX8_mixedQuestion 120 = .ok (.iconst 1, 1) := by decide +kernel
theorem dX8_mixedQuestion_121 : decode cX8_mixedQuestion 121 = .ok (.iconst 0, 1) := by decide +kernel
theorem dX8_mixedQuestion_122 : decode cX8_mixedQuestion 122 = .ok (.invokevirtual 263, 3) := by decide +kernel
theorem dX8_mixedQuestion_125 : decode cX8_mixedQuestion 125 = .ok (.i2l, 1) := by decide +kernel
theorem dX8_mixedQuestion_126 : decode cX8_mixedQuestion 126 = .ok (.invokestatic 240, 3) := by decide +kernel
theorem dX8_mixedQuestion_129 : decode cX8_mixedQuestion 129 = .ok (.lstore 4, 2) := by decide +kernel
theorem dX8_mixedQuestion_131 : decode cX8_mixedQuestion 131 = .ok (.lload 4, 2) := by decide +kernel
theorem dX8_mixedQuestion_133 : decode cX8_mixedQuestion 133 = .ok (.aload_n 0, 1) := by decide +kernel
theorem dX8_mixedQuestion_134 : decode cX8_mixedQuestion 134 = .ok (.iload_n 3, 1) := by decide +kernel
theorem dX8_mixedQuestion_135 : decode cX8_mixedQuestion 135 = .ok (.iconst 1, 1) := by decide +kernel
theorem dX8_mixedQuestion_136 : decode cX8_mixedQuestion 136 = .ok (.iconst 1, 1) := by decide +kernel
theorem dX8_mixedQuestion_137 : decode cX8_mixedQuestion 137 = .ok (.invokevirtual 263, 3) := by decide +kernel
theorem dX8_mixedQuestion_140 : decode cX8_mixedQuestion 140 = .ok (.i2l, 1) := by decide +kernel
theorem dX8_mixedQuestion_141 : decode cX8_mixedQuestion 141 = .ok (.invokestatic 240, 3) := by decide +kernel
theorem dX8_mixedQuestion_144 : decode cX8_mixedQuestion 144 = .ok (.lreturn, 1) := by decide +kernel
theorem dX8_mixed_0 : decode cX8_mixed 0 = .ok (.ldc2_w 266, 3) := by decide +kernel
theorem dX8_mixed_3 : decode cX8_mixed 3 = .ok (.lload_n 0, 1) := by decide +kernel
theorem dX8_mixed_4 : decode cX8_mixed 4 = .ok (.lmul, 1) := by decide +kernel
theorem dX8_mixed_5 : decode cX8_mixed 5 = .ok (.lload_n 2, 1) := by decide +kernel
theorem dX8_mixed_6 : decode cX8_mixed 6 = .ok (.ladd, 1) := by decide +kernel
theorem dX8_mixed_7 : decode cX8_mixed 7 = .ok (.lreturn, 1) := by decide +kernel
theorem dX8_isQuestion_0 : decode cX8_isQuestion 0 = .ok (.aload_n 0, 1) := by decide +kernel
theorem dX8_isQuestion_1 : decode cX8_isQuestion 1 = .ok (.getfield 19, 3) := by decide +kernel
theorem dX8_isQuestion_4 : decode cX8_isQuestion 4 = .ok (.getfield 68, 3) := by decide +kernel
theorem dX8_isQuestion_7 : decode cX8_isQuestion 7 = .ok (.ifCond .le 16, 3) := by decide +kernel
theorem dX8_isQuestion_10 : decode cX8_isQuestion 10 = .ok (.iload_n 1, 1) := by decide +kernel
theorem dX8_isQuestion_11 : decode cX8_isQuestion 11 = .ok (.ifCond .lt 12, 3) := by decide +kernel
theorem dX8_isQuestion_14 : decode cX8_isQuestion 14 = .ok (.iload_n 1, 1) := by decide +kernel
theorem dX8_isQuestion_15 : decode cX8_isQuestion 15 = .ok (.iconst 3, 1) := by decide +kernel
theorem dX8_isQuestion_16 : decode cX8_isQuestion 16 = .ok (.if_icmp .ge 7, 3) := by decide +kernel
theorem dX8_isQuestion_19 : decode cX8_isQuestion 19 = .ok (.iconst 1, 1) := by decide +kernel
theorem dX8_isQuestion_20 : decode cX8_isQuestion 20 = .ok (.goto 4, 3) := by decide +kernel
theorem dX8_isQuestion_23 : decode cX8_isQuestion 23 = .ok (.iconst 0, 1) := by decide +kernel
theorem dX8_isQuestion_24 : decode cX8_isQuestion 24 = .ok (.ireturn, 1) := by decide +kernel
theorem dX8_isWay_0 : decode cX8_isWay 0 = .ok (.iload_n 0, 1) := by decide +kernel
theorem dX8_isWay_1 : decode cX8_isWay 1 = .ok (.iconst (-1), 1) := by decide +kernel
theorem dX8_isWay_2 : decode cX8_isWay 2 = .ok (.if_icmp .lt 12, 3) := by decide +kernel
theorem dX8_isWay_5 : decode cX8_isWay 5 = .ok (.iload_n 0, 1) := by decide +kernel
theorem dX8_isWay_6 : decode cX8_isWay 6 = .ok (.iconst 1, 1) := by decide +kernel
theorem dX8_isWay_7 : decode cX8_isWay 7 = .ok (.if_icmp .gt 7, 3) := by decide +kernel
theorem dX8_isWay_10 : decode cX8_isWay 10 = .ok (.iconst 1, 1) := by decide +kernel
theorem dX8_isWay_11 : decode cX8_isWay 11 = .ok (.goto 4, 3) := by decide +kernel
theorem dX8_isWay_14 : decode cX8_isWay 14 = .ok (.iconst 0, 1) := by decide +kernel
theorem dX8_isWay_15 : decode cX8_isWay 15 = .ok (.ireturn, 1) := by decide +kernel
theorem dX8_isHalf_0 : decode cX8_isHalf 0 = .ok (.iload_n 0, 1) := by decide +kernel
theorem dX8_isHalf_1 : decode cX8_isHalf 1 = .ok (.ifCond .eq 8, 3) := by decide +kernel
theorem dX8_isHalf_4 : decode cX8_isHalf 4 = .ok (.iload_n 0, 1) := by decide +kernel
theorem dX8_isHalf_5 : decode cX8_isHalf 5 = .ok (.iconst 1, 1) := by decide +kernel
theorem dX8_isHalf_6 : decode cX8_isHalf 6 = .ok (.if_icmp .ne 7, 3) := by decide +kernel
theorem dX8_isHalf_9 : decode cX8_isHalf 9 = .ok (.iconst 1, 1) := by decide +kernel
theorem dX8_isHalf_10 : decode cX8_isHalf 10 = .ok (.goto 4, 3) := by decide +kernel
theorem dX8_isHalf_13 : decode cX8_isHalf 13 = .ok (.iconst 0, 1) := by decide +kernel
theorem dX8_isHalf_14 : decode cX8_isHalf 14 = .ok (.ireturn, 1) := by decide +kernel
theorem dX8_totalOf_0 : decode cX8_totalOf 0 = .ok (.iconst 0, 1) := by decide +kernel
theorem dX8_totalOf_1 : decode cX8_totalOf 1 = .ok (.istore_n 1, 1) := by decide +kernel
theorem dX8_totalOf_2 : decode cX8_totalOf 2 = .ok (.aload_n 0, 1) := by decide +kernel
theorem dX8_totalOf_3 : decode cX8_totalOf 3 = .ok (.astore_n 2, 1) := by decide +kernel
theorem dX8_totalOf_4 : decode cX8_totalOf 4 = .ok (.aload_n 2, 1) := by decide +kernel
theorem dX8_totalOf_5 : decode cX8_totalOf 5 = .ok (.arraylength, 1) := by decide +kernel
theorem dX8_totalOf_6 : decode cX8_totalOf 6 = .ok (.istore_n 3, 1) := by decide +kernel
theorem dX8_totalOf_7 : decode cX8_totalOf 7 = .ok (.iconst 0, 1) := by decide +kernel
theorem dX8_totalOf_8 : decode cX8_totalOf 8 = .ok (.istore 4, 2) := by decide +kernel
theorem dX8_totalOf_10 : decode cX8_totalOf 10 = .ok (.iload 4, 2) := by decide +kernel
theorem dX8_totalOf_12 : decode cX8_totalOf 12 = .ok (.iload_n 3, 1) := by decide +kernel
theorem dX8_totalOf_13 : decode cX8_totalOf 13 = .ok (.if_icmp .ge 20, 3) := by decide +kernel
theorem dX8_totalOf_16 : decode cX8_totalOf 16 = .ok (.aload_n 2, 1) := by decide +kernel
theorem dX8_totalOf_17 : decode cX8_totalOf 17 = .ok (.iload 4, 2) := by decide +kernel
theorem dX8_totalOf_19 : decode cX8_totalOf 19 = .ok (.iaload, 1) := by decide +kernel
theorem dX8_totalOf_20 : decode cX8_totalOf 20 = .ok (.istore 5, 2) := by decide +kernel
theorem dX8_totalOf_22 : decode cX8_totalOf 22 = .ok (.iload_n 1, 1) := by decide +kernel
theorem dX8_totalOf_23 : decode cX8_totalOf 23 = .ok (.iload 5, 2) := by decide +kernel
theorem dX8_totalOf_25 : decode cX8_totalOf 25 = .ok (.iadd, 1) := by decide +kernel
theorem dX8_totalOf_26 : decode cX8_totalOf 26 = .ok (.istore_n 1, 1) := by decide +kernel
theorem dX8_totalOf_27 : decode cX8_totalOf 27 = .ok (.iinc 4 1, 3) := by decide +kernel
theorem dX8_totalOf_30 : decode cX8_totalOf 30 = .ok (.goto (-20), 3) := by decide +kernel
theorem dX8_totalOf_33 : decode cX8_totalOf 33 = .ok (.iload_n 1, 1) := by decide +kernel
theorem dX8_totalOf_34 : decode cX8_totalOf 34 = .ok (.ireturn, 1) := by decide +kernel
theorem dX8_howManyLean_0 : decode cX8_howManyLean 0 = .ok (.iconst 0, 1) := by decide +kernel
theorem dX8_howManyLean_1 : decode cX8_howManyLean 1 = .ok (.istore_n 3, 1) := by decide +kernel
theorem dX8_howManyLean_2 : decode cX8_howManyLean 2 = .ok (.iconst 0, 1) := by decide +kernel
theorem dX8_howManyLean_3 : decode cX8_howManyLean 3 = .ok (.istore 4, 2) := by decide +kernel
theorem dX8_howManyLean_5 : decode cX8_howManyLean 5 = .ok (.iload 4, 2) := by decide +kernel
theorem dX8_howManyLean_7 : decode cX8_howManyLean 7 = .ok (.aload_n 0, 1) := by decide +kernel
theorem dX8_howManyLean_8 : decode cX8_howManyLean 8 = .ok (.getfield 19, 3) := by decide +kernel
theorem dX8_howManyLean_11 : decode cX8_howManyLean 11 = .ok (.getfield 68, 3) := by decide +kernel
theorem dX8_howManyLean_14 : decode cX8_howManyLean 14 = .ok (.if_icmp .ge 28, 3) := by decide +kernel
theorem dX8_howManyLean_17 : decode cX8_howManyLean 17 = .ok (.aload_n 0, 1) := by decide +kernel
theorem dX8_howManyLean_18 : decode cX8_howManyLean 18 = .ok (.getfield 26, 3) := by decide +kernel
theorem dX8_howManyLean_21 : decode cX8_howManyLean 21 = .ok (.getfield 85, 3) := by decide +kernel
theorem dX8_howManyLean_24 : decode cX8_howManyLean 24 = .ok (.iload_n 1, 1) := by decide +kernel
theorem dX8_howManyLean_25 : decode cX8_howManyLean 25 = .ok (.aaload, 1) := by decide +kernel
theorem dX8_howManyLean_26 : decode cX8_howManyLean 26 = .ok (.iload 4, 2) := by decide +kernel
theorem dX8_howManyLean_28 : decode cX8_howManyLean 28 = .ok (.iaload, 1) := by decide +kernel
theorem dX8_howManyLean_29 : decode cX8_howManyLean 29 = .ok (.iload_n 2, 1) := by decide +kernel
theorem dX8_howManyLean_30 : decode cX8_howManyLean 30 = .ok (.if_icmp .ne 6, 3) := by decide +kernel
theorem dX8_howManyLean_33 : decode cX8_howManyLean 33 = .ok (.iinc 3 1, 3) := by decide +kernel
theorem dX8_howManyLean_36 : decode cX8_howManyLean 36 = .ok (.iinc 4 1, 3) := by decide +kernel
theorem dX8_howManyLean_39 : decode cX8_howManyLean 39 = .ok (.goto (-34), 3) := by decide +kernel
theorem dX8_howManyLean_42 : decode cX8_howManyLean 42 = .ok (.iload_n 3, 1) := by decide +kernel
theorem dX8_howManyLean_43 : decode cX8_howManyLean 43 = .ok (.ireturn, 1) := by decide +kernel
theorem dX8_howManyCarriedNow_0 : decode cX8_howManyCarriedNow 0 = .ok (.iconst 0, 1) := by decide +kernel
theorem dX8_howManyCarriedNow_1 : decode cX8_howManyCarriedNow 1 = .ok (.istore_n 1, 1) := by decide +kernel
theorem dX8_howManyCarriedNow_2 : decode cX8_howManyCarriedNow 2 = .ok (.iconst 0, 1) := by decide +kernel
theorem dX8_howManyCarriedNow_3 : decode cX8_howManyCarriedNow 3 = .ok (.istore_n 2, 1) := by decide +kernel
theorem dX8_howManyCarriedNow_4 : decode cX8_howManyCarriedNow 4 = .ok (.iload_n 2, 1) := by decide +kernel
theorem dX8_howManyCarriedNow_5 : decode cX8_howManyCarriedNow 5 = .ok (.iconst 3, 1) := by decide +kernel
theorem dX8_howManyCarriedNow_6 : decode cX8_howManyCarriedNow 6 = .ok (.if_icmp .ge 27, 3) := by decide +kernel
theorem dX8_howManyCarriedNow_9 : decode cX8_howManyCarriedNow 9 = .ok (.aload_n 0, 1) := by decide +kernel
theorem dX8_howManyCarriedNow_10 : decode cX8_howManyCarriedNow 10 = .ok (.getfield 19, 3) := by decide +kernel
theorem dX8_howManyCarriedNow_13 : decode cX8_howManyCarriedNow 13 = .ok (.aload_n 0, 1) := by decide +kernel
theorem dX8_howManyCarriedNow_14 : decode cX8_howManyCarriedNow 14 = .ok (.getfield 26, 3) := by decide +kernel
theorem dX8_howManyCarriedNow_17 : decode cX8_howManyCarriedNow 17 = .ok (.iload_n 2, 1) := by decide +kernel
theorem dX8_howManyCarriedNow_18 : decode cX8_howManyCarriedNow 18 = .ok (.invokevirtual 143, 3) := by decide +kernel
theorem dX8_howManyCarriedNow_21 : decode cX8_howManyCarriedNow 21 = .ok (.ifCond .le 6, 3) := by decide +kernel
theorem dX8_howManyCarriedNow_24 : decode cX8_howManyCarriedNow 24 = .ok (.iinc 1 1, 3) := by decide +kernel
theorem dX8_howManyCarriedNow_27 : decode cX8_howManyCarriedNow 27 = .ok (.iinc 2 1, 3) := by decide +kernel
theorem dX8_howManyCarriedNow_30 : decode cX8_howManyCarriedNow 30 = .ok (.goto (-26), 3) := by decide +kernel
theorem dX8_howManyCarriedNow_33 : decode cX8_howManyCarriedNow 33 = .ok (.iload_n 1, 1) := by decide +kernel
theorem dX8_howManyCarriedNow_34 : decode cX8_howManyCarriedNow 34 = .ok (.ireturn, 1) := by decide +kernel
theorem dX8_outcomeOf_0 : decode cX8_outcomeOf 0 = .ok (.iload_n 0, 1) := by decide +kernel
theorem dX8_outcomeOf_1 : decode cX8_outcomeOf 1 = .ok (.ifCond .le 5, 3) := by decide +kernel
theorem dX8_outcomeOf_4 : decode cX8_outcomeOf 4 = .ok (.iconst 1, 1) := by decide +kernel
theorem dX8_outcomeOf_5 : decode cX8_outcomeOf 5 = .ok (.ireturn, 1) := by decide +kernel
theorem dX8_outcomeOf_6 : decode cX8_outcomeOf 6 = .ok (.iload_n 0, 1) := by decide +kernel
theorem dX8_outcomeOf_7 : decode cX8_outcomeOf 7 = .ok (.ifCond .ge 7, 3) := by decide +kernel
theorem dX8_outcomeOf_10 : decode cX8_outcomeOf 10 = .ok (.iconst (-1), 1) := by decide +kernel
theorem dX8_outcomeOf_11 : decode cX8_outcomeOf 11 = .ok (.goto 4, 3) := by decide +kernel
theorem dX8_outcomeOf_14 : decode cX8_outcomeOf 14 = .ok (.iconst 0, 1) := by decide +kernel
theorem dX8_outcomeOf_15 : decode cX8_outcomeOf 15 = .ok (.ireturn, 1) := by decide +kernel
theorem dX8_isOfKind_0 : decode cX8_isOfKind 0 = .ok (.iload_n 1, 1) := by decide +kernel
theorem dX8_isOfKind_1 : decode cX8_isOfKind 1 = .ok (.tableswitch 48 0 3 #[31, 33, 38, 43], 31) := by decide +kernel
theorem dX8_isOfKind_32 : decode cX8_isOfKind 32 = .ok (.iconst 1, 1) := by decide +kernel
theorem dX8_isOfKind_33 : decode cX8_isOfKind 33 = .ok (.ireturn, 1) := by decide +kernel
theorem dX8_isOfKind_34 : decode cX8_isOfKind 34 = .ok (.aload_n 0, 1) := by decide +kernel
theorem dX8_isOfKind_35 : decode cX8_isOfKind 35 = .ok (.instanceof 268, 3) := by decide +kernel
theorem dX8_isOfKind_38 : decode cX8_isOfKind 38 = .ok (.ireturn, 1) := by decide +kernel
theorem dX8_isOfKind_39 : decode cX8_isOfKind 39 = .ok (.aload_n 0, 1) := by decide +kernel
theorem dX8_isOfKind_40 : decode cX8_isOfKind 40 = .ok (.instanceof 270, 3) := by decide +kernel
theorem dX8_isOfKind_43 : decode cX8_isOfKind 43 = .ok (.ireturn, 1) := by decide +kernel
theorem dX8_isOfKind_44 : decode cX8_isOfKind 44 = .ok (.aload_n 0, 1) := by decide +kernel
theorem dX8_isOfKind_45 : decode cX8_isOfKind 45 = .ok (.instanceof 272, 3) := by decide +kernel
theorem dX8_isOfKind_48 : decode cX8_isOfKind 48 = .ok (.ireturn, 1) := by decide +kernel
theorem dX8_isOfKind_49 : decode cX8_isOfKind 49 = .ok (.aload_n 0, 1) := by decide +kernel
theorem dX8_isOfKind_50 : decode cX8_isOfKind 50 = .ok (.instanceof 274, 3) := by decide +kernel
theorem dX8_isOfKind_53 : decode cX8_isOfKind 53 = .ok (.ireturn, 1) := by decide +kernel
theorem dX8_ordersDecided_0 : decode cX8_ordersDecided 0 = .ok (.iload_n 1, 1) := by decide +kernel
theorem dX8_ordersDecided_1 : decode cX8_ordersDecided 1 = .ok (.iload_n 3, 1) := by decide +kernel
theorem dX8_ordersDecided_2 : decode cX8_ordersDecided 2 = .ok (.if_icmp .lt 5, 3) := by decide +kernel
theorem dX8_ordersDecided_5 : decode cX8_ordersDecided 5 = .ok (.iconst 0, 1) := by decide +kernel
theorem dX8_ordersDecided_6 : decode cX8_ordersDecided 6 = .ok (.ireturn, 1) := by decide +kernel
theorem dX8_ordersDecided_7 : decode cX8_ordersDecided 7 = .ok (.aload_n 0, 1) := by decide +kernel
theorem dX8_ordersDecided_8 : decode cX8_ordersDecided 8 = .ok (.iload_n 2, 1) := by decide +kernel
theorem dX8_ordersDecided_9 : decode cX8_ordersDecided 9 = .ok (.iload_n 3, 1) := by decide +kernel
theorem dX8_ordersDecided_10 : decode cX8_ordersDecided 10 = .ok (.iconst 1, 1) := by decide +kernel
theorem dX8_ordersDecided_11 : decode cX8_ordersDecided 11 = .ok (.invokevirtual 276, 3) := by decide +kernel
theorem dX8_ordersDecided_14 : decode cX8_ordersDecided 14 = .ok (.aload_n 0, 1) := by decide +kernel
theorem dX8_ordersDecided_15 : decode cX8_ordersDecided 15 = .ok (.getfield 36, 3) := by decide +kernel
theorem dX8_ordersDecided_18 : decode cX8_ordersDecided 18 = .ok (.iconst 1, 1) := by decide +kernel
theorem dX8_ordersDecided_19 : decode cX8_ordersDecided 19 = .ok (.iload_n 1, 1) := by decide +kernel
theorem dX8_ordersDecided_20 : decode cX8_ordersDecided 20 = .ok (.ishl, 1) := by decide +kernel
theorem dX8_ordersDecided_21 : decode cX8_ordersDecided 21 = .ok (.iaload, 1) := by decide +kernel
theorem dX8_ordersDecided_22 : decode cX8_ordersDecided 22 = .ok (.istore 4, 2) := by decide +kernel
theorem dX8_ordersDecided_24 : decode cX8_ordersDecided 24 = .ok (.aload_n 0, 1) := by decide +kernel
theorem dX8_ordersDecided_25 : decode cX8_ordersDecided 25 = .ok (.getfield 36, 3) := by decide +kernel
theorem dX8_ordersDecided_28 : decode cX8_ordersDecided 28 = .ok (.iconst 1, 1) := by decide +kernel
theorem dX8_ordersDecided_29 : decode cX8_ordersDecided 29 = .ok (.iload_n 3, 1) := by decide +kernel
theorem dX8_ordersDecided_30 : decode cX8_ordersDecided 30 = .ok (.ishl, 1) := by decide +kernel
theorem dX8_ordersDecided_31 : decode cX8_ordersDecided 31 = .ok (.iconst 1, 1) := by decide +kernel
theorem dX8_ordersDecided_32 : decode cX8_ordersDecided 32 = .ok (.isub, 1) := by decide +kernel
theorem dX8_ordersDecided_33 : decode cX8_ordersDecided 33 = .ok (.iaload, 1) := by decide +kernel
theorem dX8_ordersDecided_34 : decode cX8_ordersDecided 34 = .ok (.istore 5, 2) := by decide +kernel
theorem dX8_ordersDecided_36 : decode cX8_ordersDecided 36 = .ok (.iconst 0, 1) := by decide +kernel
theorem dX8_ordersDecided_37 : decode cX8_ordersDecided 37 = .ok (.istore 6, 2) := by decide +kernel
theorem dX8_ordersDecided_39 : decode cX8_ordersDecided 39 = .ok (.iconst 0, 1) := by decide +kernel
theorem dX8_ordersDecided_40 : decode cX8_ordersDecided 40 = .ok (.istore 7, 2) := by decide +kernel
theorem dX8_ordersDecided_42 : decode cX8_ordersDecided 42 = .ok (.iload 7, 2) := by decide +kernel
theorem dX8_ordersDecided_44 : decode cX8_ordersDecided 44 = .ok (.iconst 1, 1) := by decide +kernel
theorem dX8_ordersDecided_45 : decode cX8_ordersDecided 45 = .ok (.iload_n 3, 1) := by decide +kernel
theorem dX8_ordersDecided_46 : decode cX8_ordersDecided 46 = .ok (.ishl, 1) := by decide +kernel
theorem dX8_ordersDecided_47 : decode cX8_ordersDecided 47 = .ok (.if_icmp .ge 89, 3) := by decide +kernel
theorem dX8_ordersDecided_50 : decode cX8_ordersDecided 50 = .ok (.iload 7, 2) := by decide +kernel
theorem dX8_ordersDecided_52 : decode cX8_ordersDecided 52 = .ok (.iload_n 1, 1) := by decide +kernel
theorem dX8_ordersDecided_53 : decode cX8_ordersDecided 53 = .ok (.ishr, 1) := by decide +kernel
theorem dX8_ordersDecided_54 : decode cX8_ordersDecided 54 = .ok (.iconst 1, 1) := by decide +kernel
theorem dX8_ordersDecided_55 : decode cX8_ordersDecided 55 = .ok (.iand, 1) := by decide +kernel
theorem dX8_ordersDecided_56 : decode cX8_ordersDecided 56 = .ok (.ifCond .ne 7, 3) := by decide +kernel
theorem dX8_ordersDecided_59 : decode cX8_ordersDecided 59 = .ok (.iconst 1, 1) := by decide +kernel
theorem dX8_ordersDecided_60 : decode cX8_ordersDecided 60 = .ok (.goto 4, 3) := by decide +kernel
theorem dX8_ordersDecided_63 : decode cX8_ordersDecided 63 = .ok (.iconst 0, 1) := by decide +kernel
theorem dX8_ordersDecided_64 : decode cX8_ordersDecided 64 = .ok (.istore 8, 2) := by decide +kernel
theorem dX8_ordersDecided_66 : decode cX8_ordersDecided 66 = .ok (.aload_n 0, 1) := by decide +kernel
theorem dX8_ordersDecided_67 : decode cX8_ordersDecided 67 = .ok (.getfield 36, 3) := by decide +kernel
theorem dX8_ordersDecided_70 : decode cX8_ordersDecided 70 = .ok (.iload 7, 2) := by decide +kernel
theorem dX8_ordersDecided_72 : decode cX8_ordersDecided 72 = .ok (.iaload, 1) := by decide +kernel
theorem dX8_ordersDecided_73 : decode cX8_ordersDecided 73 = .ok (.istore 9, 2) := by decide +kernel
theorem dX8_ordersDecided_75 : decode cX8_ordersDecided 75 = .ok (.iload 8, 2) := by decide +kernel
theorem dX8_ordersDecided_77 : decode cX8_ordersDecided 77 = .ok (.ifCond .eq 53, 3) := by decide +kernel
theorem dX8_ordersDecided_80 : decode cX8_ordersDecided 80 = .ok (.iconst 2, 1) := by decide +kernel
theorem dX8_ordersDecided_81 : decode cX8_ordersDecided 81 = .ok (.iload 9, 2) := by decide +kernel
theorem dX8_ordersDecided_83 : decode cX8_ordersDecided 83 = .ok (.imul, 1) := by decide +kernel
theorem dX8_ordersDecided_84 : decode cX8_ordersDecided 84 = .ok (.iload 5, 2) := by decide +kernel
theorem dX8_ordersDecided_86 : decode cX8_ordersDecided 86 = .ok (.if_icmp .gt 44, 3) := by decide +kernel
theorem dX8_ordersDecided_89 : decode cX8_ordersDecided 89 = .ok (.iconst 2, 1) := by decide +kernel
theorem dX8_ordersDecided_90 : decode cX8_ordersDecided 90 = .ok (.iload 9, 2) := by decide +kernel
theorem dX8_ordersDecided_92 : decode cX8_ordersDecided 92 = .ok (.iload 4, 2) := by decide +kernel
theorem dX8_ordersDecided_94 : decode cX8_ordersDecided 94 = .ok (.iadd, 1) := by decide +kernel
theorem dX8_ordersDecided_95 : decode cX8_ordersDecided 95 = .ok (.imul, 1) := by decide +kernel
theorem dX8_ordersDecided_96 : decode cX8_ordersDecided 96 = .ok (.iload 5, 2) := by decide +kernel
theorem dX8_ordersDecided_98 : decode cX8_ordersDecided 98 = .ok (.if_icmp .le 32, 3) := by decide +kernel
theorem dX8_ordersDecided_101 : decode cX8_ordersDecided 101 = .ok (.iload 7, 2) := by decide +kernel
theorem dX8_ordersDecided_103 : decode cX8_ordersDecided 103 = .ok (.invokestatic 280, 3) := by decide +kernel
theorem dX8_ordersDecided_106 : decode cX8_ordersDecided 106 = .ok (.istore 10, 2) := by decide +kernel
theorem dX8_ordersDecided_108 : decode cX8_ordersDecided 108 = .ok (.iload 6, 2) := by decide +kernel
theorem dX8_ordersDecided_110 : decode cX8_ordersDecided 110 = .ok (.getstatic 176, 3) := by decide +kernel
theorem dX8_ordersDecided_113 : decode cX8_ordersDecided 113 = .ok (.iload 10, 2) := by decide +kernel
theorem dX8_ordersDecided_115 : decode cX8_ordersDecided 115 = .ok (.iaload, 1) := by decide +kernel
theorem dX8_ordersDecided_116 : decode cX8_ordersDecided 116 = .ok (.getstatic 176, 3) := by decide +kernel
theorem dX8_ordersDecided_119 : decode cX8_ordersDecided 119 = .ok (.iload_n 3, 1) := by decide +kernel
theorem dX8_ordersDecided_120 : decode cX8_ordersDecided 120 = .ok (.iconst 1, 1) := by decide +kernel
theorem dX8_ordersDecided_121 : decode cX8_ordersDecided 121 = .ok (.isub, 1) := by decide +kernel
theorem dX8_ordersDecided_122 : decode cX8_ordersDecided 122 = .ok (.iload 10, 2) := by decide +kernel
theorem dX8_ordersDecided_124 : decode cX8_ordersDecided 124 = .ok (.isub, 1) := by decide +kernel
theorem dX8_ordersDecided_125 : decode cX8_ordersDecided 125 = .ok (.iaload, 1) := by decide +kernel
theorem dX8_ordersDecided_126 : decode cX8_ordersDecided 126 = .ok (.imul, 1) := by decide +kernel
theorem dX8_ordersDecided_127 : decode cX8_ordersDecided 127 = .ok (.iadd, 1) := by decide +kernel
theorem dX8_ordersDecided_128 : decode cX8_ordersDecided 128 = .ok (.istore 6, 2) := by decide +kernel
theorem dX8_ordersDecided_130 : decode cX8_ordersDecided 130 = .ok (.iinc 7 1, 3) := by decide +kernel
theorem dX8_ordersDecided_133 : decode cX8_ordersDecided 133 = .ok (.goto (-91), 3) := by decide +kernel
theorem dX8_ordersDecided_136 : decode cX8_ordersDecided 136 = .ok (.iload 6, 2) := by decide +kernel
theorem dX8_ordersDecided_138 : decode cX8_ordersDecided 138 = .ok (.ireturn, 1) := by decide +kernel
theorem dX8_partsCarried_0 : decode cX8_partsCarried 0 = .ok (.aload_n 0, 1) := by decide +kernel
theorem dX8_partsCarried_1 : decode cX8_partsCarried 1 = .ok (.iload_n 1, 1) := by decide +kernel
theorem dX8_partsCarried_2 : decode cX8_partsCarried 2 = .ok (.iload_n 3, 1) := by decide +kernel
theorem dX8_partsCarried_3 : decode cX8_partsCarried 3 = .ok (.iconst 0, 1) := by decide +kernel
theorem dX8_partsCarried_4 : decode cX8_partsCarried 4 = .ok (.invokevirtual 276, 3) := by decide +kernel
theorem dX8_partsCarried_7 : decode cX8_partsCarried 7 = .ok (.iconst 0, 1) := by decide +kernel
theorem dX8_partsCarried_8 : decode cX8_partsCarried 8 = .ok (.istore 4, 2) := by decide +kernel
theorem dX8_partsCarried_10 : decode cX8_partsCarried 10 = .ok (.iload 4, 2) := by decide +kernel
theorem dX8_partsCarried_12 : decode cX8_partsCarried 12 = .ok (.iload_n 3, 1) := by decide +kernel
theorem dX8_partsCarried_13 : decode cX8_partsCarried 13 = .ok (.if_icmp .gt 17, 3) := by decide +kernel
theorem dX8_partsCarried_16 : decode cX8_partsCarried 16 = .ok (.aload_n 0, 1) := by decide +kernel
theorem dX8_partsCarried_17 : decode cX8_partsCarried 17 = .ok (.getfield 40, 3) := by decide +kernel
theorem dX8_partsCarried_20 : decode cX8_partsCarried 20 = .ok (.iload 4, 2) := by decide +kernel
theorem dX8_partsCarried_22 : decode cX8_partsCarried 22 = .ok (.iconst 0, 1) := by decide +kernel
theorem dX8_partsCarried_23 : decode cX8_partsCarried 23 = .ok (.iastore, 1) := by decide +kernel
theorem dX8_partsCarried_24 : decode cX8_partsCarried 24 = .ok (.iinc 4 1, 3) := by decide +kernel
theorem dX8_partsCarried_27 : decode cX8_partsCarried 27 = .ok (.goto (-17), 3) := by decide +kernel
theorem dX8_partsCarried_30 : decode cX8_partsCarried 30 = .ok (.iconst 0, 1) := by decide +kernel
theorem dX8_partsCarried_31 : decode cX8_partsCarried 31 = .ok (.istore 4, 2) := by decide +kernel
theorem dX8_partsCarried_33 : decode cX8_partsCarried 33 = .ok (.iload 4, 2) := by decide +kernel
theorem dX8_partsCarried_35 : decode cX8_partsCarried 35 = .ok (.iconst 1, 1) := by decide +kernel
theorem dX8_partsCarried_36 : decode cX8_partsCarried 36 = .ok (.iload_n 3, 1) := by decide +kernel
theorem dX8_partsCarried_37 : decode cX8_partsCarried 37 = .ok (.ishl, 1) := by decide +kernel
theorem dX8_partsCarried_38 : decode cX8_partsCarried 38 = .ok (.if_icmp .ge 33, 3) := by decide +kernel
theorem dX8_partsCarried_41 : decode cX8_partsCarried 41 = .ok (.aload_n 0, 1) := by decide +kernel
theorem dX8_partsCarried_42 : decode cX8_partsCarried 42 = .ok (.getfield 36, 3) := by decide +kernel
theorem dX8_partsCarried_45 : decode cX8_partsCarried 45 = .ok (.iload 4, 2) := by decide +kernel
theorem dX8_partsCarried_47 : decode cX8_partsCarried 47 = .ok (.iaload, 1) := by decide +kernel
theorem dX8_partsCarried_48 : decode cX8_partsCarried 48 = .ok (.ifCond .le 17, 3) := by decide +kernel
theorem dX8_partsCarried_51 : decode cX8_partsCarried 51 = .ok (.aload_n 0, 1) := by decide +kernel
theorem dX8_partsCarried_52 : decode cX8_partsCarried 52 = .ok (.getfield 40, 3) := by decide +kernel
theorem dX8_partsCarried_55 : decode cX8_partsCarried 55 = .ok (.iload 4, 2) := by decide +kernel
theorem dX8_partsCarried_57 : decode cX8_partsCarried 57 = .ok (.invokestatic 280, 3) := by decide +kernel
theorem dX8_partsCarried_60 : decode cX8_partsCarried 60 = .ok (.dup2, 1) := by decide +kernel
theorem dX8_partsCarried_61 : decode cX8_partsCarried 61 = .ok (.iaload, 1) := by decide +kernel
theorem dX8_partsCarried_62 : decode cX8_partsCarried 62 = .ok (.iconst 1, 1) := by decide +kernel
theorem dX8_partsCarried_63 : decode cX8_partsCarried 63 = .ok (.iadd, 1) := by decide +kernel
theorem dX8_partsCarried_64 : decode cX8_partsCarried 64 = .ok (.iastore, 1) := by decide +kernel
theorem dX8_partsCarried_65 : decode cX8_partsCarried 65 = .ok (.iinc 4 1, 3) := by decide +kernel
theorem dX8_partsCarried_68 : decode cX8_partsCarried 68 = .ok (.goto (-35), 3) := by decide +kernel
theorem dX8_partsCarried_71 : decode cX8_partsCarried 71 = .ok (.iconst 0, 1) := by decide +kernel
theorem dX8_partsCarried_72 : decode cX8_partsCarried 72 = .ok (.istore 4, 2) := by decide +kernel
theorem dX8_partsCarried_74 : decode cX8_partsCarried 74 = .ok (.iconst 0, 1) := by decide +kernel
theorem dX8_partsCarried_75 : decode cX8_partsCarried 75 = .ok (.istore 5, 2) := by decide +kernel
theorem dX8_partsCarried_77 : decode cX8_partsCarried 77 = .ok (.iload 5, 2) := by decide +kernel
theorem dX8_partsCarried_79 : decode cX8_partsCarried 79 = .ok (.iload_n 3, 1) := by decide +kernel
theorem dX8_partsCarried_80 : decode cX8_partsCarried 80 = .ok (.if_icmp .gt 40, 3) := by decide +kernel
theorem dX8_partsCarried_83 : decode cX8_partsCarried 83 = .ok (.iload 4, 2) := by decide +kernel
theorem dX8_partsCarried_85 : decode cX8_partsCarried 85 = .ok (.aload_n 0, 1) := by decide +kernel
theorem dX8_partsCarried_86 : decode cX8_partsCarried 86 = .ok (.getfield 40, 3) := by decide +kernel
theorem dX8_partsCarried_89 : decode cX8_partsCarried 89 = .ok (.iload 5, 2) := by decide +kernel
theorem dX8_partsCarried_91 : decode cX8_partsCarried 91 = .ok (.iaload, 1) := by decide +kernel
theorem dX8_partsCarried_92 : decode cX8_partsCarried 92 = .ok (.bipush 10, 2) := by decide +kernel
theorem dX8_partsCarried_94 : decode cX8_partsCarried 94 = .ok (.iload_n 2, 1) := by decide +kernel
theorem dX8_partsCarried_95 : decode cX8_partsCarried 95 = .ok (.isub, 1) := by decide +kernel
theorem dX8_partsCarried_96 : decode cX8_partsCarried 96 = .ok (.iload 5, 2) := by decide +kernel
theorem dX8_partsCarried_98 : decode cX8_partsCarried 98 = .ok (.invokestatic 185, 3) := by decide +kernel
theorem dX8_partsCarried_101 : decode cX8_partsCarried 101 = .ok (.imul, 1) := by decide +kernel
theorem dX8_partsCarried_102 : decode cX8_partsCarried 102 = .ok (.iload_n 2, 1) := by decide +kernel
theorem dX8_partsCarried_103 : decode cX8_partsCarried 103 = .ok (.iload_n 3, 1) := by decide +kernel
theorem dX8_partsCarried_104 : decode cX8_partsCarried 104 = .ok (.iload 5, 2) := by decide +kernel
theorem dX8_partsCarried_106 : decode cX8_partsCarried 106 = .ok (.isub, 1) := by decide +kernel
theorem dX8_partsCarried_107 : decode cX8_partsCarried 107 = .ok (.invokestatic 185, 3) := by decide +kernel
theorem dX8_partsCarried_110 : decode cX8_partsCarried 110 = .ok (.imul, 1) := by decide +kernel
theorem dX8_partsCarried_111 : decode cX8_partsCarried 111 = .ok (.iadd, 1) := by decide +kernel
theorem dX8_partsCarried_112 : decode cX8_partsCarried 112 = .ok (.istore 4, 2) := by decide +kernel
theorem dX8_partsCarried_114 : decode cX8_partsCarried 114 = .ok (.iinc 5 1, 3) := by decide +kernel
theorem dX8_partsCarried_117 : decode cX8_partsCarried 117 = .ok (.goto (-40), 3) := by decide +kernel
theorem dX8_partsCarried_120 : decode cX8_partsCarried 120 = .ok (.iload 4, 2) := by decide +kernel
theorem dX8_partsCarried_122 : decode cX8_partsCarried 122 = .ok (.ireturn, 1) := by decide +kernel
theorem dX8_fillSubsetSums_0 : decode cX8_fillSubsetSums 0 = .ok (.aload_n 0, 1) := by decide +kernel
theorem dX8_fillSubsetSums_1 : decode cX8_fillSubsetSums 1 = .ok (.getfield 36, 3) := by decide +kernel
theorem dX8_fillSubsetSums_4 : decode cX8_fillSubsetSums 4 = .ok (.iconst 0, 1) := by decide +kernel
theorem dX8_fillSubsetSums_5 : decode cX8_fillSubsetSums 5 = .ok (.iconst 0, 1) := by decide +kernel
theorem dX8_fillSubsetSums_6 : decode cX8_fillSubsetSums 6 = .ok (.iastore, 1) := by decide +kernel
theorem dX8_fillSubsetSums_7 : decode cX8_fillSubsetSums 7 = .ok (.iconst 0, 1) := by decide +kernel
theorem dX8_fillSubsetSums_8 : decode cX8_fillSubsetSums 8 = .ok (.istore 4, 2) := by decide +kernel
theorem dX8_fillSubsetSums_10 : decode cX8_fillSubsetSums 10 = .ok (.iload 4, 2) := by decide +kernel
theorem dX8_fillSubsetSums_12 : decode cX8_fillSubsetSums 12 = .ok (.iload_n 2, 1) := by decide +kernel
theorem dX8_fillSubsetSums_13 : decode cX8_fillSubsetSums 13 = .ok (.if_icmp .ge 79, 3) := by decide +kernel
theorem dX8_fillSubsetSums_16 : decode cX8_fillSubsetSums 16 = .ok (.aload_n 0, 1) := by decide +kernel
theorem dX8_fillSubsetSums_17 : decode cX8_fillSubsetSums 17 = .ok (.getfield 19, 3) := by decide +kernel
theorem dX8_fillSubsetSums_20 : decode cX8_fillSubsetSums 20 = .ok (.aload_n 0, 1) := by decide +kernel
theorem dX8_fillSubsetSums_21 : decode cX8_fillSubsetSums 21 = .ok (.getfield 26, 3) := by decide +kernel
theorem dX8_fillSubsetSums_24 : decode cX8_fillSubsetSums 24 = .ok (.iload 4, 2) := by decide +kernel
theorem dX8_fillSubsetSums_26 : decode cX8_fillSubsetSums 26 = .ok (.iload_n 1, 1) := by decide +kernel
theorem dX8_fillSubsetSums_27 : decode cX8_fillSubsetSums 27 = .ok (.invokevirtual 104, 3) := by decide +kernel
theorem dX8_fillSubsetSums_30 : decode cX8_fillSubsetSums 30 = .ok (.istore 5, 2) := by decide +kernel
theorem dX8_fillSubsetSums_32 : decode cX8_fillSubsetSums 32 = .ok (.iload_n 3, 1) := by decide +kernel
theorem dX8_fillSubsetSums_33 : decode cX8_fillSubsetSums 33 = .ok (.ifCond .eq 11, 3) := by decide +kernel
theorem dX8_fillSubsetSums_36 : decode cX8_fillSubsetSums 36 = .ok (.iload 5, 2) := by decide +kernel
theorem dX8_fillSubsetSums_38 : decode cX8_fillSubsetSums 38 = .ok (.ifCond .ge 6, 3) := by decide +kernel
theorem dX8_fillSubsetSums_41 : decode cX8_fillSubsetSums 41 = .ok (.iconst 0, 1) := by decide +kernel
theorem dX8_fillSubsetSums_42 : decode cX8_fillSubsetSums 42 = .ok (.istore 5, 2) := by decide +kernel
theorem dX8_fillSubsetSums_44 : decode cX8_fillSubsetSums 44 = .ok (.iconst 1, 1) := by decide +kernel
theorem dX8_fillSubsetSums_45 : decode cX8_fillSubsetSums 45 = .ok (.iload 4, 2) := by decide +kernel
theorem dX8_fillSubsetSums_47 : decode cX8_fillSubsetSums 47 = .ok (.ishl, 1) := by decide +kernel
theorem dX8_fillSubsetSums_48 : decode cX8_fillSubsetSums 48 = .ok (.istore 6, 2) := by decide +kernel
theorem dX8_fillSubsetSums_50 : decode cX8_fillSubsetSums 50 = .ok (.iconst 0, 1) := by decide +kernel
theorem dX8_fillSubsetSums_51 : decode cX8_fillSubsetSums 51 = .ok (.istore 7, 2) := by decide +kernel
theorem dX8_fillSubsetSums_53 : decode cX8_fillSubsetSums 53 = .ok (.iload 7, 2) := by decide +kernel
theorem dX8_fillSubsetSums_55 : decode cX8_fillSubsetSums 55 = .ok (.iload 6, 2) := by decide +kernel
theorem dX8_fillSubsetSums_57 : decode cX8_fillSubsetSums 57 = .ok (.if_icmp .ge 29, 3) := by decide +kernel
theorem dX8_fillSubsetSums_60 : decode cX8_fillSubsetSums 60 = .ok (.aload_n 0, 1) := by decide +kernel
theorem dX8_fillSubsetSums_61 : decode cX8_fillSubsetSums 61 = .ok (.getfield 36, 3) := by decide +kernel
theorem dX8_fillSubsetSums_64 : decode cX8_fillSubsetSums 64 = .ok (.iload 6, 2) := by decide +kernel
theorem dX8_fillSubsetSums_66 : decode cX8_fillSubsetSums 66 = .ok (.iload 7, 2) := by decide +kernel
theorem dX8_fillSubsetSums_68 : decode cX8_fillSubsetSums 68 = .ok (.iadd, 1) := by decide +kernel
theorem dX8_fillSubsetSums_69 : decode cX8_fillSubsetSums 69 = .ok (.aload_n 0, 1) := by decide +kernel
theorem dX8_fillSubsetSums_70 : decode cX8_fillSubsetSums 70 = .ok (.getfield 36, 3) := by decide +kernel
theorem dX8_fillSubsetSums_73 : decode cX8_fillSubsetSums 73 = .ok (.iload 7, 2) := by decide +kernel
theorem dX8_fillSubsetSums_75 : decode cX8_fillSubsetSums 75 = .ok (.iaload, 1) := by decide +kernel
theorem dX8_fillSubsetSums_76 : decode cX8_fillSubsetSums 76 = .ok (.iload 5, 2) := by decide +kernel
theorem dX8_fillSubsetSums_78 : decode cX8_fillSubsetSums 78 = .ok (.iadd, 1) := by decide +kernel
theorem dX8_fillSubsetSums_79 : decode cX8_fillSubsetSums 79 = .ok (.iastore, 1) := by decide +kernel
theorem dX8_fillSubsetSums_80 : decode cX8_fillSubsetSums 80 = .ok (.iinc 7 1, 3) := by decide +kernel
theorem dX8_fillSubsetSums_83 : decode cX8_fillSubsetSums 83 = .ok (.goto (-30), 3) := by decide +kernel
theorem dX8_fillSubsetSums_86 : decode cX8_fillSubsetSums 86 = .ok (.iinc 4 1, 3) := by decide +kernel
theorem dX8_fillSubsetSums_89 : decode cX8_fillSubsetSums 89 = .ok (.goto (-79), 3) := by decide +kernel
theorem dX8_fillSubsetSums_92 : decode cX8_fillSubsetSums 92 = .ok (.return_, 1) := by decide +kernel
theorem dX8_power_0 : decode cX8_power 0 = .ok (.iconst 1, 1) := by decide +kernel
theorem dX8_power_1 : decode cX8_power 1 = .ok (.istore_n 2, 1) := by decide +kernel
theorem dX8_power_2 : decode cX8_power 2 = .ok (.iconst 0, 1) := by decide +kernel
theorem dX8_power_3 : decode cX8_power 3 = .ok (.istore_n 3, 1) := by decide +kernel
theorem dX8_power_4 : decode cX8_power 4 = .ok (.iload_n 3, 1) := by decide +kernel
theorem dX8_power_5 : decode cX8_power 5 = .ok (.iload_n 1, 1) := by decide +kernel
theorem dX8_power_6 : decode cX8_power 6 = .ok (.if_icmp .ge 13, 3) := by decide +kernel
theorem dX8_power_9 : decode cX8_power 9 = .ok (.iload_n 2, 1) := by decide +kernel
theorem dX8_power_10 : decode cX8_power 10 = .ok (.iload_n 0, 1) := by decide +kernel
theorem dX8_power_11 : decode cX8_power 11 = .ok (.imul, 1) := by decide +kernel
theorem dX8_power_12 : decode cX8_power 12 = .ok (.istore_n 2, 1) := by decide +kernel
theorem dX8_power_13 : decode cX8_power 13 = .ok (.iinc 3 1, 3) := by decide +kernel
theorem dX8_power_16 : decode cX8_power 16 = .ok (.goto (-12), 3) := by decide +kernel
theorem dX8_power_19 : decode cX8_power 19 = .ok (.iload_n 2, 1) := by decide +kernel
theorem dX8_power_20 : decode cX8_power 20 = .ok (.ireturn, 1) := by decide +kernel
theorem dX8_inLowestTerms_0 : decode cX8_inLowestTerms 0 = .ok (.iload_n 0, 1) := by decide +kernel
theorem dX8_inLowestTerms_1 : decode cX8_inLowestTerms 1 = .ok (.iload_n 1, 1) := by decide +kernel
theorem dX8_inLowestTerms_2 : decode cX8_inLowestTerms 2 = .ok (.invokestatic 285, 3) := by decide +kernel
theorem dX8_inLowestTerms_5 : decode cX8_inLowestTerms 5 = .ok (.istore_n 3, 1) := by decide +kernel
theorem dX8_inLowestTerms_6 : decode cX8_inLowestTerms 6 = .ok (.iload_n 3, 1) := by decide +kernel
theorem dX8_inLowestTerms_7 : decode cX8_inLowestTerms 7 = .ok (.ifCond .ne 5, 3) := by decide +kernel
theorem dX8_inLowestTerms_10 : decode cX8_inLowestTerms 10 = .ok (.iload_n 2, 1) := by decide +kernel
theorem dX8_inLowestTerms_11 : decode cX8_inLowestTerms 11 = .ok (.ireturn, 1) := by decide +kernel
theorem dX8_inLowestTerms_12 : decode cX8_inLowestTerms 12 = .ok (.iload_n 2, 1) := by decide +kernel
theorem dX8_inLowestTerms_13 : decode cX8_inLowestTerms 13 = .ok (.ifCond .ne 7, 3) := by decide +kernel
theorem dX8_inLowestTerms_16 : decode cX8_inLowestTerms 16 = .ok (.iload_n 0, 1) := by decide +kernel
theorem dX8_inLowestTerms_17 : decode cX8_inLowestTerms 17 = .ok (.goto 4, 3) := by decide +kernel
theorem dX8_inLowestTerms_20 : decode cX8_inLowestTerms 20 = .ok (.iload_n 1, 1) := by decide +kernel
theorem dX8_inLowestTerms_21 : decode cX8_inLowestTerms 21 = .ok (.iload_n 3, 1) := by decide +kernel
theorem dX8_inLowestTerms_22 : decode cX8_inLowestTerms 22 = .ok (.idiv, 1) := by decide +kernel
theorem dX8_inLowestTerms_23 : decode cX8_inLowestTerms 23 = .ok (.ireturn, 1) := by decide +kernel
theorem dX8_greatestDivisor_0 : decode cX8_greatestDivisor 0 = .ok (.iload_n 0, 1) := by decide +kernel
theorem dX8_greatestDivisor_1 : decode cX8_greatestDivisor 1 = .ok (.istore_n 2, 1) := by decide +kernel
theorem dX8_greatestDivisor_2 : decode cX8_greatestDivisor 2 = .ok (.iload_n 1, 1) := by decide +kernel
theorem dX8_greatestDivisor_3 : decode cX8_greatestDivisor 3 = .ok (.istore_n 3, 1) := by decide +kernel
theorem dX8_greatestDivisor_4 : decode cX8_greatestDivisor 4 = .ok (.iconst 0, 1) := by decide +kernel
theorem dX8_greatestDivisor_5 : decode cX8_greatestDivisor 5 = .ok (.istore 4, 2) := by decide +kernel
theorem dX8_greatestDivisor_7 : decode cX8_greatestDivisor 7 = .ok (.iload 4, 2) := by decide +kernel
theorem dX8_greatestDivisor_9 : decode cX8_greatestDivisor 9 = .ok (.bipush 64, 2) := by decide +kernel
theorem dX8_greatestDivisor_11 : decode cX8_greatestDivisor 11 = .ok (.if_icmp .ge 23, 3) := by decide +kernel
theorem dX8_greatestDivisor_14 : decode cX8_greatestDivisor 14 = .ok (.iload_n 3, 1) := by decide +kernel
theorem dX8_greatestDivisor_15 : decode cX8_greatestDivisor 15 = .ok (.ifCond .eq 19, 3) := by decide +kernel
theorem dX8_greatestDivisor_18 : decode cX8_greatestDivisor 18 = .ok (.iload_n 2, 1) := by decide +kernel
theorem dX8_greatestDivisor_19 : decode cX8_greatestDivisor 19 = .ok (.iload_n 3, 1) := by decide +kernel
theorem dX8_greatestDivisor_20 : decode cX8_greatestDivisor 20 = .ok (.irem, 1) := by decide +kernel
theorem dX8_greatestDivisor_21 : decode cX8_greatestDivisor 21 = .ok (.istore 5, 2) := by decide +kernel
theorem dX8_greatestDivisor_23 : decode cX8_greatestDivisor 23 = .ok (.iload_n 3, 1) := by decide +kernel
theorem dX8_greatestDivisor_24 : decode cX8_greatestDivisor 24 = .ok (.istore_n 2, 1) := by decide +kernel
theorem dX8_greatestDivisor_25 : decode cX8_greatestDivisor 25 = .ok (.iload 5, 2) := by decide +kernel
theorem dX8_greatestDivisor_27 : decode cX8_greatestDivisor 27 = .ok (.istore_n 3, 1) := by decide +kernel
theorem dX8_greatestDivisor_28 : decode cX8_greatestDivisor 28 = .ok (.iinc 4 1, 3) := by decide +kernel
theorem dX8_greatestDivisor_31 : decode cX8_greatestDivisor 31 = .ok (.goto (-24), 3) := by decide +kernel
theorem dX8_greatestDivisor_34 : decode cX8_greatestDivisor 34 = .ok (.iload_n 2, 1) := by decide +kernel
theorem dX8_greatestDivisor_35 : decode cX8_greatestDivisor 35 = .ok (.ireturn, 1) := by decide +kernel
theorem dX8_fewestCut_0 : decode cX8_fewestCut 0 = .ok (.aload_n 0, 1) := by decide +kernel
theorem dX8_fewestCut_1 : decode cX8_fewestCut 1 = .ok (.getfield 19, 3) := by decide +kernel
theorem dX8_fewestCut_4 : decode cX8_fewestCut 4 = .ok (.aload_n 0, 1) := by decide +kernel
theorem dX8_fewestCut_5 : decode cX8_fewestCut 5 = .ok (.getfield 26, 3) := by decide +kernel
theorem dX8_fewestCut_8 : decode cX8_fewestCut 8 = .ok (.iload_n 1, 1) := by decide +kernel
theorem dX8_fewestCut_9 : decode cX8_fewestCut 9 = .ok (.invokevirtual 143, 3) := by decide +kernel
theorem dX8_fewestCut_12 : decode cX8_fewestCut 12 = .ok (.invokestatic 147, 3) := by decide +kernel
theorem dX8_fewestCut_15 : decode cX8_fewestCut 15 = .ok (.iload_n 2, 1) := by decide +kernel
theorem dX8_fewestCut_16 : decode cX8_fewestCut 16 = .ok (.if_icmp .ne 5, 3) := by decide +kernel
theorem dX8_fewestCut_19 : decode cX8_fewestCut 19 = .ok (.iconst 0, 1) := by decide +kernel
theorem dX8_fewestCut_20 : decode cX8_fewestCut 20 = .ok (.ireturn, 1) := by decide +kernel
theorem dX8_fewestCut_21 : decode cX8_fewestCut 21 = .ok (.aload_n 0, 1) := by decide +kernel
theorem dX8_fewestCut_22 : decode cX8_fewestCut 22 = .ok (.getfield 33, 3) := by decide +kernel
theorem dX8_fewestCut_25 : decode cX8_fewestCut 25 = .ok (.aload_n 0, 1) := by decide +kernel
theorem dX8_fewestCut_26 : decode cX8_fewestCut 26 = .ok (.getfield 26, 3) := by decide +kernel
theorem dX8_fewestCut_29 : decode cX8_fewestCut 29 = .ok (.invokevirtual 213, 3) := by decide +kernel
theorem dX8_fewestCut_32 : decode cX8_fewestCut 32 = .ok (.aload_n 0, 1) := by decide +kernel
theorem dX8_fewestCut_33 : decode cX8_fewestCut 33 = .ok (.getfield 19, 3) := by decide +kernel
theorem dX8_fewestCut_36 : decode cX8_fewestCut 36 = .ok (.aload_n 0, 1) := by decide +kernel
theorem dX8_fewestCut_37 : decode cX8_fewestCut 37 = .ok (.getfield 26, 3) := by decide +kernel
theorem dX8_fewestCut_40 : decode cX8_fewestCut 40 = .ok (.invokevirtual 120, 3) := by decide +kernel
theorem dX8_fewestCut_43 : decode cX8_fewestCut 43 = .ok (.istore_n 3, 1) := by decide +kernel
theorem dX8_fewestCut_44 : decode cX8_fewestCut 44 = .ok (.iconst 0, 1) := by decide +kernel
theorem dX8_fewestCut_45 : decode cX8_fewestCut 45 = .ok (.istore 4, 2) := by decide +kernel
theorem dX8_fewestCut_47 : decode cX8_fewestCut 47 = .ok (.iload 4, 2) := by decide +kernel
theorem dX8_fewestCut_49 : decode cX8_fewestCut 49 = .ok (.iload_n 3, 1) := by decide +kernel
theorem dX8_fewestCut_50 : decode cX8_fewestCut 50 = .ok (.if_icmp .ge 55, 3) := by decide +kernel
theorem dX8_fewestCut_53 : decode cX8_fewestCut 53 = .ok (.aload_n 0, 1) := by decide +kernel
theorem dX8_fewestCut_54 : decode cX8_fewestCut 54 = .ok (.getfield 33, 3) := by decide +kernel
theorem dX8_fewestCut_57 : decode cX8_fewestCut 57 = .ok (.getfield 124, 3) := by decide +kernel
theorem dX8_fewestCut_60 : decode cX8_fewestCut 60 = .ok (.iload 4, 2) := by decide +kernel
theorem dX8_fewestCut_62 : decode cX8_fewestCut 62 = .ok (.iconst 1, 1) := by decide +kernel
theorem dX8_fewestCut_63 : decode cX8_fewestCut 63 = .ok (.iastore, 1) := by decide +kernel
theorem dX8_fewestCut_64 : decode cX8_fewestCut 64 = .ok (.aload_n 0, 1) := by decide +kernel
theorem dX8_fewestCut_65 : decode cX8_fewestCut 65 = .ok (.getfield 19, 3) := by decide +kernel
theorem dX8_fewestCut_68 : decode cX8_fewestCut 68 = .ok (.aload_n 0, 1) := by decide +kernel
theorem dX8_fewestCut_69 : decode cX8_fewestCut 69 = .ok (.getfield 33, 3) := by decide +kernel
theorem dX8_fewestCut_72 : decode cX8_fewestCut 72 = .ok (.iload_n 1, 1) := by decide +kernel
theorem dX8_fewestCut_73 : decode cX8_fewestCut 73 = .ok (.invokevirtual 143, 3) := by decide +kernel
theorem dX8_fewestCut_76 : decode cX8_fewestCut 76 = .ok (.invokestatic 147, 3) := by decide +kernel
theorem dX8_fewestCut_79 : decode cX8_fewestCut 79 = .ok (.iload_n 2, 1) := by decide +kernel
theorem dX8_fewestCut_80 : decode cX8_fewestCut 80 = .ok (.if_icmp .ne 8, 3) := by decide +kernel
theorem dX8_fewestCut_83 : decode cX8_fewestCut 83 = .ok (.iconst 1, 1) := by decide +kernel
theorem dX8_fewestCut_84 : decode cX8_fewestCut 84 = .ok (.iload 4, 2) := by decide +kernel
theorem dX8_fewestCut_86 : decode cX8_fewestCut 86 = .ok (.ishl, 1) := by decide +kernel
theorem dX8_fewestCut_87 : decode cX8_fewestCut 87 = .ok (.ireturn, 1) := by decide +kernel
theorem dX8_fewestCut_88 : decode cX8_fewestCut 88 = .ok (.aload_n 0, 1) := by decide +kernel
theorem dX8_fewestCut_89 : decode cX8_fewestCut 89 = .ok (.getfield 33, 3) := by decide +kernel
theorem dX8_fewestCut_92 : decode cX8_fewestCut 92 = .ok (.getfield 124, 3) := by decide +kernel
theorem dX8_fewestCut_95 : decode cX8_fewestCut 95 = .ok (.iload 4, 2) := by decide +kernel
theorem dX8_fewestCut_97 : decode cX8_fewestCut 97 = .ok (.iconst 0, 1) := by decide +kernel
theorem dX8_fewestCut_98 : decode cX8_fewestCut 98 = .ok (.iastore, 1) := by decide +kernel
theorem dX8_fewestCut_99 : decode cX8_fewestCut 99 = .ok (.iinc 4 1, 3) := by decide +kernel
theorem dX8_fewestCut_102 : decode cX8_fewestCut 102 = .ok (.goto (-55), 3) := by decide +kernel
theorem dX8_fewestCut_105 : decode cX8_fewestCut 105 = .ok (.iconst (-1), 1) := by decide +kernel
theorem dX8_fewestCut_106 : decode cX8_fewestCut 106 = .ok (.ireturn, 1) := by decide +kernel
theorem dX8_fewestTurned_0 : decode cX8_fewestTurned 0 = .ok (.aload_n 0, 1) := by decide +kernel
theorem dX8_fewestTurned_1 : decode cX8_fewestTurned 1 = .ok (.getfield 33, 3) := by decide +kernel
theorem dX8_fewestTurned_4 : decode cX8_fewestTurned 4 = .ok (.aload_n 0, 1) := by decide +kernel
theorem dX8_fewestTurned_5 : decode cX8_fewestTurned 5 = .ok (.getfield 26, 3) := by decide +kernel
theorem dX8_fewestTurned_8 : decode cX8_fewestTurned 8 = .ok (.invokevirtual 213, 3) := by decide +kernel
theorem dX8_fewestTurned_11 : decode cX8_fewestTurned 11 = .ok (.aload_n 0, 1) := by decide +kernel
theorem dX8_fewestTurned_12 : decode cX8_fewestTurned 12 = .ok (.getfield 19, 3) := by decide +kernel
theorem dX8_fewestTurned_15 : decode cX8_fewestTurned 15 = .ok (.aload_n 0, 1) := by decide +kernel
theorem dX8_fewestTurned_16 : decode cX8_fewestTurned 16 = .ok (.getfield 26, 3) := by decide +kernel
theorem dX8_fewestTurned_19 : decode cX8_fewestTurned 19 = .ok (.invokevirtual 120, 3) := by decide +kernel
theorem dX8_fewestTurned_22 : decode cX8_fewestTurned 22 = .ok (.istore_n 3, 1) := by decide +kernel
theorem dX8_fewestTurned_23 : decode cX8_fewestTurned 23 = .ok (.iconst 0, 1) := by decide +kernel
theorem dX8_fewestTurned_24 : decode cX8_fewestTurned 24 = .ok (.istore 4, 2) := by decide +kernel
theorem dX8_fewestTurned_26 : decode cX8_fewestTurned 26 = .ok (.iload 4, 2) := by decide +kernel
theorem dX8_fewestTurned_28 : decode cX8_fewestTurned 28 = .ok (.iload_n 3, 1) := by decide +kernel
theorem dX8_fewestTurned_29 : decode cX8_fewestTurned 29 = .ok (.if_icmp .gt 50, 3) := by decide +kernel
theorem dX8_fewestTurned_32 : decode cX8_fewestTurned 32 = .ok (.iconst 0, 1) := by decide +kernel
theorem dX8_fewestTurned_33 : decode cX8_fewestTurned 33 = .ok (.istore 5, 2) := by decide +kernel
theorem dX8_fewestTurned_35 : decode cX8_fewestTurned 35 = .ok (.iload 5, 2) := by decide +kernel
theorem dX8_fewestTurned_37 : decode cX8_fewestTurned 37 = .ok (.iconst 1, 1) := by decide +kernel
theorem dX8_fewestTurned_38 : decode cX8_fewestTurned 38 = .ok (.iload_n 3, 1) := by decide +kernel
theorem dX8_fewestTurned_39 : decode cX8_fewestTurned 39 = .ok (.ishl, 1) := by decide +kernel
theorem dX8_fewestTurned_40 : decode cX8_fewestTurned 40 = .ok (.if_icmp .ge 33, 3) := by decide +kernel
theorem dX8_fewestTurned_43 : decode cX8_fewestTurned 43 = .ok (.iload 5, 2) := by decide +kernel
theorem dX8_fewestTurned_45 : decode cX8_fewestTurned 45 = .ok (.invokestatic 280, 3) := by decide +kernel
theorem dX8_fewestTurned_48 : decode cX8_fewestTurned 48 = .ok (.iload 4, 2) := by decide +kernel
theorem dX8_fewestTurned_50 : decode cX8_fewestTurned 50 = .ok (.if_icmp .ne 17, 3) := by decide +kernel
theorem dX8_fewestTurned_53 : decode cX8_fewestTurned 53 = .ok (.aload_n 0, 1) := by decide +kernel
theorem dX8_fewestTurned_54 : decode cX8_fewestTurned 54 = .ok (.iload 5, 2) := by decide +kernel
theorem dX8_fewestTurned_56 : decode cX8_fewestTurned 56 = .ok (.iload_n 1, 1) := by decide +kernel
theorem dX8_fewestTurned_57 : decode cX8_fewestTurned 57 = .ok (.iload_n 2, 1) := by decide +kernel
theorem dX8_fewestTurned_58 : decode cX8_fewestTurned 58 = .ok (.invokevirtual 288, 3) := by decide +kernel
theorem dX8_fewestTurned_61 : decode cX8_fewestTurned 61 = .ok (.ifCond .eq 6, 3) := by decide +kernel
theorem dX8_fewestTurned_64 : decode cX8_fewestTurned 64 = .ok (.iload 5, 2) := by decide +kernel
theorem dX8_fewestTurned_66 : decode cX8_fewestTurned 66 = .ok (.ireturn, 1) := by decide +kernel
theorem dX8_fewestTurned_67 : decode cX8_fewestTurned 67 = .ok (.iinc 5 1, 3) := by decide +kernel
theorem dX8_fewestTurned_70 : decode cX8_fewestTurned 70 = .ok (.goto (-35), 3) := by decide +kernel
theorem dX8_fewestTurned_73 : decode cX8_fewestTurned 73 = .ok (.iinc 4 1, 3) := by decide +kernel
theorem dX8_fewestTurned_76 : decode cX8_fewestTurned 76 = .ok (.goto (-50), 3) := by decide +kernel
theorem dX8_fewestTurned_79 : decode cX8_fewestTurned 79 = .ok (.iconst (-1), 1) := by decide +kernel
theorem dX8_fewestTurned_80 : decode cX8_fewestTurned 80 = .ok (.ireturn, 1) := by decide +kernel
theorem dX8_comesOutTurned_0 : decode cX8_comesOutTurned 0 = .ok (.iconst 1, 1) := by decide +kernel
theorem dX8_comesOutTurned_1 : decode cX8_comesOutTurned 1 = .ok (.iload_n 1, 1) := by decide +kernel
theorem dX8_comesOutTurned_2 : decode cX8_comesOutTurned 2 = .ok (.invokestatic 280, 3) := by decide +kernel
theorem dX8_comesOutTurned_5 : decode cX8_comesOutTurned 5 = .ok (.ishl, 1) := by decide +kernel
theorem dX8_comesOutTurned_6 : decode cX8_comesOutTurned 6 = .ok (.istore 4, 2) := by decide +kernel
theorem dX8_comesOutTurned_8 : decode cX8_comesOutTurned 8 = .ok (.iconst 0, 1) := by decide +kernel
theorem dX8_comesOutTurned_9 : decode cX8_comesOutTurned 9 = .ok (.istore 5, 2) := by decide +kernel
theorem dX8_comesOutTurned_11 : decode cX8_comesOutTurned 11 = .ok (.iload 5, 2) := by decide +kernel
theorem dX8_comesOutTurned_13 : decode cX8_comesOutTurned 13 = .ok (.iload 4, 2) := by decide +kernel
theorem dX8_comesOutTurned_15 : decode cX8_comesOutTurned 15 = .ok (.if_icmp .ge 38, 3) := by decide +kernel
theorem dX8_comesOutTurned_18 : decode cX8_comesOutTurned 18 = .ok (.aload_n 0, 1) := by decide +kernel
theorem dX8_comesOutTurned_19 : decode cX8_comesOutTurned 19 = .ok (.iload_n 1, 1) := by decide +kernel
theorem dX8_comesOutTurned_20 : decode cX8_comesOutTurned 20 = .ok (.iload 5, 2) := by decide +kernel
theorem dX8_comesOutTurned_22 : decode cX8_comesOutTurned 22 = .ok (.iload_n 2, 1) := by decide +kernel
theorem dX8_comesOutTurned_23 : decode cX8_comesOutTurned 23 = .ok (.invokevirtual 292, 3) := by decide +kernel
theorem dX8_comesOutTurned_26 : decode cX8_comesOutTurned 26 = .ok (.aload_n 0, 1) := by decide +kernel
theorem dX8_comesOutTurned_27 : decode cX8_comesOutTurned 27 = .ok (.getfield 19, 3) := by decide +kernel
theorem dX8_comesOutTurned_30 : decode cX8_comesOutTurned 30 = .ok (.aload_n 0, 1) := by decide +kernel
theorem dX8_comesOutTurned_31 : decode cX8_comesOutTurned 31 = .ok (.getfield 33, 3) := by decide +kernel
theorem dX8_comesOutTurned_34 : decode cX8_comesOutTurned 34 = .ok (.iload_n 2, 1) := by decide +kernel
theorem dX8_comesOutTurned_35 : decode cX8_comesOutTurned 35 = .ok (.invokevirtual 143, 3) := by decide +kernel
theorem dX8_comesOutTurned_38 : decode cX8_comesOutTurned 38 = .ok (.invokestatic 147, 3) := by decide +kernel
theorem dX8_comesOutTurned_41 : decode cX8_comesOutTurned 41 = .ok (.iload_n 3, 1) := by decide +kernel
theorem dX8_comesOutTurned_42 : decode cX8_comesOutTurned 42 = .ok (.if_icmp .ne 5, 3) := by decide +kernel
theorem dX8_comesOutTurned_45 : decode cX8_comesOutTurned 45 = .ok (.iconst 1, 1) := by decide +kernel
theorem dX8_comesOutTurned_46 : decode cX8_comesOutTurned 46 = .ok (.ireturn, 1) := by decide +kernel
theorem dX8_comesOutTurned_47 : decode cX8_comesOutTurned 47 = .ok (.iinc 5 1, 3) := by decide +kernel
theorem dX8_comesOutTurned_50 : decode cX8_comesOutTurned 50 = .ok (.goto (-39), 3) := by decide +kernel
theorem dX8_comesOutTurned_53 : decode cX8_comesOutTurned 53 = .ok (.iconst 0, 1) := by decide +kernel
theorem dX8_comesOutTurned_54 : decode cX8_comesOutTurned 54 = .ok (.ireturn, 1) := by decide +kernel
theorem dX8_leanOtherwise_0 : decode cX8_leanOtherwise 0 = .ok (.iload_n 2, 1) := by decide +kernel
theorem dX8_leanOtherwise_1 : decode cX8_leanOtherwise 1 = .ok (.istore 4, 2) := by decide +kernel
theorem dX8_leanOtherwise_3 : decode cX8_leanOtherwise 3 = .ok (.iconst 0, 1) := by decide +kernel
theorem dX8_leanOtherwise_4 : decode cX8_leanOtherwise 4 = .ok (.istore 5, 2) := by decide +kernel
theorem dX8_leanOtherwise_6 : decode cX8_leanOtherwise 6 = .ok (.iload 5, 2) := by decide +kernel
theorem dX8_leanOtherwise_8 : decode cX8_leanOtherwise 8 = .ok (.aload_n 0, 1) := by decide +kernel
theorem dX8_leanOtherwise_9 : decode cX8_leanOtherwise 9 = .ok (.getfield 19, 3) := by decide +kernel
theorem dX8_leanOtherwise_12 : decode cX8_leanOtherwise 12 = .ok (.getfield 68, 3) := by decide +kernel
theorem dX8_leanOtherwise_15 : decode cX8_leanOtherwise 15 = .ok (.if_icmp .ge 68, 3) := by decide +kernel
theorem dX8_leanOtherwise_18 : decode cX8_leanOtherwise 18 = .ok (.aload_n 0, 1) := by decide +kernel
theorem dX8_leanOtherwise_19 : decode cX8_leanOtherwise 19 = .ok (.getfield 26, 3) := by decide +kernel
theorem dX8_leanOtherwise_22 : decode cX8_leanOtherwise 22 = .ok (.getfield 85, 3) := by decide +kernel
theorem dX8_leanOtherwise_25 : decode cX8_leanOtherwise 25 = .ok (.iload_n 3, 1) := by decide +kernel
theorem dX8_leanOtherwise_26 : decode cX8_leanOtherwise 26 = .ok (.aaload, 1) := by decide +kernel
theorem dX8_leanOtherwise_27 : decode cX8_leanOtherwise 27 = .ok (.iload 5, 2) := by decide +kernel
theorem dX8_leanOtherwise_29 : decode cX8_leanOtherwise 29 = .ok (.iaload, 1) := by decide +kernel
theorem dX8_leanOtherwise_30 : decode cX8_leanOtherwise 30 = .ok (.istore 6, 2) := by decide +kernel
theorem dX8_leanOtherwise_32 : decode cX8_leanOtherwise 32 = .ok (.iload_n 1, 1) := by decide +kernel
theorem dX8_leanOtherwise_33 : decode cX8_leanOtherwise 33 = .ok (.iload 5, 2) := by decide +kernel
theorem dX8_leanOtherwise_35 : decode cX8_leanOtherwise 35 = .ok (.ishr, 1) := by decide +kernel
theorem dX8_leanOtherwise_36 : decode cX8_leanOtherwise 36 = .ok (.iconst 1, 1) := by decide +kernel
theorem dX8_leanOtherwise_37 : decode cX8_leanOtherwise 37 = .ok (.iand, 1) := by decide +kernel
theorem dX8_leanOtherwise_38 : decode cX8_leanOtherwise 38 = .ok (.iconst 1, 1) := by decide +kernel
theorem dX8_leanOtherwise_39 : decode cX8_leanOtherwise 39 = .ok (.if_icmp .ne 24, 3) := by decide +kernel
theorem dX8_leanOtherwise_42 : decode cX8_leanOtherwise 42 = .ok (.iload 6, 2) := by decide +kernel
theorem dX8_leanOtherwise_44 : decode cX8_leanOtherwise 44 = .ok (.iconst 2, 1) := by decide +kernel
theorem dX8_leanOtherwise_45 : decode cX8_leanOtherwise 45 = .ok (.iadd, 1) := by decide +kernel
theorem dX8_leanOtherwise_46 : decode cX8_leanOtherwise 46 = .ok (.iload 4, 2) := by decide +kernel
theorem dX8_leanOtherwise_48 : decode cX8_leanOtherwise 48 = .ok (.iconst 1, 1) := by decide +kernel
theorem dX8_leanOtherwise_49 : decode cX8_leanOtherwise 49 = .ok (.iand, 1) := by decide +kernel
theorem dX8_leanOtherwise_50 : decode cX8_leanOtherwise 50 = .ok (.iadd, 1) := by decide +kernel
theorem dX8_leanOtherwise_51 : decode cX8_leanOtherwise 51 = .ok (.iconst 3, 1) := by decide +kernel
theorem dX8_leanOtherwise_52 : decode cX8_leanOtherwise 52 = .ok (.irem, 1) := by decide +kernel
theorem dX8_leanOtherwise_53 : decode cX8_leanOtherwise 53 = .ok (.iconst 1, 1) := by decide +kernel
theorem dX8_leanOtherwise_54 : decode cX8_leanOtherwise 54 = .ok (.isub, 1) := by decide +kernel
theorem dX8_leanOtherwise_55 : decode cX8_leanOtherwise 55 = .ok (.istore 6, 2) := by decide +kernel
theorem dX8_leanOtherwise_57 : decode cX8_leanOtherwise 57 = .ok (.iload 4, 2) := by decide +kernel
theorem dX8_leanOtherwise_59 : decode cX8_leanOtherwise 59 = .ok (.iconst 1, 1) := by decide +kernel
theorem dX8_leanOtherwise_60 : decode cX8_leanOtherwise 60 = .ok (.ishr, 1) := by decide +kernel
theorem dX8_leanOtherwise_61 : decode cX8_leanOtherwise 61 = .ok (.istore 4, 2) := by decide +kernel
theorem dX8_leanOtherwise_63 : decode cX8_leanOtherwise 63 = .ok (.aload_n 0, 1) := by decide +kernel
theorem dX8_leanOtherwise_64 : decode cX8_leanOtherwise 64 = .ok (.getfield 33, 3) := by decide +kernel
theorem dX8_leanOtherwise_67 : decode cX8_leanOtherwise 67 = .ok (.getfield 85, 3) := by decide +kernel
theorem dX8_leanOtherwise_70 : decode cX8_leanOtherwise 70 = .ok (.iload_n 3, 1) := by decide +kernel
theorem dX8_leanOtherwise_71 : decode cX8_leanOtherwise 71 = .ok (.aaload, 1) := by decide +kernel
theorem dX8_leanOtherwise_72 : decode cX8_leanOtherwise 72 = .ok (.iload 5, 2) := by decide +kernel
theorem dX8_leanOtherwise_74 : decode cX8_leanOtherwise 74 = .ok (.iload 6, 2) := by decide +kernel
theorem dX8_leanOtherwise_76 : decode cX8_leanOtherwise 76 = .ok (.iastore, 1) := by decide +kernel
theorem dX8_leanOtherwise_77 : decode cX8_leanOtherwise 77 = .ok (.iinc 5 1, 3) := by decide +kernel
theorem dX8_leanOtherwise_80 : decode cX8_leanOtherwise 80 = .ok (.goto (-74), 3) := by decide +kernel
theorem dX8_leanOtherwise_83 : decode cX8_leanOtherwise 83 = .ok (.return_, 1) := by decide +kernel
theorem dX8_toldOfBits_0 : decode cX8_toldOfBits 0 = .ok (.iload_n 0, 1) := by decide +kernel
theorem dX8_toldOfBits_1 : decode cX8_toldOfBits 1 = .ok (.iconst (-1), 1) := by decide +kernel
theorem dX8_toldOfBits_2 : decode cX8_toldOfBits 2 = .ok (.if_icmp .ne 5, 3) := by decide +kernel
theorem dX8_toldOfBits_5 : decode cX8_toldOfBits 5 = .ok (.iconst (-1), 1) := by decide +kernel
theorem dX8_toldOfBits_6 : decode cX8_toldOfBits 6 = .ok (.ireturn, 1) := by decide +kernel
theorem dX8_toldOfBits_7 : decode cX8_toldOfBits 7 = .ok (.iload_n 1, 1) := by decide +kernel
theorem dX8_toldOfBits_8 : decode cX8_toldOfBits 8 = .ok (.ifCond .ne 10, 3) := by decide +kernel
theorem dX8_toldOfBits_11 : decode cX8_toldOfBits 11 = .ok (.iload_n 0, 1) := by decide +kernel
theorem dX8_toldOfBits_12 : decode cX8_toldOfBits 12 = .ok (.invokestatic 280, 3) := by decide +kernel
theorem dX8_toldOfBits_15 : decode cX8_toldOfBits 15 = .ok (.goto 4, 3) := by decide +kernel
theorem dX8_toldOfBits_18 : decode cX8_toldOfBits 18 = .ok (.iload_n 0, 1) := by decide +kernel
theorem dX8_toldOfBits_19 : decode cX8_toldOfBits 19 = .ok (.ireturn, 1) := by decide +kernel
theorem dX8_tidesTillAgain_0 : decode cX8_tidesTillAgain 0 = .ok (.aload_n 0, 1) := by decide +kernel
theorem dX8_tidesTillAgain_1 : decode cX8_tidesTillAgain 1 = .ok (.getfield 33, 3) := by decide +kernel
theorem dX8_tidesTillAgain_4 : decode cX8_tidesTillAgain 4 = .ok (.aload_n 0, 1) := by decide +kernel
theorem dX8_tidesTillAgain_5 : decode cX8_tidesTillAgain 5 = .ok (.getfield 26, 3) := by decide +kernel
theorem dX8_tidesTillAgain_8 : decode cX8_tidesTillAgain 8 = .ok (.invokevirtual 213, 3) := by decide +kernel
theorem dX8_tidesTillAgain_11 : decode cX8_tidesTillAgain 11 = .ok (.aload_n 0, 1) := by decide +kernel
theorem dX8_tidesTillAgain_12 : decode cX8_tidesTillAgain 12 = .ok (.getfield 46, 3) := by decide +kernel
theorem dX8_tidesTillAgain_15 : decode cX8_tidesTillAgain 15 = .ok (.iconst 0, 1) := by decide +kernel
theorem dX8_tidesTillAgain_16 : decode cX8_tidesTillAgain 16 = .ok (.aload_n 0, 1) := by decide +kernel
theorem dX8_tidesTillAgain_17 : decode cX8_tidesTillAgain 17 = .ok (.getfield 33, 3) := by decide +kernel
theorem dX8_tidesTillAgain_20 : decode cX8_tidesTillAgain 20 = .ok (.invokevirtual 295, 3) := by decide +kernel
theorem dX8_tidesTillAgain_23 : decode cX8_tidesTillAgain 23 = .ok (.lastore, 1) := by decide +kernel
theorem dX8_tidesTillAgain_24 : decode cX8_tidesTillAgain 24 = .ok (.iconst 0, 1) := by decide +kernel
theorem dX8_tidesTillAgain_25 : decode cX8_tidesTillAgain 25 = .ok (.istore_n 1, 1) := by decide +kernel
theorem dX8_tidesTillAgain_26 : decode cX8_tidesTillAgain 26 = .ok (.aload_n 0, 1) := by decide +kernel
theorem dX8_tidesTillAgain_27 : decode cX8_tidesTillAgain 27 = .ok (.getfield 19, 3) := by decide +kernel
theorem dX8_tidesTillAgain_30 : decode cX8_tidesTillAgain 30 = .ok (.aload_n 0, 1) := by decide +kernel
theorem dX8_tidesTillAgain_31 : decode cX8_tidesTillAgain 31 = .ok (.getfield 33, 3) := by decide +kernel
theorem dX8_tidesTillAgain_34 : decode cX8_tidesTillAgain 34 = .ok (.invokevirtual 162, 3) := by decide +kernel
theorem dX8_tidesTillAgain_37 : decode cX8_tidesTillAgain 37 = .ok (.iinc 1 1, 3) := by decide +kernel
theorem dX8_tidesTillAgain_40 : decode cX8_tidesTillAgain 40 = .ok (.aload_n 0, 1) := by decide +kernel
theorem dX8_tidesTillAgain_41 : decode cX8_tidesTillAgain 41 = .ok (.getfield 46, 3) := by decide +kernel
theorem dX8_tidesTillAgain_44 : decode cX8_tidesTillAgain 44 = .ok (.iload_n 1, 1) := by decide +kernel
theorem dX8_tidesTillAgain_45 : decode cX8_tidesTillAgain 45 = .ok (.aload_n 0, 1) := by decide +kernel
theorem dX8_tidesTillAgain_46 : decode cX8_tidesTillAgain 46 = .ok (.getfield 33, 3) := by decide +kernel
theorem dX8_tidesTillAgain_49 : decode cX8_tidesTillAgain 49 = .ok (.invokevirtual 295, 3) := by decide +kernel
theorem dX8_tidesTillAgain_52 : decode cX8_tidesTillAgain 52 = .ok (.lastore, 1) := by decide +kernel
theorem dX8_tidesTillAgain_53 : decode cX8_tidesTillAgain 53 = .ok (.iload_n 1, 1) := by decide +kernel
theorem dX8_tidesTillAgain_54 : decode cX8_tidesTillAgain 54 = .ok (.bipush 63, 2) := by decide +kernel
theorem dX8_tidesTillAgain_56 : decode cX8_tidesTillAgain 56 = .ok (.if_icmp .ge 12, 3) := by decide +kernel
theorem dX8_tidesTillAgain_59 : decode cX8_tidesTillAgain 59 = .ok (.aload_n 0, 1) := by decide +kernel
theorem dX8_tidesTillAgain_60 : decode cX8_tidesTillAgain 60 = .ok (.iload_n 1, 1) := by decide +kernel
theorem dX8_tidesTillAgain_61 : decode cX8_tidesTillAgain 61 = .ok (.invokevirtual 203, 3) := by decide +kernel
theorem dX8_tidesTillAgain_64 : decode cX8_tidesTillAgain 64 = .ok (.iload_n 1, 1) := by decide +kernel
theorem dX8_tidesTillAgain_65 : decode cX8_tidesTillAgain 65 = .ok (.if_icmp .eq (-39), 3) := by decide +kernel
theorem dX8_tidesTillAgain_68 : decode cX8_tidesTillAgain 68 = .ok (.iload_n 1, 1) := by decide +kernel
theorem dX8_tidesTillAgain_69 : decode cX8_tidesTillAgain 69 = .ok (.ireturn, 1) := by decide +kernel
theorem dX8_firstLike_0 : decode cX8_firstLike 0 = .ok (.iconst 0, 1) := by decide +kernel
theorem dX8_firstLike_1 : decode cX8_firstLike 1 = .ok (.istore_n 2, 1) := by decide +kernel
theorem dX8_firstLike_2 : decode cX8_firstLike 2 = .ok (.iload_n 2, 1) := by decide +kernel
theorem dX8_firstLike_3 : decode cX8_firstLike 3 = .ok (.iload_n 1, 1) := by decide +kernel
theorem dX8_firstLike_4 : decode cX8_firstLike 4 = .ok (.if_icmp .ge 25, 3) := by decide +kernel
theorem dX8_firstLike_7 : decode cX8_firstLike 7 = .ok (.aload_n 0, 1) := by decide +kernel
theorem dX8_firstLike_8 : decode cX8_firstLike 8 = .ok (.getfield 46, 3) := by decide +kernel
theorem dX8_firstLike_11 : decode cX8_firstLike 11 = .ok (.iload_n 2, 1) := by decide +kernel
theorem dX8_firstLike_12 : decode cX8_firstLike 12 = .ok (.laload, 1) := by decide +kernel
theorem dX8_firstLike_13 : decode cX8_firstLike 13 = .ok (.aload_n 0, 1) := by decide +kernel
theorem dX8_firstLike_14 : decode cX8_firstLike 14 = .ok (.getfield 46, 3) := by decide +kernel
theorem dX8_firstLike_17 : decode cX8_firstLike 17 = .ok (.iload_n 1, 1) := by decide +kernel
theorem dX8_firstLike_18 : decode cX8_firstLike 18 = .ok (.laload, 1) := by decide +kernel
theorem dX8_firstLike_19 : decode cX8_firstLike 19 = .ok (.lcmp, 1) := by decide +kernel
theorem dX8_firstLike_20 : decode cX8_firstLike 20 = .ok (.ifCond .eq 9, 3) := by decide +kernel
theorem dX8_firstLike_23 : decode cX8_firstLike 23 = .ok (.iinc 2 1, 3) := by decide +kernel
theorem dX8_firstLike_26 : decode cX8_firstLike 26 = .ok (.goto (-24), 3) := by decide +kernel
theorem dX8_firstLike_29 : decode cX8_firstLike 29 = .ok (.iload_n 2, 1) := by decide +kernel
theorem dX8_firstLike_30 : decode cX8_firstLike 30 = .ok (.ireturn, 1) := by decide +kernel
theorem dX8_leansLeft_0 : decode cX8_leansLeft 0 = .ok (.aload_n 0, 1) := by decide +kernel
theorem dX8_leansLeft_1 : decode cX8_leansLeft 1 = .ok (.getfield 33, 3) := by decide +kernel
theorem dX8_leansLeft_4 : decode cX8_leansLeft 4 = .ok (.aload_n 0, 1) := by decide +kernel
theorem dX8_leansLeft_5 : decode cX8_leansLeft 5 = .ok (.getfield 26, 3) := by decide +kernel
theorem dX8_leansLeft_8 : decode cX8_leansLeft 8 = .ok (.invokevirtual 213, 3) := by decide +kernel
theorem dX8_leansLeft_11 : decode cX8_leansLeft 11 = .ok (.iconst 0, 1) := by decide +kernel
theorem dX8_leansLeft_12 : decode cX8_leansLeft 12 = .ok (.istore_n 3, 1) := by decide +kernel
theorem dX8_leansLeft_13 : decode cX8_leansLeft 13 = .ok (.iconst 0, 1) := by decide +kernel
theorem dX8_leansLeft_14 : decode cX8_leansLeft 14 = .ok (.istore 4, 2) := by decide +kernel
theorem dX8_leansLeft_16 : decode cX8_leansLeft 16 = .ok (.iload 4, 2) := by decide +kernel
theorem dX8_leansLeft_18 : decode cX8_leansLeft 18 = .ok (.iconst 3, 1) := by decide +kernel
theorem dX8_leansLeft_19 : decode cX8_leansLeft 19 = .ok (.if_icmp .ge 69, 3) := by decide +kernel
theorem dX8_leansLeft_22 : decode cX8_leansLeft 22 = .ok (.aload_n 0, 1) := by decide +kernel
theorem dX8_leansLeft_23 : decode cX8_leansLeft 23 = .ok (.getfield 33, 3) := by decide +kernel
theorem dX8_leansLeft_26 : decode cX8_leansLeft 26 = .ok (.getfield 85, 3) := by decide +kernel
theorem dX8_leansLeft_29 : decode cX8_leansLeft 29 = .ok (.iload_n 2, 1) := by decide +kernel
theorem dX8_leansLeft_30 : decode cX8_leansLeft 30 = .ok (.aaload, 1) := by decide +kernel
theorem dX8_leansLeft_31 : decode cX8_leansLeft 31 = .ok (.iload_n 1, 1) := by decide +kernel
theorem dX8_leansLeft_32 : decode cX8_leansLeft 32 = .ok (.iconst 1, 1) := by decide +kernel
theorem dX8_leansLeft_33 : decode cX8_leansLeft 33 = .ok (.iload 4, 2) := by decide +kernel
theorem dX8_leansLeft_35 : decode cX8_leansLeft 35 = .ok (.isub, 1) := by decide +kernel
theorem dX8_leansLeft_36 : decode cX8_leansLeft 36 = .ok (.iastore, 1) := by decide +kernel
theorem dX8_leansLeft_37 : decode cX8_leansLeft 37 = .ok (.aload_n 0, 1) := by decide +kernel
theorem dX8_leansLeft_38 : decode cX8_leansLeft 38 = .ok (.getfield 43, 3) := by decide +kernel
theorem dX8_leansLeft_41 : decode cX8_leansLeft 41 = .ok (.iload 4, 2) := by decide +kernel
theorem dX8_leansLeft_43 : decode cX8_leansLeft 43 = .ok (.aload_n 0, 1) := by decide +kernel
theorem dX8_leansLeft_44 : decode cX8_leansLeft 44 = .ok (.getfield 19, 3) := by decide +kernel
theorem dX8_leansLeft_47 : decode cX8_leansLeft 47 = .ok (.aload_n 0, 1) := by decide +kernel
theorem dX8_leansLeft_48 : decode cX8_leansLeft 48 = .ok (.getfield 33, 3) := by decide +kernel
theorem dX8_leansLeft_51 : decode cX8_leansLeft 51 = .ok (.iload_n 2, 1) := by decide +kernel
theorem dX8_leansLeft_52 : decode cX8_leansLeft 52 = .ok (.invokevirtual 143, 3) := by decide +kernel
theorem dX8_leansLeft_55 : decode cX8_leansLeft 55 = .ok (.iastore, 1) := by decide +kernel
theorem dX8_leansLeft_56 : decode cX8_leansLeft 56 = .ok (.aload_n 0, 1) := by decide +kernel
theorem dX8_leansLeft_57 : decode cX8_leansLeft 57 = .ok (.getfield 26, 3) := by decide +kernel
theorem dX8_leansLeft_60 : decode cX8_leansLeft 60 = .ok (.iload_n 1, 1) := by decide +kernel
theorem dX8_leansLeft_61 : decode cX8_leansLeft 61 = .ok (.iload_n 2, 1) := by decide +kernel
theorem dX8_leansLeft_62 : decode cX8_leansLeft 62 = .ok (.aload_n 0, 1) := by decide +kernel
theorem dX8_leansLeft_63 : decode cX8_leansLeft 63 = .ok (.getfield 43, 3) := by decide +kernel
theorem dX8_leansLeft_66 : decode cX8_leansLeft 66 = .ok (.iload 4, 2) := by decide +kernel
theorem dX8_leansLeft_68 : decode cX8_leansLeft 68 = .ok (.iaload, 1) := by decide +kernel
theorem dX8_leansLeft_69 : decode cX8_leansLeft 69 = .ok (.invokevirtual 299, 3) := by decide +kernel
theorem dX8_leansLeft_72 : decode cX8_leansLeft 72 = .ok (.ifCond .eq 10, 3) := by decide +kernel
theorem dX8_leansLeft_75 : decode cX8_leansLeft 75 = .ok (.iload_n 3, 1) := by decide +kernel
theorem dX8_leansLeft_76 : decode cX8_leansLeft 76 = .ok (.iconst 1, 1) := by decide +kernel
theorem dX8_leansLeft_77 : decode cX8_leansLeft 77 = .ok (.iload 4, 2) := by decide +kernel
theorem dX8_leansLeft_79 : decode cX8_leansLeft 79 = .ok (.ishl, 1) := by decide +kernel
theorem dX8_leansLeft_80 : decode cX8_leansLeft 80 = .ok (.ior, 1) := by decide +kernel
theorem dX8_leansLeft_81 : decode cX8_leansLeft 81 = .ok (.istore_n 3, 1) := by decide +kernel
theorem dX8_leansLeft_82 : decode cX8_leansLeft 82 = .ok (.iinc 4 1, 3) := by decide +kernel
theorem dX8_leansLeft_85 : decode cX8_leansLeft 85 = .ok (.goto (-69), 3) := by decide +kernel
theorem dX8_leansLeft_88 : decode cX8_leansLeft 88 = .ok (.iload_n 3, 1) := by decide +kernel
theorem dX8_leansLeft_89 : decode cX8_leansLeft 89 = .ok (.ireturn, 1) := by decide +kernel
theorem dX8_bestQuestion_0 : decode cX8_bestQuestion 0 = .ok (.iconst (-1), 1) := by decide +kernel
theorem dX8_bestQuestion_1 : decode cX8_bestQuestion 1 = .ok (.istore_n 2, 1) := by decide +kernel
theorem dX8_bestQuestion_2 : decode cX8_bestQuestion 2 = .ok (.iconst 4, 1) := by decide +kernel
theorem dX8_bestQuestion_3 : decode cX8_bestQuestion 3 = .ok (.istore_n 3, 1) := by decide +kernel
theorem dX8_bestQuestion_4 : decode cX8_bestQuestion 4 = .ok (.iconst 0, 1) := by decide +kernel
theorem dX8_bestQuestion_5 : decode cX8_bestQuestion 5 = .ok (.istore 4, 2) := by decide +kernel
theorem dX8_bestQuestion_7 : decode cX8_bestQuestion 7 = .ok (.iload 4, 2) := by decide +kernel
theorem dX8_bestQuestion_9 : decode cX8_bestQuestion 9 = .ok (.iconst 3, 1) := by decide +kernel
theorem dX8_bestQuestion_10 : decode cX8_bestQuestion 10 = .ok (.if_icmp .ge 48, 3) := by decide +kernel
theorem dX8_bestQuestion_13 : decode cX8_bestQuestion 13 = .ok (.aload_n 0, 1) := by decide +kernel
theorem dX8_bestQuestion_14 : decode cX8_bestQuestion 14 = .ok (.iload_n 1, 1) := by decide +kernel
theorem dX8_bestQuestion_15 : decode cX8_bestQuestion 15 = .ok (.iload 4, 2) := by decide +kernel
theorem dX8_bestQuestion_17 : decode cX8_bestQuestion 17 = .ok (.invokevirtual 108, 3) := by decide +kernel
theorem dX8_bestQuestion_20 : decode cX8_bestQuestion 20 = .ok (.istore 5, 2) := by decide +kernel
theorem dX8_bestQuestion_22 : decode cX8_bestQuestion 22 = .ok (.aload_n 0, 1) := by decide +kernel
theorem dX8_bestQuestion_23 : decode cX8_bestQuestion 23 = .ok (.iload 5, 2) := by decide +kernel
theorem dX8_bestQuestion_25 : decode cX8_bestQuestion 25 = .ok (.invokevirtual 302, 3) := by decide +kernel
theorem dX8_bestQuestion_28 : decode cX8_bestQuestion 28 = .ok (.istore 6, 2) := by decide +kernel
theorem dX8_bestQuestion_30 : decode cX8_bestQuestion 30 = .ok (.iload 6, 2) := by decide +kernel
theorem dX8_bestQuestion_32 : decode cX8_bestQuestion 32 = .ok (.iload 5, 2) := by decide +kernel
theorem dX8_bestQuestion_34 : decode cX8_bestQuestion 34 = .ok (.invokestatic 280, 3) := by decide +kernel
theorem dX8_bestQuestion_37 : decode cX8_bestQuestion 37 = .ok (.if_icmp .ge 15, 3) := by decide +kernel
theorem dX8_bestQuestion_40 : decode cX8_bestQuestion 40 = .ok (.iload 6, 2) := by decide +kernel
theorem dX8_bestQuestion_42 : decode cX8_bestQuestion 42 = .ok (.iload_n 3, 1) := by decide +kernel
theorem dX8_bestQuestion_43 : decode cX8_bestQuestion 43 = .ok (.if_icmp .ge 9, 3) := by decide +kernel
theorem dX8_bestQuestion_46 : decode cX8_bestQuestion 46 = .ok (.iload 4, 2) := by decide +kernel
theorem dX8_bestQuestion_48 : decode cX8_bestQuestion 48 = .ok (.istore_n 2, 1) := by decide +kernel
theorem dX8_bestQuestion_49 : decode cX8_bestQuestion 49 = .ok (.iload 6, 2) := by decide +kernel
theorem dX8_bestQuestion_51 : decode cX8_bestQuestion 51 = .ok (.istore_n 3, 1) := by decide +kernel
theorem dX8_bestQuestion_52 : decode cX8_bestQuestion 52 = .ok (.iinc 4 1, 3) := by decide +kernel
theorem dX8_bestQuestion_55 : decode cX8_bestQuestion 55 = .ok (.goto (-48), 3) := by decide +kernel
theorem dX8_bestQuestion_58 : decode cX8_bestQuestion 58 = .ok (.iload_n 2, 1) := by decide +kernel
theorem dX8_bestQuestion_59 : decode cX8_bestQuestion 59 = .ok (.ireturn, 1) := by decide +kernel
theorem dX8_mostAlike_0 : decode cX8_mostAlike 0 = .ok (.iconst 0, 1) := by decide +kernel
theorem dX8_mostAlike_1 : decode cX8_mostAlike 1 = .ok (.istore_n 2, 1) := by decide +kernel
theorem dX8_mostAlike_2 : decode cX8_mostAlike 2 = .ok (.iconst 0, 1) := by decide +kernel
theorem dX8_mostAlike_3 : decode cX8_mostAlike 3 = .ok (.istore_n 3, 1) := by decide +kernel
theorem dX8_mostAlike_4 : decode cX8_mostAlike 4 = .ok (.iload_n 3, 1) := by decide +kernel
theorem dX8_mostAlike_5 : decode cX8_mostAlike 5 = .ok (.iconst 3, 1) := by decide +kernel
theorem dX8_mostAlike_6 : decode cX8_mostAlike 6 = .ok (.if_icmp .ge 79, 3) := by decide +kernel
theorem dX8_mostAlike_9 : decode cX8_mostAlike 9 = .ok (.iconst 0, 1) := by decide +kernel
theorem dX8_mostAlike_10 : decode cX8_mostAlike 10 = .ok (.istore 4, 2) := by decide +kernel
theorem dX8_mostAlike_12 : decode cX8_mostAlike 12 = .ok (.iconst 0, 1) := by decide +kernel
theorem dX8_mostAlike_13 : decode cX8_mostAlike 13 = .ok (.istore 5, 2) := by decide +kernel
theorem dX8_mostAlike_15 : decode cX8_mostAlike 15 = .ok (.iload 5, 2) := by decide +kernel
theorem dX8_mostAlike_17 : decode cX8_mostAlike 17 = .ok (.iconst 3, 1) := by decide +kernel
theorem dX8_mostAlike_18 : decode cX8_mostAlike 18 = .ok (.if_icmp .ge 54, 3) := by decide +kernel
theorem dX8_mostAlike_21 : decode cX8_mostAlike 21 = .ok (.iload_n 1, 1) := by decide +kernel
theorem dX8_mostAlike_22 : decode cX8_mostAlike 22 = .ok (.iload_n 3, 1) := by decide +kernel
theorem dX8_mostAlike_23 : decode cX8_mostAlike 23 = .ok (.ishr, 1) := by decide +kernel
theorem dX8_mostAlike_24 : decode cX8_mostAlike 24 = .ok (.iload_n 1, 1) := by decide +kernel
theorem dX8_mostAlike_25 : decode cX8_mostAlike 25 = .ok (.iload 5, 2) := by decide +kernel
theorem dX8_mostAlike_27 : decode cX8_mostAlike 27 = .ok (.ishr, 1) := by decide +kernel
theorem dX8_mostAlike_28 : decode cX8_mostAlike 28 = .ok (.iand, 1) := by decide +kernel
theorem dX8_mostAlike_29 : decode cX8_mostAlike 29 = .ok (.iconst 1, 1) := by decide +kernel
theorem dX8_mostAlike_30 : decode cX8_mostAlike 30 = .ok (.iand, 1) := by decide +kernel
theorem dX8_mostAlike_31 : decode cX8_mostAlike 31 = .ok (.iconst 1, 1) := by decide +kernel
theorem dX8_mostAlike_32 : decode cX8_mostAlike 32 = .ok (.if_icmp .ne 7, 3) := by decide +kernel
theorem dX8_mostAlike_35 : decode cX8_mostAlike 35 = .ok (.iconst 1, 1) := by decide +kernel
theorem dX8_mostAlike_36 : decode cX8_mostAlike 36 = .ok (.goto 4, 3) := by decide +kernel
theorem dX8_mostAlike_39 : decode cX8_mostAlike 39 = .ok (.iconst 0, 1) := by decide +kernel
theorem dX8_mostAlike_40 : decode cX8_mostAlike 40 = .ok (.istore 6, 2) := by decide +kernel
theorem dX8_mostAlike_42 : decode cX8_mostAlike 42 = .ok (.iload 6, 2) := by decide +kernel
theorem dX8_mostAlike_44 : decode cX8_mostAlike 44 = .ok (.ifCond .eq 22, 3) := by decide +kernel
theorem dX8_mostAlike_47 : decode cX8_mostAlike 47 = .ok (.aload_n 0, 1) := by decide +kernel
theorem dX8_mostAlike_48 : decode cX8_mostAlike 48 = .ok (.getfield 43, 3) := by decide +kernel
theorem dX8_mostAlike_51 : decode cX8_mostAlike 51 = .ok (.iload_n 3, 1) := by decide +kernel
theorem dX8_mostAlike_52 : decode cX8_mostAlike 52 = .ok (.iaload, 1) := by decide +kernel
theorem dX8_mostAlike_53 : decode cX8_mostAlike 53 = .ok (.aload_n 0, 1) := by decide +kernel
theorem dX8_mostAlike_54 : decode cX8_mostAlike 54 = .ok (.getfield 43, 3) := by decide +kernel
theorem dX8_mostAlike_57 : decode cX8_mostAlike 57 = .ok (.iload 5, 2) := by decide +kernel
theorem dX8_mostAlike_59 : decode cX8_mostAlike 59 = .ok (.iaload, 1) := by decide +kernel
theorem dX8_mostAlike_60 : decode cX8_mostAlike 60 = .ok (.if_icmp .ne 6, 3) := by decide +kernel
theorem dX8_mostAlike_63 : decode cX8_mostAlike 63 = .ok (.iinc 4 1, 3) := by decide +kernel
theorem dX8_mostAlike_66 : decode cX8_mostAlike 66 = .ok (.iinc 5 1, 3) := by decide +kernel
theorem dX8_mostAlike_69 : decode cX8_mostAlike 69 = .ok (.goto (-54), 3) := by decide +kernel
theorem dX8_mostAlike_72 : decode cX8_mostAlike 72 = .ok (.iload_n 2, 1) := by decide +kernel
theorem dX8_mostAlike_73 : decode cX8_mostAlike 73 = .ok (.iload 4, 2) := by decide +kernel
theorem dX8_mostAlike_75 : decode cX8_mostAlike 75 = .ok (.invokestatic 305, 3) := by decide +kernel
theorem dX8_mostAlike_78 : decode cX8_mostAlike 78 = .ok (.istore_n 2, 1) := by decide +kernel
theorem dX8_mostAlike_79 : decode cX8_mostAlike 79 = .ok (.iinc 3 1, 3) := by decide +kernel
theorem dX8_mostAlike_82 : decode cX8_mostAlike 82 = .ok (.goto (-78), 3) := by decide +kernel
theorem dX8_mostAlike_85 : decode cX8_mostAlike 85 = .ok (.iload_n 2, 1) := by decide +kernel
theorem dX8_mostAlike_86 : decode cX8_mostAlike 86 = .ok (.ireturn, 1) := by decide +kernel
theorem dX8_nextSeed_0 : decode cX8_nextSeed 0 = .ok (.ldc2_w 310, 3) := by decide +kernel
theorem dX8_nextSeed_3 : decode cX8_nextSeed 3 = .ok (.iload_n 0, 1) := by decide +kernel
theorem dX8_nextSeed_4 : decode cX8_nextSeed 4 = .ok (.i2l, 1) := by decide +kernel
theorem dX8_nextSeed_5 : decode cX8_nextSeed 5 = .ok (.lmul, 1) := by decide +kernel
theorem dX8_nextSeed_6 : decode cX8_nextSeed 6 = .ok (.ldc2_w 312, 3) := by decide +kernel
theorem dX8_nextSeed_9 : decode cX8_nextSeed 9 = .ok (.ladd, 1) := by decide +kernel
theorem dX8_nextSeed_10 : decode cX8_nextSeed 10 = .ok (.ldc2_w 314, 3) := by decide +kernel
theorem dX8_nextSeed_13 : decode cX8_nextSeed 13 = .ok (.land, 1) := by decide +kernel
theorem dX8_nextSeed_14 : decode cX8_nextSeed 14 = .ok (.l2i, 1) := by decide +kernel
theorem dX8_nextSeed_15 : decode cX8_nextSeed 15 = .ok (.ireturn, 1) := by decide +kernel
theorem dX8_drawOf_0 : decode cX8_drawOf 0 = .ok (.iload_n 1, 1) := by decide +kernel
theorem dX8_drawOf_1 : decode cX8_drawOf 1 = .ok (.ifCond .le 13, 3) := by decide +kernel
theorem dX8_drawOf_4 : decode cX8_drawOf 4 = .ok (.iload_n 0, 1) := by decide +kernel
theorem dX8_drawOf_5 : decode cX8_drawOf 5 = .ok (.ldc_w 316, 3) := by decide +kernel
theorem dX8_drawOf_8 : decode cX8_drawOf 8 = .ok (.idiv, 1) := by decide +kernel
theorem dX8_drawOf_9 : decode cX8_drawOf 9 = .ok (.iload_n 1, 1) := by decide +kernel
theorem dX8_drawOf_10 : decode cX8_drawOf 10 = .ok (.irem, 1) := by decide +kernel
theorem dX8_drawOf_11 : decode cX8_drawOf 11 = .ok (.goto 4, 3) := by decide +kernel
theorem dX8_drawOf_14 : decode cX8_drawOf 14 = .ok (.iconst 0, 1) := by decide +kernel
theorem dX8_drawOf_15 : decode cX8_drawOf 15 = .ok (.ireturn, 1) := by decide +kernel
theorem dX9_init_0 : decode cX9_init 0 = .ok (.aload_n 0, 1) := by decide +kernel
theorem dX9_init_1 : decode cX9_init 1 = .ok (.invokespecial 1, 3) := by decide +kernel
theorem dX9_init_4 : decode cX9_init 4 = .ok (.aload_n 0, 1) := by decide +kernel
theorem dX9_init_5 : decode cX9_init 5 = .ok (.bipush 8, 2) := by decide +kernel
theorem dX9_init_7 : decode cX9_init 7 = .ok (.newarray .int, 2) := by decide +kernel
theorem dX9_init_9 : decode cX9_init 9 = .ok (.putfield 7, 3) := by decide +kernel
theorem dX9_init_12 : decode cX9_init 12 = .ok (.aload_n 0, 1) := by decide +kernel
theorem dX9_init_13 : decode cX9_init 13 = .ok (.bipush 8, 2) := by decide +kernel
theorem dX9_init_15 : decode cX9_init 15 = .ok (.newarray .int, 2) := by decide +kernel
theorem dX9_init_17 : decode cX9_init 17 = .ok (.putfield 13, 3) := by decide +kernel
theorem dX9_init_20 : decode cX9_init 20 = .ok (.aload_n 0, 1) := by decide +kernel
theorem dX9_init_21 : decode cX9_init 21 = .ok (.bipush 24, 2) := by decide +kernel
theorem dX9_init_23 : decode cX9_init 23 = .ok (.newarray .int, 2) := by decide +kernel
theorem dX9_init_25 : decode cX9_init 25 = .ok (.putfield 16, 3) := by decide +kernel
theorem dX9_init_28 : decode cX9_init 28 = .ok (.aload_n 0, 1) := by decide +kernel
theorem dX9_init_29 : decode cX9_init 29 = .ok (.iconst 3, 1) := by decide +kernel
theorem dX9_init_30 : decode cX9_init 30 = .ok (.newarray .int, 2) := by decide +kernel
theorem dX9_init_32 : decode cX9_init 32 = .ok (.putfield 19, 3) := by decide +kernel
theorem dX9_init_35 : decode cX9_init 35 = .ok (.aload_n 0, 1) := by decide +kernel
theorem dX9_init_36 : decode cX9_init 36 = .ok (.iconst 3, 1) := by decide +kernel
theorem dX9_init_37 : decode cX9_init 37 = .ok (.newarray .int, 2) := by decide +kernel
theorem dX9_init_39 : decode cX9_init 39 = .ok (.putfield 22, 3) := by decide +kernel
theorem dX9_init_42 : decode cX9_init 42 = .ok (.aload_n 0, 1) := by decide +kernel
theorem dX9_init_43 : decode cX9_init 43 = .ok (.bipush 6, 2) := by decide +kernel
theorem dX9_init_45 : decode cX9_init 45 = .ok (.newarray .int, 2) := by decide +kernel
theorem dX9_init_47 : decode cX9_init 47 = .ok (.putfield 25, 3) := by decide +kernel
theorem dX9_init_50 : decode cX9_init 50 = .ok (.aload_n 0, 1) := by decide +kernel
theorem dX9_init_51 : decode cX9_init 51 = .ok (.bipush 6, 2) := by decide +kernel
theorem dX9_init_53 : decode cX9_init 53 = .ok (.newarray .int, 2) := by decide +kernel
theorem dX9_init_55 : decode cX9_init 55 = .ok (.putfield 28, 3) := by decide +kernel
theorem dX9_init_58 : decode cX9_init 58 = .ok (.aload_n 0, 1) := by decide +kernel
theorem dX9_init_59 : decode cX9_init 59 = .ok (.bipush 6, 2) := by decide +kernel
theorem dX9_init_61 : decode cX9_init 61 = .ok (.newarray .int, 2) := by decide +kernel
theorem dX9_init_63 : decode cX9_init 63 = .ok (.putfield 31, 3) := by decide +kernel
theorem dX9_init_66 : decode cX9_init 66 = .ok (.aload_n 0, 1) := by decide +kernel
theorem dX9_init_67 : decode cX9_init 67 = .ok (.bipush 50, 2) := by decide +kernel
theorem dX9_init_69 : decode cX9_init 69 = .ok (.newarray .byte, 2) := by decide +kernel
theorem dX9_init_71 : decode cX9_init 71 = .ok (.putfield 34, 3) := by decide +kernel
theorem dX9_init_74 : decode cX9_init 74 = .ok (.aload_n 0, 1) := by decide +kernel
theorem dX9_init_75 : decode cX9_init 75 = .ok (.bipush 24, 2) := by decide +kernel
theorem dX9_init_77 : decode cX9_init 77 = .ok (.newarray .int, 2) := by decide +kernel
theorem dX9_init_79 : decode cX9_init 79 = .ok (.putfield 38, 3) := by decide +kernel
theorem dX9_init_82 : decode cX9_init 82 = .ok (.aload_n 0, 1) := by decide +kernel
theorem dX9_init_83 : decode cX9_init 83 = .ok (.bipush 24, 2) := by decide +kernel
theorem dX9_init_85 : decode cX9_init 85 = .ok (.newarray .int, 2) := by decide +kernel
theorem dX9_init_87 : decode cX9_init 87 = .ok (.putfield 41, 3) := by decide +kernel
theorem dX9_init_90 : decode cX9_init 90 = .ok (.aload_n 0, 1) := by decide +kernel
theorem dX9_init_91 : decode cX9_init 91 = .ok (.bipush 100, 2) := by decide +kernel
theorem dX9_init_93 : decode cX9_init 93 = .ok (.newarray .long, 2) := by decide +kernel
theorem dX9_init_95 : decode cX9_init 95 = .ok (.putfield 44, 3) := by decide +kernel
theorem dX9_init_98 : decode cX9_init 98 = .ok (.aload_n 0, 1) := by decide +kernel
theorem dX9_init_99 : decode cX9_init 99 = .ok (.iconst 3, 1) := by decide +kernel
theorem dX9_init_100 : decode cX9_init 100 = .ok (.newarray .int, 2) := by decide +kernel
theorem dX9_init_102 : decode cX9_init 102 = .ok (.putfield 48, 3) := by decide +kernel
theorem dX9_init_105 : decode cX9_init 105 = .ok (.aload_n 0, 1) := by decide +kernel
theorem dX9_init_106 : decode cX9_init 106 = .ok (.bipush 24, 2) := by decide +kernel
theorem dX9_init_108 : decode cX9_init 108 = .ok (.newarray .int, 2) := by decide +kernel
theorem dX9_init_110 : decode cX9_init 110 = .ok (.putfield 51, 3) := by decide +kernel
theorem dX9_init_113 : decode cX9_init 113 = .ok (.aload_n 0, 1) := by decide +kernel
theorem dX9_init_114 : decode cX9_init 114 = .ok (.bipush 8, 2) := by decide +kernel
theorem dX9_init_116 : decode cX9_init 116 = .ok (.newarray .int, 2) := by decide +kernel
theorem dX9_init_118 : decode cX9_init 118 = .ok (.putfield 54, 3) := by decide +kernel
theorem dX9_init_121 : decode cX9_init 121 = .ok (.aload_n 0, 1) := by decide +kernel
theorem dX9_init_122 : decode cX9_init 122 = .ok (.bipush 24, 2) := by decide +kernel
theorem dX9_init_124 : decode cX9_init 124 = .ok (.newarray .int, 2) := by decide +kernel
theorem dX9_init_126 : decode cX9_init 126 = .ok (.putfield 57, 3) := by decide +kernel
theorem dX9_init_129 : decode cX9_init 129 = .ok (.aload_n 0, 1) := by decide +kernel
theorem dX9_init_130 : decode cX9_init 130 = .ok (.iconst 3, 1) := by decide +kernel
theorem dX9_init_131 : decode cX9_init 131 = .ok (.newarray .int, 2) := by decide +kernel
theorem dX9_init_133 : decode cX9_init 133 = .ok (.putfield 60, 3) := by decide +kernel
theorem dX9_init_136 : decode cX9_init 136 = .ok (.aload_n 0, 1) := by decide +kernel
theorem dX9_init_137 : decode cX9_init 137 = .ok (.iconst 3, 1) := by decide +kernel
theorem dX9_init_138 : decode cX9_init 138 = .ok (.newarray .int, 2) := by decide +kernel
theorem dX9_init_140 : decode cX9_init 140 = .ok (.putfield 63, 3) := by decide +kernel
theorem dX9_init_143 : decode cX9_init 143 = .ok (.aload_n 0, 1) := by decide +kernel
theorem dX9_init_144 : decode cX9_init 144 = .ok (.bipush 6, 2) := by decide +kernel
theorem dX9_init_146 : decode cX9_init 146 = .ok (.newarray .int, 2) := by decide +kernel
theorem dX9_init_148 : decode cX9_init 148 = .ok (.putfield 66, 3) := by decide +kernel
theorem dX9_init_151 : decode cX9_init 151 = .ok (.aload_n 0, 1) := by decide +kernel
theorem dX9_init_152 : decode cX9_init 152 = .ok (.bipush 6, 2) := by decide +kernel
theorem dX9_init_154 : decode cX9_init 154 = .ok (.newarray .int, 2) := by decide +kernel
theorem dX9_init_156 : decode cX9_init 156 = .ok (.putfield 69, 3) := by decide +kernel
theorem dX9_init_159 : decode cX9_init 159 = .ok (.aload_n 0, 1) := by decide +kernel
theorem dX9_init_160 : decode cX9_init 160 = .ok (.bipush 6, 2) := by decide +kernel
theorem dX9_init_162 : decode cX9_init 162 = .ok (.newarray .int, 2) := by decide +kernel
theorem dX9_init_164 : decode cX9_init 164 = .ok (.putfield 72, 3) := by decide +kernel
theorem dX9_init_167 : decode cX9_init 167 = .ok (.return_, 1) := by decide +kernel
theorem dX9_within_0 : decode cX9_within 0 = .ok (.iload_n 0, 1) := by decide +kernel
theorem dX9_within_1 : decode cX9_within 1 = .ok (.iload_n 1, 1) := by decide +kernel
theorem dX9_within_2 : decode cX9_within 2 = .ok (.if_icmp .lt 12, 3) := by decide +kernel
theorem dX9_within_5 : decode cX9_within 5 = .ok (.iload_n 0, 1) := by decide +kernel
theorem dX9_within_6 : decode cX9_within 6 = .ok (.iload_n 2, 1) := by decide +kernel
theorem dX9_within_7 : decode cX9_within 7 = .ok (.if_icmp .gt 7, 3) := by decide +kernel
theorem dX9_within_10 : decode cX9_within 10 = .ok (.iconst 1, 1) := by decide +kernel
theorem dX9_within_11 : decode cX9_within 11 = .ok (.goto 4, 3) := by decide +kernel
theorem dX9_within_14 : decode cX9_within 14 = .ok (.iconst 0, 1) := by decide +kernel
theorem dX9_within_15 : decode cX9_within 15 = .ok (.ireturn, 1) := by decide +kernel
theorem dX9_isIn_0 : decode cX9_isIn 0 = .ok (.iload_n 0, 1) := by decide +kernel
theorem dX9_isIn_1 : decode cX9_isIn 1 = .ok (.iload_n 1, 1) := by decide +kernel
theorem dX9_isIn_2 : decode cX9_isIn 2 = .ok (.ishr, 1) := by decide +kernel
theorem dX9_isIn_3 : decode cX9_isIn 3 = .ok (.iconst 1, 1) := by decide +kernel
theorem dX9_isIn_4 : decode cX9_isIn 4 = .ok (.iand, 1) := by decide +kernel
theorem dX9_isIn_5 : decode cX9_isIn 5 = .ok (.iconst 1, 1) := by decide +kernel
theorem dX9_isIn_6 : decode cX9_isIn 6 = .ok (.if_icmp .ne 7, 3) := by decide +kernel
theorem dX9_isIn_9 : decode cX9_isIn 9 = .ok (.iconst 1, 1) := by decide +kernel
theorem dX9_isIn_10 : decode cX9_isIn 10 = .ok (.goto 4, 3) := by decide +kernel
theorem dX9_isIn_13 : decode cX9_isIn 13 = .ok (.iconst 0, 1) := by decide +kernel
theorem dX9_isIn_14 : decode cX9_isIn 14 = .ok (.ireturn, 1) := by decide +kernel
theorem dX9_size_0 : decode cX9_size 0 = .ok (.iconst 0, 1) := by decide +kernel
theorem dX9_size_1 : decode cX9_size 1 = .ok (.istore_n 1, 1) := by decide +kernel
theorem dX9_size_2 : decode cX9_size 2 = .ok (.iconst 0, 1) := by decide +kernel
theorem dX9_size_3 : decode cX9_size 3 = .ok (.istore_n 2, 1) := by decide +kernel
theorem dX9_size_4 : decode cX9_size 4 = .ok (.iload_n 2, 1) := by decide +kernel
theorem dX9_size_5 : decode cX9_size 5 = .ok (.bipush 8, 2) := by decide +kernel
theorem dX9_size_7 : decode cX9_size 7 = .ok (.if_icmp .ge 17, 3) := by decide +kernel
theorem dX9_size_10 : decode cX9_size 10 = .ok (.iload_n 1, 1) := by decide +kernel
theorem dX9_size_11 : decode cX9_size 11 = .ok (.iload_n 0, 1) := by decide +kernel
theorem dX9_size_12 : decode cX9_size 12 = .ok (.iload_n 2, 1) := by decide +kernel
theorem dX9_size_13 : decode cX9_size 13 = .ok (.ishr, 1) := by decide +kernel
theorem dX9_size_14 : decode cX9_size 14 = .ok (.iconst 1, 1) := by decide +kernel
theorem dX9_size_15 : decode cX9_size 15 = .ok (.iand, 1) := by decide +kernel
theorem dX9_size_16 : decode cX9_size 16 = .ok (.iadd, 1) := by decide +kernel
theorem dX9_size_17 : decode cX9_size 17 = .ok (.istore_n 1, 1) := by decide +kernel
theorem dX9_size_18 : decode cX9_size 18 = .ok (.iinc 2 1, 3) := by decide +kernel
theorem dX9_size_21 : decode cX9_size 21 = .ok (.goto (-17), 3) := by decide +kernel
theorem dX9_size_24 : decode cX9_size 24 = .ok (.iload_n 1, 1) := by decide +kernel
theorem dX9_size_25 : decode cX9_size 25 = .ok (.ireturn, 1) := by decide +kernel
theorem dX9_divisor_0 : decode cX9_divisor 0 = .ok (.iload_n 0, 1) := by decide +kernel
theorem dX9_divisor_1 : decode cX9_divisor 1 = .ok (.istore_n 2, 1) := by decide +kernel
theorem dX9_divisor_2 : decode cX9_divisor 2 = .ok (.iload_n 1, 1) := by decide +kernel
theorem dX9_divisor_3 : decode cX9_divisor 3 = .ok (.istore_n 3, 1) := by decide +kernel
theorem dX9_divisor_4 : decode cX9_divisor 4 = .ok (.iload_n 3, 1) := by decide +kernel
theorem dX9_divisor_5 : decode cX9_divisor 5 = .ok (.ifCond .eq 16, 3) := by decide +kernel
theorem dX9_divisor_8 : decode cX9_divisor 8 = .ok (.iload_n 2, 1) := by decide +kernel
theorem dX9_divisor_9 : decode cX9_divisor 9 = .ok (.iload_n 3, 1) := by decide +kernel
theorem dX9_divisor_10 : decode cX9_divisor 10 = .ok (.irem, 1) := by decide +kernel
theorem dX9_divisor_11 : decode cX9_divisor 11 = .ok (.istore 4, 2) := by decide +kernel
theorem dX9_divisor_13 : decode cX9_divisor 13 = .ok (.iload_n 3, 1) := by decide +kernel
theorem dX9_divisor_14 : decode cX9_divisor 14 = .ok (.istore_n 2, 1) := by decide +kernel
theorem dX9_divisor_15 : decode cX9_divisor 15 = .ok (.iload 4, 2) := by decide +kernel
theorem dX9_divisor_17 : decode cX9_divisor 17 = .ok (.istore_n 3, 1) := by decide +kernel
theorem dX9_divisor_18 : decode cX9_divisor 18 = .ok (.goto (-14), 3) := by decide +kernel
theorem dX9_divisor_21 : decode cX9_divisor 21 = .ok (.iload_n 2, 1) := by decide +kernel
theorem dX9_divisor_22 : decode cX9_divisor 22 = .ok (.ireturn, 1) := by decide +kernel
theorem dX9_part_0 : decode cX9_part 0 = .ok (.iload_n 0, 1) := by decide +kernel
theorem dX9_part_1 : decode cX9_part 1 = .ok (.iload_n 1, 1) := by decide +kernel
theorem dX9_part_2 : decode cX9_part 2 = .ok (.invokestatic 75, 3) := by decide +kernel
theorem dX9_part_5 : decode cX9_part 5 = .ok (.istore_n 3, 1) := by decide +kernel
theorem dX9_part_6 : decode cX9_part 6 = .ok (.iload_n 2, 1) := by decide +kernel
theorem dX9_part_7 : decode cX9_part 7 = .ok (.ifCond .ne 9, 3) := by decide +kernel
theorem dX9_part_10 : decode cX9_part 10 = .ok (.iload_n 0, 1) := by decide +kernel
theorem dX9_part_11 : decode cX9_part 11 = .ok (.iload_n 3, 1) := by decide +kernel
theorem dX9_part_12 : decode cX9_part 12 = .ok (.idiv, 1) := by decide +kernel
theorem dX9_part_13 : decode cX9_part 13 = .ok (.goto 6, 3) := by decide +kernel
theorem dX9_part_16 : decode cX9_part 16 = .ok (.iload_n 1, 1) := by decide +kernel
theorem dX9_part_17 : decode cX9_part 17 = .ok (.iload_n 3, 1) := by decide +kernel
theorem dX9_part_18 : decode cX9_part 18 = .ok (.idiv, 1) := by decide +kernel
theorem dX9_part_19 : decode cX9_part 19 = .ok (.ireturn, 1) := by decide +kernel
theorem dX9_letter_0 : decode cX9_letter 0 = .ok (.iload_n 1, 1) := by decide +kernel
theorem dX9_letter_1 : decode cX9_letter 1 = .ok (.bipush 32, 2) := by decide +kernel
theorem dX9_letter_3 : decode cX9_letter 3 = .ok (.bipush 126, 2) := by decide +kernel
theorem dX9_letter_5 : decode cX9_letter 5 = .ok (.invokestatic 79, 3) := by decide +kernel
theorem dX9_letter_8 : decode cX9_letter 8 = .ok (.ifCond .ne 6, 3) := by decide +kernel
theorem dX9_letter_11 : decode cX9_letter 11 = .ok (.bipush (-102), 2) := by decide +kernel
theorem dX9_letter_13 : decode cX9_letter 13 = .ok (.ireturn, 1) := by decide +kernel
theorem dX9_letter_14 : decode cX9_letter 14 = .ok (.aload_n 0, 1) := by decide +kernel
theorem dX9_letter_15 : decode cX9_letter 15 = .ok (.getfield 83, 3) := by decide +kernel
theorem dX9_letter_18 : decode cX9_letter 18 = .ok (.bipush 50, 2) := by decide +kernel
theorem dX9_letter_20 : decode cX9_letter 20 = .ok (.if_icmp .ne 6, 3) := by decide +kernel
theorem dX9_letter_23 : decode cX9_letter 23 = .ok (.bipush (-104), 2) := by decide +kernel
theorem dX9_letter_25 : decode cX9_letter 25 = .ok (.ireturn, 1) := by decide +kernel
theorem dX9_letter_26 : decode cX9_letter 26 = .ok (.aload_n 0, 1) := by decide +kernel
theorem dX9_letter_27 : decode cX9_letter 27 = .ok (.getfield 34, 3) := by decide +kernel
theorem dX9_letter_30 : decode cX9_letter 30 = .ok (.aload_n 0, 1) := by decide +kernel
theorem dX9_letter_31 : decode cX9_letter 31 = .ok (.getfield 83, 3) := by decide +kernel
theorem dX9_letter_34 : decode cX9_letter 34 = .ok (.iload_n 1, 1) := by decide +kernel
theorem dX9_letter_35 : decode cX9_letter 35 = .ok (.i2b, 1) := by decide +kernel
theorem dX9_letter_36 : decode cX9_letter 36 = .ok (.bastore, 1) := by decide +kernel
theorem dX9_letter_37 : decode cX9_letter 37 = .ok (.aload_n 0, 1) := by decide +kernel
theorem dX9_letter_38 : decode cX9_letter 38 = .ok (.dup, 1) := by decide +kernel
theorem dX9_letter_39 : decode cX9_letter 39 = .ok (.getfield 83, 3) := by decide +kernel
theorem dX9_letter_42 : decode cX9_letter 42 = .ok (.iconst 1, 1) := by decide +kernel
theorem dX9_letter_43 : decode cX9_letter 43 = .ok (.iadd, 1) := by decide +kernel
theorem dX9_letter_44 : decode cX9_letter 44 = .ok (.putfield 83, 3) := by decide +kernel
theorem dX9_letter_47 : decode cX9_letter 47 = .ok (.aload_n 0, 1) := by decide +kernel
theorem dX9_letter_48 : decode cX9_letter 48 = .ok (.getfield 83, 3) := by decide +kernel
theorem dX9_letter_51 : decode cX9_letter 51 = .ok (.ireturn, 1) := by decide +kernel
theorem dX9_blank_0 : decode cX9_blank 0 = .ok (.aload_n 0, 1) := by decide +kernel
theorem dX9_blank_1 : decode cX9_blank 1 = .ok (.getfield 83, 3) := by decide +kernel
theorem dX9_blank_4 : decode cX9_blank 4 = .ok (.istore_n 1, 1) := by decide +kernel
theorem dX9_blank_5 : decode cX9_blank 5 = .ok (.aload_n 0, 1) := by decide +kernel
theorem dX9_blank_6 : decode cX9_blank 6 = .ok (.iconst 0, 1) := by decide +kernel
theorem dX9_blank_7 : decode cX9_blank 7 = .ok (.putfield 83, 3) := by decide +kernel
theorem dX9_blank_10 : decode cX9_blank 10 = .ok (.iload_n 1, 1) := by decide +kernel
theorem dX9_blank_11 : decode cX9_blank 11 = .ok (.ireturn, 1) := by decide +kernel
theorem dX9_kindBy_0 : decode cX9_kindBy 0 = .ok (.iload_n 0, 1) := by decide +kernel
theorem dX9_kindBy_1 : decode cX9_kindBy 1 = .ok (.lookupswitch 61 #[(99, 55), (101, 53), (107, 57), (109, 51), (115, 59)], 51) := by decide +kernel
theorem dX9_kindBy_52 : decode cX9_kindBy 52 = .ok (.iconst 0, 1) := by decide +kernel
theorem dX9_kindBy_53 : decode cX9_kindBy 53 = .ok (.ireturn, 1) := by decide +kernel
theorem dX9_kindBy_54 : decode cX9_kindBy 54 = .ok (.iconst 1, 1) := by decide +kernel
theorem dX9_kindBy_55 : decode cX9_kindBy 55 = .ok (.ireturn, 1) := by decide +kernel
theorem dX9_kindBy_56 : decode cX9_kindBy 56 = .ok (.iconst 2, 1) := by decide +kernel
theorem dX9_kindBy_57 : decode cX9_kindBy 57 = .ok (.ireturn, 1) := by decide +kernel
theorem dX9_kindBy_58 : decode cX9_kindBy 58 = .ok (.iconst 3, 1) := by decide +kernel
theorem dX9_kindBy_59 : decode cX9_kindBy 59 = .ok (.ireturn, 1) := by decide +kernel
theorem dX9_kindBy_60 : decode cX9_kindBy 60 = .ok (.iconst 4, 1) := by decide +kernel
theorem dX9_kindBy_61 : decode cX9_kindBy 61 = .ok (.ireturn, 1) := by decide +kernel
theorem dX9_kindBy_62 : decode cX9_kindBy 62 = .ok (.iconst (-1), 1) := by decide +kernel
theorem dX9_kindBy_63 : decode cX9_kindBy 63 = .ok (.ireturn, 1) := by decide +kernel
theorem dX9_at_0 : decode cX9_at 0 = .ok (.iload_n 1, 1) := by decide +kernel
theorem dX9_at_1 : decode cX9_at 1 = .ok (.aload_n 0, 1) := by decide +kernel
theorem dX9_at_2 : decode cX9_at 2 = .ok (.getfield 83, 3) := by decide +kernel
theorem dX9_at_5 : decode cX9_at 5 = .ok (.if_icmp .ge 12, 3) := by decide +kernel
theorem dX9_at_8 : decode cX9_at 8 = .ok (.aload_n 0, 1) := by decide +kernel
theorem dX9_at_9 : decode cX9_at 9 = .ok (.getfield 34, 3) := by decide +kernel
theorem dX9_at_12 : decode cX9_at 12 = .ok (.iload_n 1, 1) := by decide +kernel
theorem dX9_at_13 : decode cX9_at 13 = .ok (.baload, 1) := by decide +kernel
theorem dX9_at_14 : decode cX9_at 14 = .ok (.goto 4, 3) := by decide +kernel
theorem dX9_at_17 : decode cX9_at 17 = .ok (.iconst 0, 1) := by decide +kernel
theorem dX9_at_18 : decode cX9_at 18 = .ok (.ireturn, 1) := by decide +kernel
theorem dX9_isLean_0 : decode cX9_isLean 0 = .ok (.iload_n 0, 1) := by decide +kernel
theorem dX9_isLean_1 : decode cX9_isLean 1 = .ok (.bipush 43, 2) := by decide +kernel
theorem dX9_isLean_3 : decode cX9_isLean 3 = .ok (.if_icmp .eq 15, 3) := by decide +kernel
theorem dX9_isLean_6 : decode cX9_isLean 6 = .ok (.iload_n 0, 1) := by decide +kernel
theorem dX9_isLean_7 : decode cX9_isLean 7 = .ok (.bipush 45, 2) := by decide +kernel
theorem dX9_isLean_9 : decode cX9_isLean 9 = .ok (.if_icmp .eq 9, 3) := by decide +kernel
theorem dX9_isLean_12 : decode cX9_isLean 12 = .ok (.iload_n 0, 1) := by decide +kernel
theorem dX9_isLean_13 : decode cX9_isLean 13 = .ok (.bipush 48, 2) := by decide +kernel
theorem dX9_isLean_15 : decode cX9_isLean 15 = .ok (.if_icmp .ne 7, 3) := by decide +kernel
theorem dX9_isLean_18 : decode cX9_isLean 18 = .ok (.iconst 1, 1) := by decide +kernel
theorem dX9_isLean_19 : decode cX9_isLean 19 = .ok (.goto 4, 3) := by decide +kernel
theorem dX9_isLean_22 : decode cX9_isLean 22 = .ok (.iconst 0, 1) := by decide +kernel
theorem dX9_isLean_23 : decode cX9_isLean 23 = .ok (.ireturn, 1) := by decide +kernel
theorem dX9_readOne_0 : decode cX9_readOne 0 = .ok (.aload_n 0, 1) := by decide +kernel
theorem dX9_readOne_1 : decode cX9_readOne 1 = .ok (.iload_n 1, 1) := by decide +kernel
theorem dX9_readOne_2 : decode cX9_readOne 2 = .ok (.invokevirtual 87, 3) := by decide +kernel
theorem dX9_readOne_5 : decode cX9_readOne 5 = .ok (.invokestatic 91, 3) := by decide +kernel
theorem dX9_readOne_8 : decode cX9_readOne 8 = .ok (.iconst (-1), 1) := by decide +kernel
theorem dX9_readOne_9 : decode cX9_readOne 9 = .ok (.if_icmp .ne 5, 3) := by decide +kernel
theorem dX9_readOne_12 : decode cX9_readOne 12 = .ok (.iload_n 1, 1) := by decide +kernel
theorem dX9_readOne_13 : decode cX9_readOne 13 = .ok (.ireturn, 1) := by decide +kernel
theorem dX9_readOne_14 : decode cX9_readOne 14 = .ok (.aload_n 0, 1) := by decide +kernel
theorem dX9_readOne_15 : decode cX9_readOne 15 = .ok (.iload_n 1, 1) := by decide +kernel
theorem dX9_readOne_16 : decode cX9_readOne 16 = .ok (.iconst 1, 1) := by decide +kernel
theorem dX9_readOne_17 : decode cX9_readOne 17 = .ok (.iadd, 1) := by decide +kernel
theorem dX9_readOne_18 : decode cX9_readOne 18 = .ok (.invokevirtual 87, 3) := by decide +kernel
theorem dX9_readOne_21 : decode cX9_readOne 21 = .ok (.bipush 48, 2) := by decide +kernel
theorem dX9_readOne_23 : decode cX9_readOne 23 = .ok (.isub, 1) := by decide +kernel
theorem dX9_readOne_24 : decode cX9_readOne 24 = .ok (.iconst 1, 1) := by decide +kernel
theorem dX9_readOne_25 : decode cX9_readOne 25 = .ok (.bipush 9, 2) := by decide +kernel
theorem dX9_readOne_27 : decode cX9_readOne 27 = .ok (.invokestatic 79, 3) := by decide +kernel
theorem dX9_readOne_30 : decode cX9_readOne 30 = .ok (.ifCond .ne 7, 3) := by decide +kernel
theorem dX9_readOne_33 : decode cX9_readOne 33 = .ok (.iload_n 1, 1) := by decide +kernel
theorem dX9_readOne_34 : decode cX9_readOne 34 = .ok (.iconst 1, 1) := by decide +kernel
theorem dX9_readOne_35 : decode cX9_readOne 35 = .ok (.iadd, 1) := by decide +kernel
theorem dX9_readOne_36 : decode cX9_readOne 36 = .ok (.ireturn, 1) := by decide +kernel
theorem dX9_readOne_37 : decode cX9_readOne 37 = .ok (.iload_n 1, 1) := by decide +kernel
theorem dX9_readOne_38 : decode cX9_readOne 38 = .ok (.iconst 2, 1) := by decide +kernel
theorem dX9_readOne_39 : decode cX9_readOne 39 = .ok (.iadd, 1) := by decide +kernel
theorem dX9_readOne_40 : decode cX9_readOne 40 = .ok (.istore_n 2, 1) := by decide +kernel
theorem dX9_readOne_41 : decode cX9_readOne 41 = .ok (.iload_n 2, 1) := by decide +kernel
theorem dX9_readOne_42 : decode cX9_readOne 42 = .ok (.iload_n 1, 1) := by decide +kernel
theorem dX9_readOne_43 : decode cX9_readOne 43 = .ok (.iconst 5, 1) := by decide +kernel
theorem dX9_readOne_44 : decode cX9_readOne 44 = .ok (.iadd, 1) := by decide +kernel
theorem dX9_readOne_45 : decode cX9_readOne 45 = .ok (.if_icmp .ge 20, 3) := by decide +kernel
theorem dX9_readOne_48 : decode cX9_readOne 48 = .ok (.aload_n 0, 1) := by decide +kernel
theorem dX9_readOne_49 : decode cX9_readOne 49 = .ok (.iload_n 2, 1) := by decide +kernel
theorem dX9_readOne_50 : decode cX9_readOne 50 = .ok (.invokevirtual 87, 3) := by decide +kernel
theorem dX9_readOne_53 : decode cX9_readOne 53 = .ok (.invokestatic 94, 3) := by decide +kernel
theorem dX9_readOne_56 : decode cX9_readOne 56 = .ok (.ifCond .eq 9, 3) := by decide +kernel
theorem dX9_readOne_59 : decode cX9_readOne 59 = .ok (.iinc 2 1, 3) := by decide +kernel
theorem dX9_readOne_62 : decode cX9_readOne 62 = .ok (.goto (-21), 3) := by decide +kernel
theorem dX9_readOne_65 : decode cX9_readOne 65 = .ok (.iload_n 2, 1) := by decide +kernel
theorem dX9_readOne_66 : decode cX9_readOne 66 = .ok (.ireturn, 1) := by decide +kernel
theorem dX9_read_0 : decode cX9_read 0 = .ok (.aload_n 0, 1) := by decide +kernel
theorem dX9_read_1 : decode cX9_read 1 = .ok (.iconst 0, 1) := by decide +kernel
theorem dX9_read_2 : decode cX9_read 2 = .ok (.putfield 98, 3) := by decide +kernel
theorem dX9_read_5 : decode cX9_read 5 = .ok (.aload_n 0, 1) := by decide +kernel
theorem dX9_read_6 : decode cX9_read 6 = .ok (.iconst 0, 1) := by decide +kernel
theorem dX9_read_7 : decode cX9_read 7 = .ok (.putfield 102, 3) := by decide +kernel
theorem dX9_read_10 : decode cX9_read 10 = .ok (.iconst 0, 1) := by decide +kernel
theorem dX9_read_11 : decode cX9_read 11 = .ok (.istore_n 1, 1) := by decide +kernel
theorem dX9_read_12 : decode cX9_read 12 = .ok (.aload_n 0, 1) := by decide +kernel
theorem dX9_read_13 : decode cX9_read 13 = .ok (.getfield 102, 3) := by decide +kernel
theorem dX9_read_16 : decode cX9_read 16 = .ok (.bipush 8, 2) := by decide +kernel
theorem dX9_read_18 : decode cX9_read 18 = .ok (.if_icmp .ge 82, 3) := by decide +kernel
theorem dX9_read_21 : decode cX9_read 21 = .ok (.aload_n 0, 1) := by decide +kernel
theorem dX9_read_22 : decode cX9_read 22 = .ok (.iload_n 1, 1) := by decide +kernel
theorem dX9_read_23 : decode cX9_read 23 = .ok (.invokevirtual 105, 3) := by decide +kernel
theorem dX9_read_26 : decode cX9_read 26 = .ok (.istore_n 2, 1) := by decide +kernel
theorem dX9_read_27 : decode cX9_read 27 = .ok (.iload_n 2, 1) := by decide +kernel
theorem dX9_read_28 : decode cX9_read 28 = .ok (.iload_n 1, 1) := by decide +kernel
theorem dX9_read_29 : decode cX9_read 29 = .ok (.iconst 5, 1) := by decide +kernel
theorem dX9_read_30 : decode cX9_read 30 = .ok (.iadd, 1) := by decide +kernel
theorem dX9_read_31 : decode cX9_read 31 = .ok (.if_icmp .eq 5, 3) := by decide +kernel
theorem dX9_read_34 : decode cX9_read 34 = .ok (.iload_n 2, 1) := by decide +kernel
theorem dX9_read_35 : decode cX9_read 35 = .ok (.ireturn, 1) := by decide +kernel
theorem dX9_read_36 : decode cX9_read 36 = .ok (.aload_n 0, 1) := by decide +kernel
theorem dX9_read_37 : decode cX9_read 37 = .ok (.dup, 1) := by decide +kernel
theorem dX9_read_38 : decode cX9_read 38 = .ok (.getfield 102, 3) := by decide +kernel
theorem dX9_read_41 : decode cX9_read 41 = .ok (.iconst 1, 1) := by decide +kernel
theorem dX9_read_42 : decode cX9_read 42 = .ok (.iadd, 1) := by decide +kernel
theorem dX9_read_43 : decode cX9_read 43 = .ok (.putfield 102, 3) := by decide +kernel
theorem dX9_read_46 : decode cX9_read 46 = .ok (.iload_n 2, 1) := by decide +kernel
theorem dX9_read_47 : decode cX9_read 47 = .ok (.istore_n 1, 1) := by decide +kernel
theorem dX9_read_48 : decode cX9_read 48 = .ok (.aload_n 0, 1) := by decide +kernel
theorem dX9_read_49 : decode cX9_read 49 = .ok (.iload_n 1, 1) := by decide +kernel
theorem dX9_read_50 : decode cX9_read 50 = .ok (.aload_n 0, 1) := by decide +kernel
theorem dX9_read_51 : decode cX9_read 51 = .ok (.getfield 83, 3) := by decide +kernel
theorem dX9_read_54 : decode cX9_read 54 = .ok (.if_icmp .ne 15, 3) := by decide +kernel
theorem dX9_read_57 : decode cX9_read 57 = .ok (.aload_n 0, 1) := by decide +kernel
theorem dX9_read_58 : decode cX9_read 58 = .ok (.getfield 102, 3) := by decide +kernel
theorem dX9_read_61 : decode cX9_read 61 = .ok (.iconst 1, 1) := by decide +kernel
theorem dX9_read_62 : decode cX9_read 62 = .ok (.if_icmp .le 7, 3) := by decide +kernel
theorem dX9_read_65 : decode cX9_read 65 = .ok (.iconst 1, 1) := by decide +kernel
theorem dX9_read_66 : decode cX9_read 66 = .ok (.goto 4, 3) := by decide +kernel
theorem dX9_read_69 : decode cX9_read 69 = .ok (.iconst 0, 1) := by decide +kernel
theorem dX9_read_70 : decode cX9_read 70 = .ok (.putfield 98, 3) := by decide +kernel
theorem dX9_read_73 : decode cX9_read 73 = .ok (.aload_n 0, 1) := by decide +kernel
theorem dX9_read_74 : decode cX9_read 74 = .ok (.getfield 102, 3) := by decide +kernel
theorem dX9_read_77 : decode cX9_read 77 = .ok (.bipush 8, 2) := by decide +kernel
theorem dX9_read_79 : decode cX9_read 79 = .ok (.if_icmp .eq 13, 3) := by decide +kernel
theorem dX9_read_82 : decode cX9_read 82 = .ok (.aload_n 0, 1) := by decide +kernel
theorem dX9_read_83 : decode cX9_read 83 = .ok (.iload_n 1, 1) := by decide +kernel
theorem dX9_read_84 : decode cX9_read 84 = .ok (.invokevirtual 87, 3) := by decide +kernel
theorem dX9_read_87 : decode cX9_read 87 = .ok (.bipush 44, 2) := by decide +kernel
theorem dX9_read_89 : decode cX9_read 89 = .ok (.if_icmp .eq 5, 3) := by decide +kernel
theorem dX9_read_92 : decode cX9_read 92 = .ok (.iload_n 1, 1) := by decide +kernel
theorem dX9_read_93 : decode cX9_read 93 = .ok (.ireturn, 1) := by decide +kernel
theorem dX9_read_94 : decode cX9_read 94 = .ok (.iinc 1 1, 3) := by decide +kernel
theorem dX9_read_97 : decode cX9_read 97 = .ok (.goto (-85), 3) := by decide +kernel
theorem dX9_read_100 : decode cX9_read 100 = .ok (.iload_n 1, 1) := by decide +kernel
theorem dX9_read_101 : decode cX9_read 101 = .ok (.ireturn, 1) := by decide +kernel
theorem dX9_fault_0 : decode cX9_fault 0 = .ok (.aload_n 0, 1) := by decide +kernel
theorem dX9_fault_1 : decode cX9_fault 1 = .ok (.invokevirtual 108, 3) := by decide +kernel
theorem dX9_fault_4 : decode cX9_fault 4 = .ok (.ireturn, 1) := by decide +kernel
theorem dX9_rope_0 : decode cX9_rope 0 = .ok (.aload_n 0, 1) := by decide +kernel
theorem dX9_rope_1 : decode cX9_rope 1 = .ok (.invokevirtual 108, 3) := by decide +kernel
theorem dX9_rope_4 : decode cX9_rope 4 = .ok (.pop, 1) := by decide +kernel
theorem dX9_rope_5 : decode cX9_rope 5 = .ok (.aload_n 0, 1) := by decide +kernel
theorem dX9_rope_6 : decode cX9_rope 6 = .ok (.getfield 98, 3) := by decide +kernel
theorem dX9_rope_9 : decode cX9_rope 9 = .ok (.ifCond .ne 6, 3) := by decide +kernel
theorem dX9_rope_12 : decode cX9_rope 12 = .ok (.bipush (-103), 2) := by decide +kernel
theorem dX9_rope_14 : decode cX9_rope 14 = .ok (.ireturn, 1) := by decide +kernel
theorem dX9_rope_15 : decode cX9_rope 15 = .ok (.aload_n 0, 1) := by decide +kernel
theorem dX9_rope_16 : decode cX9_rope 16 = .ok (.aload_n 0, 1) := by decide +kernel
theorem dX9_rope_17 : decode cX9_rope 17 = .ok (.getfield 102, 3) := by decide +kernel
theorem dX9_rope_20 : decode cX9_rope 20 = .ok (.putfield 112, 3) := by decide +kernel
theorem dX9_rope_23 : decode cX9_rope 23 = .ok (.iconst 0, 1) := by decide +kernel
theorem dX9_rope_24 : decode cX9_rope 24 = .ok (.istore_n 1, 1) := by decide +kernel
theorem dX9_rope_25 : decode cX9_rope 25 = .ok (.iload_n 1, 1) := by decide +kernel
theorem dX9_rope_26 : decode cX9_rope 26 = .ok (.aload_n 0, 1) := by decide +kernel
theorem dX9_rope_27 : decode cX9_rope 27 = .ok (.getfield 112, 3) := by decide +kernel
theorem dX9_rope_30 : decode cX9_rope 30 = .ok (.if_icmp .ge 105, 3) := by decide +kernel
theorem dX9_rope_33 : decode cX9_rope 33 = .ok (.aload_n 0, 1) := by decide +kernel
theorem dX9_rope_34 : decode cX9_rope 34 = .ok (.getfield 7, 3) := by decide +kernel
theorem dX9_rope_37 : decode cX9_rope 37 = .ok (.iload_n 1, 1) := by decide +kernel
theorem dX9_rope_38 : decode cX9_rope 38 = .ok (.aload_n 0, 1) := by decide +kernel
theorem dX9_rope_39 : decode cX9_rope 39 = .ok (.getfield 34, 3) := by decide +kernel
theorem dX9_rope_42 : decode cX9_rope 42 = .ok (.bipush 6, 2) := by decide +kernel
theorem dX9_rope_44 : decode cX9_rope 44 = .ok (.iload_n 1, 1) := by decide +kernel
theorem dX9_rope_45 : decode cX9_rope 45 = .ok (.imul, 1) := by decide +kernel
theorem dX9_rope_46 : decode cX9_rope 46 = .ok (.baload, 1) := by decide +kernel
theorem dX9_rope_47 : decode cX9_rope 47 = .ok (.invokestatic 91, 3) := by decide +kernel
theorem dX9_rope_50 : decode cX9_rope 50 = .ok (.iastore, 1) := by decide +kernel
theorem dX9_rope_51 : decode cX9_rope 51 = .ok (.aload_n 0, 1) := by decide +kernel
theorem dX9_rope_52 : decode cX9_rope 52 = .ok (.getfield 13, 3) := by decide +kernel
theorem dX9_rope_55 : decode cX9_rope 55 = .ok (.iload_n 1, 1) := by decide +kernel
theorem dX9_rope_56 : decode cX9_rope 56 = .ok (.aload_n 0, 1) := by decide +kernel
theorem dX9_rope_57 : decode cX9_rope 57 = .ok (.getfield 34, 3) := by decide +kernel
theorem dX9_rope_60 : decode cX9_rope 60 = .ok (.bipush 6, 2) := by decide +kernel
theorem dX9_rope_62 : decode cX9_rope 62 = .ok (.iload_n 1, 1) := by decide +kernel
theorem dX9_rope_63 : decode cX9_rope 63 = .ok (.imul, 1) := by decide +kernel
theorem dX9_rope_64 : decode cX9_rope 64 = .ok (.iconst 1, 1) := by decide +kernel
theorem dX9_rope_65 : decode cX9_rope 65 = .ok (.iadd, 1) := by decide +kernel
theorem dX9_rope_66 : decode cX9_rope 66 = .ok (.baload, 1) := by decide +kernel
theorem dX9_rope_67 : decode cX9_rope 67 = .ok (.bipush 48, 2) := by decide +kernel
theorem dX9_rope_69 : decode cX9_rope 69 = .ok (.isub, 1) := by decide +kernel
theorem dX9_rope_70 : decode cX9_rope 70 = .ok (.iastore, 1) := by decide +kernel
theorem dX9_rope_71 : decode cX9_rope 71 = .ok (.iconst 0, 1) := by decide +kernel
theorem dX9_rope_72 : decode cX9_rope 72 = .ok (.istore_n 2, 1) := by decide +kernel
theorem dX9_rope_73 : decode cX9_rope 73 = .ok (.iload_n 2, 1) := by decide +kernel
theorem dX9_rope_74 : decode cX9_rope 74 = .ok (.iconst 3, 1) := by decide +kernel
theorem dX9_rope_75 : decode cX9_rope 75 = .ok (.if_icmp .ge 54, 3) := by decide +kernel
theorem dX9_rope_78 : decode cX9_rope 78 = .ok (.aload_n 0, 1) := by decide +kernel
theorem dX9_rope_79 : decode cX9_rope 79 = .ok (.getfield 34, 3) := by decide +kernel
theorem dX9_rope_82 : decode cX9_rope 82 = .ok (.bipush 6, 2) := by decide +kernel
theorem dX9_rope_84 : decode cX9_rope 84 = .ok (.iload_n 1, 1) := by decide +kernel
theorem dX9_rope_85 : decode cX9_rope 85 = .ok (.imul, 1) := by decide +kernel
theorem dX9_rope_86 : decode cX9_rope 86 = .ok (.iconst 2, 1) := by decide +kernel
theorem dX9_rope_87 : decode cX9_rope 87 = .ok (.iadd, 1) := by decide +kernel
theorem dX9_rope_88 : decode cX9_rope 88 = .ok (.iload_n 2, 1) := by decide +kernel
theorem dX9_rope_89 : decode cX9_rope 89 = .ok (.iadd, 1) := by decide +kernel
theorem dX9_rope_90 : decode cX9_rope 90 = .ok (.baload, 1) := by decide +kernel
theorem dX9_rope_91 : decode cX9_rope 91 = .ok (.istore_n 3, 1) := by decide +kernel
theorem dX9_rope_92 : decode cX9_rope 92 = .ok (.aload_n 0, 1) := by decide +kernel
theorem dX9_rope_93 : decode cX9_rope 93 = .ok (.getfield 16, 3) := by decide +kernel
theorem dX9_rope_96 : decode cX9_rope 96 = .ok (.iconst 3, 1) := by decide +kernel
theorem dX9_rope_97 : decode cX9_rope 97 = .ok (.iload_n 1, 1) := by decide +kernel
theorem dX9_rope_98 : decode cX9_rope 98 = .ok (.imul, 1) := by decide +kernel
theorem dX9_rope_99 : decode cX9_rope 99 = .ok (.iload_n 2, 1) := by decide +kernel
theorem dX9_rope_100 : decode cX9_rope 100 = .ok (.iadd, 1) := by decide +kernel
theorem dX9_rope_101 : decode cX9_rope 101 = .ok (.iload_n 3, 1) := by decide +kernel
theorem dX9_rope_102 : decode cX9_rope 102 = .ok (.bipush 43, 2) := by decide +kernel
theorem dX9_rope_104 : decode cX9_rope 104 = .ok (.if_icmp .ne 7, 3) := by decide +kernel
theorem dX9_rope_107 : decode cX9_rope 107 = .ok (.iconst 1, 1) := by decide +kernel
theorem dX9_rope_108 : decode cX9_rope 108 = .ok (.goto 14, 3) := by decide +kernel
theorem dX9_rope_111 : decode cX9_rope 111 = .ok (.iload_n 3, 1) := by decide +kernel
theorem dX9_rope_112 : decode cX9_rope 112 = .ok (.bipush 45, 2) := by decide +kernel
theorem dX9_rope_114 : decode cX9_rope 114 = .ok (.if_icmp .ne 7, 3) := by decide +kernel
theorem dX9_rope_117 : decode cX9_rope 117 = .ok (.iconst (-1), 1) := by decide +kernel
theorem dX9_rope_118 : decode cX9_rope 118 = .ok (.goto 4, 3) := by decide +kernel
theorem dX9_rope_121 : decode cX9_rope 121 = .ok (.iconst 0, 1) := by decide +kernel
theorem dX9_rope_122 : decode cX9_rope 122 = .ok (.iastore, 1) := by decide +kernel
theorem dX9_rope_123 : decode cX9_rope 123 = .ok (.iinc 2 1, 3) := by decide +kernel
theorem dX9_rope_126 : decode cX9_rope 126 = .ok (.goto (-53), 3) := by decide +kernel
theorem dX9_rope_129 : decode cX9_rope 129 = .ok (.iinc 1 1, 3) := by decide +kernel
theorem dX9_rope_132 : decode cX9_rope 132 = .ok (.goto (-107), 3) := by decide +kernel
theorem dX9_rope_135 : decode cX9_rope 135 = .ok (.aload_n 0, 1) := by decide +kernel
theorem dX9_rope_136 : decode cX9_rope 136 = .ok (.iconst 0, 1) := by decide +kernel
theorem dX9_rope_137 : decode cX9_rope 137 = .ok (.putfield 115, 3) := by decide +kernel
theorem dX9_rope_140 : decode cX9_rope 140 = .ok (.aload_n 0, 1) := by decide +kernel
theorem dX9_rope_141 : decode cX9_rope 141 = .ok (.iconst 0, 1) := by decide +kernel
theorem dX9_rope_142 : decode cX9_rope 142 = .ok (.putfield 118, 3) := by decide +kernel
theorem dX9_rope_145 : decode cX9_rope 145 = .ok (.iconst 0, 1) := by decide +kernel
theorem dX9_rope_146 : decode cX9_rope 146 = .ok (.istore_n 1, 1) := by decide +kernel
theorem dX9_rope_147 : decode cX9_rope 147 = .ok (.iload_n 1, 1) := by decide +kernel
theorem dX9_rope_148 : decode cX9_rope 148 = .ok (.iconst 3, 1) := by decide +kernel
theorem dX9_rope_149 : decode cX9_rope 149 = .ok (.if_icmp .ge 23, 3) := by decide +kernel
theorem dX9_rope_152 : decode cX9_rope 152 = .ok (.aload_n 0, 1) := by decide +kernel
theorem dX9_rope_153 : decode cX9_rope 153 = .ok (.getfield 19, 3) := by decide +kernel
theorem dX9_rope_156 : decode cX9_rope 156 = .ok (.iload_n 1, 1) := by decide +kernel
theorem dX9_rope_157 : decode cX9_rope 157 = .ok (.iconst 0, 1) := by decide +kernel
theorem dX9_rope_158 : decode cX9_rope 158 = .ok (.iastore, 1) := by decide +kernel
theorem dX9_rope_159 : decode cX9_rope 159 = .ok (.aload_n 0, 1) := by decide +kernel
theorem dX9_rope_160 : decode cX9_rope 160 = .ok (.getfield 22, 3) := by decide +kernel
theorem dX9_rope_163 : decode cX9_rope 163 = .ok (.iload_n 1, 1) := by decide +kernel
theorem dX9_rope_164 : decode cX9_rope 164 = .ok (.iconst 0, 1) := by decide +kernel
theorem dX9_rope_165 : decode cX9_rope 165 = .ok (.iastore, 1) := by decide +kernel
theorem dX9_rope_166 : decode cX9_rope 166 = .ok (.iinc 1 1, 3) := by decide +kernel
theorem dX9_rope_169 : decode cX9_rope 169 = .ok (.goto (-22), 3) := by decide +kernel
theorem dX9_rope_172 : decode cX9_rope 172 = .ok (.aload_n 0, 1) := by decide +kernel
theorem dX9_rope_173 : decode cX9_rope 173 = .ok (.dup, 1) := by decide +kernel
theorem dX9_rope_174 : decode cX9_rope 174 = .ok (.getfield 121, 3) := by decide +kernel
theorem dX9_rope_177 : decode cX9_rope 177 = .ok (.iconst 1, 1) := by decide +kernel
theorem dX9_rope_178 : decode cX9_rope 178 = .ok (.iadd, 1) := by decide +kernel
theorem dX9_rope_179 : decode cX9_rope 179 = .ok (.putfield 121, 3) := by decide +kernel
theorem dX9_rope_182 : decode cX9_rope 182 = .ok (.aload_n 0, 1) := by decide +kernel
theorem dX9_rope_183 : decode cX9_rope 183 = .ok (.iconst 0, 1) := by decide +kernel
theorem dX9_rope_184 : decode cX9_rope 184 = .ok (.putfield 124, 3) := by decide +kernel
theorem dX9_rope_187 : decode cX9_rope 187 = .ok (.aload_n 0, 1) := by decide +kernel
theorem dX9_rope_188 : decode cX9_rope 188 = .ok (.iconst 0, 1) := by decide +kernel
theorem dX9_rope_189 : decode cX9_rope 189 = .ok (.putfield 83, 3) := by decide +kernel
theorem dX9_rope_192 : decode cX9_rope 192 = .ok (.aload_n 0, 1) := by decide +kernel
theorem dX9_rope_193 : decode cX9_rope 193 = .ok (.getfield 112, 3) := by decide +kernel
theorem dX9_rope_196 : decode cX9_rope 196 = .ok (.ireturn, 1) := by decide +kernel
theorem dX9_isMussel_0 : decode cX9_isMussel 0 = .ok (.iload_n 1, 1) := by decide +kernel
theorem dX9_isMussel_1 : decode cX9_isMussel 1 = .ok (.iconst 0, 1) := by decide +kernel
theorem dX9_isMussel_2 : decode cX9_isMussel 2 = .ok (.aload_n 0, 1) := by decide +kernel
theorem dX9_isMussel_3 : decode cX9_isMussel 3 = .ok (.getfield 112, 3) := by decide +kernel
theorem dX9_isMussel_6 : decode cX9_isMussel 6 = .ok (.iconst 1, 1) := by decide +kernel
theorem dX9_isMussel_7 : decode cX9_isMussel 7 = .ok (.isub, 1) := by decide +kernel
theorem dX9_isMussel_8 : decode cX9_isMussel 8 = .ok (.invokestatic 79, 3) := by decide +kernel
theorem dX9_isMussel_11 : decode cX9_isMussel 11 = .ok (.ireturn, 1) := by decide +kernel
theorem dX9_isQuestion_0 : decode cX9_isQuestion 0 = .ok (.aload_n 0, 1) := by decide +kernel
theorem dX9_isQuestion_1 : decode cX9_isQuestion 1 = .ok (.getfield 112, 3) := by decide +kernel
theorem dX9_isQuestion_4 : decode cX9_isQuestion 4 = .ok (.ifCond .le 16, 3) := by decide +kernel
theorem dX9_isQuestion_7 : decode cX9_isQuestion 7 = .ok (.iload_n 1, 1) := by decide +kernel
theorem dX9_isQuestion_8 : decode cX9_isQuestion 8 = .ok (.iconst 0, 1) := by decide +kernel
theorem dX9_isQuestion_9 : decode cX9_isQuestion 9 = .ok (.iconst 2, 1) := by decide +kernel
theorem dX9_isQuestion_10 : decode cX9_isQuestion 10 = .ok (.invokestatic 79, 3) := by decide +kernel
theorem dX9_isQuestion_13 : decode cX9_isQuestion 13 = .ok (.ifCond .eq 7, 3) := by decide +kernel
theorem dX9_isQuestion_16 : decode cX9_isQuestion 16 = .ok (.iconst 1, 1) := by decide +kernel
theorem dX9_isQuestion_17 : decode cX9_isQuestion 17 = .ok (.goto 4, 3) := by decide +kernel
theorem dX9_isQuestion_20 : decode cX9_isQuestion 20 = .ok (.iconst 0, 1) := by decide +kernel
theorem dX9_isQuestion_21 : decode cX9_isQuestion 21 = .ok (.ireturn, 1) := by decide +kernel
theorem dX9_isFelt_0 : decode cX9_isFelt 0 = .ok (.aload_n 0, 1) := by decide +kernel
theorem dX9_isFelt_1 : decode cX9_isFelt 1 = .ok (.getfield 115, 3) := by decide +kernel
theorem dX9_isFelt_4 : decode cX9_isFelt 4 = .ok (.iconst 2, 1) := by decide +kernel
theorem dX9_isFelt_5 : decode cX9_isFelt 5 = .ok (.iload_n 1, 1) := by decide +kernel
theorem dX9_isFelt_6 : decode cX9_isFelt 6 = .ok (.ishl, 1) := by decide +kernel
theorem dX9_isFelt_7 : decode cX9_isFelt 7 = .ok (.iconst 1, 1) := by decide +kernel
theorem dX9_isFelt_8 : decode cX9_isFelt 8 = .ok (.isub, 1) := by decide +kernel
theorem dX9_isFelt_9 : decode cX9_isFelt 9 = .ok (.iand, 1) := by decide +kernel
theorem dX9_isFelt_10 : decode cX9_isFelt 10 = .ok (.ifCond .ne 7, 3) := by decide +kernel
theorem dX9_isFelt_13 : decode cX9_isFelt 13 = .ok (.iconst 1, 1) := by decide +kernel
theorem dX9_isFelt_14 : decode cX9_isFelt 14 = .ok (.goto 4, 3) := by decide +kernel
theorem dX9_isFelt_17 : decode cX9_isFelt 17 = .ok (.iconst 0, 1) := by decide +kernel
theorem dX9_isFelt_18 : decode cX9_isFelt 18 = .ok (.ireturn, 1) := by decide +kernel
theorem dX9_felt_0 : decode cX9_felt 0 = .ok (.iconst 0, 1) := by decide +kernel
theorem dX9_felt_1 : decode cX9_felt 1 = .ok (.istore_n 1, 1) := by decide +kernel
theorem dX9_felt_2 : decode cX9_felt 2 = .ok (.iconst 0, 1) := by decide +kernel
theorem dX9_felt_3 : decode cX9_felt 3 = .ok (.istore_n 2, 1) := by decide +kernel
theorem dX9_felt_4 : decode cX9_felt 4 = .ok (.iload_n 2, 1) := by decide +kernel
theorem dX9_felt_5 : decode cX9_felt 5 = .ok (.aload_n 0, 1) := by decide +kernel
theorem dX9_felt_6 : decode cX9_felt 6 = .ok (.getfield 112, 3) := by decide +kernel
theorem dX9_felt_9 : decode cX9_felt 9 = .ok (.if_icmp .ge 27, 3) := by decide +kernel
theorem dX9_felt_12 : decode cX9_felt 12 = .ok (.iload_n 1, 1) := by decide +kernel
theorem dX9_felt_13 : decode cX9_felt 13 = .ok (.aload_n 0, 1) := by decide +kernel
theorem dX9_felt_14 : decode cX9_felt 14 = .ok (.iload_n 2, 1) := by decide +kernel
theorem dX9_felt_15 : decode cX9_felt 15 = .ok (.invokevirtual 127, 3) := by decide +kernel
theorem dX9_felt_18 : decode cX9_felt 18 = .ok (.ifCond .eq 9, 3) := by decide +kernel
theorem dX9_felt_21 : decode cX9_felt 21 = .ok (.iconst 1, 1) := by decide +kernel
theorem dX9_felt_22 : decode cX9_felt 22 = .ok (.iload_n 2, 1) := by decide +kernel
theorem dX9_felt_23 : decode cX9_felt 23 = .ok (.ishl, 1) := by decide +kernel
theorem dX9_felt_24 : decode cX9_felt 24 = .ok (.goto 4, 3) := by decide +kernel
theorem dX9_felt_27 : decode cX9_felt 27 = .ok (.iconst 0, 1) := by decide +kernel
theorem dX9_felt_28 : decode cX9_felt 28 = .ok (.ior, 1) := by decide +kernel
theorem dX9_felt_29 : decode cX9_felt 29 = .ok (.istore_n 1, 1) := by decide +kernel
theorem dX9_felt_30 : decode cX9_felt 30 = .ok (.iinc 2 1, 3) := by decide +kernel
theorem dX9_felt_33 : decode cX9_felt 33 = .ok (.goto (-29), 3) := by decide +kernel
theorem dX9_felt_36 : decode cX9_felt 36 = .ok (.iload_n 1, 1) := by decide +kernel
theorem dX9_felt_37 : decode cX9_felt 37 = .ok (.ireturn, 1) := by decide +kernel
theorem dX9_leanAhead_0 : decode cX9_leanAhead 0 = .ok (.iload_n 1, 1) := by decide +kernel
theorem dX9_leanAhead_1 : decode cX9_leanAhead 1 = .ok (.ifCond .le 29, 3) := by decide +kernel
theorem dX9_leanAhead_4 : decode cX9_leanAhead 4 = .ok (.aload_n 0, 1) := by decide +kernel
theorem dX9_leanAhead_5 : decode cX9_leanAhead 5 = .ok (.getfield 115, 3) := by decide +kernel
theorem dX9_leanAhead_8 : decode cX9_leanAhead 8 = .ok (.iload_n 1, 1) := by decide +kernel
theorem dX9_leanAhead_9 : decode cX9_leanAhead 9 = .ok (.invokestatic 130, 3) := by decide +kernel
theorem dX9_leanAhead_12 : decode cX9_leanAhead 12 = .ok (.ifCond .ne 18, 3) := by decide +kernel
theorem dX9_leanAhead_15 : decode cX9_leanAhead 15 = .ok (.aload_n 0, 1) := by decide +kernel
theorem dX9_leanAhead_16 : decode cX9_leanAhead 16 = .ok (.getfield 16, 3) := by decide +kernel
theorem dX9_leanAhead_19 : decode cX9_leanAhead 19 = .ok (.iconst 3, 1) := by decide +kernel
theorem dX9_leanAhead_20 : decode cX9_leanAhead 20 = .ok (.iload_n 1, 1) := by decide +kernel
theorem dX9_leanAhead_21 : decode cX9_leanAhead 21 = .ok (.imul, 1) := by decide +kernel
theorem dX9_leanAhead_22 : decode cX9_leanAhead 22 = .ok (.iconst 3, 1) := by decide +kernel
theorem dX9_leanAhead_23 : decode cX9_leanAhead 23 = .ok (.isub, 1) := by decide +kernel
theorem dX9_leanAhead_24 : decode cX9_leanAhead 24 = .ok (.iload_n 2, 1) := by decide +kernel
theorem dX9_leanAhead_25 : decode cX9_leanAhead 25 = .ok (.iadd, 1) := by decide +kernel
theorem dX9_leanAhead_26 : decode cX9_leanAhead 26 = .ok (.iaload, 1) := by decide +kernel
theorem dX9_leanAhead_27 : decode cX9_leanAhead 27 = .ok (.goto 4, 3) := by decide +kernel
theorem dX9_leanAhead_30 : decode cX9_leanAhead 30 = .ok (.iconst 0, 1) := by decide +kernel
theorem dX9_leanAhead_31 : decode cX9_leanAhead 31 = .ok (.ireturn, 1) := by decide +kernel
theorem dX9_leanBehind_0 : decode cX9_leanBehind 0 = .ok (.iload_n 1, 1) := by decide +kernel
theorem dX9_leanBehind_1 : decode cX9_leanBehind 1 = .ok (.iconst 1, 1) := by decide +kernel
theorem dX9_leanBehind_2 : decode cX9_leanBehind 2 = .ok (.iadd, 1) := by decide +kernel
theorem dX9_leanBehind_3 : decode cX9_leanBehind 3 = .ok (.aload_n 0, 1) := by decide +kernel
theorem dX9_leanBehind_4 : decode cX9_leanBehind 4 = .ok (.getfield 112, 3) := by decide +kernel
theorem dX9_leanBehind_7 : decode cX9_leanBehind 7 = .ok (.if_icmp .ge 31, 3) := by decide +kernel
theorem dX9_leanBehind_10 : decode cX9_leanBehind 10 = .ok (.aload_n 0, 1) := by decide +kernel
theorem dX9_leanBehind_11 : decode cX9_leanBehind 11 = .ok (.getfield 115, 3) := by decide +kernel
theorem dX9_leanBehind_14 : decode cX9_leanBehind 14 = .ok (.iload_n 1, 1) := by decide +kernel
theorem dX9_leanBehind_15 : decode cX9_leanBehind 15 = .ok (.iconst 1, 1) := by decide +kernel
theorem dX9_leanBehind_16 : decode cX9_leanBehind 16 = .ok (.iadd, 1) := by decide +kernel
theorem dX9_leanBehind_17 : decode cX9_leanBehind 17 = .ok (.invokestatic 130, 3) := by decide +kernel
theorem dX9_leanBehind_20 : decode cX9_leanBehind 20 = .ok (.ifCond .ne 18, 3) := by decide +kernel
theorem dX9_leanBehind_23 : decode cX9_leanBehind 23 = .ok (.aload_n 0, 1) := by decide +kernel
theorem dX9_leanBehind_24 : decode cX9_leanBehind 24 = .ok (.getfield 16, 3) := by decide +kernel
theorem dX9_leanBehind_27 : decode cX9_leanBehind 27 = .ok (.iconst 3, 1) := by decide +kernel
theorem dX9_leanBehind_28 : decode cX9_leanBehind 28 = .ok (.iload_n 1, 1) := by decide +kernel
theorem dX9_leanBehind_29 : decode cX9_leanBehind 29 = .ok (.imul, 1) := by decide +kernel
theorem dX9_leanBehind_30 : decode cX9_leanBehind 30 = .ok (.iconst 3, 1) := by decide +kernel
theorem dX9_leanBehind_31 : decode cX9_leanBehind 31 = .ok (.iadd, 1) := by decide +kernel
theorem dX9_leanBehind_32 : decode cX9_leanBehind 32 = .ok (.iload_n 2, 1) := by decide +kernel
theorem dX9_leanBehind_33 : decode cX9_leanBehind 33 = .ok (.iadd, 1) := by decide +kernel
theorem dX9_leanBehind_34 : decode cX9_leanBehind 34 = .ok (.iaload, 1) := by decide +kernel
theorem dX9_leanBehind_35 : decode cX9_leanBehind 35 = .ok (.goto 4, 3) := by decide +kernel
theorem dX9_leanBehind_38 : decode cX9_leanBehind 38 = .ok (.iconst 0, 1) := by decide +kernel
theorem dX9_leanBehind_39 : decode cX9_leanBehind 39 = .ok (.ireturn, 1) := by decide +kernel
theorem dX9_pulls_0 : decode cX9_pulls 0 = .ok (.aload_n 0, 1) := by decide +kernel
theorem dX9_pulls_1 : decode cX9_pulls 1 = .ok (.getfield 13, 3) := by decide +kernel
theorem dX9_pulls_4 : decode cX9_pulls 4 = .ok (.iload_n 1, 1) := by decide +kernel
theorem dX9_pulls_5 : decode cX9_pulls 5 = .ok (.iaload, 1) := by decide +kernel
theorem dX9_pulls_6 : decode cX9_pulls 6 = .ok (.istore_n 3, 1) := by decide +kernel
theorem dX9_pulls_7 : decode cX9_pulls 7 = .ok (.iload_n 3, 1) := by decide +kernel
theorem dX9_pulls_8 : decode cX9_pulls 8 = .ok (.aload_n 0, 1) := by decide +kernel
theorem dX9_pulls_9 : decode cX9_pulls 9 = .ok (.getfield 16, 3) := by decide +kernel
theorem dX9_pulls_12 : decode cX9_pulls 12 = .ok (.iconst 3, 1) := by decide +kernel
theorem dX9_pulls_13 : decode cX9_pulls 13 = .ok (.iload_n 1, 1) := by decide +kernel
theorem dX9_pulls_14 : decode cX9_pulls 14 = .ok (.imul, 1) := by decide +kernel
theorem dX9_pulls_15 : decode cX9_pulls 15 = .ok (.iload_n 2, 1) := by decide +kernel
theorem dX9_pulls_16 : decode cX9_pulls 16 = .ok (.iadd, 1) := by decide +kernel
theorem dX9_pulls_17 : decode cX9_pulls 17 = .ok (.iaload, 1) := by decide +kernel
theorem dX9_pulls_18 : decode cX9_pulls 18 = .ok (.imul, 1) := by decide +kernel
theorem dX9_pulls_19 : decode cX9_pulls 19 = .ok (.istore 4, 2) := by decide +kernel
theorem dX9_pulls_21 : decode cX9_pulls 21 = .ok (.aload_n 0, 1) := by decide +kernel
theorem dX9_pulls_22 : decode cX9_pulls 22 = .ok (.iload_n 1, 1) := by decide +kernel
theorem dX9_pulls_23 : decode cX9_pulls 23 = .ok (.iload_n 2, 1) := by decide +kernel
theorem dX9_pulls_24 : decode cX9_pulls 24 = .ok (.invokevirtual 134, 3) := by decide +kernel
theorem dX9_pulls_27 : decode cX9_pulls 27 = .ok (.aload_n 0, 1) := by decide +kernel
theorem dX9_pulls_28 : decode cX9_pulls 28 = .ok (.iload_n 1, 1) := by decide +kernel
theorem dX9_pulls_29 : decode cX9_pulls 29 = .ok (.iload_n 2, 1) := by decide +kernel
theorem dX9_pulls_30 : decode cX9_pulls 30 = .ok (.invokevirtual 137, 3) := by decide +kernel
theorem dX9_pulls_33 : decode cX9_pulls 33 = .ok (.iadd, 1) := by decide +kernel
theorem dX9_pulls_34 : decode cX9_pulls 34 = .ok (.istore 5, 2) := by decide +kernel
theorem dX9_pulls_36 : decode cX9_pulls 36 = .ok (.aload_n 0, 1) := by decide +kernel
theorem dX9_pulls_37 : decode cX9_pulls 37 = .ok (.getfield 7, 3) := by decide +kernel
theorem dX9_pulls_40 : decode cX9_pulls 40 = .ok (.iload_n 1, 1) := by decide +kernel
end
section
theorem dX9_pulls_41 : decode cX9_pulls 41 = .ok (.iaload, 1) := by decide +kernel
theorem dX9_pulls_42 : decode cX9_pulls 42 = .ok (.tableswitch 88 1 4 #[30, 35, 39, 63], 30) := by decide +kernel
theorem dX9_pulls_72 : decode cX9_pulls 72 = .ok (.iconst 2, 1) := by decide +kernel
theorem dX9_pulls_73 : decode cX9_pulls 73 = .ok (.iload 4, 2) := by decide +kernel
theorem dX9_pulls_75 : decode cX9_pulls 75 = .ok (.imul, 1) := by decide +kernel
theorem dX9_pulls_76 : decode cX9_pulls 76 = .ok (.ireturn, 1) := by decide +kernel
theorem dX9_pulls_77 : decode cX9_pulls 77 = .ok (.iload 4, 2) := by decide +kernel
theorem dX9_pulls_79 : decode cX9_pulls 79 = .ok (.ineg, 1) := by decide +kernel
theorem dX9_pulls_80 : decode cX9_pulls 80 = .ok (.ireturn, 1) := by decide +kernel
theorem dX9_pulls_81 : decode cX9_pulls 81 = .ok (.iload 5, 2) := by decide +kernel
theorem dX9_pulls_83 : decode cX9_pulls 83 = .ok (.iconst 2, 1) := by decide +kernel
theorem dX9_pulls_84 : decode cX9_pulls 84 = .ok (.if_icmp .ne 7, 3) := by decide +kernel
theorem dX9_pulls_87 : decode cX9_pulls 87 = .ok (.iload_n 3, 1) := by decide +kernel
theorem dX9_pulls_88 : decode cX9_pulls 88 = .ok (.goto 16, 3) := by decide +kernel
theorem dX9_pulls_91 : decode cX9_pulls 91 = .ok (.iload 5, 2) := by decide +kernel
theorem dX9_pulls_93 : decode cX9_pulls 93 = .ok (.bipush (-2), 2) := by decide +kernel
theorem dX9_pulls_95 : decode cX9_pulls 95 = .ok (.if_icmp .ne 8, 3) := by decide +kernel
theorem dX9_pulls_98 : decode cX9_pulls 98 = .ok (.iload_n 3, 1) := by decide +kernel
theorem dX9_pulls_99 : decode cX9_pulls 99 = .ok (.ineg, 1) := by decide +kernel
theorem dX9_pulls_100 : decode cX9_pulls 100 = .ok (.goto 4, 3) := by decide +kernel
theorem dX9_pulls_103 : decode cX9_pulls 103 = .ok (.iconst 0, 1) := by decide +kernel
theorem dX9_pulls_104 : decode cX9_pulls 104 = .ok (.ireturn, 1) := by decide +kernel
theorem dX9_pulls_105 : decode cX9_pulls 105 = .ok (.iload 5, 2) := by decide +kernel
theorem dX9_pulls_107 : decode cX9_pulls 107 = .ok (.iconst 2, 1) := by decide +kernel
theorem dX9_pulls_108 : decode cX9_pulls 108 = .ok (.if_icmp .ne 7, 3) := by decide +kernel
theorem dX9_pulls_111 : decode cX9_pulls 111 = .ok (.iload_n 3, 1) := by decide +kernel
theorem dX9_pulls_112 : decode cX9_pulls 112 = .ok (.goto 17, 3) := by decide +kernel
theorem dX9_pulls_115 : decode cX9_pulls 115 = .ok (.iload 5, 2) := by decide +kernel
theorem dX9_pulls_117 : decode cX9_pulls 117 = .ok (.bipush (-2), 2) := by decide +kernel
theorem dX9_pulls_119 : decode cX9_pulls 119 = .ok (.if_icmp .ne 8, 3) := by decide +kernel
theorem dX9_pulls_122 : decode cX9_pulls 122 = .ok (.iload_n 3, 1) := by decide +kernel
theorem dX9_pulls_123 : decode cX9_pulls 123 = .ok (.ineg, 1) := by decide +kernel
theorem dX9_pulls_124 : decode cX9_pulls 124 = .ok (.goto 5, 3) := by decide +kernel
theorem dX9_pulls_127 : decode cX9_pulls 127 = .ok (.iload 4, 2) := by decide +kernel
theorem dX9_pulls_129 : decode cX9_pulls 129 = .ok (.ireturn, 1) := by decide +kernel
theorem dX9_pulls_130 : decode cX9_pulls 130 = .ok (.iload 4, 2) := by decide +kernel
theorem dX9_pulls_132 : decode cX9_pulls 132 = .ok (.ireturn, 1) := by decide +kernel
theorem dX9_sumOf_0 : decode cX9_sumOf 0 = .ok (.iconst 0, 1) := by decide +kernel
theorem dX9_sumOf_1 : decode cX9_sumOf 1 = .ok (.istore_n 2, 1) := by decide +kernel
theorem dX9_sumOf_2 : decode cX9_sumOf 2 = .ok (.iconst 0, 1) := by decide +kernel
theorem dX9_sumOf_3 : decode cX9_sumOf 3 = .ok (.istore_n 3, 1) := by decide +kernel
theorem dX9_sumOf_4 : decode cX9_sumOf 4 = .ok (.iload_n 3, 1) := by decide +kernel
theorem dX9_sumOf_5 : decode cX9_sumOf 5 = .ok (.aload_n 0, 1) := by decide +kernel
theorem dX9_sumOf_6 : decode cX9_sumOf 6 = .ok (.getfield 112, 3) := by decide +kernel
theorem dX9_sumOf_9 : decode cX9_sumOf 9 = .ok (.if_icmp .ge 30, 3) := by decide +kernel
theorem dX9_sumOf_12 : decode cX9_sumOf 12 = .ok (.iload_n 2, 1) := by decide +kernel
theorem dX9_sumOf_13 : decode cX9_sumOf 13 = .ok (.aload_n 0, 1) := by decide +kernel
theorem dX9_sumOf_14 : decode cX9_sumOf 14 = .ok (.iload_n 3, 1) := by decide +kernel
theorem dX9_sumOf_15 : decode cX9_sumOf 15 = .ok (.invokevirtual 127, 3) := by decide +kernel
theorem dX9_sumOf_18 : decode cX9_sumOf 18 = .ok (.ifCond .eq 12, 3) := by decide +kernel
theorem dX9_sumOf_21 : decode cX9_sumOf 21 = .ok (.aload_n 0, 1) := by decide +kernel
theorem dX9_sumOf_22 : decode cX9_sumOf 22 = .ok (.iload_n 3, 1) := by decide +kernel
theorem dX9_sumOf_23 : decode cX9_sumOf 23 = .ok (.iload_n 1, 1) := by decide +kernel
theorem dX9_sumOf_24 : decode cX9_sumOf 24 = .ok (.invokevirtual 140, 3) := by decide +kernel
theorem dX9_sumOf_27 : decode cX9_sumOf 27 = .ok (.goto 4, 3) := by decide +kernel
theorem dX9_sumOf_30 : decode cX9_sumOf 30 = .ok (.iconst 0, 1) := by decide +kernel
theorem dX9_sumOf_31 : decode cX9_sumOf 31 = .ok (.iadd, 1) := by decide +kernel
theorem dX9_sumOf_32 : decode cX9_sumOf 32 = .ok (.istore_n 2, 1) := by decide +kernel
theorem dX9_sumOf_33 : decode cX9_sumOf 33 = .ok (.iinc 3 1, 3) := by decide +kernel
theorem dX9_sumOf_36 : decode cX9_sumOf 36 = .ok (.goto (-32), 3) := by decide +kernel
theorem dX9_sumOf_39 : decode cX9_sumOf 39 = .ok (.iload_n 2, 1) := by decide +kernel
theorem dX9_sumOf_40 : decode cX9_sumOf 40 = .ok (.ireturn, 1) := by decide +kernel
theorem dX9_outOf_0 : decode cX9_outOf 0 = .ok (.aload_n 0, 1) := by decide +kernel
theorem dX9_outOf_1 : decode cX9_outOf 1 = .ok (.iload_n 1, 1) := by decide +kernel
theorem dX9_outOf_2 : decode cX9_outOf 2 = .ok (.invokevirtual 143, 3) := by decide +kernel
theorem dX9_outOf_5 : decode cX9_outOf 5 = .ok (.istore_n 2, 1) := by decide +kernel
theorem dX9_outOf_6 : decode cX9_outOf 6 = .ok (.iload_n 2, 1) := by decide +kernel
theorem dX9_outOf_7 : decode cX9_outOf 7 = .ok (.ifCond .le 7, 3) := by decide +kernel
theorem dX9_outOf_10 : decode cX9_outOf 10 = .ok (.iconst 1, 1) := by decide +kernel
theorem dX9_outOf_11 : decode cX9_outOf 11 = .ok (.goto 12, 3) := by decide +kernel
theorem dX9_outOf_14 : decode cX9_outOf 14 = .ok (.iload_n 2, 1) := by decide +kernel
theorem dX9_outOf_15 : decode cX9_outOf 15 = .ok (.ifCond .ge 7, 3) := by decide +kernel
theorem dX9_outOf_18 : decode cX9_outOf 18 = .ok (.iconst (-1), 1) := by decide +kernel
theorem dX9_outOf_19 : decode cX9_outOf 19 = .ok (.goto 4, 3) := by decide +kernel
theorem dX9_outOf_22 : decode cX9_outOf 22 = .ok (.iconst 0, 1) := by decide +kernel
theorem dX9_outOf_23 : decode cX9_outOf 23 = .ok (.ireturn, 1) := by decide +kernel
theorem dX9_leaning_0 : decode cX9_leaning 0 = .ok (.iconst 0, 1) := by decide +kernel
theorem dX9_leaning_1 : decode cX9_leaning 1 = .ok (.istore_n 3, 1) := by decide +kernel
theorem dX9_leaning_2 : decode cX9_leaning 2 = .ok (.iconst 0, 1) := by decide +kernel
theorem dX9_leaning_3 : decode cX9_leaning 3 = .ok (.istore 4, 2) := by decide +kernel
theorem dX9_leaning_5 : decode cX9_leaning 5 = .ok (.iload 4, 2) := by decide +kernel
theorem dX9_leaning_7 : decode cX9_leaning 7 = .ok (.aload_n 0, 1) := by decide +kernel
theorem dX9_leaning_8 : decode cX9_leaning 8 = .ok (.getfield 112, 3) := by decide +kernel
theorem dX9_leaning_11 : decode cX9_leaning 11 = .ok (.if_icmp .ge 32, 3) := by decide +kernel
theorem dX9_leaning_14 : decode cX9_leaning 14 = .ok (.iload_n 3, 1) := by decide +kernel
theorem dX9_leaning_15 : decode cX9_leaning 15 = .ok (.aload_n 0, 1) := by decide +kernel
theorem dX9_leaning_16 : decode cX9_leaning 16 = .ok (.getfield 16, 3) := by decide +kernel
theorem dX9_leaning_19 : decode cX9_leaning 19 = .ok (.iconst 3, 1) := by decide +kernel
theorem dX9_leaning_20 : decode cX9_leaning 20 = .ok (.iload 4, 2) := by decide +kernel
theorem dX9_leaning_22 : decode cX9_leaning 22 = .ok (.imul, 1) := by decide +kernel
theorem dX9_leaning_23 : decode cX9_leaning 23 = .ok (.iload_n 1, 1) := by decide +kernel
theorem dX9_leaning_24 : decode cX9_leaning 24 = .ok (.iadd, 1) := by decide +kernel
theorem dX9_leaning_25 : decode cX9_leaning 25 = .ok (.iaload, 1) := by decide +kernel
theorem dX9_leaning_26 : decode cX9_leaning 26 = .ok (.iload_n 2, 1) := by decide +kernel
theorem dX9_leaning_27 : decode cX9_leaning 27 = .ok (.if_icmp .ne 7, 3) := by decide +kernel
theorem dX9_leaning_30 : decode cX9_leaning 30 = .ok (.iconst 1, 1) := by decide +kernel
theorem dX9_leaning_31 : decode cX9_leaning 31 = .ok (.goto 4, 3) := by decide +kernel
theorem dX9_leaning_34 : decode cX9_leaning 34 = .ok (.iconst 0, 1) := by decide +kernel
theorem dX9_leaning_35 : decode cX9_leaning 35 = .ok (.iadd, 1) := by decide +kernel
theorem dX9_leaning_36 : decode cX9_leaning 36 = .ok (.istore_n 3, 1) := by decide +kernel
theorem dX9_leaning_37 : decode cX9_leaning 37 = .ok (.iinc 4 1, 3) := by decide +kernel
theorem dX9_leaning_40 : decode cX9_leaning 40 = .ok (.goto (-35), 3) := by decide +kernel
theorem dX9_leaning_43 : decode cX9_leaning 43 = .ok (.iload_n 3, 1) := by decide +kernel
theorem dX9_leaning_44 : decode cX9_leaning 44 = .ok (.ireturn, 1) := by decide +kernel
theorem dX9_musselNow_0 : decode cX9_musselNow 0 = .ok (.iload_n 2, 1) := by decide +kernel
theorem dX9_musselNow_1 : decode cX9_musselNow 1 = .ok (.bipush 20, 2) := by decide +kernel
theorem dX9_musselNow_3 : decode cX9_musselNow 3 = .ok (.if_icmp .lt 13, 3) := by decide +kernel
theorem dX9_musselNow_6 : decode cX9_musselNow 6 = .ok (.aload_n 0, 1) := by decide +kernel
theorem dX9_musselNow_7 : decode cX9_musselNow 7 = .ok (.iload_n 1, 1) := by decide +kernel
theorem dX9_musselNow_8 : decode cX9_musselNow 8 = .ok (.iload_n 2, 1) := by decide +kernel
theorem dX9_musselNow_9 : decode cX9_musselNow 9 = .ok (.bipush 20, 2) := by decide +kernel
theorem dX9_musselNow_11 : decode cX9_musselNow 11 = .ok (.isub, 1) := by decide +kernel
theorem dX9_musselNow_12 : decode cX9_musselNow 12 = .ok (.invokevirtual 146, 3) := by decide +kernel
theorem dX9_musselNow_15 : decode cX9_musselNow 15 = .ok (.ireturn, 1) := by decide +kernel
theorem dX9_musselNow_16 : decode cX9_musselNow 16 = .ok (.iload_n 2, 1) := by decide +kernel
theorem dX9_musselNow_17 : decode cX9_musselNow 17 = .ok (.bipush 10, 2) := by decide +kernel
theorem dX9_musselNow_19 : decode cX9_musselNow 19 = .ok (.if_icmp .lt 16, 3) := by decide +kernel
theorem dX9_musselNow_22 : decode cX9_musselNow 22 = .ok (.aload_n 0, 1) := by decide +kernel
theorem dX9_musselNow_23 : decode cX9_musselNow 23 = .ok (.iload_n 1, 1) := by decide +kernel
theorem dX9_musselNow_24 : decode cX9_musselNow 24 = .ok (.iload_n 2, 1) := by decide +kernel
theorem dX9_musselNow_25 : decode cX9_musselNow 25 = .ok (.bipush 10, 2) := by decide +kernel
theorem dX9_musselNow_27 : decode cX9_musselNow 27 = .ok (.isub, 1) := by decide +kernel
theorem dX9_musselNow_28 : decode cX9_musselNow 28 = .ok (.invokevirtual 140, 3) := by decide +kernel
theorem dX9_musselNow_31 : decode cX9_musselNow 31 = .ok (.bipush 100, 2) := by decide +kernel
theorem dX9_musselNow_33 : decode cX9_musselNow 33 = .ok (.iadd, 1) := by decide +kernel
theorem dX9_musselNow_34 : decode cX9_musselNow 34 = .ok (.ireturn, 1) := by decide +kernel
theorem dX9_musselNow_35 : decode cX9_musselNow 35 = .ok (.iload_n 2, 1) := by decide +kernel
theorem dX9_musselNow_36 : decode cX9_musselNow 36 = .ok (.tableswitch 102 0 6 #[44, 51, 58, 58, 58, 71, 85], 44) := by decide +kernel
theorem dX9_musselNow_80 : decode cX9_musselNow 80 = .ok (.aload_n 0, 1) := by decide +kernel
theorem dX9_musselNow_81 : decode cX9_musselNow 81 = .ok (.getfield 7, 3) := by decide +kernel
theorem dX9_musselNow_84 : decode cX9_musselNow 84 = .ok (.iload_n 1, 1) := by decide +kernel
theorem dX9_musselNow_85 : decode cX9_musselNow 85 = .ok (.iaload, 1) := by decide +kernel
theorem dX9_musselNow_86 : decode cX9_musselNow 86 = .ok (.ireturn, 1) := by decide +kernel
theorem dX9_musselNow_87 : decode cX9_musselNow 87 = .ok (.aload_n 0, 1) := by decide +kernel
theorem dX9_musselNow_88 : decode cX9_musselNow 88 = .ok (.getfield 13, 3) := by decide +kernel
theorem dX9_musselNow_91 : decode cX9_musselNow 91 = .ok (.iload_n 1, 1) := by decide +kernel
theorem dX9_musselNow_92 : decode cX9_musselNow 92 = .ok (.iaload, 1) := by decide +kernel
theorem dX9_musselNow_93 : decode cX9_musselNow 93 = .ok (.ireturn, 1) := by decide +kernel
theorem dX9_musselNow_94 : decode cX9_musselNow 94 = .ok (.aload_n 0, 1) := by decide +kernel
theorem dX9_musselNow_95 : decode cX9_musselNow 95 = .ok (.getfield 16, 3) := by decide +kernel
theorem dX9_musselNow_98 : decode cX9_musselNow 98 = .ok (.iconst 3, 1) := by decide +kernel
theorem dX9_musselNow_99 : decode cX9_musselNow 99 = .ok (.iload_n 1, 1) := by decide +kernel
theorem dX9_musselNow_100 : decode cX9_musselNow 100 = .ok (.imul, 1) := by decide +kernel
theorem dX9_musselNow_101 : decode cX9_musselNow 101 = .ok (.iload_n 2, 1) := by decide +kernel
theorem dX9_musselNow_102 : decode cX9_musselNow 102 = .ok (.iadd, 1) := by decide +kernel
theorem dX9_musselNow_103 : decode cX9_musselNow 103 = .ok (.iconst 2, 1) := by decide +kernel
theorem dX9_musselNow_104 : decode cX9_musselNow 104 = .ok (.isub, 1) := by decide +kernel
theorem dX9_musselNow_105 : decode cX9_musselNow 105 = .ok (.iaload, 1) := by decide +kernel
theorem dX9_musselNow_106 : decode cX9_musselNow 106 = .ok (.ireturn, 1) := by decide +kernel
theorem dX9_musselNow_107 : decode cX9_musselNow 107 = .ok (.aload_n 0, 1) := by decide +kernel
theorem dX9_musselNow_108 : decode cX9_musselNow 108 = .ok (.iload_n 1, 1) := by decide +kernel
theorem dX9_musselNow_109 : decode cX9_musselNow 109 = .ok (.invokevirtual 127, 3) := by decide +kernel
theorem dX9_musselNow_112 : decode cX9_musselNow 112 = .ok (.ifCond .eq 7, 3) := by decide +kernel
theorem dX9_musselNow_115 : decode cX9_musselNow 115 = .ok (.iconst 1, 1) := by decide +kernel
theorem dX9_musselNow_116 : decode cX9_musselNow 116 = .ok (.goto 4, 3) := by decide +kernel
theorem dX9_musselNow_119 : decode cX9_musselNow 119 = .ok (.iconst 0, 1) := by decide +kernel
theorem dX9_musselNow_120 : decode cX9_musselNow 120 = .ok (.ireturn, 1) := by decide +kernel
theorem dX9_musselNow_121 : decode cX9_musselNow 121 = .ok (.aload_n 0, 1) := by decide +kernel
theorem dX9_musselNow_122 : decode cX9_musselNow 122 = .ok (.getfield 115, 3) := by decide +kernel
theorem dX9_musselNow_125 : decode cX9_musselNow 125 = .ok (.iload_n 1, 1) := by decide +kernel
theorem dX9_musselNow_126 : decode cX9_musselNow 126 = .ok (.invokestatic 130, 3) := by decide +kernel
theorem dX9_musselNow_129 : decode cX9_musselNow 129 = .ok (.ifCond .eq 7, 3) := by decide +kernel
theorem dX9_musselNow_132 : decode cX9_musselNow 132 = .ok (.iconst 0, 1) := by decide +kernel
theorem dX9_musselNow_133 : decode cX9_musselNow 133 = .ok (.goto 4, 3) := by decide +kernel
theorem dX9_musselNow_136 : decode cX9_musselNow 136 = .ok (.iconst 1, 1) := by decide +kernel
theorem dX9_musselNow_137 : decode cX9_musselNow 137 = .ok (.ireturn, 1) := by decide +kernel
theorem dX9_musselNow_138 : decode cX9_musselNow 138 = .ok (.aload_n 0, 1) := by decide +kernel
theorem dX9_musselNow_139 : decode cX9_musselNow 139 = .ok (.iload_n 1, 1) := by decide +kernel
theorem dX9_musselNow_140 : decode cX9_musselNow 140 = .ok (.invokevirtual 149, 3) := by decide +kernel
theorem dX9_musselNow_143 : decode cX9_musselNow 143 = .ok (.ireturn, 1) := by decide +kernel
theorem dX9_isTold_0 : decode cX9_isTold 0 = .ok (.iload_n 0, 1) := by decide +kernel
theorem dX9_isTold_1 : decode cX9_isTold 1 = .ok (.iconst 0, 1) := by decide +kernel
theorem dX9_isTold_2 : decode cX9_isTold 2 = .ok (.bipush 7, 2) := by decide +kernel
theorem dX9_isTold_4 : decode cX9_isTold 4 = .ok (.invokestatic 79, 3) := by decide +kernel
theorem dX9_isTold_7 : decode cX9_isTold 7 = .ok (.ifCond .ne 25, 3) := by decide +kernel
theorem dX9_isTold_10 : decode cX9_isTold 10 = .ok (.iload_n 0, 1) := by decide +kernel
theorem dX9_isTold_11 : decode cX9_isTold 11 = .ok (.bipush 10, 2) := by decide +kernel
theorem dX9_isTold_13 : decode cX9_isTold 13 = .ok (.bipush 12, 2) := by decide +kernel
theorem dX9_isTold_15 : decode cX9_isTold 15 = .ok (.invokestatic 79, 3) := by decide +kernel
theorem dX9_isTold_18 : decode cX9_isTold 18 = .ok (.ifCond .ne 14, 3) := by decide +kernel
theorem dX9_isTold_21 : decode cX9_isTold 21 = .ok (.iload_n 0, 1) := by decide +kernel
theorem dX9_isTold_22 : decode cX9_isTold 22 = .ok (.bipush 20, 2) := by decide +kernel
theorem dX9_isTold_24 : decode cX9_isTold 24 = .ok (.bipush 22, 2) := by decide +kernel
theorem dX9_isTold_26 : decode cX9_isTold 26 = .ok (.invokestatic 79, 3) := by decide +kernel
theorem dX9_isTold_29 : decode cX9_isTold 29 = .ok (.ifCond .eq 7, 3) := by decide +kernel
theorem dX9_isTold_32 : decode cX9_isTold 32 = .ok (.iconst 1, 1) := by decide +kernel
theorem dX9_isTold_33 : decode cX9_isTold 33 = .ok (.goto 4, 3) := by decide +kernel
theorem dX9_isTold_36 : decode cX9_isTold 36 = .ok (.iconst 0, 1) := by decide +kernel
theorem dX9_isTold_37 : decode cX9_isTold 37 = .ok (.ireturn, 1) := by decide +kernel
theorem dX9_mussel_0 : decode cX9_mussel 0 = .ok (.aload_n 0, 1) := by decide +kernel
theorem dX9_mussel_1 : decode cX9_mussel 1 = .ok (.iload_n 1, 1) := by decide +kernel
theorem dX9_mussel_2 : decode cX9_mussel 2 = .ok (.invokevirtual 152, 3) := by decide +kernel
theorem dX9_mussel_5 : decode cX9_mussel 5 = .ok (.ifCond .ne 8, 3) := by decide +kernel
theorem dX9_mussel_8 : decode cX9_mussel 8 = .ok (.bipush (-101), 2) := by decide +kernel
theorem dX9_mussel_10 : decode cX9_mussel 10 = .ok (.goto 21, 3) := by decide +kernel
theorem dX9_mussel_13 : decode cX9_mussel 13 = .ok (.iload_n 2, 1) := by decide +kernel
theorem dX9_mussel_14 : decode cX9_mussel 14 = .ok (.invokestatic 155, 3) := by decide +kernel
theorem dX9_mussel_17 : decode cX9_mussel 17 = .ok (.ifCond .eq 12, 3) := by decide +kernel
theorem dX9_mussel_20 : decode cX9_mussel 20 = .ok (.aload_n 0, 1) := by decide +kernel
theorem dX9_mussel_21 : decode cX9_mussel 21 = .ok (.iload_n 1, 1) := by decide +kernel
theorem dX9_mussel_22 : decode cX9_mussel 22 = .ok (.iload_n 2, 1) := by decide +kernel
theorem dX9_mussel_23 : decode cX9_mussel 23 = .ok (.invokevirtual 158, 3) := by decide +kernel
theorem dX9_mussel_26 : decode cX9_mussel 26 = .ok (.goto 5, 3) := by decide +kernel
theorem dX9_mussel_29 : decode cX9_mussel 29 = .ok (.bipush (-102), 2) := by decide +kernel
theorem dX9_mussel_31 : decode cX9_mussel 31 = .ok (.ireturn, 1) := by decide +kernel
theorem dX9_as_0 : decode cX9_as 0 = .ok (.aload_n 0, 1) := by decide +kernel
theorem dX9_as_1 : decode cX9_as 1 = .ok (.iload_n 1, 1) := by decide +kernel
theorem dX9_as_2 : decode cX9_as 2 = .ok (.invokevirtual 152, 3) := by decide +kernel
theorem dX9_as_5 : decode cX9_as 5 = .ok (.ifCond .ne 6, 3) := by decide +kernel
theorem dX9_as_8 : decode cX9_as 8 = .ok (.bipush (-101), 2) := by decide +kernel
theorem dX9_as_10 : decode cX9_as 10 = .ok (.ireturn, 1) := by decide +kernel
theorem dX9_as_11 : decode cX9_as 11 = .ok (.iload_n 2, 1) := by decide +kernel
theorem dX9_as_12 : decode cX9_as 12 = .ok (.iconst 0, 1) := by decide +kernel
theorem dX9_as_13 : decode cX9_as 13 = .ok (.iconst 4, 1) := by decide +kernel
theorem dX9_as_14 : decode cX9_as 14 = .ok (.invokestatic 79, 3) := by decide +kernel
theorem dX9_as_17 : decode cX9_as 17 = .ok (.ifCond .ne 6, 3) := by decide +kernel
theorem dX9_as_20 : decode cX9_as 20 = .ok (.bipush (-102), 2) := by decide +kernel
theorem dX9_as_22 : decode cX9_as 22 = .ok (.ireturn, 1) := by decide +kernel
theorem dX9_as_23 : decode cX9_as 23 = .ok (.aload_n 0, 1) := by decide +kernel
theorem dX9_as_24 : decode cX9_as 24 = .ok (.getfield 7, 3) := by decide +kernel
theorem dX9_as_27 : decode cX9_as 27 = .ok (.iload_n 1, 1) := by decide +kernel
theorem dX9_as_28 : decode cX9_as 28 = .ok (.iaload, 1) := by decide +kernel
theorem dX9_as_29 : decode cX9_as 29 = .ok (.istore_n 3, 1) := by decide +kernel
theorem dX9_as_30 : decode cX9_as 30 = .ok (.iload_n 2, 1) := by decide +kernel
theorem dX9_as_31 : decode cX9_as 31 = .ok (.ifCond .eq 18, 3) := by decide +kernel
theorem dX9_as_34 : decode cX9_as 34 = .ok (.iload_n 3, 1) := by decide +kernel
theorem dX9_as_35 : decode cX9_as 35 = .ok (.iload_n 2, 1) := by decide +kernel
theorem dX9_as_36 : decode cX9_as 36 = .ok (.if_icmp .eq 13, 3) := by decide +kernel
theorem dX9_as_39 : decode cX9_as 39 = .ok (.iload_n 2, 1) := by decide +kernel
theorem dX9_as_40 : decode cX9_as 40 = .ok (.iconst 3, 1) := by decide +kernel
theorem dX9_as_41 : decode cX9_as 41 = .ok (.if_icmp .ne 12, 3) := by decide +kernel
theorem dX9_as_44 : decode cX9_as 44 = .ok (.iload_n 3, 1) := by decide +kernel
theorem dX9_as_45 : decode cX9_as 45 = .ok (.iconst 4, 1) := by decide +kernel
theorem dX9_as_46 : decode cX9_as 46 = .ok (.if_icmp .ne 7, 3) := by decide +kernel
theorem dX9_as_49 : decode cX9_as 49 = .ok (.iload_n 1, 1) := by decide +kernel
theorem dX9_as_50 : decode cX9_as 50 = .ok (.goto 4, 3) := by decide +kernel
theorem dX9_as_53 : decode cX9_as 53 = .ok (.iconst (-1), 1) := by decide +kernel
theorem dX9_as_54 : decode cX9_as 54 = .ok (.ireturn, 1) := by decide +kernel
theorem dX9_questionNow_0 : decode cX9_questionNow 0 = .ok (.iload_n 2, 1) := by decide +kernel
theorem dX9_questionNow_1 : decode cX9_questionNow 1 = .ok (.tableswitch 72 0 4 #[35, 45, 51, 58, 65], 35) := by decide +kernel
theorem dX9_questionNow_36 : decode cX9_questionNow 36 = .ok (.aload_n 0, 1) := by decide +kernel
theorem dX9_questionNow_37 : decode cX9_questionNow 37 = .ok (.iload_n 1, 1) := by decide +kernel
theorem dX9_questionNow_38 : decode cX9_questionNow 38 = .ok (.invokevirtual 143, 3) := by decide +kernel
theorem dX9_questionNow_41 : decode cX9_questionNow 41 = .ok (.sipush 200, 3) := by decide +kernel
theorem dX9_questionNow_44 : decode cX9_questionNow 44 = .ok (.iadd, 1) := by decide +kernel
theorem dX9_questionNow_45 : decode cX9_questionNow 45 = .ok (.ireturn, 1) := by decide +kernel
theorem dX9_questionNow_46 : decode cX9_questionNow 46 = .ok (.aload_n 0, 1) := by decide +kernel
theorem dX9_questionNow_47 : decode cX9_questionNow 47 = .ok (.iload_n 1, 1) := by decide +kernel
theorem dX9_questionNow_48 : decode cX9_questionNow 48 = .ok (.invokevirtual 161, 3) := by decide +kernel
theorem dX9_questionNow_51 : decode cX9_questionNow 51 = .ok (.ireturn, 1) := by decide +kernel
theorem dX9_questionNow_52 : decode cX9_questionNow 52 = .ok (.aload_n 0, 1) := by decide +kernel
theorem dX9_questionNow_53 : decode cX9_questionNow 53 = .ok (.getfield 19, 3) := by decide +kernel
theorem dX9_questionNow_56 : decode cX9_questionNow 56 = .ok (.iload_n 1, 1) := by decide +kernel
theorem dX9_questionNow_57 : decode cX9_questionNow 57 = .ok (.iaload, 1) := by decide +kernel
theorem dX9_questionNow_58 : decode cX9_questionNow 58 = .ok (.ireturn, 1) := by decide +kernel
theorem dX9_questionNow_59 : decode cX9_questionNow 59 = .ok (.aload_n 0, 1) := by decide +kernel
theorem dX9_questionNow_60 : decode cX9_questionNow 60 = .ok (.getfield 22, 3) := by decide +kernel
theorem dX9_questionNow_63 : decode cX9_questionNow 63 = .ok (.iload_n 1, 1) := by decide +kernel
theorem dX9_questionNow_64 : decode cX9_questionNow 64 = .ok (.iaload, 1) := by decide +kernel
theorem dX9_questionNow_65 : decode cX9_questionNow 65 = .ok (.ireturn, 1) := by decide +kernel
theorem dX9_questionNow_66 : decode cX9_questionNow 66 = .ok (.aload_n 0, 1) := by decide +kernel
theorem dX9_questionNow_67 : decode cX9_questionNow 67 = .ok (.iload_n 1, 1) := by decide +kernel
theorem dX9_questionNow_68 : decode cX9_questionNow 68 = .ok (.iconst 1, 1) := by decide +kernel
theorem dX9_questionNow_69 : decode cX9_questionNow 69 = .ok (.invokevirtual 164, 3) := by decide +kernel
theorem dX9_questionNow_72 : decode cX9_questionNow 72 = .ok (.ireturn, 1) := by decide +kernel
theorem dX9_questionNow_73 : decode cX9_questionNow 73 = .ok (.aload_n 0, 1) := by decide +kernel
theorem dX9_questionNow_74 : decode cX9_questionNow 74 = .ok (.iload_n 1, 1) := by decide +kernel
theorem dX9_questionNow_75 : decode cX9_questionNow 75 = .ok (.iconst (-1), 1) := by decide +kernel
theorem dX9_questionNow_76 : decode cX9_questionNow 76 = .ok (.invokevirtual 164, 3) := by decide +kernel
theorem dX9_questionNow_79 : decode cX9_questionNow 79 = .ok (.ireturn, 1) := by decide +kernel
theorem dX9_question_0 : decode cX9_question 0 = .ok (.aload_n 0, 1) := by decide +kernel
theorem dX9_question_1 : decode cX9_question 1 = .ok (.iload_n 1, 1) := by decide +kernel
theorem dX9_question_2 : decode cX9_question 2 = .ok (.invokevirtual 167, 3) := by decide +kernel
theorem dX9_question_5 : decode cX9_question 5 = .ok (.ifCond .ne 8, 3) := by decide +kernel
theorem dX9_question_8 : decode cX9_question 8 = .ok (.bipush (-101), 2) := by decide +kernel
theorem dX9_question_10 : decode cX9_question 10 = .ok (.goto 23, 3) := by decide +kernel
theorem dX9_question_13 : decode cX9_question 13 = .ok (.iload_n 2, 1) := by decide +kernel
theorem dX9_question_14 : decode cX9_question 14 = .ok (.iconst 0, 1) := by decide +kernel
theorem dX9_question_15 : decode cX9_question 15 = .ok (.iconst 5, 1) := by decide +kernel
theorem dX9_question_16 : decode cX9_question 16 = .ok (.invokestatic 79, 3) := by decide +kernel
theorem dX9_question_19 : decode cX9_question 19 = .ok (.ifCond .eq 12, 3) := by decide +kernel
theorem dX9_question_22 : decode cX9_question 22 = .ok (.aload_n 0, 1) := by decide +kernel
theorem dX9_question_23 : decode cX9_question 23 = .ok (.iload_n 1, 1) := by decide +kernel
theorem dX9_question_24 : decode cX9_question 24 = .ok (.iload_n 2, 1) := by decide +kernel
theorem dX9_question_25 : decode cX9_question 25 = .ok (.invokevirtual 170, 3) := by decide +kernel
theorem dX9_question_28 : decode cX9_question 28 = .ok (.goto 5, 3) := by decide +kernel
theorem dX9_question_31 : decode cX9_question 31 = .ok (.bipush (-102), 2) := by decide +kernel
theorem dX9_question_33 : decode cX9_question 33 = .ok (.ireturn, 1) := by decide +kernel
theorem dX9_ask_0 : decode cX9_ask 0 = .ok (.aload_n 0, 1) := by decide +kernel
theorem dX9_ask_1 : decode cX9_ask 1 = .ok (.iload_n 1, 1) := by decide +kernel
theorem dX9_ask_2 : decode cX9_ask 2 = .ok (.invokevirtual 167, 3) := by decide +kernel
theorem dX9_ask_5 : decode cX9_ask 5 = .ok (.ifCond .ne 6, 3) := by decide +kernel
theorem dX9_ask_8 : decode cX9_ask 8 = .ok (.bipush (-101), 2) := by decide +kernel
theorem dX9_ask_10 : decode cX9_ask 10 = .ok (.ireturn, 1) := by decide +kernel
theorem dX9_ask_11 : decode cX9_ask 11 = .ok (.aload_n 0, 1) := by decide +kernel
theorem dX9_ask_12 : decode cX9_ask 12 = .ok (.getfield 19, 3) := by decide +kernel
theorem dX9_ask_15 : decode cX9_ask 15 = .ok (.iload_n 1, 1) := by decide +kernel
theorem dX9_ask_16 : decode cX9_ask 16 = .ok (.iaload, 1) := by decide +kernel
theorem dX9_ask_17 : decode cX9_ask 17 = .ok (.bipush 99, 2) := by decide +kernel
theorem dX9_ask_19 : decode cX9_ask 19 = .ok (.if_icmp .ne 6, 3) := by decide +kernel
theorem dX9_ask_22 : decode cX9_ask 22 = .ok (.bipush (-104), 2) := by decide +kernel
theorem dX9_ask_24 : decode cX9_ask 24 = .ok (.ireturn, 1) := by decide +kernel
theorem dX9_ask_25 : decode cX9_ask 25 = .ok (.aload_n 0, 1) := by decide +kernel
theorem dX9_ask_26 : decode cX9_ask 26 = .ok (.iload_n 1, 1) := by decide +kernel
theorem dX9_ask_27 : decode cX9_ask 27 = .ok (.invokevirtual 161, 3) := by decide +kernel
theorem dX9_ask_30 : decode cX9_ask 30 = .ok (.istore_n 2, 1) := by decide +kernel
theorem dX9_ask_31 : decode cX9_ask 31 = .ok (.aload_n 0, 1) := by decide +kernel
theorem dX9_ask_32 : decode cX9_ask 32 = .ok (.getfield 19, 3) := by decide +kernel
theorem dX9_ask_35 : decode cX9_ask 35 = .ok (.iload_n 1, 1) := by decide +kernel
theorem dX9_ask_36 : decode cX9_ask 36 = .ok (.dup2, 1) := by decide +kernel
theorem dX9_ask_37 : decode cX9_ask 37 = .ok (.iaload, 1) := by decide +kernel
theorem dX9_ask_38 : decode cX9_ask 38 = .ok (.iconst 1, 1) := by decide +kernel
theorem dX9_ask_39 : decode cX9_ask 39 = .ok (.iadd, 1) := by decide +kernel
theorem dX9_ask_40 : decode cX9_ask 40 = .ok (.iastore, 1) := by decide +kernel
theorem dX9_ask_41 : decode cX9_ask 41 = .ok (.aload_n 0, 1) := by decide +kernel
theorem dX9_ask_42 : decode cX9_ask 42 = .ok (.getfield 22, 3) := by decide +kernel
theorem dX9_ask_45 : decode cX9_ask 45 = .ok (.iload_n 1, 1) := by decide +kernel
theorem dX9_ask_46 : decode cX9_ask 46 = .ok (.dup2, 1) := by decide +kernel
theorem dX9_ask_47 : decode cX9_ask 47 = .ok (.iaload, 1) := by decide +kernel
theorem dX9_ask_48 : decode cX9_ask 48 = .ok (.iload_n 2, 1) := by decide +kernel
theorem dX9_ask_49 : decode cX9_ask 49 = .ok (.iconst 1, 1) := by decide +kernel
theorem dX9_ask_50 : decode cX9_ask 50 = .ok (.if_icmp .ne 7, 3) := by decide +kernel
theorem dX9_ask_53 : decode cX9_ask 53 = .ok (.iconst 1, 1) := by decide +kernel
theorem dX9_ask_54 : decode cX9_ask 54 = .ok (.goto 4, 3) := by decide +kernel
theorem dX9_ask_57 : decode cX9_ask 57 = .ok (.iconst 0, 1) := by decide +kernel
theorem dX9_ask_58 : decode cX9_ask 58 = .ok (.iadd, 1) := by decide +kernel
theorem dX9_ask_59 : decode cX9_ask 59 = .ok (.iastore, 1) := by decide +kernel
theorem dX9_ask_60 : decode cX9_ask 60 = .ok (.iload_n 2, 1) := by decide +kernel
theorem dX9_ask_61 : decode cX9_ask 61 = .ok (.iconst (-1), 1) := by decide +kernel
theorem dX9_ask_62 : decode cX9_ask 62 = .ok (.if_icmp .ne 7, 3) := by decide +kernel
theorem dX9_ask_65 : decode cX9_ask 65 = .ok (.iconst 2, 1) := by decide +kernel
theorem dX9_ask_66 : decode cX9_ask 66 = .ok (.goto 4, 3) := by decide +kernel
theorem dX9_ask_69 : decode cX9_ask 69 = .ok (.iload_n 2, 1) := by decide +kernel
theorem dX9_ask_70 : decode cX9_ask 70 = .ok (.ireturn, 1) := by decide +kernel
theorem dX9_turnTide_0 : decode cX9_turnTide 0 = .ok (.iconst 0, 1) := by decide +kernel
theorem dX9_turnTide_1 : decode cX9_turnTide 1 = .ok (.istore_n 1, 1) := by decide +kernel
theorem dX9_turnTide_2 : decode cX9_turnTide 2 = .ok (.iload_n 1, 1) := by decide +kernel
theorem dX9_turnTide_3 : decode cX9_turnTide 3 = .ok (.aload_n 0, 1) := by decide +kernel
theorem dX9_turnTide_4 : decode cX9_turnTide 4 = .ok (.getfield 112, 3) := by decide +kernel
theorem dX9_turnTide_7 : decode cX9_turnTide 7 = .ok (.if_icmp .ge 89, 3) := by decide +kernel
theorem dX9_turnTide_10 : decode cX9_turnTide 10 = .ok (.iconst 0, 1) := by decide +kernel
theorem dX9_turnTide_11 : decode cX9_turnTide 11 = .ok (.istore_n 2, 1) := by decide +kernel
theorem dX9_turnTide_12 : decode cX9_turnTide 12 = .ok (.iload_n 2, 1) := by decide +kernel
theorem dX9_turnTide_13 : decode cX9_turnTide 13 = .ok (.iconst 3, 1) := by decide +kernel
theorem dX9_turnTide_14 : decode cX9_turnTide 14 = .ok (.if_icmp .ge 76, 3) := by decide +kernel
theorem dX9_turnTide_17 : decode cX9_turnTide 17 = .ok (.aload_n 0, 1) := by decide +kernel
theorem dX9_turnTide_18 : decode cX9_turnTide 18 = .ok (.getfield 16, 3) := by decide +kernel
theorem dX9_turnTide_21 : decode cX9_turnTide 21 = .ok (.iconst 3, 1) := by decide +kernel
theorem dX9_turnTide_22 : decode cX9_turnTide 22 = .ok (.iload_n 1, 1) := by decide +kernel
theorem dX9_turnTide_23 : decode cX9_turnTide 23 = .ok (.imul, 1) := by decide +kernel
theorem dX9_turnTide_24 : decode cX9_turnTide 24 = .ok (.iload_n 2, 1) := by decide +kernel
theorem dX9_turnTide_25 : decode cX9_turnTide 25 = .ok (.iadd, 1) := by decide +kernel
theorem dX9_turnTide_26 : decode cX9_turnTide 26 = .ok (.iaload, 1) := by decide +kernel
theorem dX9_turnTide_27 : decode cX9_turnTide 27 = .ok (.istore_n 3, 1) := by decide +kernel
theorem dX9_turnTide_28 : decode cX9_turnTide 28 = .ok (.iload_n 3, 1) := by decide +kernel
theorem dX9_turnTide_29 : decode cX9_turnTide 29 = .ok (.aload_n 0, 1) := by decide +kernel
theorem dX9_turnTide_30 : decode cX9_turnTide 30 = .ok (.iload_n 1, 1) := by decide +kernel
theorem dX9_turnTide_31 : decode cX9_turnTide 31 = .ok (.iload_n 2, 1) := by decide +kernel
theorem dX9_turnTide_32 : decode cX9_turnTide 32 = .ok (.invokevirtual 134, 3) := by decide +kernel
theorem dX9_turnTide_35 : decode cX9_turnTide 35 = .ok (.iadd, 1) := by decide +kernel
theorem dX9_turnTide_36 : decode cX9_turnTide 36 = .ok (.aload_n 0, 1) := by decide +kernel
theorem dX9_turnTide_37 : decode cX9_turnTide 37 = .ok (.iload_n 1, 1) := by decide +kernel
theorem dX9_turnTide_38 : decode cX9_turnTide 38 = .ok (.iload_n 2, 1) := by decide +kernel
theorem dX9_turnTide_39 : decode cX9_turnTide 39 = .ok (.invokevirtual 137, 3) := by decide +kernel
theorem dX9_turnTide_42 : decode cX9_turnTide 42 = .ok (.iadd, 1) := by decide +kernel
theorem dX9_turnTide_43 : decode cX9_turnTide 43 = .ok (.istore 4, 2) := by decide +kernel
theorem dX9_turnTide_45 : decode cX9_turnTide 45 = .ok (.aload_n 0, 1) := by decide +kernel
theorem dX9_turnTide_46 : decode cX9_turnTide 46 = .ok (.getfield 38, 3) := by decide +kernel
theorem dX9_turnTide_49 : decode cX9_turnTide 49 = .ok (.iconst 3, 1) := by decide +kernel
theorem dX9_turnTide_50 : decode cX9_turnTide 50 = .ok (.iload_n 1, 1) := by decide +kernel
theorem dX9_turnTide_51 : decode cX9_turnTide 51 = .ok (.imul, 1) := by decide +kernel
theorem dX9_turnTide_52 : decode cX9_turnTide 52 = .ok (.iload_n 2, 1) := by decide +kernel
theorem dX9_turnTide_53 : decode cX9_turnTide 53 = .ok (.iadd, 1) := by decide +kernel
theorem dX9_turnTide_54 : decode cX9_turnTide 54 = .ok (.aload_n 0, 1) := by decide +kernel
theorem dX9_turnTide_55 : decode cX9_turnTide 55 = .ok (.getfield 7, 3) := by decide +kernel
theorem dX9_turnTide_58 : decode cX9_turnTide 58 = .ok (.iload_n 1, 1) := by decide +kernel
theorem dX9_turnTide_59 : decode cX9_turnTide 59 = .ok (.iaload, 1) := by decide +kernel
theorem dX9_turnTide_60 : decode cX9_turnTide 60 = .ok (.iconst 2, 1) := by decide +kernel
theorem dX9_turnTide_61 : decode cX9_turnTide 61 = .ok (.if_icmp .eq 8, 3) := by decide +kernel
theorem dX9_turnTide_64 : decode cX9_turnTide 64 = .ok (.iload 4, 2) := by decide +kernel
theorem dX9_turnTide_66 : decode cX9_turnTide 66 = .ok (.ifCond .ne 7, 3) := by decide +kernel
theorem dX9_turnTide_69 : decode cX9_turnTide 69 = .ok (.iload_n 3, 1) := by decide +kernel
theorem dX9_turnTide_70 : decode cX9_turnTide 70 = .ok (.goto 13, 3) := by decide +kernel
theorem dX9_turnTide_73 : decode cX9_turnTide 73 = .ok (.iload 4, 2) := by decide +kernel
theorem dX9_turnTide_75 : decode cX9_turnTide 75 = .ok (.ifCond .le 7, 3) := by decide +kernel
theorem dX9_turnTide_78 : decode cX9_turnTide 78 = .ok (.iconst 1, 1) := by decide +kernel
theorem dX9_turnTide_79 : decode cX9_turnTide 79 = .ok (.goto 4, 3) := by decide +kernel
theorem dX9_turnTide_82 : decode cX9_turnTide 82 = .ok (.iconst (-1), 1) := by decide +kernel
theorem dX9_turnTide_83 : decode cX9_turnTide 83 = .ok (.iastore, 1) := by decide +kernel
theorem dX9_turnTide_84 : decode cX9_turnTide 84 = .ok (.iinc 2 1, 3) := by decide +kernel
theorem dX9_turnTide_87 : decode cX9_turnTide 87 = .ok (.goto (-75), 3) := by decide +kernel
theorem dX9_turnTide_90 : decode cX9_turnTide 90 = .ok (.iinc 1 1, 3) := by decide +kernel
theorem dX9_turnTide_93 : decode cX9_turnTide 93 = .ok (.goto (-91), 3) := by decide +kernel
theorem dX9_turnTide_96 : decode cX9_turnTide 96 = .ok (.iconst 0, 1) := by decide +kernel
theorem dX9_turnTide_97 : decode cX9_turnTide 97 = .ok (.istore_n 1, 1) := by decide +kernel
theorem dX9_turnTide_98 : decode cX9_turnTide 98 = .ok (.iload_n 1, 1) := by decide +kernel
theorem dX9_turnTide_99 : decode cX9_turnTide 99 = .ok (.iconst 3, 1) := by decide +kernel
theorem dX9_turnTide_100 : decode cX9_turnTide 100 = .ok (.aload_n 0, 1) := by decide +kernel
theorem dX9_turnTide_101 : decode cX9_turnTide 101 = .ok (.getfield 112, 3) := by decide +kernel
theorem dX9_turnTide_104 : decode cX9_turnTide 104 = .ok (.imul, 1) := by decide +kernel
theorem dX9_turnTide_105 : decode cX9_turnTide 105 = .ok (.if_icmp .ge 21, 3) := by decide +kernel
theorem dX9_turnTide_108 : decode cX9_turnTide 108 = .ok (.aload_n 0, 1) := by decide +kernel
theorem dX9_turnTide_109 : decode cX9_turnTide 109 = .ok (.getfield 16, 3) := by decide +kernel
theorem dX9_turnTide_112 : decode cX9_turnTide 112 = .ok (.iload_n 1, 1) := by decide +kernel
theorem dX9_turnTide_113 : decode cX9_turnTide 113 = .ok (.aload_n 0, 1) := by decide +kernel
theorem dX9_turnTide_114 : decode cX9_turnTide 114 = .ok (.getfield 38, 3) := by decide +kernel
theorem dX9_turnTide_117 : decode cX9_turnTide 117 = .ok (.iload_n 1, 1) := by decide +kernel
theorem dX9_turnTide_118 : decode cX9_turnTide 118 = .ok (.iaload, 1) := by decide +kernel
theorem dX9_turnTide_119 : decode cX9_turnTide 119 = .ok (.iastore, 1) := by decide +kernel
theorem dX9_turnTide_120 : decode cX9_turnTide 120 = .ok (.iinc 1 1, 3) := by decide +kernel
theorem dX9_turnTide_123 : decode cX9_turnTide 123 = .ok (.goto (-25), 3) := by decide +kernel
theorem dX9_turnTide_126 : decode cX9_turnTide 126 = .ok (.return_, 1) := by decide +kernel
theorem dX9_tide_0 : decode cX9_tide 0 = .ok (.aload_n 0, 1) := by decide +kernel
theorem dX9_tide_1 : decode cX9_tide 1 = .ok (.getfield 112, 3) := by decide +kernel
theorem dX9_tide_4 : decode cX9_tide 4 = .ok (.ifCond .ne 6, 3) := by decide +kernel
theorem dX9_tide_7 : decode cX9_tide 7 = .ok (.bipush (-103), 2) := by decide +kernel
theorem dX9_tide_9 : decode cX9_tide 9 = .ok (.ireturn, 1) := by decide +kernel
theorem dX9_tide_10 : decode cX9_tide 10 = .ok (.aload_n 0, 1) := by decide +kernel
theorem dX9_tide_11 : decode cX9_tide 11 = .ok (.getfield 118, 3) := by decide +kernel
theorem dX9_tide_14 : decode cX9_tide 14 = .ok (.sipush 999, 3) := by decide +kernel
theorem dX9_tide_17 : decode cX9_tide 17 = .ok (.if_icmp .ne 6, 3) := by decide +kernel
theorem dX9_tide_20 : decode cX9_tide 20 = .ok (.bipush (-104), 2) := by decide +kernel
theorem dX9_tide_22 : decode cX9_tide 22 = .ok (.ireturn, 1) := by decide +kernel
theorem dX9_tide_23 : decode cX9_tide 23 = .ok (.aload_n 0, 1) := by decide +kernel
theorem dX9_tide_24 : decode cX9_tide 24 = .ok (.invokevirtual 173, 3) := by decide +kernel
theorem dX9_tide_27 : decode cX9_tide 27 = .ok (.aload_n 0, 1) := by decide +kernel
theorem dX9_tide_28 : decode cX9_tide 28 = .ok (.dup, 1) := by decide +kernel
theorem dX9_tide_29 : decode cX9_tide 29 = .ok (.getfield 118, 3) := by decide +kernel
theorem dX9_tide_32 : decode cX9_tide 32 = .ok (.iconst 1, 1) := by decide +kernel
theorem dX9_tide_33 : decode cX9_tide 33 = .ok (.iadd, 1) := by decide +kernel
theorem dX9_tide_34 : decode cX9_tide 34 = .ok (.putfield 118, 3) := by decide +kernel
theorem dX9_tide_37 : decode cX9_tide 37 = .ok (.aload_n 0, 1) := by decide +kernel
theorem dX9_tide_38 : decode cX9_tide 38 = .ok (.getfield 118, 3) := by decide +kernel
theorem dX9_tide_41 : decode cX9_tide 41 = .ok (.ireturn, 1) := by decide +kernel
theorem dX9_cut_0 : decode cX9_cut 0 = .ok (.aload_n 0, 1) := by decide +kernel
theorem dX9_cut_1 : decode cX9_cut 1 = .ok (.iload_n 1, 1) := by decide +kernel
theorem dX9_cut_2 : decode cX9_cut 2 = .ok (.invokevirtual 152, 3) := by decide +kernel
theorem dX9_cut_5 : decode cX9_cut 5 = .ok (.ifCond .ne 6, 3) := by decide +kernel
theorem dX9_cut_8 : decode cX9_cut 8 = .ok (.bipush (-101), 2) := by decide +kernel
theorem dX9_cut_10 : decode cX9_cut 10 = .ok (.ireturn, 1) := by decide +kernel
theorem dX9_cut_11 : decode cX9_cut 11 = .ok (.aload_n 0, 1) := by decide +kernel
theorem dX9_cut_12 : decode cX9_cut 12 = .ok (.getfield 115, 3) := by decide +kernel
theorem dX9_cut_15 : decode cX9_cut 15 = .ok (.iload_n 1, 1) := by decide +kernel
theorem dX9_cut_16 : decode cX9_cut 16 = .ok (.invokestatic 130, 3) := by decide +kernel
theorem dX9_cut_19 : decode cX9_cut 19 = .ok (.ifCond .eq 6, 3) := by decide +kernel
theorem dX9_cut_22 : decode cX9_cut 22 = .ok (.bipush (-103), 2) := by decide +kernel
theorem dX9_cut_24 : decode cX9_cut 24 = .ok (.ireturn, 1) := by decide +kernel
theorem dX9_cut_25 : decode cX9_cut 25 = .ok (.aload_n 0, 1) := by decide +kernel
theorem dX9_cut_26 : decode cX9_cut 26 = .ok (.dup, 1) := by decide +kernel
theorem dX9_cut_27 : decode cX9_cut 27 = .ok (.getfield 115, 3) := by decide +kernel
theorem dX9_cut_30 : decode cX9_cut 30 = .ok (.iconst 1, 1) := by decide +kernel
theorem dX9_cut_31 : decode cX9_cut 31 = .ok (.iload_n 1, 1) := by decide +kernel
theorem dX9_cut_32 : decode cX9_cut 32 = .ok (.ishl, 1) := by decide +kernel
theorem dX9_cut_33 : decode cX9_cut 33 = .ok (.ior, 1) := by decide +kernel
theorem dX9_cut_34 : decode cX9_cut 34 = .ok (.putfield 115, 3) := by decide +kernel
theorem dX9_cut_37 : decode cX9_cut 37 = .ok (.aload_n 0, 1) := by decide +kernel
theorem dX9_cut_38 : decode cX9_cut 38 = .ok (.invokevirtual 176, 3) := by decide +kernel
theorem dX9_cut_41 : decode cX9_cut 41 = .ok (.invokestatic 179, 3) := by decide +kernel
theorem dX9_cut_44 : decode cX9_cut 44 = .ok (.ireturn, 1) := by decide +kernel
theorem dX9_tie_0 : decode cX9_tie 0 = .ok (.aload_n 0, 1) := by decide +kernel
theorem dX9_tie_1 : decode cX9_tie 1 = .ok (.iload_n 1, 1) := by decide +kernel
theorem dX9_tie_2 : decode cX9_tie 2 = .ok (.invokevirtual 152, 3) := by decide +kernel
theorem dX9_tie_5 : decode cX9_tie 5 = .ok (.ifCond .ne 6, 3) := by decide +kernel
theorem dX9_tie_8 : decode cX9_tie 8 = .ok (.bipush (-101), 2) := by decide +kernel
theorem dX9_tie_10 : decode cX9_tie 10 = .ok (.ireturn, 1) := by decide +kernel
theorem dX9_tie_11 : decode cX9_tie 11 = .ok (.aload_n 0, 1) := by decide +kernel
theorem dX9_tie_12 : decode cX9_tie 12 = .ok (.getfield 115, 3) := by decide +kernel
theorem dX9_tie_15 : decode cX9_tie 15 = .ok (.iload_n 1, 1) := by decide +kernel
theorem dX9_tie_16 : decode cX9_tie 16 = .ok (.invokestatic 130, 3) := by decide +kernel
theorem dX9_tie_19 : decode cX9_tie 19 = .ok (.ifCond .ne 6, 3) := by decide +kernel
theorem dX9_tie_22 : decode cX9_tie 22 = .ok (.bipush (-103), 2) := by decide +kernel
theorem dX9_tie_24 : decode cX9_tie 24 = .ok (.ireturn, 1) := by decide +kernel
theorem dX9_tie_25 : decode cX9_tie 25 = .ok (.aload_n 0, 1) := by decide +kernel
theorem dX9_tie_26 : decode cX9_tie 26 = .ok (.dup, 1) := by decide +kernel
theorem dX9_tie_27 : decode cX9_tie 27 = .ok (.getfield 115, 3) := by decide +kernel
theorem dX9_tie_30 : decode cX9_tie 30 = .ok (.iconst 1, 1) := by decide +kernel
theorem dX9_tie_31 : decode cX9_tie 31 = .ok (.iload_n 1, 1) := by decide +kernel
theorem dX9_tie_32 : decode cX9_tie 32 = .ok (.ishl, 1) := by decide +kernel
theorem dX9_tie_33 : decode cX9_tie 33 = .ok (.iconst (-1), 1) := by decide +kernel
theorem dX9_tie_34 : decode cX9_tie 34 = .ok (.ixor, 1) := by decide +kernel
theorem dX9_tie_35 : decode cX9_tie 35 = .ok (.iand, 1) := by decide +kernel
theorem dX9_tie_36 : decode cX9_tie 36 = .ok (.putfield 115, 3) := by decide +kernel
theorem dX9_tie_39 : decode cX9_tie 39 = .ok (.aload_n 0, 1) := by decide +kernel
theorem dX9_tie_40 : decode cX9_tie 40 = .ok (.invokevirtual 176, 3) := by decide +kernel
theorem dX9_tie_43 : decode cX9_tie 43 = .ok (.invokestatic 179, 3) := by decide +kernel
theorem dX9_tie_46 : decode cX9_tie 46 = .ok (.ireturn, 1) := by decide +kernel
theorem dX9_turn_0 : decode cX9_turn 0 = .ok (.aload_n 0, 1) := by decide +kernel
theorem dX9_turn_1 : decode cX9_turn 1 = .ok (.iload_n 1, 1) := by decide +kernel
theorem dX9_turn_2 : decode cX9_turn 2 = .ok (.invokevirtual 152, 3) := by decide +kernel
theorem dX9_turn_5 : decode cX9_turn 5 = .ok (.ifCond .eq 11, 3) := by decide +kernel
theorem dX9_turn_8 : decode cX9_turn 8 = .ok (.aload_n 0, 1) := by decide +kernel
theorem dX9_turn_9 : decode cX9_turn 9 = .ok (.iload_n 2, 1) := by decide +kernel
theorem dX9_turn_10 : decode cX9_turn 10 = .ok (.invokevirtual 167, 3) := by decide +kernel
theorem dX9_turn_13 : decode cX9_turn 13 = .ok (.ifCond .ne 6, 3) := by decide +kernel
theorem dX9_turn_16 : decode cX9_turn 16 = .ok (.bipush (-101), 2) := by decide +kernel
theorem dX9_turn_18 : decode cX9_turn 18 = .ok (.ireturn, 1) := by decide +kernel
theorem dX9_turn_19 : decode cX9_turn 19 = .ok (.iload_n 3, 1) := by decide +kernel
theorem dX9_turn_20 : decode cX9_turn 20 = .ok (.iconst (-1), 1) := by decide +kernel
theorem dX9_turn_21 : decode cX9_turn 21 = .ok (.iconst 1, 1) := by decide +kernel
theorem dX9_turn_22 : decode cX9_turn 22 = .ok (.invokestatic 79, 3) := by decide +kernel
theorem dX9_turn_25 : decode cX9_turn 25 = .ok (.ifCond .ne 6, 3) := by decide +kernel
theorem dX9_turn_28 : decode cX9_turn 28 = .ok (.bipush (-102), 2) := by decide +kernel
theorem dX9_turn_30 : decode cX9_turn 30 = .ok (.ireturn, 1) := by decide +kernel
theorem dX9_turn_31 : decode cX9_turn 31 = .ok (.aload_n 0, 1) := by decide +kernel
theorem dX9_turn_32 : decode cX9_turn 32 = .ok (.getfield 16, 3) := by decide +kernel
theorem dX9_turn_35 : decode cX9_turn 35 = .ok (.iconst 3, 1) := by decide +kernel
theorem dX9_turn_36 : decode cX9_turn 36 = .ok (.iload_n 1, 1) := by decide +kernel
theorem dX9_turn_37 : decode cX9_turn 37 = .ok (.imul, 1) := by decide +kernel
theorem dX9_turn_38 : decode cX9_turn 38 = .ok (.iload_n 2, 1) := by decide +kernel
theorem dX9_turn_39 : decode cX9_turn 39 = .ok (.iadd, 1) := by decide +kernel
theorem dX9_turn_40 : decode cX9_turn 40 = .ok (.iaload, 1) := by decide +kernel
theorem dX9_turn_41 : decode cX9_turn 41 = .ok (.istore 4, 2) := by decide +kernel
theorem dX9_turn_43 : decode cX9_turn 43 = .ok (.aload_n 0, 1) := by decide +kernel
theorem dX9_turn_44 : decode cX9_turn 44 = .ok (.getfield 16, 3) := by decide +kernel
theorem dX9_turn_47 : decode cX9_turn 47 = .ok (.iconst 3, 1) := by decide +kernel
theorem dX9_turn_48 : decode cX9_turn 48 = .ok (.iload_n 1, 1) := by decide +kernel
theorem dX9_turn_49 : decode cX9_turn 49 = .ok (.imul, 1) := by decide +kernel
theorem dX9_turn_50 : decode cX9_turn 50 = .ok (.iload_n 2, 1) := by decide +kernel
theorem dX9_turn_51 : decode cX9_turn 51 = .ok (.iadd, 1) := by decide +kernel
theorem dX9_turn_52 : decode cX9_turn 52 = .ok (.iload_n 3, 1) := by decide +kernel
theorem dX9_turn_53 : decode cX9_turn 53 = .ok (.iastore, 1) := by decide +kernel
theorem dX9_turn_54 : decode cX9_turn 54 = .ok (.iload 4, 2) := by decide +kernel
theorem dX9_turn_56 : decode cX9_turn 56 = .ok (.iconst 1, 1) := by decide +kernel
theorem dX9_turn_57 : decode cX9_turn 57 = .ok (.iadd, 1) := by decide +kernel
theorem dX9_turn_58 : decode cX9_turn 58 = .ok (.ireturn, 1) := by decide +kernel
theorem dX9_grow_0 : decode cX9_grow 0 = .ok (.aload_n 0, 1) := by decide +kernel
theorem dX9_grow_1 : decode cX9_grow 1 = .ok (.iload_n 1, 1) := by decide +kernel
theorem dX9_grow_2 : decode cX9_grow 2 = .ok (.invokevirtual 152, 3) := by decide +kernel
theorem dX9_grow_5 : decode cX9_grow 5 = .ok (.ifCond .ne 6, 3) := by decide +kernel
theorem dX9_grow_8 : decode cX9_grow 8 = .ok (.bipush (-101), 2) := by decide +kernel
theorem dX9_grow_10 : decode cX9_grow 10 = .ok (.ireturn, 1) := by decide +kernel
theorem dX9_grow_11 : decode cX9_grow 11 = .ok (.iload_n 2, 1) := by decide +kernel
theorem dX9_grow_12 : decode cX9_grow 12 = .ok (.iconst 1, 1) := by decide +kernel
theorem dX9_grow_13 : decode cX9_grow 13 = .ok (.bipush 9, 2) := by decide +kernel
theorem dX9_grow_15 : decode cX9_grow 15 = .ok (.invokestatic 79, 3) := by decide +kernel
theorem dX9_grow_18 : decode cX9_grow 18 = .ok (.ifCond .ne 6, 3) := by decide +kernel
theorem dX9_grow_21 : decode cX9_grow 21 = .ok (.bipush (-102), 2) := by decide +kernel
theorem dX9_grow_23 : decode cX9_grow 23 = .ok (.ireturn, 1) := by decide +kernel
theorem dX9_grow_24 : decode cX9_grow 24 = .ok (.aload_n 0, 1) := by decide +kernel
theorem dX9_grow_25 : decode cX9_grow 25 = .ok (.getfield 13, 3) := by decide +kernel
theorem dX9_grow_28 : decode cX9_grow 28 = .ok (.iload_n 1, 1) := by decide +kernel
theorem dX9_grow_29 : decode cX9_grow 29 = .ok (.iaload, 1) := by decide +kernel
theorem dX9_grow_30 : decode cX9_grow 30 = .ok (.istore_n 3, 1) := by decide +kernel
theorem dX9_grow_31 : decode cX9_grow 31 = .ok (.aload_n 0, 1) := by decide +kernel
theorem dX9_grow_32 : decode cX9_grow 32 = .ok (.getfield 13, 3) := by decide +kernel
theorem dX9_grow_35 : decode cX9_grow 35 = .ok (.iload_n 1, 1) := by decide +kernel
theorem dX9_grow_36 : decode cX9_grow 36 = .ok (.iload_n 2, 1) := by decide +kernel
theorem dX9_grow_37 : decode cX9_grow 37 = .ok (.iastore, 1) := by decide +kernel
theorem dX9_grow_38 : decode cX9_grow 38 = .ok (.iload_n 3, 1) := by decide +kernel
theorem dX9_grow_39 : decode cX9_grow 39 = .ok (.ireturn, 1) := by decide +kernel
theorem dX9_orders_0 : decode cX9_orders 0 = .ok (.iconst 1, 1) := by decide +kernel
theorem dX9_orders_1 : decode cX9_orders 1 = .ok (.istore_n 1, 1) := by decide +kernel
theorem dX9_orders_2 : decode cX9_orders 2 = .ok (.iconst 2, 1) := by decide +kernel
theorem dX9_orders_3 : decode cX9_orders 3 = .ok (.istore_n 2, 1) := by decide +kernel
theorem dX9_orders_4 : decode cX9_orders 4 = .ok (.iload_n 2, 1) := by decide +kernel
theorem dX9_orders_5 : decode cX9_orders 5 = .ok (.iload_n 0, 1) := by decide +kernel
theorem dX9_orders_6 : decode cX9_orders 6 = .ok (.if_icmp .gt 13, 3) := by decide +kernel
theorem dX9_orders_9 : decode cX9_orders 9 = .ok (.iload_n 1, 1) := by decide +kernel
theorem dX9_orders_10 : decode cX9_orders 10 = .ok (.iload_n 2, 1) := by decide +kernel
theorem dX9_orders_11 : decode cX9_orders 11 = .ok (.imul, 1) := by decide +kernel
theorem dX9_orders_12 : decode cX9_orders 12 = .ok (.istore_n 1, 1) := by decide +kernel
theorem dX9_orders_13 : decode cX9_orders 13 = .ok (.iinc 2 1, 3) := by decide +kernel
theorem dX9_orders_16 : decode cX9_orders 16 = .ok (.goto (-12), 3) := by decide +kernel
theorem dX9_orders_19 : decode cX9_orders 19 = .ok (.iload_n 1, 1) := by decide +kernel
theorem dX9_orders_20 : decode cX9_orders 20 = .ok (.ireturn, 1) := by decide +kernel
theorem dX9_forBy_0 : decode cX9_forBy 0 = .ok (.iconst 0, 1) := by decide +kernel
theorem dX9_forBy_1 : decode cX9_forBy 1 = .ok (.istore_n 3, 1) := by decide +kernel
theorem dX9_forBy_2 : decode cX9_forBy 2 = .ok (.iconst 0, 1) := by decide +kernel
theorem dX9_forBy_3 : decode cX9_forBy 3 = .ok (.istore 4, 2) := by decide +kernel
theorem dX9_forBy_5 : decode cX9_forBy 5 = .ok (.iload 4, 2) := by decide +kernel
theorem dX9_forBy_7 : decode cX9_forBy 7 = .ok (.aload_n 0, 1) := by decide +kernel
theorem dX9_forBy_8 : decode cX9_forBy 8 = .ok (.getfield 112, 3) := by decide +kernel
theorem dX9_forBy_11 : decode cX9_forBy 11 = .ok (.if_icmp .ge 45, 3) := by decide +kernel
theorem dX9_forBy_14 : decode cX9_forBy 14 = .ok (.iload_n 1, 1) := by decide +kernel
theorem dX9_forBy_15 : decode cX9_forBy 15 = .ok (.iload 4, 2) := by decide +kernel
theorem dX9_forBy_17 : decode cX9_forBy 17 = .ok (.invokestatic 130, 3) := by decide +kernel
theorem dX9_forBy_20 : decode cX9_forBy 20 = .ok (.ifCond .eq 13, 3) := by decide +kernel
theorem dX9_forBy_23 : decode cX9_forBy 23 = .ok (.aload_n 0, 1) := by decide +kernel
theorem dX9_forBy_24 : decode cX9_forBy 24 = .ok (.iload 4, 2) := by decide +kernel
theorem dX9_forBy_26 : decode cX9_forBy 26 = .ok (.iload_n 2, 1) := by decide +kernel
theorem dX9_forBy_27 : decode cX9_forBy 27 = .ok (.invokevirtual 140, 3) := by decide +kernel
theorem dX9_forBy_30 : decode cX9_forBy 30 = .ok (.goto 4, 3) := by decide +kernel
theorem dX9_forBy_33 : decode cX9_forBy 33 = .ok (.iconst 0, 1) := by decide +kernel
theorem dX9_forBy_34 : decode cX9_forBy 34 = .ok (.istore 5, 2) := by decide +kernel
theorem dX9_forBy_36 : decode cX9_forBy 36 = .ok (.iload_n 3, 1) := by decide +kernel
theorem dX9_forBy_37 : decode cX9_forBy 37 = .ok (.iload 5, 2) := by decide +kernel
theorem dX9_forBy_39 : decode cX9_forBy 39 = .ok (.ifCond .le 8, 3) := by decide +kernel
theorem dX9_forBy_42 : decode cX9_forBy 42 = .ok (.iload 5, 2) := by decide +kernel
theorem dX9_forBy_44 : decode cX9_forBy 44 = .ok (.goto 4, 3) := by decide +kernel
theorem dX9_forBy_47 : decode cX9_forBy 47 = .ok (.iconst 0, 1) := by decide +kernel
theorem dX9_forBy_48 : decode cX9_forBy 48 = .ok (.iadd, 1) := by decide +kernel
theorem dX9_forBy_49 : decode cX9_forBy 49 = .ok (.istore_n 3, 1) := by decide +kernel
theorem dX9_forBy_50 : decode cX9_forBy 50 = .ok (.iinc 4 1, 3) := by decide +kernel
theorem dX9_forBy_53 : decode cX9_forBy 53 = .ok (.goto (-48), 3) := by decide +kernel
theorem dX9_forBy_56 : decode cX9_forBy 56 = .ok (.iload_n 3, 1) := by decide +kernel
theorem dX9_forBy_57 : decode cX9_forBy 57 = .ok (.ireturn, 1) := by decide +kernel
theorem dX9_sayNow_0 : decode cX9_sayNow 0 = .ok (.aload_n 0, 1) := by decide +kernel
theorem dX9_sayNow_1 : decode cX9_sayNow 1 = .ok (.invokevirtual 176, 3) := by decide +kernel
theorem dX9_sayNow_4 : decode cX9_sayNow 4 = .ok (.istore 4, 2) := by decide +kernel
theorem dX9_sayNow_6 : decode cX9_sayNow 6 = .ok (.aload_n 0, 1) := by decide +kernel
theorem dX9_sayNow_7 : decode cX9_sayNow 7 = .ok (.iload 4, 2) := by decide +kernel
theorem dX9_sayNow_9 : decode cX9_sayNow 9 = .ok (.iload_n 2, 1) := by decide +kernel
theorem dX9_sayNow_10 : decode cX9_sayNow 10 = .ok (.invokevirtual 182, 3) := by decide +kernel
theorem dX9_sayNow_13 : decode cX9_sayNow 13 = .ok (.istore 5, 2) := by decide +kernel
theorem dX9_sayNow_15 : decode cX9_sayNow 15 = .ok (.iload 5, 2) := by decide +kernel
theorem dX9_sayNow_17 : decode cX9_sayNow 17 = .ok (.ifCond .eq 12, 3) := by decide +kernel
theorem dX9_sayNow_20 : decode cX9_sayNow 20 = .ok (.iload 4, 2) := by decide +kernel
theorem dX9_sayNow_22 : decode cX9_sayNow 22 = .ok (.iload_n 1, 1) := by decide +kernel
theorem dX9_sayNow_23 : decode cX9_sayNow 23 = .ok (.invokestatic 130, 3) := by decide +kernel
theorem dX9_sayNow_26 : decode cX9_sayNow 26 = .ok (.ifCond .ne 13, 3) := by decide +kernel
theorem dX9_sayNow_29 : decode cX9_sayNow 29 = .ok (.iload_n 3, 1) := by decide +kernel
theorem dX9_sayNow_30 : decode cX9_sayNow 30 = .ok (.ifCond .ne 7, 3) := by decide +kernel
theorem dX9_sayNow_33 : decode cX9_sayNow 33 = .ok (.iconst 0, 1) := by decide +kernel
theorem dX9_sayNow_34 : decode cX9_sayNow 34 = .ok (.goto 4, 3) := by decide +kernel
theorem dX9_sayNow_37 : decode cX9_sayNow 37 = .ok (.iconst 1, 1) := by decide +kernel
theorem dX9_sayNow_38 : decode cX9_sayNow 38 = .ok (.ireturn, 1) := by decide +kernel
theorem dX9_sayNow_39 : decode cX9_sayNow 39 = .ok (.iload 4, 2) := by decide +kernel
theorem dX9_sayNow_41 : decode cX9_sayNow 41 = .ok (.invokestatic 179, 3) := by decide +kernel
theorem dX9_sayNow_44 : decode cX9_sayNow 44 = .ok (.istore 6, 2) := by decide +kernel
theorem dX9_sayNow_46 : decode cX9_sayNow 46 = .ok (.aload_n 0, 1) := by decide +kernel
theorem dX9_sayNow_47 : decode cX9_sayNow 47 = .ok (.iconst 1, 1) := by decide +kernel
theorem dX9_sayNow_48 : decode cX9_sayNow 48 = .ok (.iload_n 1, 1) := by decide +kernel
theorem dX9_sayNow_49 : decode cX9_sayNow 49 = .ok (.ishl, 1) := by decide +kernel
theorem dX9_sayNow_50 : decode cX9_sayNow 50 = .ok (.iload_n 2, 1) := by decide +kernel
theorem dX9_sayNow_51 : decode cX9_sayNow 51 = .ok (.invokevirtual 182, 3) := by decide +kernel
theorem dX9_sayNow_54 : decode cX9_sayNow 54 = .ok (.istore 7, 2) := by decide +kernel
theorem dX9_sayNow_56 : decode cX9_sayNow 56 = .ok (.iconst 0, 1) := by decide +kernel
theorem dX9_sayNow_57 : decode cX9_sayNow 57 = .ok (.istore 8, 2) := by decide +kernel
theorem dX9_sayNow_59 : decode cX9_sayNow 59 = .ok (.iconst 0, 1) := by decide +kernel
theorem dX9_sayNow_60 : decode cX9_sayNow 60 = .ok (.istore 9, 2) := by decide +kernel
theorem dX9_sayNow_62 : decode cX9_sayNow 62 = .ok (.iload 9, 2) := by decide +kernel
theorem dX9_sayNow_64 : decode cX9_sayNow 64 = .ok (.iconst 1, 1) := by decide +kernel
theorem dX9_sayNow_65 : decode cX9_sayNow 65 = .ok (.aload_n 0, 1) := by decide +kernel
theorem dX9_sayNow_66 : decode cX9_sayNow 66 = .ok (.getfield 112, 3) := by decide +kernel
theorem dX9_sayNow_69 : decode cX9_sayNow 69 = .ok (.ishl, 1) := by decide +kernel
theorem dX9_sayNow_70 : decode cX9_sayNow 70 = .ok (.if_icmp .ge 122, 3) := by decide +kernel
theorem dX9_sayNow_73 : decode cX9_sayNow 73 = .ok (.iload 9, 2) := by decide +kernel
theorem dX9_sayNow_75 : decode cX9_sayNow 75 = .ok (.iload 4, 2) := by decide +kernel
theorem dX9_sayNow_77 : decode cX9_sayNow 77 = .ok (.iconst (-1), 1) := by decide +kernel
theorem dX9_sayNow_78 : decode cX9_sayNow 78 = .ok (.ixor, 1) := by decide +kernel
theorem dX9_sayNow_79 : decode cX9_sayNow 79 = .ok (.iand, 1) := by decide +kernel
theorem dX9_sayNow_80 : decode cX9_sayNow 80 = .ok (.ifCond .ne 16, 3) := by decide +kernel
theorem dX9_sayNow_83 : decode cX9_sayNow 83 = .ok (.iload 9, 2) := by decide +kernel
theorem dX9_sayNow_85 : decode cX9_sayNow 85 = .ok (.iload_n 1, 1) := by decide +kernel
theorem dX9_sayNow_86 : decode cX9_sayNow 86 = .ok (.invokestatic 130, 3) := by decide +kernel
theorem dX9_sayNow_89 : decode cX9_sayNow 89 = .ok (.ifCond .ne 7, 3) := by decide +kernel
theorem dX9_sayNow_92 : decode cX9_sayNow 92 = .ok (.iconst 1, 1) := by decide +kernel
theorem dX9_sayNow_93 : decode cX9_sayNow 93 = .ok (.goto 4, 3) := by decide +kernel
theorem dX9_sayNow_96 : decode cX9_sayNow 96 = .ok (.iconst 0, 1) := by decide +kernel
theorem dX9_sayNow_97 : decode cX9_sayNow 97 = .ok (.istore 10, 2) := by decide +kernel
theorem dX9_sayNow_99 : decode cX9_sayNow 99 = .ok (.iload 10, 2) := by decide +kernel
theorem dX9_sayNow_101 : decode cX9_sayNow 101 = .ok (.ifCond .eq 13, 3) := by decide +kernel
theorem dX9_sayNow_104 : decode cX9_sayNow 104 = .ok (.aload_n 0, 1) := by decide +kernel
theorem dX9_sayNow_105 : decode cX9_sayNow 105 = .ok (.iload 9, 2) := by decide +kernel
theorem dX9_sayNow_107 : decode cX9_sayNow 107 = .ok (.iload_n 2, 1) := by decide +kernel
theorem dX9_sayNow_108 : decode cX9_sayNow 108 = .ok (.invokevirtual 182, 3) := by decide +kernel
theorem dX9_sayNow_111 : decode cX9_sayNow 111 = .ok (.goto 4, 3) := by decide +kernel
theorem dX9_sayNow_114 : decode cX9_sayNow 114 = .ok (.iconst 0, 1) := by decide +kernel
theorem dX9_sayNow_115 : decode cX9_sayNow 115 = .ok (.istore 11, 2) := by decide +kernel
theorem dX9_sayNow_117 : decode cX9_sayNow 117 = .ok (.iload 10, 2) := by decide +kernel
theorem dX9_sayNow_119 : decode cX9_sayNow 119 = .ok (.ifCond .eq 28, 3) := by decide +kernel
theorem dX9_sayNow_122 : decode cX9_sayNow 122 = .ok (.iconst 2, 1) := by decide +kernel
theorem dX9_sayNow_123 : decode cX9_sayNow 123 = .ok (.iload 11, 2) := by decide +kernel
theorem dX9_sayNow_125 : decode cX9_sayNow 125 = .ok (.imul, 1) := by decide +kernel
theorem dX9_sayNow_126 : decode cX9_sayNow 126 = .ok (.iload 5, 2) := by decide +kernel
theorem dX9_sayNow_128 : decode cX9_sayNow 128 = .ok (.if_icmp .gt 19, 3) := by decide +kernel
theorem dX9_sayNow_131 : decode cX9_sayNow 131 = .ok (.iconst 2, 1) := by decide +kernel
theorem dX9_sayNow_132 : decode cX9_sayNow 132 = .ok (.iload 11, 2) := by decide +kernel
theorem dX9_sayNow_134 : decode cX9_sayNow 134 = .ok (.iload 7, 2) := by decide +kernel
theorem dX9_sayNow_136 : decode cX9_sayNow 136 = .ok (.iadd, 1) := by decide +kernel
theorem dX9_sayNow_137 : decode cX9_sayNow 137 = .ok (.imul, 1) := by decide +kernel
theorem dX9_sayNow_138 : decode cX9_sayNow 138 = .ok (.iload 5, 2) := by decide +kernel
theorem dX9_sayNow_140 : decode cX9_sayNow 140 = .ok (.if_icmp .le 7, 3) := by decide +kernel
theorem dX9_sayNow_143 : decode cX9_sayNow 143 = .ok (.iconst 1, 1) := by decide +kernel
theorem dX9_sayNow_144 : decode cX9_sayNow 144 = .ok (.goto 4, 3) := by decide +kernel
theorem dX9_sayNow_147 : decode cX9_sayNow 147 = .ok (.iconst 0, 1) := by decide +kernel
theorem dX9_sayNow_148 : decode cX9_sayNow 148 = .ok (.istore 12, 2) := by decide +kernel
theorem dX9_sayNow_150 : decode cX9_sayNow 150 = .ok (.iload 8, 2) := by decide +kernel
theorem dX9_sayNow_152 : decode cX9_sayNow 152 = .ok (.iload 12, 2) := by decide +kernel
theorem dX9_sayNow_154 : decode cX9_sayNow 154 = .ok (.ifCond .eq 28, 3) := by decide +kernel
theorem dX9_sayNow_157 : decode cX9_sayNow 157 = .ok (.iload 9, 2) := by decide +kernel
theorem dX9_sayNow_159 : decode cX9_sayNow 159 = .ok (.invokestatic 179, 3) := by decide +kernel
theorem dX9_sayNow_162 : decode cX9_sayNow 162 = .ok (.invokestatic 185, 3) := by decide +kernel
theorem dX9_sayNow_165 : decode cX9_sayNow 165 = .ok (.iload 6, 2) := by decide +kernel
theorem dX9_sayNow_167 : decode cX9_sayNow 167 = .ok (.iconst 1, 1) := by decide +kernel
theorem dX9_sayNow_168 : decode cX9_sayNow 168 = .ok (.isub, 1) := by decide +kernel
theorem dX9_sayNow_169 : decode cX9_sayNow 169 = .ok (.iload 9, 2) := by decide +kernel
theorem dX9_sayNow_171 : decode cX9_sayNow 171 = .ok (.invokestatic 179, 3) := by decide +kernel
theorem dX9_sayNow_174 : decode cX9_sayNow 174 = .ok (.isub, 1) := by decide +kernel
theorem dX9_sayNow_175 : decode cX9_sayNow 175 = .ok (.invokestatic 185, 3) := by decide +kernel
theorem dX9_sayNow_178 : decode cX9_sayNow 178 = .ok (.imul, 1) := by decide +kernel
theorem dX9_sayNow_179 : decode cX9_sayNow 179 = .ok (.goto 4, 3) := by decide +kernel
theorem dX9_sayNow_182 : decode cX9_sayNow 182 = .ok (.iconst 0, 1) := by decide +kernel
theorem dX9_sayNow_183 : decode cX9_sayNow 183 = .ok (.iadd, 1) := by decide +kernel
theorem dX9_sayNow_184 : decode cX9_sayNow 184 = .ok (.istore 8, 2) := by decide +kernel
theorem dX9_sayNow_186 : decode cX9_sayNow 186 = .ok (.iinc 9 1, 3) := by decide +kernel
theorem dX9_sayNow_189 : decode cX9_sayNow 189 = .ok (.goto (-127), 3) := by decide +kernel
theorem dX9_sayNow_192 : decode cX9_sayNow 192 = .ok (.iload 8, 2) := by decide +kernel
theorem dX9_sayNow_194 : decode cX9_sayNow 194 = .ok (.iload 6, 2) := by decide +kernel
theorem dX9_sayNow_196 : decode cX9_sayNow 196 = .ok (.invokestatic 185, 3) := by decide +kernel
theorem dX9_sayNow_199 : decode cX9_sayNow 199 = .ok (.iload_n 3, 1) := by decide +kernel
theorem dX9_sayNow_200 : decode cX9_sayNow 200 = .ok (.invokestatic 188, 3) := by decide +kernel
theorem dX9_sayNow_203 : decode cX9_sayNow 203 = .ok (.ireturn, 1) := by decide +kernel
theorem dX9_say_0 : decode cX9_say 0 = .ok (.aload_n 0, 1) := by decide +kernel
theorem dX9_say_1 : decode cX9_say 1 = .ok (.iload_n 1, 1) := by decide +kernel
theorem dX9_say_2 : decode cX9_say 2 = .ok (.invokevirtual 152, 3) := by decide +kernel
theorem dX9_say_5 : decode cX9_say 5 = .ok (.ifCond .eq 11, 3) := by decide +kernel
theorem dX9_say_8 : decode cX9_say 8 = .ok (.aload_n 0, 1) := by decide +kernel
theorem dX9_say_9 : decode cX9_say 9 = .ok (.iload_n 2, 1) := by decide +kernel
theorem dX9_say_10 : decode cX9_say 10 = .ok (.invokevirtual 167, 3) := by decide +kernel
theorem dX9_say_13 : decode cX9_say 13 = .ok (.ifCond .ne 6, 3) := by decide +kernel
theorem dX9_say_16 : decode cX9_say 16 = .ok (.bipush (-101), 2) := by decide +kernel
theorem dX9_say_18 : decode cX9_say 18 = .ok (.ireturn, 1) := by decide +kernel
theorem dX9_say_19 : decode cX9_say 19 = .ok (.iload_n 3, 1) := by decide +kernel
theorem dX9_say_20 : decode cX9_say 20 = .ok (.iconst 0, 1) := by decide +kernel
theorem dX9_say_21 : decode cX9_say 21 = .ok (.iconst 1, 1) := by decide +kernel
theorem dX9_say_22 : decode cX9_say 22 = .ok (.invokestatic 79, 3) := by decide +kernel
theorem dX9_say_25 : decode cX9_say 25 = .ok (.ifCond .eq 13, 3) := by decide +kernel
theorem dX9_say_28 : decode cX9_say 28 = .ok (.aload_n 0, 1) := by decide +kernel
theorem dX9_say_29 : decode cX9_say 29 = .ok (.iload_n 1, 1) := by decide +kernel
theorem dX9_say_30 : decode cX9_say 30 = .ok (.iload_n 2, 1) := by decide +kernel
theorem dX9_say_31 : decode cX9_say 31 = .ok (.iload_n 3, 1) := by decide +kernel
theorem dX9_say_32 : decode cX9_say 32 = .ok (.invokevirtual 192, 3) := by decide +kernel
theorem dX9_say_35 : decode cX9_say 35 = .ok (.goto 5, 3) := by decide +kernel
theorem dX9_say_38 : decode cX9_say 38 = .ok (.bipush (-102), 2) := by decide +kernel
theorem dX9_say_40 : decode cX9_say 40 = .ok (.ireturn, 1) := by decide +kernel
theorem dX9_chanceNow_0 : decode cX9_chanceNow 0 = .ok (.aload_n 0, 1) := by decide +kernel
theorem dX9_chanceNow_1 : decode cX9_chanceNow 1 = .ok (.invokevirtual 176, 3) := by decide +kernel
theorem dX9_chanceNow_4 : decode cX9_chanceNow 4 = .ok (.istore 4, 2) := by decide +kernel
theorem dX9_chanceNow_6 : decode cX9_chanceNow 6 = .ok (.iconst 0, 1) := by decide +kernel
theorem dX9_chanceNow_7 : decode cX9_chanceNow 7 = .ok (.istore 5, 2) := by decide +kernel
theorem dX9_chanceNow_9 : decode cX9_chanceNow 9 = .ok (.iconst 1, 1) := by decide +kernel
theorem dX9_chanceNow_10 : decode cX9_chanceNow 10 = .ok (.istore 6, 2) := by decide +kernel
theorem dX9_chanceNow_12 : decode cX9_chanceNow 12 = .ok (.iconst 0, 1) := by decide +kernel
theorem dX9_chanceNow_13 : decode cX9_chanceNow 13 = .ok (.istore 7, 2) := by decide +kernel
theorem dX9_chanceNow_15 : decode cX9_chanceNow 15 = .ok (.iload 7, 2) := by decide +kernel
theorem dX9_chanceNow_17 : decode cX9_chanceNow 17 = .ok (.iload 4, 2) := by decide +kernel
theorem dX9_chanceNow_19 : decode cX9_chanceNow 19 = .ok (.invokestatic 179, 3) := by decide +kernel
theorem dX9_chanceNow_22 : decode cX9_chanceNow 22 = .ok (.if_icmp .ge 16, 3) := by decide +kernel
theorem dX9_chanceNow_25 : decode cX9_chanceNow 25 = .ok (.iload 6, 2) := by decide +kernel
theorem dX9_chanceNow_27 : decode cX9_chanceNow 27 = .ok (.bipush 10, 2) := by decide +kernel
theorem dX9_chanceNow_29 : decode cX9_chanceNow 29 = .ok (.imul, 1) := by decide +kernel
theorem dX9_chanceNow_30 : decode cX9_chanceNow 30 = .ok (.istore 6, 2) := by decide +kernel
theorem dX9_chanceNow_32 : decode cX9_chanceNow 32 = .ok (.iinc 7 1, 3) := by decide +kernel
theorem dX9_chanceNow_35 : decode cX9_chanceNow 35 = .ok (.goto (-20), 3) := by decide +kernel
theorem dX9_chanceNow_38 : decode cX9_chanceNow 38 = .ok (.iconst 0, 1) := by decide +kernel
theorem dX9_chanceNow_39 : decode cX9_chanceNow 39 = .ok (.istore 7, 2) := by decide +kernel
theorem dX9_chanceNow_41 : decode cX9_chanceNow 41 = .ok (.iload 7, 2) := by decide +kernel
theorem dX9_chanceNow_43 : decode cX9_chanceNow 43 = .ok (.iconst 1, 1) := by decide +kernel
theorem dX9_chanceNow_44 : decode cX9_chanceNow 44 = .ok (.aload_n 0, 1) := by decide +kernel
theorem dX9_chanceNow_45 : decode cX9_chanceNow 45 = .ok (.getfield 112, 3) := by decide +kernel
theorem dX9_chanceNow_48 : decode cX9_chanceNow 48 = .ok (.ishl, 1) := by decide +kernel
theorem dX9_chanceNow_49 : decode cX9_chanceNow 49 = .ok (.if_icmp .ge 122, 3) := by decide +kernel
theorem dX9_chanceNow_52 : decode cX9_chanceNow 52 = .ok (.iload 7, 2) := by decide +kernel
theorem dX9_chanceNow_54 : decode cX9_chanceNow 54 = .ok (.iload 4, 2) := by decide +kernel
theorem dX9_chanceNow_56 : decode cX9_chanceNow 56 = .ok (.iconst (-1), 1) := by decide +kernel
theorem dX9_chanceNow_57 : decode cX9_chanceNow 57 = .ok (.ixor, 1) := by decide +kernel
theorem dX9_chanceNow_58 : decode cX9_chanceNow 58 = .ok (.iand, 1) := by decide +kernel
theorem dX9_chanceNow_59 : decode cX9_chanceNow 59 = .ok (.ifCond .ne 106, 3) := by decide +kernel
theorem dX9_chanceNow_62 : decode cX9_chanceNow 62 = .ok (.iconst 0, 1) := by decide +kernel
theorem dX9_chanceNow_63 : decode cX9_chanceNow 63 = .ok (.istore 8, 2) := by decide +kernel
theorem dX9_chanceNow_65 : decode cX9_chanceNow 65 = .ok (.iconst 1, 1) := by decide +kernel
theorem dX9_chanceNow_66 : decode cX9_chanceNow 66 = .ok (.istore 9, 2) := by decide +kernel
theorem dX9_chanceNow_68 : decode cX9_chanceNow 68 = .ok (.iconst 0, 1) := by decide +kernel
theorem dX9_chanceNow_69 : decode cX9_chanceNow 69 = .ok (.istore 10, 2) := by decide +kernel
theorem dX9_chanceNow_71 : decode cX9_chanceNow 71 = .ok (.iload 10, 2) := by decide +kernel
theorem dX9_chanceNow_73 : decode cX9_chanceNow 73 = .ok (.aload_n 0, 1) := by decide +kernel
theorem dX9_chanceNow_74 : decode cX9_chanceNow 74 = .ok (.getfield 112, 3) := by decide +kernel
theorem dX9_chanceNow_77 : decode cX9_chanceNow 77 = .ok (.if_icmp .ge 72, 3) := by decide +kernel
theorem dX9_chanceNow_80 : decode cX9_chanceNow 80 = .ok (.iload 8, 2) := by decide +kernel
theorem dX9_chanceNow_82 : decode cX9_chanceNow 82 = .ok (.iload 7, 2) := by decide +kernel
theorem dX9_chanceNow_84 : decode cX9_chanceNow 84 = .ok (.iload 10, 2) := by decide +kernel
theorem dX9_chanceNow_86 : decode cX9_chanceNow 86 = .ok (.invokestatic 130, 3) := by decide +kernel
theorem dX9_chanceNow_89 : decode cX9_chanceNow 89 = .ok (.ifCond .eq 13, 3) := by decide +kernel
theorem dX9_chanceNow_92 : decode cX9_chanceNow 92 = .ok (.aload_n 0, 1) := by decide +kernel
theorem dX9_chanceNow_93 : decode cX9_chanceNow 93 = .ok (.iload 10, 2) := by decide +kernel
theorem dX9_chanceNow_95 : decode cX9_chanceNow 95 = .ok (.iload_n 1, 1) := by decide +kernel
theorem dX9_chanceNow_96 : decode cX9_chanceNow 96 = .ok (.invokevirtual 140, 3) := by decide +kernel
theorem dX9_chanceNow_99 : decode cX9_chanceNow 99 = .ok (.goto 4, 3) := by decide +kernel
theorem dX9_chanceNow_102 : decode cX9_chanceNow 102 = .ok (.iconst 0, 1) := by decide +kernel
theorem dX9_chanceNow_103 : decode cX9_chanceNow 103 = .ok (.iadd, 1) := by decide +kernel
theorem dX9_chanceNow_104 : decode cX9_chanceNow 104 = .ok (.istore 8, 2) := by decide +kernel
theorem dX9_chanceNow_106 : decode cX9_chanceNow 106 = .ok (.iload 9, 2) := by decide +kernel
theorem dX9_chanceNow_108 : decode cX9_chanceNow 108 = .ok (.iload 4, 2) := by decide +kernel
theorem dX9_chanceNow_110 : decode cX9_chanceNow 110 = .ok (.iload 10, 2) := by decide +kernel
theorem dX9_chanceNow_112 : decode cX9_chanceNow 112 = .ok (.invokestatic 130, 3) := by decide +kernel
theorem dX9_chanceNow_115 : decode cX9_chanceNow 115 = .ok (.ifCond .ne 7, 3) := by decide +kernel
theorem dX9_chanceNow_118 : decode cX9_chanceNow 118 = .ok (.iconst 1, 1) := by decide +kernel
theorem dX9_chanceNow_119 : decode cX9_chanceNow 119 = .ok (.goto 21, 3) := by decide +kernel
theorem dX9_chanceNow_122 : decode cX9_chanceNow 122 = .ok (.iload 7, 2) := by decide +kernel
theorem dX9_chanceNow_124 : decode cX9_chanceNow 124 = .ok (.iload 10, 2) := by decide +kernel
theorem dX9_chanceNow_126 : decode cX9_chanceNow 126 = .ok (.invokestatic 130, 3) := by decide +kernel
theorem dX9_chanceNow_129 : decode cX9_chanceNow 129 = .ok (.ifCond .eq 10, 3) := by decide +kernel
theorem dX9_chanceNow_132 : decode cX9_chanceNow 132 = .ok (.bipush 10, 2) := by decide +kernel
theorem dX9_chanceNow_134 : decode cX9_chanceNow 134 = .ok (.iload_n 2, 1) := by decide +kernel
theorem dX9_chanceNow_135 : decode cX9_chanceNow 135 = .ok (.isub, 1) := by decide +kernel
theorem dX9_chanceNow_136 : decode cX9_chanceNow 136 = .ok (.goto 4, 3) := by decide +kernel
theorem dX9_chanceNow_139 : decode cX9_chanceNow 139 = .ok (.iload_n 2, 1) := by decide +kernel
theorem dX9_chanceNow_140 : decode cX9_chanceNow 140 = .ok (.imul, 1) := by decide +kernel
theorem dX9_chanceNow_141 : decode cX9_chanceNow 141 = .ok (.istore 9, 2) := by decide +kernel
theorem dX9_chanceNow_143 : decode cX9_chanceNow 143 = .ok (.iinc 10 1, 3) := by decide +kernel
theorem dX9_chanceNow_146 : decode cX9_chanceNow 146 = .ok (.goto (-75), 3) := by decide +kernel
theorem dX9_chanceNow_149 : decode cX9_chanceNow 149 = .ok (.iload 5, 2) := by decide +kernel
theorem dX9_chanceNow_151 : decode cX9_chanceNow 151 = .ok (.iload 8, 2) := by decide +kernel
theorem dX9_chanceNow_153 : decode cX9_chanceNow 153 = .ok (.ifCond .le 8, 3) := by decide +kernel
theorem dX9_chanceNow_156 : decode cX9_chanceNow 156 = .ok (.iload 9, 2) := by decide +kernel
theorem dX9_chanceNow_158 : decode cX9_chanceNow 158 = .ok (.goto 4, 3) := by decide +kernel
theorem dX9_chanceNow_161 : decode cX9_chanceNow 161 = .ok (.iconst 0, 1) := by decide +kernel
theorem dX9_chanceNow_162 : decode cX9_chanceNow 162 = .ok (.iadd, 1) := by decide +kernel
theorem dX9_chanceNow_163 : decode cX9_chanceNow 163 = .ok (.istore 5, 2) := by decide +kernel
theorem dX9_chanceNow_165 : decode cX9_chanceNow 165 = .ok (.iinc 7 1, 3) := by decide +kernel
theorem dX9_chanceNow_168 : decode cX9_chanceNow 168 = .ok (.goto (-127), 3) := by decide +kernel
theorem dX9_chanceNow_171 : decode cX9_chanceNow 171 = .ok (.iload 5, 2) := by decide +kernel
theorem dX9_chanceNow_173 : decode cX9_chanceNow 173 = .ok (.iload 6, 2) := by decide +kernel
theorem dX9_chanceNow_175 : decode cX9_chanceNow 175 = .ok (.iload_n 3, 1) := by decide +kernel
theorem dX9_chanceNow_176 : decode cX9_chanceNow 176 = .ok (.invokestatic 188, 3) := by decide +kernel
theorem dX9_chanceNow_179 : decode cX9_chanceNow 179 = .ok (.ireturn, 1) := by decide +kernel
theorem dX9_chance_0 : decode cX9_chance 0 = .ok (.aload_n 0, 1) := by decide +kernel
theorem dX9_chance_1 : decode cX9_chance 1 = .ok (.iload_n 1, 1) := by decide +kernel
theorem dX9_chance_2 : decode cX9_chance 2 = .ok (.invokevirtual 167, 3) := by decide +kernel
theorem dX9_chance_5 : decode cX9_chance 5 = .ok (.ifCond .ne 6, 3) := by decide +kernel
theorem dX9_chance_8 : decode cX9_chance 8 = .ok (.bipush (-101), 2) := by decide +kernel
theorem dX9_chance_10 : decode cX9_chance 10 = .ok (.ireturn, 1) := by decide +kernel
theorem dX9_chance_11 : decode cX9_chance 11 = .ok (.iload_n 2, 1) := by decide +kernel
theorem dX9_chance_12 : decode cX9_chance 12 = .ok (.iconst 0, 1) := by decide +kernel
theorem dX9_chance_13 : decode cX9_chance 13 = .ok (.bipush 10, 2) := by decide +kernel
theorem dX9_chance_15 : decode cX9_chance 15 = .ok (.invokestatic 79, 3) := by decide +kernel
theorem dX9_chance_18 : decode cX9_chance 18 = .ok (.ifCond .eq 22, 3) := by decide +kernel
theorem dX9_chance_21 : decode cX9_chance 21 = .ok (.iload_n 3, 1) := by decide +kernel
theorem dX9_chance_22 : decode cX9_chance 22 = .ok (.iconst 0, 1) := by decide +kernel
theorem dX9_chance_23 : decode cX9_chance 23 = .ok (.iconst 1, 1) := by decide +kernel
theorem dX9_chance_24 : decode cX9_chance 24 = .ok (.invokestatic 79, 3) := by decide +kernel
theorem dX9_chance_27 : decode cX9_chance 27 = .ok (.ifCond .eq 13, 3) := by decide +kernel
theorem dX9_chance_30 : decode cX9_chance 30 = .ok (.aload_n 0, 1) := by decide +kernel
theorem dX9_chance_31 : decode cX9_chance 31 = .ok (.iload_n 1, 1) := by decide +kernel
theorem dX9_chance_32 : decode cX9_chance 32 = .ok (.iload_n 2, 1) := by decide +kernel
theorem dX9_chance_33 : decode cX9_chance 33 = .ok (.iload_n 3, 1) := by decide +kernel
theorem dX9_chance_34 : decode cX9_chance 34 = .ok (.invokevirtual 195, 3) := by decide +kernel
theorem dX9_chance_37 : decode cX9_chance 37 = .ok (.goto 5, 3) := by decide +kernel
theorem dX9_chance_40 : decode cX9_chance 40 = .ok (.bipush (-102), 2) := by decide +kernel
theorem dX9_chance_42 : decode cX9_chance 42 = .ok (.ireturn, 1) := by decide +kernel
theorem dX9_cutsNow_0 : decode cX9_cutsNow 0 = .ok (.aload_n 0, 1) := by decide +kernel
theorem dX9_cutsNow_1 : decode cX9_cutsNow 1 = .ok (.getfield 115, 3) := by decide +kernel
theorem dX9_cutsNow_4 : decode cX9_cutsNow 4 = .ok (.istore 4, 2) := by decide +kernel
theorem dX9_cutsNow_6 : decode cX9_cutsNow 6 = .ok (.iconst (-1), 1) := by decide +kernel
theorem dX9_cutsNow_7 : decode cX9_cutsNow 7 = .ok (.istore 5, 2) := by decide +kernel
theorem dX9_cutsNow_9 : decode cX9_cutsNow 9 = .ok (.iconst 0, 1) := by decide +kernel
theorem dX9_cutsNow_10 : decode cX9_cutsNow 10 = .ok (.istore 6, 2) := by decide +kernel
theorem dX9_cutsNow_12 : decode cX9_cutsNow 12 = .ok (.iload 6, 2) := by decide +kernel
theorem dX9_cutsNow_14 : decode cX9_cutsNow 14 = .ok (.iconst 1, 1) := by decide +kernel
theorem dX9_cutsNow_15 : decode cX9_cutsNow 15 = .ok (.aload_n 0, 1) := by decide +kernel
theorem dX9_cutsNow_16 : decode cX9_cutsNow 16 = .ok (.getfield 112, 3) := by decide +kernel
theorem dX9_cutsNow_19 : decode cX9_cutsNow 19 = .ok (.ishl, 1) := by decide +kernel
theorem dX9_cutsNow_20 : decode cX9_cutsNow 20 = .ok (.if_icmp .ge 63, 3) := by decide +kernel
theorem dX9_cutsNow_23 : decode cX9_cutsNow 23 = .ok (.iload 6, 2) := by decide +kernel
theorem dX9_cutsNow_25 : decode cX9_cutsNow 25 = .ok (.iload 4, 2) := by decide +kernel
theorem dX9_cutsNow_27 : decode cX9_cutsNow 27 = .ok (.iand, 1) := by decide +kernel
theorem dX9_cutsNow_28 : decode cX9_cutsNow 28 = .ok (.ifCond .ne 49, 3) := by decide +kernel
theorem dX9_cutsNow_31 : decode cX9_cutsNow 31 = .ok (.iload 5, 2) := by decide +kernel
theorem dX9_cutsNow_33 : decode cX9_cutsNow 33 = .ok (.iconst (-1), 1) := by decide +kernel
theorem dX9_cutsNow_34 : decode cX9_cutsNow 34 = .ok (.if_icmp .eq 16, 3) := by decide +kernel
theorem dX9_cutsNow_37 : decode cX9_cutsNow 37 = .ok (.iload 6, 2) := by decide +kernel
theorem dX9_cutsNow_39 : decode cX9_cutsNow 39 = .ok (.invokestatic 179, 3) := by decide +kernel
theorem dX9_cutsNow_42 : decode cX9_cutsNow 42 = .ok (.iload 5, 2) := by decide +kernel
theorem dX9_cutsNow_44 : decode cX9_cutsNow 44 = .ok (.invokestatic 179, 3) := by decide +kernel
theorem dX9_cutsNow_47 : decode cX9_cutsNow 47 = .ok (.if_icmp .ge 30, 3) := by decide +kernel
theorem dX9_cutsNow_50 : decode cX9_cutsNow 50 = .ok (.aload_n 0, 1) := by decide +kernel
theorem dX9_cutsNow_51 : decode cX9_cutsNow 51 = .ok (.iload 4, 2) := by decide +kernel
theorem dX9_cutsNow_53 : decode cX9_cutsNow 53 = .ok (.iload 6, 2) := by decide +kernel
theorem dX9_cutsNow_55 : decode cX9_cutsNow 55 = .ok (.ior, 1) := by decide +kernel
theorem dX9_cutsNow_56 : decode cX9_cutsNow 56 = .ok (.putfield 115, 3) := by decide +kernel
theorem dX9_cutsNow_59 : decode cX9_cutsNow 59 = .ok (.aload_n 0, 1) := by decide +kernel
theorem dX9_cutsNow_60 : decode cX9_cutsNow 60 = .ok (.iload_n 1, 1) := by decide +kernel
theorem dX9_cutsNow_61 : decode cX9_cutsNow 61 = .ok (.invokevirtual 161, 3) := by decide +kernel
theorem dX9_cutsNow_64 : decode cX9_cutsNow 64 = .ok (.iload_n 2, 1) := by decide +kernel
theorem dX9_cutsNow_65 : decode cX9_cutsNow 65 = .ok (.if_icmp .ne 8, 3) := by decide +kernel
theorem dX9_cutsNow_68 : decode cX9_cutsNow 68 = .ok (.iload 6, 2) := by decide +kernel
theorem dX9_cutsNow_70 : decode cX9_cutsNow 70 = .ok (.goto 5, 3) := by decide +kernel
theorem dX9_cutsNow_73 : decode cX9_cutsNow 73 = .ok (.iload 5, 2) := by decide +kernel
theorem dX9_cutsNow_75 : decode cX9_cutsNow 75 = .ok (.istore 5, 2) := by decide +kernel
theorem dX9_cutsNow_77 : decode cX9_cutsNow 77 = .ok (.iinc 6 1, 3) := by decide +kernel
theorem dX9_cutsNow_80 : decode cX9_cutsNow 80 = .ok (.goto (-68), 3) := by decide +kernel
theorem dX9_cutsNow_83 : decode cX9_cutsNow 83 = .ok (.aload_n 0, 1) := by decide +kernel
theorem dX9_cutsNow_84 : decode cX9_cutsNow 84 = .ok (.iload 4, 2) := by decide +kernel
theorem dX9_cutsNow_86 : decode cX9_cutsNow 86 = .ok (.putfield 115, 3) := by decide +kernel
theorem dX9_cutsNow_89 : decode cX9_cutsNow 89 = .ok (.iload 5, 2) := by decide +kernel
theorem dX9_cutsNow_91 : decode cX9_cutsNow 91 = .ok (.iconst (-1), 1) := by decide +kernel
theorem dX9_cutsNow_92 : decode cX9_cutsNow 92 = .ok (.if_icmp .eq 8, 3) := by decide +kernel
theorem dX9_cutsNow_95 : decode cX9_cutsNow 95 = .ok (.iload_n 3, 1) := by decide +kernel
theorem dX9_cutsNow_96 : decode cX9_cutsNow 96 = .ok (.iconst 1, 1) := by decide +kernel
theorem dX9_cutsNow_97 : decode cX9_cutsNow 97 = .ok (.if_icmp .ne 8, 3) := by decide +kernel
theorem dX9_cutsNow_100 : decode cX9_cutsNow 100 = .ok (.iload 5, 2) := by decide +kernel
theorem dX9_cutsNow_102 : decode cX9_cutsNow 102 = .ok (.goto 8, 3) := by decide +kernel
theorem dX9_cutsNow_105 : decode cX9_cutsNow 105 = .ok (.iload 5, 2) := by decide +kernel
theorem dX9_cutsNow_107 : decode cX9_cutsNow 107 = .ok (.invokestatic 179, 3) := by decide +kernel
theorem dX9_cutsNow_110 : decode cX9_cutsNow 110 = .ok (.ireturn, 1) := by decide +kernel
theorem dX9_cuts_0 : decode cX9_cuts 0 = .ok (.aload_n 0, 1) := by decide +kernel
theorem dX9_cuts_1 : decode cX9_cuts 1 = .ok (.iload_n 1, 1) := by decide +kernel
theorem dX9_cuts_2 : decode cX9_cuts 2 = .ok (.invokevirtual 167, 3) := by decide +kernel
theorem dX9_cuts_5 : decode cX9_cuts 5 = .ok (.ifCond .ne 6, 3) := by decide +kernel
theorem dX9_cuts_8 : decode cX9_cuts 8 = .ok (.bipush (-101), 2) := by decide +kernel
theorem dX9_cuts_10 : decode cX9_cuts 10 = .ok (.ireturn, 1) := by decide +kernel
theorem dX9_cuts_11 : decode cX9_cuts 11 = .ok (.iload_n 2, 1) := by decide +kernel
theorem dX9_cuts_12 : decode cX9_cuts 12 = .ok (.iconst (-1), 1) := by decide +kernel
theorem dX9_cuts_13 : decode cX9_cuts 13 = .ok (.iconst 1, 1) := by decide +kernel
theorem dX9_cuts_14 : decode cX9_cuts 14 = .ok (.invokestatic 79, 3) := by decide +kernel
theorem dX9_cuts_17 : decode cX9_cuts 17 = .ok (.ifCond .eq 22, 3) := by decide +kernel
theorem dX9_cuts_20 : decode cX9_cuts 20 = .ok (.iload_n 3, 1) := by decide +kernel
theorem dX9_cuts_21 : decode cX9_cuts 21 = .ok (.iconst 0, 1) := by decide +kernel
theorem dX9_cuts_22 : decode cX9_cuts 22 = .ok (.iconst 1, 1) := by decide +kernel
theorem dX9_cuts_23 : decode cX9_cuts 23 = .ok (.invokestatic 79, 3) := by decide +kernel
theorem dX9_cuts_26 : decode cX9_cuts 26 = .ok (.ifCond .eq 13, 3) := by decide +kernel
theorem dX9_cuts_29 : decode cX9_cuts 29 = .ok (.aload_n 0, 1) := by decide +kernel
theorem dX9_cuts_30 : decode cX9_cuts 30 = .ok (.iload_n 1, 1) := by decide +kernel
theorem dX9_cuts_31 : decode cX9_cuts 31 = .ok (.iload_n 2, 1) := by decide +kernel
theorem dX9_cuts_32 : decode cX9_cuts 32 = .ok (.iload_n 3, 1) := by decide +kernel
theorem dX9_cuts_33 : decode cX9_cuts 33 = .ok (.invokevirtual 198, 3) := by decide +kernel
theorem dX9_cuts_36 : decode cX9_cuts 36 = .ok (.goto 5, 3) := by decide +kernel
theorem dX9_cuts_39 : decode cX9_cuts 39 = .ok (.bipush (-102), 2) := by decide +kernel
theorem dX9_cuts_41 : decode cX9_cuts 41 = .ok (.ireturn, 1) := by decide +kernel
theorem dX9_saveLeans_0 : decode cX9_saveLeans 0 = .ok (.iconst 0, 1) := by decide +kernel
theorem dX9_saveLeans_1 : decode cX9_saveLeans 1 = .ok (.istore_n 1, 1) := by decide +kernel
theorem dX9_saveLeans_2 : decode cX9_saveLeans 2 = .ok (.iload_n 1, 1) := by decide +kernel
theorem dX9_saveLeans_3 : decode cX9_saveLeans 3 = .ok (.bipush 24, 2) := by decide +kernel
theorem dX9_saveLeans_5 : decode cX9_saveLeans 5 = .ok (.if_icmp .ge 21, 3) := by decide +kernel
theorem dX9_saveLeans_8 : decode cX9_saveLeans 8 = .ok (.aload_n 0, 1) := by decide +kernel
theorem dX9_saveLeans_9 : decode cX9_saveLeans 9 = .ok (.getfield 41, 3) := by decide +kernel
theorem dX9_saveLeans_12 : decode cX9_saveLeans 12 = .ok (.iload_n 1, 1) := by decide +kernel
theorem dX9_saveLeans_13 : decode cX9_saveLeans 13 = .ok (.aload_n 0, 1) := by decide +kernel
theorem dX9_saveLeans_14 : decode cX9_saveLeans 14 = .ok (.getfield 16, 3) := by decide +kernel
theorem dX9_saveLeans_17 : decode cX9_saveLeans 17 = .ok (.iload_n 1, 1) := by decide +kernel
theorem dX9_saveLeans_18 : decode cX9_saveLeans 18 = .ok (.iaload, 1) := by decide +kernel
theorem dX9_saveLeans_19 : decode cX9_saveLeans 19 = .ok (.iastore, 1) := by decide +kernel
theorem dX9_saveLeans_20 : decode cX9_saveLeans 20 = .ok (.iinc 1 1, 3) := by decide +kernel
theorem dX9_saveLeans_23 : decode cX9_saveLeans 23 = .ok (.goto (-21), 3) := by decide +kernel
theorem dX9_saveLeans_26 : decode cX9_saveLeans 26 = .ok (.return_, 1) := by decide +kernel
theorem dX9_loadLeans_0 : decode cX9_loadLeans 0 = .ok (.iconst 0, 1) := by decide +kernel
theorem dX9_loadLeans_1 : decode cX9_loadLeans 1 = .ok (.istore_n 1, 1) := by decide +kernel
theorem dX9_loadLeans_2 : decode cX9_loadLeans 2 = .ok (.iload_n 1, 1) := by decide +kernel
theorem dX9_loadLeans_3 : decode cX9_loadLeans 3 = .ok (.bipush 24, 2) := by decide +kernel
theorem dX9_loadLeans_5 : decode cX9_loadLeans 5 = .ok (.if_icmp .ge 21, 3) := by decide +kernel
theorem dX9_loadLeans_8 : decode cX9_loadLeans 8 = .ok (.aload_n 0, 1) := by decide +kernel
theorem dX9_loadLeans_9 : decode cX9_loadLeans 9 = .ok (.getfield 16, 3) := by decide +kernel
theorem dX9_loadLeans_12 : decode cX9_loadLeans 12 = .ok (.iload_n 1, 1) := by decide +kernel
theorem dX9_loadLeans_13 : decode cX9_loadLeans 13 = .ok (.aload_n 0, 1) := by decide +kernel
theorem dX9_loadLeans_14 : decode cX9_loadLeans 14 = .ok (.getfield 41, 3) := by decide +kernel
theorem dX9_loadLeans_17 : decode cX9_loadLeans 17 = .ok (.iload_n 1, 1) := by decide +kernel
theorem dX9_loadLeans_18 : decode cX9_loadLeans 18 = .ok (.iaload, 1) := by decide +kernel
theorem dX9_loadLeans_19 : decode cX9_loadLeans 19 = .ok (.iastore, 1) := by decide +kernel
theorem dX9_loadLeans_20 : decode cX9_loadLeans 20 = .ok (.iinc 1 1, 3) := by decide +kernel
theorem dX9_loadLeans_23 : decode cX9_loadLeans 23 = .ok (.goto (-21), 3) := by decide +kernel
theorem dX9_loadLeans_26 : decode cX9_loadLeans 26 = .ok (.return_, 1) := by decide +kernel
theorem dX9_otherwise_0 : decode cX9_otherwise 0 = .ok (.iconst 0, 1) := by decide +kernel
theorem dX9_otherwise_1 : decode cX9_otherwise 1 = .ok (.istore_n 2, 1) := by decide +kernel
theorem dX9_otherwise_2 : decode cX9_otherwise 2 = .ok (.iconst 0, 1) := by decide +kernel
theorem dX9_otherwise_3 : decode cX9_otherwise 3 = .ok (.istore_n 3, 1) := by decide +kernel
theorem dX9_otherwise_4 : decode cX9_otherwise 4 = .ok (.iload_n 3, 1) := by decide +kernel
theorem dX9_otherwise_5 : decode cX9_otherwise 5 = .ok (.aload_n 0, 1) := by decide +kernel
theorem dX9_otherwise_6 : decode cX9_otherwise 6 = .ok (.getfield 112, 3) := by decide +kernel
theorem dX9_otherwise_9 : decode cX9_otherwise 9 = .ok (.if_icmp .ge 42, 3) := by decide +kernel
theorem dX9_otherwise_12 : decode cX9_otherwise 12 = .ok (.iload_n 2, 1) := by decide +kernel
theorem dX9_otherwise_13 : decode cX9_otherwise 13 = .ok (.aload_n 0, 1) := by decide +kernel
theorem dX9_otherwise_14 : decode cX9_otherwise 14 = .ok (.getfield 16, 3) := by decide +kernel
theorem dX9_otherwise_17 : decode cX9_otherwise 17 = .ok (.iconst 3, 1) := by decide +kernel
theorem dX9_otherwise_18 : decode cX9_otherwise 18 = .ok (.iload_n 3, 1) := by decide +kernel
theorem dX9_otherwise_19 : decode cX9_otherwise 19 = .ok (.imul, 1) := by decide +kernel
theorem dX9_otherwise_20 : decode cX9_otherwise 20 = .ok (.iload_n 1, 1) := by decide +kernel
theorem dX9_otherwise_21 : decode cX9_otherwise 21 = .ok (.iadd, 1) := by decide +kernel
theorem dX9_otherwise_22 : decode cX9_otherwise 22 = .ok (.iaload, 1) := by decide +kernel
theorem dX9_otherwise_23 : decode cX9_otherwise 23 = .ok (.aload_n 0, 1) := by decide +kernel
theorem dX9_otherwise_24 : decode cX9_otherwise 24 = .ok (.getfield 41, 3) := by decide +kernel
theorem dX9_otherwise_27 : decode cX9_otherwise 27 = .ok (.iconst 3, 1) := by decide +kernel
theorem dX9_otherwise_28 : decode cX9_otherwise 28 = .ok (.iload_n 3, 1) := by decide +kernel
theorem dX9_otherwise_29 : decode cX9_otherwise 29 = .ok (.imul, 1) := by decide +kernel
theorem dX9_otherwise_30 : decode cX9_otherwise 30 = .ok (.iload_n 1, 1) := by decide +kernel
theorem dX9_otherwise_31 : decode cX9_otherwise 31 = .ok (.iadd, 1) := by decide +kernel
theorem dX9_otherwise_32 : decode cX9_otherwise 32 = .ok (.iaload, 1) := by decide +kernel
theorem dX9_otherwise_33 : decode cX9_otherwise 33 = .ok (.if_icmp .ne 7, 3) := by decide +kernel
theorem dX9_otherwise_36 : decode cX9_otherwise 36 = .ok (.iconst 0, 1) := by decide +kernel
theorem dX9_otherwise_37 : decode cX9_otherwise 37 = .ok (.goto 6, 3) := by decide +kernel
theorem dX9_otherwise_40 : decode cX9_otherwise 40 = .ok (.iconst 1, 1) := by decide +kernel
theorem dX9_otherwise_41 : decode cX9_otherwise 41 = .ok (.iload_n 3, 1) := by decide +kernel
theorem dX9_otherwise_42 : decode cX9_otherwise 42 = .ok (.ishl, 1) := by decide +kernel
theorem dX9_otherwise_43 : decode cX9_otherwise 43 = .ok (.ior, 1) := by decide +kernel
theorem dX9_otherwise_44 : decode cX9_otherwise 44 = .ok (.istore_n 2, 1) := by decide +kernel
theorem dX9_otherwise_45 : decode cX9_otherwise 45 = .ok (.iinc 3 1, 3) := by decide +kernel
theorem dX9_otherwise_48 : decode cX9_otherwise 48 = .ok (.goto (-44), 3) := by decide +kernel
theorem dX9_otherwise_51 : decode cX9_otherwise 51 = .ok (.iload_n 2, 1) := by decide +kernel
theorem dX9_otherwise_52 : decode cX9_otherwise 52 = .ok (.ireturn, 1) := by decide +kernel
theorem dX9_turnsNow_0 : decode cX9_turnsNow 0 = .ok (.aload_n 0, 1) := by decide +kernel
theorem dX9_turnsNow_1 : decode cX9_turnsNow 1 = .ok (.invokevirtual 201, 3) := by decide +kernel
theorem dX9_turnsNow_4 : decode cX9_turnsNow 4 = .ok (.iconst 1, 1) := by decide +kernel
theorem dX9_turnsNow_5 : decode cX9_turnsNow 5 = .ok (.istore 4, 2) := by decide +kernel
theorem dX9_turnsNow_7 : decode cX9_turnsNow 7 = .ok (.iconst 0, 1) := by decide +kernel
theorem dX9_turnsNow_8 : decode cX9_turnsNow 8 = .ok (.istore 5, 2) := by decide +kernel
theorem dX9_turnsNow_10 : decode cX9_turnsNow 10 = .ok (.iload 5, 2) := by decide +kernel
theorem dX9_turnsNow_12 : decode cX9_turnsNow 12 = .ok (.aload_n 0, 1) := by decide +kernel
theorem dX9_turnsNow_13 : decode cX9_turnsNow 13 = .ok (.getfield 112, 3) := by decide +kernel
theorem dX9_turnsNow_16 : decode cX9_turnsNow 16 = .ok (.if_icmp .ge 15, 3) := by decide +kernel
theorem dX9_turnsNow_19 : decode cX9_turnsNow 19 = .ok (.iload 4, 2) := by decide +kernel
theorem dX9_turnsNow_21 : decode cX9_turnsNow 21 = .ok (.iconst 3, 1) := by decide +kernel
theorem dX9_turnsNow_22 : decode cX9_turnsNow 22 = .ok (.imul, 1) := by decide +kernel
theorem dX9_turnsNow_23 : decode cX9_turnsNow 23 = .ok (.istore 4, 2) := by decide +kernel
theorem dX9_turnsNow_25 : decode cX9_turnsNow 25 = .ok (.iinc 5 1, 3) := by decide +kernel
theorem dX9_turnsNow_28 : decode cX9_turnsNow 28 = .ok (.goto (-18), 3) := by decide +kernel
theorem dX9_turnsNow_31 : decode cX9_turnsNow 31 = .ok (.iconst (-1), 1) := by decide +kernel
theorem dX9_turnsNow_32 : decode cX9_turnsNow 32 = .ok (.istore 5, 2) := by decide +kernel
theorem dX9_turnsNow_34 : decode cX9_turnsNow 34 = .ok (.iconst 0, 1) := by decide +kernel
theorem dX9_turnsNow_35 : decode cX9_turnsNow 35 = .ok (.istore 6, 2) := by decide +kernel
theorem dX9_turnsNow_37 : decode cX9_turnsNow 37 = .ok (.iload 6, 2) := by decide +kernel
theorem dX9_turnsNow_39 : decode cX9_turnsNow 39 = .ok (.iload 4, 2) := by decide +kernel
theorem dX9_turnsNow_41 : decode cX9_turnsNow 41 = .ok (.if_icmp .ge 130, 3) := by decide +kernel
theorem dX9_turnsNow_44 : decode cX9_turnsNow 44 = .ok (.iload 6, 2) := by decide +kernel
theorem dX9_turnsNow_46 : decode cX9_turnsNow 46 = .ok (.istore 7, 2) := by decide +kernel
theorem dX9_turnsNow_48 : decode cX9_turnsNow 48 = .ok (.iconst 0, 1) := by decide +kernel
theorem dX9_turnsNow_49 : decode cX9_turnsNow 49 = .ok (.istore 8, 2) := by decide +kernel
theorem dX9_turnsNow_51 : decode cX9_turnsNow 51 = .ok (.iload 8, 2) := by decide +kernel
theorem dX9_turnsNow_53 : decode cX9_turnsNow 53 = .ok (.aload_n 0, 1) := by decide +kernel
theorem dX9_turnsNow_54 : decode cX9_turnsNow 54 = .ok (.getfield 112, 3) := by decide +kernel
theorem dX9_turnsNow_57 : decode cX9_turnsNow 57 = .ok (.if_icmp .ge 32, 3) := by decide +kernel
theorem dX9_turnsNow_60 : decode cX9_turnsNow 60 = .ok (.aload_n 0, 1) := by decide +kernel
theorem dX9_turnsNow_61 : decode cX9_turnsNow 61 = .ok (.getfield 16, 3) := by decide +kernel
theorem dX9_turnsNow_64 : decode cX9_turnsNow 64 = .ok (.iconst 3, 1) := by decide +kernel
theorem dX9_turnsNow_65 : decode cX9_turnsNow 65 = .ok (.iload 8, 2) := by decide +kernel
theorem dX9_turnsNow_67 : decode cX9_turnsNow 67 = .ok (.imul, 1) := by decide +kernel
theorem dX9_turnsNow_68 : decode cX9_turnsNow 68 = .ok (.iload_n 1, 1) := by decide +kernel
theorem dX9_turnsNow_69 : decode cX9_turnsNow 69 = .ok (.iadd, 1) := by decide +kernel
theorem dX9_turnsNow_70 : decode cX9_turnsNow 70 = .ok (.iload 7, 2) := by decide +kernel
theorem dX9_turnsNow_72 : decode cX9_turnsNow 72 = .ok (.iconst 3, 1) := by decide +kernel
theorem dX9_turnsNow_73 : decode cX9_turnsNow 73 = .ok (.irem, 1) := by decide +kernel
theorem dX9_turnsNow_74 : decode cX9_turnsNow 74 = .ok (.iconst 1, 1) := by decide +kernel
theorem dX9_turnsNow_75 : decode cX9_turnsNow 75 = .ok (.isub, 1) := by decide +kernel
theorem dX9_turnsNow_76 : decode cX9_turnsNow 76 = .ok (.iastore, 1) := by decide +kernel
theorem dX9_turnsNow_77 : decode cX9_turnsNow 77 = .ok (.iload 7, 2) := by decide +kernel
theorem dX9_turnsNow_79 : decode cX9_turnsNow 79 = .ok (.iconst 3, 1) := by decide +kernel
theorem dX9_turnsNow_80 : decode cX9_turnsNow 80 = .ok (.idiv, 1) := by decide +kernel
theorem dX9_turnsNow_81 : decode cX9_turnsNow 81 = .ok (.istore 7, 2) := by decide +kernel
theorem dX9_turnsNow_83 : decode cX9_turnsNow 83 = .ok (.iinc 8 1, 3) := by decide +kernel
theorem dX9_turnsNow_86 : decode cX9_turnsNow 86 = .ok (.goto (-35), 3) := by decide +kernel
theorem dX9_turnsNow_89 : decode cX9_turnsNow 89 = .ok (.aload_n 0, 1) := by decide +kernel
theorem dX9_turnsNow_90 : decode cX9_turnsNow 90 = .ok (.iload_n 1, 1) := by decide +kernel
theorem dX9_turnsNow_91 : decode cX9_turnsNow 91 = .ok (.invokevirtual 204, 3) := by decide +kernel
theorem dX9_turnsNow_94 : decode cX9_turnsNow 94 = .ok (.istore 8, 2) := by decide +kernel
theorem dX9_turnsNow_96 : decode cX9_turnsNow 96 = .ok (.iload 5, 2) := by decide +kernel
theorem dX9_turnsNow_98 : decode cX9_turnsNow 98 = .ok (.iconst (-1), 1) := by decide +kernel
theorem dX9_turnsNow_99 : decode cX9_turnsNow 99 = .ok (.if_icmp .eq 36, 3) := by decide +kernel
theorem dX9_turnsNow_102 : decode cX9_turnsNow 102 = .ok (.iload 8, 2) := by decide +kernel
theorem dX9_turnsNow_104 : decode cX9_turnsNow 104 = .ok (.invokestatic 179, 3) := by decide +kernel
theorem dX9_turnsNow_107 : decode cX9_turnsNow 107 = .ok (.iload 5, 2) := by decide +kernel
theorem dX9_turnsNow_109 : decode cX9_turnsNow 109 = .ok (.invokestatic 179, 3) := by decide +kernel
theorem dX9_turnsNow_112 : decode cX9_turnsNow 112 = .ok (.if_icmp .lt 23, 3) := by decide +kernel
theorem dX9_turnsNow_115 : decode cX9_turnsNow 115 = .ok (.iload 8, 2) := by decide +kernel
theorem dX9_turnsNow_117 : decode cX9_turnsNow 117 = .ok (.invokestatic 179, 3) := by decide +kernel
theorem dX9_turnsNow_120 : decode cX9_turnsNow 120 = .ok (.iload 5, 2) := by decide +kernel
theorem dX9_turnsNow_122 : decode cX9_turnsNow 122 = .ok (.invokestatic 179, 3) := by decide +kernel
theorem dX9_turnsNow_125 : decode cX9_turnsNow 125 = .ok (.if_icmp .ne 14, 3) := by decide +kernel
theorem dX9_turnsNow_128 : decode cX9_turnsNow 128 = .ok (.iload 8, 2) := by decide +kernel
theorem dX9_turnsNow_130 : decode cX9_turnsNow 130 = .ok (.iload 5, 2) := by decide +kernel
theorem dX9_turnsNow_132 : decode cX9_turnsNow 132 = .ok (.if_icmp .ge 7, 3) := by decide +kernel
theorem dX9_turnsNow_135 : decode cX9_turnsNow 135 = .ok (.iconst 1, 1) := by decide +kernel
theorem dX9_turnsNow_136 : decode cX9_turnsNow 136 = .ok (.goto 4, 3) := by decide +kernel
theorem dX9_turnsNow_139 : decode cX9_turnsNow 139 = .ok (.iconst 0, 1) := by decide +kernel
theorem dX9_turnsNow_140 : decode cX9_turnsNow 140 = .ok (.istore 9, 2) := by decide +kernel
theorem dX9_turnsNow_142 : decode cX9_turnsNow 142 = .ok (.iload 9, 2) := by decide +kernel
theorem dX9_turnsNow_144 : decode cX9_turnsNow 144 = .ok (.ifCond .eq 17, 3) := by decide +kernel
theorem dX9_turnsNow_147 : decode cX9_turnsNow 147 = .ok (.aload_n 0, 1) := by decide +kernel
theorem dX9_turnsNow_148 : decode cX9_turnsNow 148 = .ok (.iload_n 1, 1) := by decide +kernel
theorem dX9_turnsNow_149 : decode cX9_turnsNow 149 = .ok (.invokevirtual 161, 3) := by decide +kernel
theorem dX9_turnsNow_152 : decode cX9_turnsNow 152 = .ok (.iload_n 2, 1) := by decide +kernel
theorem dX9_turnsNow_153 : decode cX9_turnsNow 153 = .ok (.if_icmp .ne 8, 3) := by decide +kernel
theorem dX9_turnsNow_156 : decode cX9_turnsNow 156 = .ok (.iload 8, 2) := by decide +kernel
theorem dX9_turnsNow_158 : decode cX9_turnsNow 158 = .ok (.goto 5, 3) := by decide +kernel
theorem dX9_turnsNow_161 : decode cX9_turnsNow 161 = .ok (.iload 5, 2) := by decide +kernel
theorem dX9_turnsNow_163 : decode cX9_turnsNow 163 = .ok (.istore 5, 2) := by decide +kernel
theorem dX9_turnsNow_165 : decode cX9_turnsNow 165 = .ok (.iinc 6 1, 3) := by decide +kernel
theorem dX9_turnsNow_168 : decode cX9_turnsNow 168 = .ok (.goto (-131), 3) := by decide +kernel
theorem dX9_turnsNow_171 : decode cX9_turnsNow 171 = .ok (.aload_n 0, 1) := by decide +kernel
theorem dX9_turnsNow_172 : decode cX9_turnsNow 172 = .ok (.invokevirtual 207, 3) := by decide +kernel
theorem dX9_turnsNow_175 : decode cX9_turnsNow 175 = .ok (.iload 5, 2) := by decide +kernel
theorem dX9_turnsNow_177 : decode cX9_turnsNow 177 = .ok (.iconst (-1), 1) := by decide +kernel
theorem dX9_turnsNow_178 : decode cX9_turnsNow 178 = .ok (.if_icmp .eq 8, 3) := by decide +kernel
theorem dX9_turnsNow_181 : decode cX9_turnsNow 181 = .ok (.iload_n 3, 1) := by decide +kernel
theorem dX9_turnsNow_182 : decode cX9_turnsNow 182 = .ok (.iconst 1, 1) := by decide +kernel
theorem dX9_turnsNow_183 : decode cX9_turnsNow 183 = .ok (.if_icmp .ne 8, 3) := by decide +kernel
theorem dX9_turnsNow_186 : decode cX9_turnsNow 186 = .ok (.iload 5, 2) := by decide +kernel
theorem dX9_turnsNow_188 : decode cX9_turnsNow 188 = .ok (.goto 8, 3) := by decide +kernel
theorem dX9_turnsNow_191 : decode cX9_turnsNow 191 = .ok (.iload 5, 2) := by decide +kernel
theorem dX9_turnsNow_193 : decode cX9_turnsNow 193 = .ok (.invokestatic 179, 3) := by decide +kernel
theorem dX9_turnsNow_196 : decode cX9_turnsNow 196 = .ok (.ireturn, 1) := by decide +kernel
theorem dX9_fewTurns_0 : decode cX9_fewTurns 0 = .ok (.aload_n 0, 1) := by decide +kernel
theorem dX9_fewTurns_1 : decode cX9_fewTurns 1 = .ok (.iload_n 1, 1) := by decide +kernel
theorem dX9_fewTurns_2 : decode cX9_fewTurns 2 = .ok (.invokevirtual 167, 3) := by decide +kernel
theorem dX9_fewTurns_5 : decode cX9_fewTurns 5 = .ok (.ifCond .ne 6, 3) := by decide +kernel
theorem dX9_fewTurns_8 : decode cX9_fewTurns 8 = .ok (.bipush (-101), 2) := by decide +kernel
theorem dX9_fewTurns_10 : decode cX9_fewTurns 10 = .ok (.ireturn, 1) := by decide +kernel
theorem dX9_fewTurns_11 : decode cX9_fewTurns 11 = .ok (.iload_n 2, 1) := by decide +kernel
theorem dX9_fewTurns_12 : decode cX9_fewTurns 12 = .ok (.iconst (-1), 1) := by decide +kernel
theorem dX9_fewTurns_13 : decode cX9_fewTurns 13 = .ok (.iconst 1, 1) := by decide +kernel
theorem dX9_fewTurns_14 : decode cX9_fewTurns 14 = .ok (.invokestatic 79, 3) := by decide +kernel
theorem dX9_fewTurns_17 : decode cX9_fewTurns 17 = .ok (.ifCond .eq 12, 3) := by decide +kernel
theorem dX9_fewTurns_20 : decode cX9_fewTurns 20 = .ok (.iload_n 3, 1) := by decide +kernel
theorem dX9_fewTurns_21 : decode cX9_fewTurns 21 = .ok (.iconst 0, 1) := by decide +kernel
theorem dX9_fewTurns_22 : decode cX9_fewTurns 22 = .ok (.iconst 1, 1) := by decide +kernel
theorem dX9_fewTurns_23 : decode cX9_fewTurns 23 = .ok (.invokestatic 79, 3) := by decide +kernel
theorem dX9_fewTurns_26 : decode cX9_fewTurns 26 = .ok (.ifCond .ne 6, 3) := by decide +kernel
theorem dX9_fewTurns_29 : decode cX9_fewTurns 29 = .ok (.bipush (-102), 2) := by decide +kernel
theorem dX9_fewTurns_31 : decode cX9_fewTurns 31 = .ok (.ireturn, 1) := by decide +kernel
theorem dX9_fewTurns_32 : decode cX9_fewTurns 32 = .ok (.aload_n 0, 1) := by decide +kernel
theorem dX9_fewTurns_33 : decode cX9_fewTurns 33 = .ok (.getfield 210, 3) := by decide +kernel
theorem dX9_fewTurns_36 : decode cX9_fewTurns 36 = .ok (.bipush 20, 2) := by decide +kernel
theorem dX9_fewTurns_38 : decode cX9_fewTurns 38 = .ok (.if_icmp .ne 6, 3) := by decide +kernel
theorem dX9_fewTurns_41 : decode cX9_fewTurns 41 = .ok (.bipush (-103), 2) := by decide +kernel
theorem dX9_fewTurns_43 : decode cX9_fewTurns 43 = .ok (.ireturn, 1) := by decide +kernel
theorem dX9_fewTurns_44 : decode cX9_fewTurns 44 = .ok (.aload_n 0, 1) := by decide +kernel
theorem dX9_fewTurns_45 : decode cX9_fewTurns 45 = .ok (.dup, 1) := by decide +kernel
theorem dX9_fewTurns_46 : decode cX9_fewTurns 46 = .ok (.getfield 210, 3) := by decide +kernel
theorem dX9_fewTurns_49 : decode cX9_fewTurns 49 = .ok (.iconst 1, 1) := by decide +kernel
theorem dX9_fewTurns_50 : decode cX9_fewTurns 50 = .ok (.iadd, 1) := by decide +kernel
theorem dX9_fewTurns_51 : decode cX9_fewTurns 51 = .ok (.putfield 210, 3) := by decide +kernel
theorem dX9_fewTurns_54 : decode cX9_fewTurns 54 = .ok (.aload_n 0, 1) := by decide +kernel
theorem dX9_fewTurns_55 : decode cX9_fewTurns 55 = .ok (.iload_n 1, 1) := by decide +kernel
theorem dX9_fewTurns_56 : decode cX9_fewTurns 56 = .ok (.iload_n 2, 1) := by decide +kernel
theorem dX9_fewTurns_57 : decode cX9_fewTurns 57 = .ok (.iload_n 3, 1) := by decide +kernel
theorem dX9_fewTurns_58 : decode cX9_fewTurns 58 = .ok (.invokevirtual 213, 3) := by decide +kernel
theorem dX9_fewTurns_61 : decode cX9_fewTurns 61 = .ok (.ireturn, 1) := by decide +kernel
theorem dX9_leansTold_0 : decode cX9_leansTold 0 = .ok (.lconst 0, 1) := by decide +kernel
theorem dX9_leansTold_1 : decode cX9_leansTold 1 = .ok (.lstore_n 1, 1) := by decide +kernel
theorem dX9_leansTold_2 : decode cX9_leansTold 2 = .ok (.iconst 0, 1) := by decide +kernel
theorem dX9_leansTold_3 : decode cX9_leansTold 3 = .ok (.istore_n 3, 1) := by decide +kernel
theorem dX9_leansTold_4 : decode cX9_leansTold 4 = .ok (.iload_n 3, 1) := by decide +kernel
theorem dX9_leansTold_5 : decode cX9_leansTold 5 = .ok (.iconst 3, 1) := by decide +kernel
theorem dX9_leansTold_6 : decode cX9_leansTold 6 = .ok (.aload_n 0, 1) := by decide +kernel
theorem dX9_leansTold_7 : decode cX9_leansTold 7 = .ok (.getfield 112, 3) := by decide +kernel
theorem dX9_leansTold_10 : decode cX9_leansTold 10 = .ok (.imul, 1) := by decide +kernel
theorem dX9_leansTold_11 : decode cX9_leansTold 11 = .ok (.if_icmp .ge 25, 3) := by decide +kernel
theorem dX9_leansTold_14 : decode cX9_leansTold 14 = .ok (.ldc2_w 216, 3) := by decide +kernel
theorem dX9_leansTold_17 : decode cX9_leansTold 17 = .ok (.lload_n 1, 1) := by decide +kernel
theorem dX9_leansTold_18 : decode cX9_leansTold 18 = .ok (.lmul, 1) := by decide +kernel
theorem dX9_leansTold_19 : decode cX9_leansTold 19 = .ok (.aload_n 0, 1) := by decide +kernel
theorem dX9_leansTold_20 : decode cX9_leansTold 20 = .ok (.getfield 16, 3) := by decide +kernel
theorem dX9_leansTold_23 : decode cX9_leansTold 23 = .ok (.iload_n 3, 1) := by decide +kernel
theorem dX9_leansTold_24 : decode cX9_leansTold 24 = .ok (.iaload, 1) := by decide +kernel
theorem dX9_leansTold_25 : decode cX9_leansTold 25 = .ok (.i2l, 1) := by decide +kernel
theorem dX9_leansTold_26 : decode cX9_leansTold 26 = .ok (.ladd, 1) := by decide +kernel
theorem dX9_leansTold_27 : decode cX9_leansTold 27 = .ok (.lconst 1, 1) := by decide +kernel
theorem dX9_leansTold_28 : decode cX9_leansTold 28 = .ok (.ladd, 1) := by decide +kernel
theorem dX9_leansTold_29 : decode cX9_leansTold 29 = .ok (.lstore_n 1, 1) := by decide +kernel
theorem dX9_leansTold_30 : decode cX9_leansTold 30 = .ok (.iinc 3 1, 3) := by decide +kernel
theorem dX9_leansTold_33 : decode cX9_leansTold 33 = .ok (.goto (-29), 3) := by decide +kernel
theorem dX9_leansTold_36 : decode cX9_leansTold 36 = .ok (.lload_n 1, 1) := by decide +kernel
theorem dX9_leansTold_37 : decode cX9_leansTold 37 = .ok (.lreturn, 1) := by decide +kernel
theorem dX9_settleNow_0 : decode cX9_settleNow 0 = .ok (.aload_n 0, 1) := by decide +kernel
theorem dX9_settleNow_1 : decode cX9_settleNow 1 = .ok (.invokevirtual 201, 3) := by decide +kernel
theorem dX9_settleNow_4 : decode cX9_settleNow 4 = .ok (.iconst 0, 1) := by decide +kernel
theorem dX9_settleNow_5 : decode cX9_settleNow 5 = .ok (.istore_n 2, 1) := by decide +kernel
theorem dX9_settleNow_6 : decode cX9_settleNow 6 = .ok (.iconst (-1), 1) := by decide +kernel
theorem dX9_settleNow_7 : decode cX9_settleNow 7 = .ok (.istore_n 3, 1) := by decide +kernel
theorem dX9_settleNow_8 : decode cX9_settleNow 8 = .ok (.aload_n 0, 1) := by decide +kernel
theorem dX9_settleNow_9 : decode cX9_settleNow 9 = .ok (.getfield 44, 3) := by decide +kernel
theorem dX9_settleNow_12 : decode cX9_settleNow 12 = .ok (.iconst 0, 1) := by decide +kernel
theorem dX9_settleNow_13 : decode cX9_settleNow 13 = .ok (.aload_n 0, 1) := by decide +kernel
theorem dX9_settleNow_14 : decode cX9_settleNow 14 = .ok (.invokevirtual 218, 3) := by decide +kernel
theorem dX9_settleNow_17 : decode cX9_settleNow 17 = .ok (.lastore, 1) := by decide +kernel
theorem dX9_settleNow_18 : decode cX9_settleNow 18 = .ok (.iload_n 3, 1) := by decide +kernel
theorem dX9_settleNow_19 : decode cX9_settleNow 19 = .ok (.iconst (-1), 1) := by decide +kernel
theorem dX9_settleNow_20 : decode cX9_settleNow 20 = .ok (.if_icmp .ne 71, 3) := by decide +kernel
theorem dX9_settleNow_23 : decode cX9_settleNow 23 = .ok (.iload_n 2, 1) := by decide +kernel
theorem dX9_settleNow_24 : decode cX9_settleNow 24 = .ok (.iconst 1, 1) := by decide +kernel
theorem dX9_settleNow_25 : decode cX9_settleNow 25 = .ok (.iadd, 1) := by decide +kernel
theorem dX9_settleNow_26 : decode cX9_settleNow 26 = .ok (.bipush 100, 2) := by decide +kernel
theorem dX9_settleNow_28 : decode cX9_settleNow 28 = .ok (.if_icmp .ge 63, 3) := by decide +kernel
theorem dX9_settleNow_31 : decode cX9_settleNow 31 = .ok (.aload_n 0, 1) := by decide +kernel
theorem dX9_settleNow_32 : decode cX9_settleNow 32 = .ok (.invokevirtual 173, 3) := by decide +kernel
theorem dX9_settleNow_35 : decode cX9_settleNow 35 = .ok (.iinc 2 1, 3) := by decide +kernel
theorem dX9_settleNow_38 : decode cX9_settleNow 38 = .ok (.aload_n 0, 1) := by decide +kernel
theorem dX9_settleNow_39 : decode cX9_settleNow 39 = .ok (.getfield 44, 3) := by decide +kernel
theorem dX9_settleNow_42 : decode cX9_settleNow 42 = .ok (.iload_n 2, 1) := by decide +kernel
theorem dX9_settleNow_43 : decode cX9_settleNow 43 = .ok (.aload_n 0, 1) := by decide +kernel
theorem dX9_settleNow_44 : decode cX9_settleNow 44 = .ok (.invokevirtual 218, 3) := by decide +kernel
theorem dX9_settleNow_47 : decode cX9_settleNow 47 = .ok (.lastore, 1) := by decide +kernel
theorem dX9_settleNow_48 : decode cX9_settleNow 48 = .ok (.iload_n 2, 1) := by decide +kernel
theorem dX9_settleNow_49 : decode cX9_settleNow 49 = .ok (.iconst 1, 1) := by decide +kernel
theorem dX9_settleNow_50 : decode cX9_settleNow 50 = .ok (.isub, 1) := by decide +kernel
theorem dX9_settleNow_51 : decode cX9_settleNow 51 = .ok (.istore 4, 2) := by decide +kernel
theorem dX9_settleNow_53 : decode cX9_settleNow 53 = .ok (.iload 4, 2) := by decide +kernel
theorem dX9_settleNow_55 : decode cX9_settleNow 55 = .ok (.ifCond .lt 33, 3) := by decide +kernel
theorem dX9_settleNow_58 : decode cX9_settleNow 58 = .ok (.aload_n 0, 1) := by decide +kernel
theorem dX9_settleNow_59 : decode cX9_settleNow 59 = .ok (.getfield 44, 3) := by decide +kernel
theorem dX9_settleNow_62 : decode cX9_settleNow 62 = .ok (.iload 4, 2) := by decide +kernel
theorem dX9_settleNow_64 : decode cX9_settleNow 64 = .ok (.laload, 1) := by decide +kernel
theorem dX9_settleNow_65 : decode cX9_settleNow 65 = .ok (.aload_n 0, 1) := by decide +kernel
theorem dX9_settleNow_66 : decode cX9_settleNow 66 = .ok (.getfield 44, 3) := by decide +kernel
theorem dX9_settleNow_69 : decode cX9_settleNow 69 = .ok (.iload_n 2, 1) := by decide +kernel
theorem dX9_settleNow_70 : decode cX9_settleNow 70 = .ok (.laload, 1) := by decide +kernel
theorem dX9_settleNow_71 : decode cX9_settleNow 71 = .ok (.lcmp, 1) := by decide +kernel
theorem dX9_settleNow_72 : decode cX9_settleNow 72 = .ok (.ifCond .ne 8, 3) := by decide +kernel
theorem dX9_settleNow_75 : decode cX9_settleNow 75 = .ok (.iload 4, 2) := by decide +kernel
theorem dX9_settleNow_77 : decode cX9_settleNow 77 = .ok (.goto 4, 3) := by decide +kernel
theorem dX9_settleNow_80 : decode cX9_settleNow 80 = .ok (.iload_n 3, 1) := by decide +kernel
theorem dX9_settleNow_81 : decode cX9_settleNow 81 = .ok (.istore_n 3, 1) := by decide +kernel
theorem dX9_settleNow_82 : decode cX9_settleNow 82 = .ok (.iinc 4 (-1), 3) := by decide +kernel
theorem dX9_settleNow_85 : decode cX9_settleNow 85 = .ok (.goto (-32), 3) := by decide +kernel
theorem dX9_settleNow_88 : decode cX9_settleNow 88 = .ok (.goto (-70), 3) := by decide +kernel
theorem dX9_settleNow_91 : decode cX9_settleNow 91 = .ok (.aload_n 0, 1) := by decide +kernel
theorem dX9_settleNow_92 : decode cX9_settleNow 92 = .ok (.invokevirtual 207, 3) := by decide +kernel
theorem dX9_settleNow_95 : decode cX9_settleNow 95 = .ok (.iload_n 1, 1) := by decide +kernel
theorem dX9_settleNow_96 : decode cX9_settleNow 96 = .ok (.ifCond .ne 7, 3) := by decide +kernel
theorem dX9_settleNow_99 : decode cX9_settleNow 99 = .ok (.iload_n 2, 1) := by decide +kernel
theorem dX9_settleNow_100 : decode cX9_settleNow 100 = .ok (.goto 4, 3) := by decide +kernel
theorem dX9_settleNow_103 : decode cX9_settleNow 103 = .ok (.iload_n 3, 1) := by decide +kernel
theorem dX9_settleNow_104 : decode cX9_settleNow 104 = .ok (.ireturn, 1) := by decide +kernel
theorem dX9_settle_0 : decode cX9_settle 0 = .ok (.iload_n 1, 1) := by decide +kernel
theorem dX9_settle_1 : decode cX9_settle 1 = .ok (.iconst 0, 1) := by decide +kernel
theorem dX9_settle_2 : decode cX9_settle 2 = .ok (.iconst 1, 1) := by decide +kernel
theorem dX9_settle_3 : decode cX9_settle 3 = .ok (.invokestatic 79, 3) := by decide +kernel
theorem dX9_settle_6 : decode cX9_settle 6 = .ok (.ifCond .ne 6, 3) := by decide +kernel
theorem dX9_settle_9 : decode cX9_settle 9 = .ok (.bipush (-102), 2) := by decide +kernel
theorem dX9_settle_11 : decode cX9_settle 11 = .ok (.ireturn, 1) := by decide +kernel
theorem dX9_settle_12 : decode cX9_settle 12 = .ok (.aload_n 0, 1) := by decide +kernel
theorem dX9_settle_13 : decode cX9_settle 13 = .ok (.getfield 112, 3) := by decide +kernel
theorem dX9_settle_16 : decode cX9_settle 16 = .ok (.ifCond .ne 8, 3) := by decide +kernel
theorem dX9_settle_19 : decode cX9_settle 19 = .ok (.bipush (-103), 2) := by decide +kernel
theorem dX9_settle_21 : decode cX9_settle 21 = .ok (.goto 8, 3) := by decide +kernel
theorem dX9_settle_24 : decode cX9_settle 24 = .ok (.aload_n 0, 1) := by decide +kernel
theorem dX9_settle_25 : decode cX9_settle 25 = .ok (.iload_n 1, 1) := by decide +kernel
theorem dX9_settle_26 : decode cX9_settle 26 = .ok (.invokevirtual 222, 3) := by decide +kernel
theorem dX9_settle_29 : decode cX9_settle 29 = .ok (.ireturn, 1) := by decide +kernel
theorem dX9_see_0 : decode cX9_see 0 = .ok (.aload_n 0, 1) := by decide +kernel
theorem dX9_see_1 : decode cX9_see 1 = .ok (.iload_n 1, 1) := by decide +kernel
theorem dX9_see_2 : decode cX9_see 2 = .ok (.invokevirtual 152, 3) := by decide +kernel
theorem dX9_see_5 : decode cX9_see 5 = .ok (.ifCond .eq 11, 3) := by decide +kernel
theorem dX9_see_8 : decode cX9_see 8 = .ok (.aload_n 0, 1) := by decide +kernel
theorem dX9_see_9 : decode cX9_see 9 = .ok (.iload_n 2, 1) := by decide +kernel
theorem dX9_see_10 : decode cX9_see 10 = .ok (.invokevirtual 167, 3) := by decide +kernel
theorem dX9_see_13 : decode cX9_see 13 = .ok (.ifCond .ne 6, 3) := by decide +kernel
theorem dX9_see_16 : decode cX9_see 16 = .ok (.bipush (-101), 2) := by decide +kernel
theorem dX9_see_18 : decode cX9_see 18 = .ok (.ireturn, 1) := by decide +kernel
theorem dX9_see_19 : decode cX9_see 19 = .ok (.iload_n 3, 1) := by decide +kernel
theorem dX9_see_20 : decode cX9_see 20 = .ok (.iconst 0, 1) := by decide +kernel
theorem dX9_see_21 : decode cX9_see 21 = .ok (.sipush 400, 3) := by decide +kernel
theorem dX9_see_24 : decode cX9_see 24 = .ok (.invokestatic 79, 3) := by decide +kernel
theorem dX9_see_27 : decode cX9_see 27 = .ok (.ifCond .ne 6, 3) := by decide +kernel
theorem dX9_see_30 : decode cX9_see 30 = .ok (.bipush (-102), 2) := by decide +kernel
theorem dX9_see_32 : decode cX9_see 32 = .ok (.ireturn, 1) := by decide +kernel
theorem dX9_see_33 : decode cX9_see 33 = .ok (.aload_n 0, 1) := by decide +kernel
theorem dX9_see_34 : decode cX9_see 34 = .ok (.getfield 124, 3) := by decide +kernel
theorem dX9_see_37 : decode cX9_see 37 = .ok (.bipush 6, 2) := by decide +kernel
theorem dX9_see_39 : decode cX9_see 39 = .ok (.if_icmp .ne 6, 3) := by decide +kernel
theorem dX9_see_42 : decode cX9_see 42 = .ok (.bipush (-104), 2) := by decide +kernel
theorem dX9_see_44 : decode cX9_see 44 = .ok (.ireturn, 1) := by decide +kernel
theorem dX9_see_45 : decode cX9_see 45 = .ok (.aload_n 0, 1) := by decide +kernel
theorem dX9_see_46 : decode cX9_see 46 = .ok (.getfield 25, 3) := by decide +kernel
theorem dX9_see_49 : decode cX9_see 49 = .ok (.aload_n 0, 1) := by decide +kernel
theorem dX9_see_50 : decode cX9_see 50 = .ok (.getfield 124, 3) := by decide +kernel
theorem dX9_see_53 : decode cX9_see 53 = .ok (.iload_n 1, 1) := by decide +kernel
theorem dX9_see_54 : decode cX9_see 54 = .ok (.iastore, 1) := by decide +kernel
theorem dX9_see_55 : decode cX9_see 55 = .ok (.aload_n 0, 1) := by decide +kernel
theorem dX9_see_56 : decode cX9_see 56 = .ok (.getfield 28, 3) := by decide +kernel
theorem dX9_see_59 : decode cX9_see 59 = .ok (.aload_n 0, 1) := by decide +kernel
theorem dX9_see_60 : decode cX9_see 60 = .ok (.getfield 124, 3) := by decide +kernel
theorem dX9_see_63 : decode cX9_see 63 = .ok (.iload_n 2, 1) := by decide +kernel
theorem dX9_see_64 : decode cX9_see 64 = .ok (.iastore, 1) := by decide +kernel
theorem dX9_see_65 : decode cX9_see 65 = .ok (.aload_n 0, 1) := by decide +kernel
theorem dX9_see_66 : decode cX9_see 66 = .ok (.getfield 31, 3) := by decide +kernel
theorem dX9_see_69 : decode cX9_see 69 = .ok (.aload_n 0, 1) := by decide +kernel
theorem dX9_see_70 : decode cX9_see 70 = .ok (.getfield 124, 3) := by decide +kernel
theorem dX9_see_73 : decode cX9_see 73 = .ok (.iload_n 3, 1) := by decide +kernel
theorem dX9_see_74 : decode cX9_see 74 = .ok (.iastore, 1) := by decide +kernel
theorem dX9_see_75 : decode cX9_see 75 = .ok (.aload_n 0, 1) := by decide +kernel
theorem dX9_see_76 : decode cX9_see 76 = .ok (.dup, 1) := by decide +kernel
theorem dX9_see_77 : decode cX9_see 77 = .ok (.getfield 124, 3) := by decide +kernel
theorem dX9_see_80 : decode cX9_see 80 = .ok (.iconst 1, 1) := by decide +kernel
theorem dX9_see_81 : decode cX9_see 81 = .ok (.iadd, 1) := by decide +kernel
theorem dX9_see_82 : decode cX9_see 82 = .ok (.putfield 124, 3) := by decide +kernel
theorem dX9_see_85 : decode cX9_see 85 = .ok (.aload_n 0, 1) := by decide +kernel
theorem dX9_see_86 : decode cX9_see 86 = .ok (.getfield 124, 3) := by decide +kernel
theorem dX9_see_89 : decode cX9_see 89 = .ok (.ireturn, 1) := by decide +kernel
theorem dX9_forget_0 : decode cX9_forget 0 = .ok (.aload_n 0, 1) := by decide +kernel
theorem dX9_forget_1 : decode cX9_forget 1 = .ok (.getfield 124, 3) := by decide +kernel
theorem dX9_forget_4 : decode cX9_forget 4 = .ok (.istore_n 1, 1) := by decide +kernel
theorem dX9_forget_5 : decode cX9_forget 5 = .ok (.aload_n 0, 1) := by decide +kernel
theorem dX9_forget_6 : decode cX9_forget 6 = .ok (.iconst 0, 1) := by decide +kernel
theorem dX9_forget_7 : decode cX9_forget 7 = .ok (.putfield 124, 3) := by decide +kernel
theorem dX9_forget_10 : decode cX9_forget 10 = .ok (.iload_n 1, 1) := by decide +kernel
theorem dX9_forget_11 : decode cX9_forget 11 = .ok (.ireturn, 1) := by decide +kernel
theorem dX9_laySums_0 : decode cX9_laySums 0 = .ok (.aload_n 0, 1) := by decide +kernel
theorem dX9_laySums_1 : decode cX9_laySums 1 = .ok (.getfield 16, 3) := by decide +kernel
theorem dX9_laySums_4 : decode cX9_laySums 4 = .ok (.iconst 3, 1) := by decide +kernel
theorem dX9_laySums_5 : decode cX9_laySums 5 = .ok (.iload_n 1, 1) := by decide +kernel
theorem dX9_laySums_6 : decode cX9_laySums 6 = .ok (.imul, 1) := by decide +kernel
theorem dX9_laySums_7 : decode cX9_laySums 7 = .ok (.iload_n 2, 1) := by decide +kernel
theorem dX9_laySums_8 : decode cX9_laySums 8 = .ok (.iadd, 1) := by decide +kernel
theorem dX9_laySums_9 : decode cX9_laySums 9 = .ok (.iaload, 1) := by decide +kernel
theorem dX9_laySums_10 : decode cX9_laySums 10 = .ok (.istore_n 3, 1) := by decide +kernel
theorem dX9_laySums_11 : decode cX9_laySums 11 = .ok (.iconst 0, 1) := by decide +kernel
theorem dX9_laySums_12 : decode cX9_laySums 12 = .ok (.istore 4, 2) := by decide +kernel
theorem dX9_laySums_14 : decode cX9_laySums 14 = .ok (.iload 4, 2) := by decide +kernel
theorem dX9_laySums_16 : decode cX9_laySums 16 = .ok (.iconst 3, 1) := by decide +kernel
theorem dX9_laySums_17 : decode cX9_laySums 17 = .ok (.if_icmp .ge 39, 3) := by decide +kernel
theorem dX9_laySums_20 : decode cX9_laySums 20 = .ok (.aload_n 0, 1) := by decide +kernel
theorem dX9_laySums_21 : decode cX9_laySums 21 = .ok (.getfield 16, 3) := by decide +kernel
theorem dX9_laySums_24 : decode cX9_laySums 24 = .ok (.iconst 3, 1) := by decide +kernel
theorem dX9_laySums_25 : decode cX9_laySums 25 = .ok (.iload_n 1, 1) := by decide +kernel
theorem dX9_laySums_26 : decode cX9_laySums 26 = .ok (.imul, 1) := by decide +kernel
theorem dX9_laySums_27 : decode cX9_laySums 27 = .ok (.iload_n 2, 1) := by decide +kernel
theorem dX9_laySums_28 : decode cX9_laySums 28 = .ok (.iadd, 1) := by decide +kernel
theorem dX9_laySums_29 : decode cX9_laySums 29 = .ok (.iconst 1, 1) := by decide +kernel
theorem dX9_laySums_30 : decode cX9_laySums 30 = .ok (.iload 4, 2) := by decide +kernel
theorem dX9_laySums_32 : decode cX9_laySums 32 = .ok (.isub, 1) := by decide +kernel
theorem dX9_laySums_33 : decode cX9_laySums 33 = .ok (.iastore, 1) := by decide +kernel
theorem dX9_laySums_34 : decode cX9_laySums 34 = .ok (.aload_n 0, 1) := by decide +kernel
theorem dX9_laySums_35 : decode cX9_laySums 35 = .ok (.getfield 48, 3) := by decide +kernel
theorem dX9_laySums_38 : decode cX9_laySums 38 = .ok (.iload 4, 2) := by decide +kernel
theorem dX9_laySums_40 : decode cX9_laySums 40 = .ok (.aload_n 0, 1) := by decide +kernel
theorem dX9_laySums_41 : decode cX9_laySums 41 = .ok (.iload_n 2, 1) := by decide +kernel
theorem dX9_laySums_42 : decode cX9_laySums 42 = .ok (.invokevirtual 143, 3) := by decide +kernel
theorem dX9_laySums_45 : decode cX9_laySums 45 = .ok (.sipush 200, 3) := by decide +kernel
theorem dX9_laySums_48 : decode cX9_laySums 48 = .ok (.iadd, 1) := by decide +kernel
theorem dX9_laySums_49 : decode cX9_laySums 49 = .ok (.iastore, 1) := by decide +kernel
theorem dX9_laySums_50 : decode cX9_laySums 50 = .ok (.iinc 4 1, 3) := by decide +kernel
theorem dX9_laySums_53 : decode cX9_laySums 53 = .ok (.goto (-39), 3) := by decide +kernel
theorem dX9_laySums_56 : decode cX9_laySums 56 = .ok (.aload_n 0, 1) := by decide +kernel
theorem dX9_laySums_57 : decode cX9_laySums 57 = .ok (.getfield 16, 3) := by decide +kernel
theorem dX9_laySums_60 : decode cX9_laySums 60 = .ok (.iconst 3, 1) := by decide +kernel
theorem dX9_laySums_61 : decode cX9_laySums 61 = .ok (.iload_n 1, 1) := by decide +kernel
theorem dX9_laySums_62 : decode cX9_laySums 62 = .ok (.imul, 1) := by decide +kernel
theorem dX9_laySums_63 : decode cX9_laySums 63 = .ok (.iload_n 2, 1) := by decide +kernel
theorem dX9_laySums_64 : decode cX9_laySums 64 = .ok (.iadd, 1) := by decide +kernel
theorem dX9_laySums_65 : decode cX9_laySums 65 = .ok (.iload_n 3, 1) := by decide +kernel
theorem dX9_laySums_66 : decode cX9_laySums 66 = .ok (.iastore, 1) := by decide +kernel
theorem dX9_laySums_67 : decode cX9_laySums 67 = .ok (.return_, 1) := by decide +kernel
theorem dX9_leansOf_0 : decode cX9_leansOf 0 = .ok (.aload_n 0, 1) := by decide +kernel
theorem dX9_leansOf_1 : decode cX9_leansOf 1 = .ok (.iload_n 1, 1) := by decide +kernel
theorem dX9_leansOf_2 : decode cX9_leansOf 2 = .ok (.iload_n 2, 1) := by decide +kernel
theorem dX9_leansOf_3 : decode cX9_leansOf 3 = .ok (.invokevirtual 225, 3) := by decide +kernel
theorem dX9_leansOf_6 : decode cX9_leansOf 6 = .ok (.iconst 0, 1) := by decide +kernel
theorem dX9_leansOf_7 : decode cX9_leansOf 7 = .ok (.istore_n 3, 1) := by decide +kernel
theorem dX9_leansOf_8 : decode cX9_leansOf 8 = .ok (.iconst 0, 1) := by decide +kernel
theorem dX9_leansOf_9 : decode cX9_leansOf 9 = .ok (.istore 4, 2) := by decide +kernel
theorem dX9_leansOf_11 : decode cX9_leansOf 11 = .ok (.iload 4, 2) := by decide +kernel
theorem dX9_leansOf_13 : decode cX9_leansOf 13 = .ok (.iconst 3, 1) := by decide +kernel
theorem dX9_leansOf_14 : decode cX9_leansOf 14 = .ok (.if_icmp .ge 97, 3) := by decide +kernel
theorem dX9_leansOf_17 : decode cX9_leansOf 17 = .ok (.iconst 1, 1) := by decide +kernel
theorem dX9_leansOf_18 : decode cX9_leansOf 18 = .ok (.istore 5, 2) := by decide +kernel
theorem dX9_leansOf_20 : decode cX9_leansOf 20 = .ok (.iconst 0, 1) := by decide +kernel
theorem dX9_leansOf_21 : decode cX9_leansOf 21 = .ok (.istore 6, 2) := by decide +kernel
theorem dX9_leansOf_23 : decode cX9_leansOf 23 = .ok (.iload 6, 2) := by decide +kernel
theorem dX9_leansOf_25 : decode cX9_leansOf 25 = .ok (.aload_n 0, 1) := by decide +kernel
theorem dX9_leansOf_26 : decode cX9_leansOf 26 = .ok (.getfield 124, 3) := by decide +kernel
theorem dX9_leansOf_29 : decode cX9_leansOf 29 = .ok (.if_icmp .ge 60, 3) := by decide +kernel
theorem dX9_leansOf_32 : decode cX9_leansOf 32 = .ok (.iload 5, 2) := by decide +kernel
theorem dX9_leansOf_34 : decode cX9_leansOf 34 = .ok (.ifCond .eq 46, 3) := by decide +kernel
theorem dX9_leansOf_37 : decode cX9_leansOf 37 = .ok (.aload_n 0, 1) := by decide +kernel
theorem dX9_leansOf_38 : decode cX9_leansOf 38 = .ok (.getfield 25, 3) := by decide +kernel
theorem dX9_leansOf_41 : decode cX9_leansOf 41 = .ok (.iload 6, 2) := by decide +kernel
theorem dX9_leansOf_43 : decode cX9_leansOf 43 = .ok (.iaload, 1) := by decide +kernel
theorem dX9_leansOf_44 : decode cX9_leansOf 44 = .ok (.iload_n 1, 1) := by decide +kernel
theorem dX9_leansOf_45 : decode cX9_leansOf 45 = .ok (.if_icmp .ne 31, 3) := by decide +kernel
theorem dX9_leansOf_48 : decode cX9_leansOf 48 = .ok (.aload_n 0, 1) := by decide +kernel
theorem dX9_leansOf_49 : decode cX9_leansOf 49 = .ok (.getfield 28, 3) := by decide +kernel
theorem dX9_leansOf_52 : decode cX9_leansOf 52 = .ok (.iload 6, 2) := by decide +kernel
theorem dX9_leansOf_54 : decode cX9_leansOf 54 = .ok (.iaload, 1) := by decide +kernel
theorem dX9_leansOf_55 : decode cX9_leansOf 55 = .ok (.iload_n 2, 1) := by decide +kernel
theorem dX9_leansOf_56 : decode cX9_leansOf 56 = .ok (.if_icmp .ne 20, 3) := by decide +kernel
theorem dX9_leansOf_59 : decode cX9_leansOf 59 = .ok (.aload_n 0, 1) := by decide +kernel
theorem dX9_leansOf_60 : decode cX9_leansOf 60 = .ok (.getfield 31, 3) := by decide +kernel
theorem dX9_leansOf_63 : decode cX9_leansOf 63 = .ok (.iload 6, 2) := by decide +kernel
theorem dX9_leansOf_65 : decode cX9_leansOf 65 = .ok (.iaload, 1) := by decide +kernel
theorem dX9_leansOf_66 : decode cX9_leansOf 66 = .ok (.aload_n 0, 1) := by decide +kernel
theorem dX9_leansOf_67 : decode cX9_leansOf 67 = .ok (.getfield 48, 3) := by decide +kernel
theorem dX9_leansOf_70 : decode cX9_leansOf 70 = .ok (.iload 4, 2) := by decide +kernel
theorem dX9_leansOf_72 : decode cX9_leansOf 72 = .ok (.iaload, 1) := by decide +kernel
theorem dX9_leansOf_73 : decode cX9_leansOf 73 = .ok (.if_icmp .ne 7, 3) := by decide +kernel
theorem dX9_leansOf_76 : decode cX9_leansOf 76 = .ok (.iconst 1, 1) := by decide +kernel
theorem dX9_leansOf_77 : decode cX9_leansOf 77 = .ok (.goto 4, 3) := by decide +kernel
theorem dX9_leansOf_80 : decode cX9_leansOf 80 = .ok (.iconst 0, 1) := by decide +kernel
theorem dX9_leansOf_81 : decode cX9_leansOf 81 = .ok (.istore 5, 2) := by decide +kernel
theorem dX9_leansOf_83 : decode cX9_leansOf 83 = .ok (.iinc 6 1, 3) := by decide +kernel
theorem dX9_leansOf_86 : decode cX9_leansOf 86 = .ok (.goto (-63), 3) := by decide +kernel
theorem dX9_leansOf_89 : decode cX9_leansOf 89 = .ok (.iload_n 3, 1) := by decide +kernel
theorem dX9_leansOf_90 : decode cX9_leansOf 90 = .ok (.iload 5, 2) := by decide +kernel
theorem dX9_leansOf_92 : decode cX9_leansOf 92 = .ok (.ifCond .eq 10, 3) := by decide +kernel
theorem dX9_leansOf_95 : decode cX9_leansOf 95 = .ok (.iconst 1, 1) := by decide +kernel
theorem dX9_leansOf_96 : decode cX9_leansOf 96 = .ok (.iload 4, 2) := by decide +kernel
theorem dX9_leansOf_98 : decode cX9_leansOf 98 = .ok (.ishl, 1) := by decide +kernel
theorem dX9_leansOf_99 : decode cX9_leansOf 99 = .ok (.goto 4, 3) := by decide +kernel
theorem dX9_leansOf_102 : decode cX9_leansOf 102 = .ok (.iconst 0, 1) := by decide +kernel
theorem dX9_leansOf_103 : decode cX9_leansOf 103 = .ok (.ior, 1) := by decide +kernel
theorem dX9_leansOf_104 : decode cX9_leansOf 104 = .ok (.istore_n 3, 1) := by decide +kernel
theorem dX9_leansOf_105 : decode cX9_leansOf 105 = .ok (.iinc 4 1, 3) := by decide +kernel
theorem dX9_leansOf_108 : decode cX9_leansOf 108 = .ok (.goto (-97), 3) := by decide +kernel
theorem dX9_leansOf_111 : decode cX9_leansOf 111 = .ok (.iload_n 3, 1) := by decide +kernel
theorem dX9_leansOf_112 : decode cX9_leansOf 112 = .ok (.ireturn, 1) := by decide +kernel
theorem dX9_worstOn_0 : decode cX9_worstOn 0 = .ok (.iconst 0, 1) := by decide +kernel
theorem dX9_worstOn_1 : decode cX9_worstOn 1 = .ok (.istore_n 2, 1) := by decide +kernel
theorem dX9_worstOn_2 : decode cX9_worstOn 2 = .ok (.iconst 0, 1) := by decide +kernel
theorem dX9_worstOn_3 : decode cX9_worstOn 3 = .ok (.istore_n 3, 1) := by decide +kernel
theorem dX9_worstOn_4 : decode cX9_worstOn 4 = .ok (.iload_n 3, 1) := by decide +kernel
theorem dX9_worstOn_5 : decode cX9_worstOn 5 = .ok (.iconst 3, 1) := by decide +kernel
theorem dX9_worstOn_6 : decode cX9_worstOn 6 = .ok (.if_icmp .ge 83, 3) := by decide +kernel
theorem dX9_worstOn_9 : decode cX9_worstOn 9 = .ok (.iconst 0, 1) := by decide +kernel
theorem dX9_worstOn_10 : decode cX9_worstOn 10 = .ok (.istore 4, 2) := by decide +kernel
theorem dX9_worstOn_12 : decode cX9_worstOn 12 = .ok (.iconst 0, 1) := by decide +kernel
theorem dX9_worstOn_13 : decode cX9_worstOn 13 = .ok (.istore 5, 2) := by decide +kernel
theorem dX9_worstOn_15 : decode cX9_worstOn 15 = .ok (.iload 5, 2) := by decide +kernel
theorem dX9_worstOn_17 : decode cX9_worstOn 17 = .ok (.iconst 3, 1) := by decide +kernel
theorem dX9_worstOn_18 : decode cX9_worstOn 18 = .ok (.if_icmp .ge 52, 3) := by decide +kernel
theorem dX9_worstOn_21 : decode cX9_worstOn 21 = .ok (.iload 4, 2) := by decide +kernel
theorem dX9_worstOn_23 : decode cX9_worstOn 23 = .ok (.iload_n 1, 1) := by decide +kernel
theorem dX9_worstOn_24 : decode cX9_worstOn 24 = .ok (.iload_n 3, 1) := by decide +kernel
theorem dX9_worstOn_25 : decode cX9_worstOn 25 = .ok (.invokestatic 130, 3) := by decide +kernel
theorem dX9_worstOn_28 : decode cX9_worstOn 28 = .ok (.ifCond .eq 32, 3) := by decide +kernel
theorem dX9_worstOn_31 : decode cX9_worstOn 31 = .ok (.iload_n 1, 1) := by decide +kernel
theorem dX9_worstOn_32 : decode cX9_worstOn 32 = .ok (.iload 5, 2) := by decide +kernel
theorem dX9_worstOn_34 : decode cX9_worstOn 34 = .ok (.invokestatic 130, 3) := by decide +kernel
theorem dX9_worstOn_37 : decode cX9_worstOn 37 = .ok (.ifCond .eq 23, 3) := by decide +kernel
theorem dX9_worstOn_40 : decode cX9_worstOn 40 = .ok (.aload_n 0, 1) := by decide +kernel
theorem dX9_worstOn_41 : decode cX9_worstOn 41 = .ok (.getfield 48, 3) := by decide +kernel
theorem dX9_worstOn_44 : decode cX9_worstOn 44 = .ok (.iload_n 3, 1) := by decide +kernel
theorem dX9_worstOn_45 : decode cX9_worstOn 45 = .ok (.iaload, 1) := by decide +kernel
theorem dX9_worstOn_46 : decode cX9_worstOn 46 = .ok (.aload_n 0, 1) := by decide +kernel
theorem dX9_worstOn_47 : decode cX9_worstOn 47 = .ok (.getfield 48, 3) := by decide +kernel
theorem dX9_worstOn_50 : decode cX9_worstOn 50 = .ok (.iload 5, 2) := by decide +kernel
theorem dX9_worstOn_52 : decode cX9_worstOn 52 = .ok (.iaload, 1) := by decide +kernel
theorem dX9_worstOn_53 : decode cX9_worstOn 53 = .ok (.if_icmp .ne 7, 3) := by decide +kernel
theorem dX9_worstOn_56 : decode cX9_worstOn 56 = .ok (.iconst 1, 1) := by decide +kernel
theorem dX9_worstOn_57 : decode cX9_worstOn 57 = .ok (.goto 4, 3) := by decide +kernel
theorem dX9_worstOn_60 : decode cX9_worstOn 60 = .ok (.iconst 0, 1) := by decide +kernel
theorem dX9_worstOn_61 : decode cX9_worstOn 61 = .ok (.iadd, 1) := by decide +kernel
theorem dX9_worstOn_62 : decode cX9_worstOn 62 = .ok (.istore 4, 2) := by decide +kernel
theorem dX9_worstOn_64 : decode cX9_worstOn 64 = .ok (.iinc 5 1, 3) := by decide +kernel
theorem dX9_worstOn_67 : decode cX9_worstOn 67 = .ok (.goto (-52), 3) := by decide +kernel
theorem dX9_worstOn_70 : decode cX9_worstOn 70 = .ok (.iload 4, 2) := by decide +kernel
theorem dX9_worstOn_72 : decode cX9_worstOn 72 = .ok (.iload_n 2, 1) := by decide +kernel
theorem dX9_worstOn_73 : decode cX9_worstOn 73 = .ok (.if_icmp .le 8, 3) := by decide +kernel
theorem dX9_worstOn_76 : decode cX9_worstOn 76 = .ok (.iload 4, 2) := by decide +kernel
theorem dX9_worstOn_78 : decode cX9_worstOn 78 = .ok (.goto 4, 3) := by decide +kernel
theorem dX9_worstOn_81 : decode cX9_worstOn 81 = .ok (.iload_n 2, 1) := by decide +kernel
theorem dX9_worstOn_82 : decode cX9_worstOn 82 = .ok (.istore_n 2, 1) := by decide +kernel
theorem dX9_worstOn_83 : decode cX9_worstOn 83 = .ok (.iinc 3 1, 3) := by decide +kernel
theorem dX9_worstOn_86 : decode cX9_worstOn 86 = .ok (.goto (-82), 3) := by decide +kernel
theorem dX9_worstOn_89 : decode cX9_worstOn 89 = .ok (.iload_n 2, 1) := by decide +kernel
theorem dX9_worstOn_90 : decode cX9_worstOn 90 = .ok (.ireturn, 1) := by decide +kernel
theorem dX9_askOf_0 : decode cX9_askOf 0 = .ok (.iconst (-1), 1) := by decide +kernel
theorem dX9_askOf_1 : decode cX9_askOf 1 = .ok (.istore_n 2, 1) := by decide +kernel
theorem dX9_askOf_2 : decode cX9_askOf 2 = .ok (.ldc 229, 2) := by decide +kernel
theorem dX9_askOf_4 : decode cX9_askOf 4 = .ok (.istore_n 3, 1) := by decide +kernel
theorem dX9_askOf_5 : decode cX9_askOf 5 = .ok (.iconst 0, 1) := by decide +kernel
theorem dX9_askOf_6 : decode cX9_askOf 6 = .ok (.istore 4, 2) := by decide +kernel
theorem dX9_askOf_8 : decode cX9_askOf 8 = .ok (.iload 4, 2) := by decide +kernel
theorem dX9_askOf_10 : decode cX9_askOf 10 = .ok (.iconst 3, 1) := by decide +kernel
theorem dX9_askOf_11 : decode cX9_askOf 11 = .ok (.if_icmp .ge 73, 3) := by decide +kernel
theorem dX9_askOf_14 : decode cX9_askOf 14 = .ok (.aload_n 0, 1) := by decide +kernel
theorem dX9_askOf_15 : decode cX9_askOf 15 = .ok (.iload_n 1, 1) := by decide +kernel
theorem dX9_askOf_16 : decode cX9_askOf 16 = .ok (.iload 4, 2) := by decide +kernel
theorem dX9_askOf_18 : decode cX9_askOf 18 = .ok (.invokevirtual 146, 3) := by decide +kernel
theorem dX9_askOf_21 : decode cX9_askOf 21 = .ok (.istore 5, 2) := by decide +kernel
theorem dX9_askOf_23 : decode cX9_askOf 23 = .ok (.aload_n 0, 1) := by decide +kernel
theorem dX9_askOf_24 : decode cX9_askOf 24 = .ok (.iload 5, 2) := by decide +kernel
theorem dX9_askOf_26 : decode cX9_askOf 26 = .ok (.invokevirtual 230, 3) := by decide +kernel
theorem dX9_askOf_29 : decode cX9_askOf 29 = .ok (.istore 6, 2) := by decide +kernel
theorem dX9_askOf_31 : decode cX9_askOf 31 = .ok (.iload 6, 2) := by decide +kernel
theorem dX9_askOf_33 : decode cX9_askOf 33 = .ok (.iload 5, 2) := by decide +kernel
theorem dX9_askOf_35 : decode cX9_askOf 35 = .ok (.invokestatic 179, 3) := by decide +kernel
theorem dX9_askOf_38 : decode cX9_askOf 38 = .ok (.if_icmp .ge 13, 3) := by decide +kernel
theorem dX9_askOf_41 : decode cX9_askOf 41 = .ok (.iload 6, 2) := by decide +kernel
theorem dX9_askOf_43 : decode cX9_askOf 43 = .ok (.iload_n 3, 1) := by decide +kernel
theorem dX9_askOf_44 : decode cX9_askOf 44 = .ok (.if_icmp .ge 7, 3) := by decide +kernel
theorem dX9_askOf_47 : decode cX9_askOf 47 = .ok (.iconst 1, 1) := by decide +kernel
theorem dX9_askOf_48 : decode cX9_askOf 48 = .ok (.goto 4, 3) := by decide +kernel
theorem dX9_askOf_51 : decode cX9_askOf 51 = .ok (.iconst 0, 1) := by decide +kernel
theorem dX9_askOf_52 : decode cX9_askOf 52 = .ok (.istore 7, 2) := by decide +kernel
theorem dX9_askOf_54 : decode cX9_askOf 54 = .ok (.iload 7, 2) := by decide +kernel
theorem dX9_askOf_56 : decode cX9_askOf 56 = .ok (.ifCond .eq 8, 3) := by decide +kernel
theorem dX9_askOf_59 : decode cX9_askOf 59 = .ok (.iload 4, 2) := by decide +kernel
theorem dX9_askOf_61 : decode cX9_askOf 61 = .ok (.goto 4, 3) := by decide +kernel
theorem dX9_askOf_64 : decode cX9_askOf 64 = .ok (.iload_n 2, 1) := by decide +kernel
theorem dX9_askOf_65 : decode cX9_askOf 65 = .ok (.istore_n 2, 1) := by decide +kernel
theorem dX9_askOf_66 : decode cX9_askOf 66 = .ok (.iload 7, 2) := by decide +kernel
theorem dX9_askOf_68 : decode cX9_askOf 68 = .ok (.ifCond .eq 8, 3) := by decide +kernel
theorem dX9_askOf_71 : decode cX9_askOf 71 = .ok (.iload 6, 2) := by decide +kernel
theorem dX9_askOf_73 : decode cX9_askOf 73 = .ok (.goto 4, 3) := by decide +kernel
theorem dX9_askOf_76 : decode cX9_askOf 76 = .ok (.iload_n 3, 1) := by decide +kernel
theorem dX9_askOf_77 : decode cX9_askOf 77 = .ok (.istore_n 3, 1) := by decide +kernel
theorem dX9_askOf_78 : decode cX9_askOf 78 = .ok (.iinc 4 1, 3) := by decide +kernel
theorem dX9_askOf_81 : decode cX9_askOf 81 = .ok (.goto (-73), 3) := by decide +kernel
theorem dX9_askOf_84 : decode cX9_askOf 84 = .ok (.iload_n 2, 1) := by decide +kernel
theorem dX9_askOf_85 : decode cX9_askOf 85 = .ok (.ireturn, 1) := by decide +kernel
theorem dX9_draw_0 : decode cX9_draw 0 = .ok (.aload_n 0, 1) := by decide +kernel
theorem dX9_draw_1 : decode cX9_draw 1 = .ok (.ldc2_w 233, 3) := by decide +kernel
theorem dX9_draw_4 : decode cX9_draw 4 = .ok (.aload_n 0, 1) := by decide +kernel
theorem dX9_draw_5 : decode cX9_draw 5 = .ok (.getfield 235, 3) := by decide +kernel
theorem dX9_draw_8 : decode cX9_draw 8 = .ok (.lmul, 1) := by decide +kernel
theorem dX9_draw_9 : decode cX9_draw 9 = .ok (.ldc2_w 239, 3) := by decide +kernel
theorem dX9_draw_12 : decode cX9_draw 12 = .ok (.ladd, 1) := by decide +kernel
theorem dX9_draw_13 : decode cX9_draw 13 = .ok (.ldc2_w 241, 3) := by decide +kernel
theorem dX9_draw_16 : decode cX9_draw 16 = .ok (.land, 1) := by decide +kernel
theorem dX9_draw_17 : decode cX9_draw 17 = .ok (.putfield 235, 3) := by decide +kernel
theorem dX9_draw_20 : decode cX9_draw 20 = .ok (.aload_n 0, 1) := by decide +kernel
theorem dX9_draw_21 : decode cX9_draw 21 = .ok (.getfield 235, 3) := by decide +kernel
theorem dX9_draw_24 : decode cX9_draw 24 = .ok (.ldc2_w 243, 3) := by decide +kernel
theorem dX9_draw_27 : decode cX9_draw 27 = .ok (.ldiv, 1) := by decide +kernel
theorem dX9_draw_28 : decode cX9_draw 28 = .ok (.iload_n 1, 1) := by decide +kernel
theorem dX9_draw_29 : decode cX9_draw 29 = .ok (.i2l, 1) := by decide +kernel
theorem dX9_draw_30 : decode cX9_draw 30 = .ok (.lrem, 1) := by decide +kernel
theorem dX9_draw_31 : decode cX9_draw 31 = .ok (.l2i, 1) := by decide +kernel
theorem dX9_draw_32 : decode cX9_draw 32 = .ok (.ireturn, 1) := by decide +kernel
theorem dX9_tidesNow_0 : decode cX9_tidesNow 0 = .ok (.iconst 0, 1) := by decide +kernel
theorem dX9_tidesNow_1 : decode cX9_tidesNow 1 = .ok (.istore 4, 2) := by decide +kernel
theorem dX9_tidesNow_3 : decode cX9_tidesNow 3 = .ok (.iload 4, 2) := by decide +kernel
theorem dX9_tidesNow_5 : decode cX9_tidesNow 5 = .ok (.bipush 24, 2) := by decide +kernel
theorem dX9_tidesNow_7 : decode cX9_tidesNow 7 = .ok (.if_icmp .ge 23, 3) := by decide +kernel
theorem dX9_tidesNow_10 : decode cX9_tidesNow 10 = .ok (.aload_n 0, 1) := by decide +kernel
theorem dX9_tidesNow_11 : decode cX9_tidesNow 11 = .ok (.getfield 51, 3) := by decide +kernel
theorem dX9_tidesNow_14 : decode cX9_tidesNow 14 = .ok (.iload 4, 2) := by decide +kernel
theorem dX9_tidesNow_16 : decode cX9_tidesNow 16 = .ok (.aload_n 0, 1) := by decide +kernel
theorem dX9_tidesNow_17 : decode cX9_tidesNow 17 = .ok (.getfield 16, 3) := by decide +kernel
theorem dX9_tidesNow_20 : decode cX9_tidesNow 20 = .ok (.iload 4, 2) := by decide +kernel
theorem dX9_tidesNow_22 : decode cX9_tidesNow 22 = .ok (.iaload, 1) := by decide +kernel
theorem dX9_tidesNow_23 : decode cX9_tidesNow 23 = .ok (.iastore, 1) := by decide +kernel
theorem dX9_tidesNow_24 : decode cX9_tidesNow 24 = .ok (.iinc 4 1, 3) := by decide +kernel
theorem dX9_tidesNow_27 : decode cX9_tidesNow 27 = .ok (.goto (-24), 3) := by decide +kernel
theorem dX9_tidesNow_30 : decode cX9_tidesNow 30 = .ok (.aload_n 0, 1) := by decide +kernel
theorem dX9_tidesNow_31 : decode cX9_tidesNow 31 = .ok (.iload_n 2, 1) := by decide +kernel
theorem dX9_tidesNow_32 : decode cX9_tidesNow 32 = .ok (.i2l, 1) := by decide +kernel
theorem dX9_tidesNow_33 : decode cX9_tidesNow 33 = .ok (.putfield 235, 3) := by decide +kernel
theorem dX9_tidesNow_36 : decode cX9_tidesNow 36 = .ok (.iconst 0, 1) := by decide +kernel
theorem dX9_tidesNow_37 : decode cX9_tidesNow 37 = .ok (.istore 4, 2) := by decide +kernel
theorem dX9_tidesNow_39 : decode cX9_tidesNow 39 = .ok (.iconst 0, 1) := by decide +kernel
theorem dX9_tidesNow_40 : decode cX9_tidesNow 40 = .ok (.istore 5, 2) := by decide +kernel
theorem dX9_tidesNow_42 : decode cX9_tidesNow 42 = .ok (.iconst 0, 1) := by decide +kernel
theorem dX9_tidesNow_43 : decode cX9_tidesNow 43 = .ok (.istore 6, 2) := by decide +kernel
theorem dX9_tidesNow_45 : decode cX9_tidesNow 45 = .ok (.iload 6, 2) := by decide +kernel
theorem dX9_tidesNow_47 : decode cX9_tidesNow 47 = .ok (.iload_n 1, 1) := by decide +kernel
theorem dX9_tidesNow_48 : decode cX9_tidesNow 48 = .ok (.if_icmp .ge 101, 3) := by decide +kernel
theorem dX9_tidesNow_51 : decode cX9_tidesNow 51 = .ok (.aload_n 0, 1) := by decide +kernel
theorem dX9_tidesNow_52 : decode cX9_tidesNow 52 = .ok (.iconst 3, 1) := by decide +kernel
theorem dX9_tidesNow_53 : decode cX9_tidesNow 53 = .ok (.invokevirtual 245, 3) := by decide +kernel
theorem dX9_tidesNow_56 : decode cX9_tidesNow 56 = .ok (.istore 7, 2) := by decide +kernel
theorem dX9_tidesNow_58 : decode cX9_tidesNow 58 = .ok (.iload 4, 2) := by decide +kernel
theorem dX9_tidesNow_60 : decode cX9_tidesNow 60 = .ok (.aload_n 0, 1) := by decide +kernel
theorem dX9_tidesNow_61 : decode cX9_tidesNow 61 = .ok (.iload 7, 2) := by decide +kernel
theorem dX9_tidesNow_63 : decode cX9_tidesNow 63 = .ok (.invokevirtual 161, 3) := by decide +kernel
theorem dX9_tidesNow_66 : decode cX9_tidesNow 66 = .ok (.iconst 1, 1) := by decide +kernel
theorem dX9_tidesNow_67 : decode cX9_tidesNow 67 = .ok (.if_icmp .ne 7, 3) := by decide +kernel
theorem dX9_tidesNow_70 : decode cX9_tidesNow 70 = .ok (.iconst 1, 1) := by decide +kernel
theorem dX9_tidesNow_71 : decode cX9_tidesNow 71 = .ok (.goto 4, 3) := by decide +kernel
theorem dX9_tidesNow_74 : decode cX9_tidesNow 74 = .ok (.iconst 0, 1) := by decide +kernel
theorem dX9_tidesNow_75 : decode cX9_tidesNow 75 = .ok (.iadd, 1) := by decide +kernel
theorem dX9_tidesNow_76 : decode cX9_tidesNow 76 = .ok (.istore 4, 2) := by decide +kernel
theorem dX9_tidesNow_78 : decode cX9_tidesNow 78 = .ok (.iload 5, 2) := by decide +kernel
theorem dX9_tidesNow_80 : decode cX9_tidesNow 80 = .ok (.aload_n 0, 1) := by decide +kernel
theorem dX9_tidesNow_81 : decode cX9_tidesNow 81 = .ok (.iload 7, 2) := by decide +kernel
theorem dX9_tidesNow_83 : decode cX9_tidesNow 83 = .ok (.invokevirtual 143, 3) := by decide +kernel
theorem dX9_tidesNow_86 : decode cX9_tidesNow 86 = .ok (.iadd, 1) := by decide +kernel
theorem dX9_tidesNow_87 : decode cX9_tidesNow 87 = .ok (.istore 5, 2) := by decide +kernel
theorem dX9_tidesNow_89 : decode cX9_tidesNow 89 = .ok (.aload_n 0, 1) := by decide +kernel
theorem dX9_tidesNow_90 : decode cX9_tidesNow 90 = .ok (.aload_n 0, 1) := by decide +kernel
theorem dX9_tidesNow_91 : decode cX9_tidesNow 91 = .ok (.getfield 112, 3) := by decide +kernel
theorem dX9_tidesNow_94 : decode cX9_tidesNow 94 = .ok (.invokevirtual 245, 3) := by decide +kernel
theorem dX9_tidesNow_97 : decode cX9_tidesNow 97 = .ok (.istore 8, 2) := by decide +kernel
theorem dX9_tidesNow_99 : decode cX9_tidesNow 99 = .ok (.aload_n 0, 1) := by decide +kernel
theorem dX9_tidesNow_100 : decode cX9_tidesNow 100 = .ok (.getfield 16, 3) := by decide +kernel
theorem dX9_tidesNow_103 : decode cX9_tidesNow 103 = .ok (.iconst 3, 1) := by decide +kernel
theorem dX9_tidesNow_104 : decode cX9_tidesNow 104 = .ok (.iload 8, 2) := by decide +kernel
theorem dX9_tidesNow_106 : decode cX9_tidesNow 106 = .ok (.imul, 1) := by decide +kernel
theorem dX9_tidesNow_107 : decode cX9_tidesNow 107 = .ok (.iload 7, 2) := by decide +kernel
theorem dX9_tidesNow_109 : decode cX9_tidesNow 109 = .ok (.iadd, 1) := by decide +kernel
theorem dX9_tidesNow_110 : decode cX9_tidesNow 110 = .ok (.iaload, 1) := by decide +kernel
theorem dX9_tidesNow_111 : decode cX9_tidesNow 111 = .ok (.istore 9, 2) := by decide +kernel
theorem dX9_tidesNow_113 : decode cX9_tidesNow 113 = .ok (.aload_n 0, 1) := by decide +kernel
theorem dX9_tidesNow_114 : decode cX9_tidesNow 114 = .ok (.getfield 16, 3) := by decide +kernel
theorem dX9_tidesNow_117 : decode cX9_tidesNow 117 = .ok (.iconst 3, 1) := by decide +kernel
theorem dX9_tidesNow_118 : decode cX9_tidesNow 118 = .ok (.iload 8, 2) := by decide +kernel
theorem dX9_tidesNow_120 : decode cX9_tidesNow 120 = .ok (.imul, 1) := by decide +kernel
theorem dX9_tidesNow_121 : decode cX9_tidesNow 121 = .ok (.iload 7, 2) := by decide +kernel
theorem dX9_tidesNow_123 : decode cX9_tidesNow 123 = .ok (.iadd, 1) := by decide +kernel
theorem dX9_tidesNow_124 : decode cX9_tidesNow 124 = .ok (.iload 9, 2) := by decide +kernel
theorem dX9_tidesNow_126 : decode cX9_tidesNow 126 = .ok (.iconst 1, 1) := by decide +kernel
theorem dX9_tidesNow_127 : decode cX9_tidesNow 127 = .ok (.if_icmp .ne 7, 3) := by decide +kernel
theorem dX9_tidesNow_130 : decode cX9_tidesNow 130 = .ok (.iconst (-1), 1) := by decide +kernel
theorem dX9_tidesNow_131 : decode cX9_tidesNow 131 = .ok (.goto 7, 3) := by decide +kernel
theorem dX9_tidesNow_134 : decode cX9_tidesNow 134 = .ok (.iload 9, 2) := by decide +kernel
theorem dX9_tidesNow_136 : decode cX9_tidesNow 136 = .ok (.iconst 1, 1) := by decide +kernel
theorem dX9_tidesNow_137 : decode cX9_tidesNow 137 = .ok (.iadd, 1) := by decide +kernel
theorem dX9_tidesNow_138 : decode cX9_tidesNow 138 = .ok (.iastore, 1) := by decide +kernel
theorem dX9_tidesNow_139 : decode cX9_tidesNow 139 = .ok (.aload_n 0, 1) := by decide +kernel
theorem dX9_tidesNow_140 : decode cX9_tidesNow 140 = .ok (.invokevirtual 173, 3) := by decide +kernel
theorem dX9_tidesNow_143 : decode cX9_tidesNow 143 = .ok (.iinc 6 1, 3) := by decide +kernel
theorem dX9_tidesNow_146 : decode cX9_tidesNow 146 = .ok (.goto (-101), 3) := by decide +kernel
theorem dX9_tidesNow_149 : decode cX9_tidesNow 149 = .ok (.iconst 0, 1) := by decide +kernel
theorem dX9_tidesNow_150 : decode cX9_tidesNow 150 = .ok (.istore 6, 2) := by decide +kernel
theorem dX9_tidesNow_152 : decode cX9_tidesNow 152 = .ok (.iload 6, 2) := by decide +kernel
theorem dX9_tidesNow_154 : decode cX9_tidesNow 154 = .ok (.bipush 24, 2) := by decide +kernel
theorem dX9_tidesNow_156 : decode cX9_tidesNow 156 = .ok (.if_icmp .ge 23, 3) := by decide +kernel
theorem dX9_tidesNow_159 : decode cX9_tidesNow 159 = .ok (.aload_n 0, 1) := by decide +kernel
theorem dX9_tidesNow_160 : decode cX9_tidesNow 160 = .ok (.getfield 16, 3) := by decide +kernel
theorem dX9_tidesNow_163 : decode cX9_tidesNow 163 = .ok (.iload 6, 2) := by decide +kernel
theorem dX9_tidesNow_165 : decode cX9_tidesNow 165 = .ok (.aload_n 0, 1) := by decide +kernel
theorem dX9_tidesNow_166 : decode cX9_tidesNow 166 = .ok (.getfield 51, 3) := by decide +kernel
end
section
theorem dX9_tidesNow_169 : decode cX9_tidesNow 169 = .ok (.iload 6, 2) := by decide +kernel
theorem dX9_tidesNow_171 : decode cX9_tidesNow 171 = .ok (.iaload, 1) := by decide +kernel
theorem dX9_tidesNow_172 : decode cX9_tidesNow 172 = .ok (.iastore, 1) := by decide +kernel
theorem dX9_tidesNow_173 : decode cX9_tidesNow 173 = .ok (.iinc 6 1, 3) := by decide +kernel
theorem dX9_tidesNow_176 : decode cX9_tidesNow 176 = .ok (.goto (-24), 3) := by decide +kernel
theorem dX9_tidesNow_179 : decode cX9_tidesNow 179 = .ok (.iload_n 3, 1) := by decide +kernel
theorem dX9_tidesNow_180 : decode cX9_tidesNow 180 = .ok (.ifCond .ne 8, 3) := by decide +kernel
theorem dX9_tidesNow_183 : decode cX9_tidesNow 183 = .ok (.iload 4, 2) := by decide +kernel
theorem dX9_tidesNow_185 : decode cX9_tidesNow 185 = .ok (.goto 22, 3) := by decide +kernel
theorem dX9_tidesNow_188 : decode cX9_tidesNow 188 = .ok (.iload_n 3, 1) := by decide +kernel
theorem dX9_tidesNow_189 : decode cX9_tidesNow 189 = .ok (.iconst 1, 1) := by decide +kernel
theorem dX9_tidesNow_190 : decode cX9_tidesNow 190 = .ok (.if_icmp .ne 12, 3) := by decide +kernel
theorem dX9_tidesNow_193 : decode cX9_tidesNow 193 = .ok (.iload 5, 2) := by decide +kernel
theorem dX9_tidesNow_195 : decode cX9_tidesNow 195 = .ok (.sipush 10000, 3) := by decide +kernel
theorem dX9_tidesNow_198 : decode cX9_tidesNow 198 = .ok (.iadd, 1) := by decide +kernel
theorem dX9_tidesNow_199 : decode cX9_tidesNow 199 = .ok (.goto 8, 3) := by decide +kernel
theorem dX9_tidesNow_202 : decode cX9_tidesNow 202 = .ok (.aload_n 0, 1) := by decide +kernel
theorem dX9_tidesNow_203 : decode cX9_tidesNow 203 = .ok (.getfield 235, 3) := by decide +kernel
theorem dX9_tidesNow_206 : decode cX9_tidesNow 206 = .ok (.l2i, 1) := by decide +kernel
theorem dX9_tidesNow_207 : decode cX9_tidesNow 207 = .ok (.ireturn, 1) := by decide +kernel
theorem dX9_tides_0 : decode cX9_tides 0 = .ok (.iload_n 1, 1) := by decide +kernel
theorem dX9_tides_1 : decode cX9_tides 1 = .ok (.iconst 1, 1) := by decide +kernel
theorem dX9_tides_2 : decode cX9_tides 2 = .ok (.bipush 60, 2) := by decide +kernel
theorem dX9_tides_4 : decode cX9_tides 4 = .ok (.invokestatic 79, 3) := by decide +kernel
theorem dX9_tides_7 : decode cX9_tides 7 = .ok (.ifCond .eq 16, 3) := by decide +kernel
theorem dX9_tides_10 : decode cX9_tides 10 = .ok (.iload_n 2, 1) := by decide +kernel
theorem dX9_tides_11 : decode cX9_tides 11 = .ok (.ifCond .lt 12, 3) := by decide +kernel
theorem dX9_tides_14 : decode cX9_tides 14 = .ok (.iload_n 3, 1) := by decide +kernel
theorem dX9_tides_15 : decode cX9_tides 15 = .ok (.iconst 0, 1) := by decide +kernel
theorem dX9_tides_16 : decode cX9_tides 16 = .ok (.iconst 2, 1) := by decide +kernel
theorem dX9_tides_17 : decode cX9_tides 17 = .ok (.invokestatic 79, 3) := by decide +kernel
theorem dX9_tides_20 : decode cX9_tides 20 = .ok (.ifCond .ne 6, 3) := by decide +kernel
theorem dX9_tides_23 : decode cX9_tides 23 = .ok (.bipush (-102), 2) := by decide +kernel
theorem dX9_tides_25 : decode cX9_tides 25 = .ok (.ireturn, 1) := by decide +kernel
theorem dX9_tides_26 : decode cX9_tides 26 = .ok (.aload_n 0, 1) := by decide +kernel
theorem dX9_tides_27 : decode cX9_tides 27 = .ok (.getfield 112, 3) := by decide +kernel
theorem dX9_tides_30 : decode cX9_tides 30 = .ok (.ifCond .ne 8, 3) := by decide +kernel
theorem dX9_tides_33 : decode cX9_tides 33 = .ok (.bipush (-103), 2) := by decide +kernel
theorem dX9_tides_35 : decode cX9_tides 35 = .ok (.goto 10, 3) := by decide +kernel
theorem dX9_tides_38 : decode cX9_tides 38 = .ok (.aload_n 0, 1) := by decide +kernel
theorem dX9_tides_39 : decode cX9_tides 39 = .ok (.iload_n 1, 1) := by decide +kernel
theorem dX9_tides_40 : decode cX9_tides 40 = .ok (.iload_n 2, 1) := by decide +kernel
theorem dX9_tides_41 : decode cX9_tides 41 = .ok (.iload_n 3, 1) := by decide +kernel
theorem dX9_tides_42 : decode cX9_tides 42 = .ok (.invokevirtual 248, 3) := by decide +kernel
theorem dX9_tides_45 : decode cX9_tides 45 = .ok (.ireturn, 1) := by decide +kernel
theorem dX9_image_0 : decode cX9_image 0 = .ok (.aload_n 0, 1) := by decide +kernel
theorem dX9_image_1 : decode cX9_image 1 = .ok (.getfield 112, 3) := by decide +kernel
theorem dX9_image_4 : decode cX9_image 4 = .ok (.ifCond .ne 6, 3) := by decide +kernel
theorem dX9_image_7 : decode cX9_image 7 = .ok (.bipush (-103), 2) := by decide +kernel
theorem dX9_image_9 : decode cX9_image 9 = .ok (.ireturn, 1) := by decide +kernel
theorem dX9_image_10 : decode cX9_image 10 = .ok (.aload_n 0, 1) := by decide +kernel
theorem dX9_image_11 : decode cX9_image 11 = .ok (.iconst 1, 1) := by decide +kernel
theorem dX9_image_12 : decode cX9_image 12 = .ok (.putfield 251, 3) := by decide +kernel
theorem dX9_image_15 : decode cX9_image 15 = .ok (.aload_n 0, 1) := by decide +kernel
theorem dX9_image_16 : decode cX9_image 16 = .ok (.aload_n 0, 1) := by decide +kernel
theorem dX9_image_17 : decode cX9_image 17 = .ok (.getfield 121, 3) := by decide +kernel
theorem dX9_image_20 : decode cX9_image 20 = .ok (.putfield 254, 3) := by decide +kernel
theorem dX9_image_23 : decode cX9_image 23 = .ok (.aload_n 0, 1) := by decide +kernel
theorem dX9_image_24 : decode cX9_image 24 = .ok (.aload_n 0, 1) := by decide +kernel
theorem dX9_image_25 : decode cX9_image 25 = .ok (.getfield 115, 3) := by decide +kernel
theorem dX9_image_28 : decode cX9_image 28 = .ok (.putfield 257, 3) := by decide +kernel
theorem dX9_image_31 : decode cX9_image 31 = .ok (.aload_n 0, 1) := by decide +kernel
theorem dX9_image_32 : decode cX9_image 32 = .ok (.aload_n 0, 1) := by decide +kernel
theorem dX9_image_33 : decode cX9_image 33 = .ok (.getfield 118, 3) := by decide +kernel
theorem dX9_image_36 : decode cX9_image 36 = .ok (.putfield 260, 3) := by decide +kernel
theorem dX9_image_39 : decode cX9_image 39 = .ok (.aload_n 0, 1) := by decide +kernel
theorem dX9_image_40 : decode cX9_image 40 = .ok (.aload_n 0, 1) := by decide +kernel
theorem dX9_image_41 : decode cX9_image 41 = .ok (.getfield 124, 3) := by decide +kernel
theorem dX9_image_44 : decode cX9_image 44 = .ok (.putfield 263, 3) := by decide +kernel
theorem dX9_image_47 : decode cX9_image 47 = .ok (.iconst 0, 1) := by decide +kernel
theorem dX9_image_48 : decode cX9_image 48 = .ok (.istore_n 1, 1) := by decide +kernel
theorem dX9_image_49 : decode cX9_image 49 = .ok (.iload_n 1, 1) := by decide +kernel
theorem dX9_image_50 : decode cX9_image 50 = .ok (.bipush 8, 2) := by decide +kernel
theorem dX9_image_52 : decode cX9_image 52 = .ok (.if_icmp .ge 21, 3) := by decide +kernel
theorem dX9_image_55 : decode cX9_image 55 = .ok (.aload_n 0, 1) := by decide +kernel
theorem dX9_image_56 : decode cX9_image 56 = .ok (.getfield 54, 3) := by decide +kernel
theorem dX9_image_59 : decode cX9_image 59 = .ok (.iload_n 1, 1) := by decide +kernel
theorem dX9_image_60 : decode cX9_image 60 = .ok (.aload_n 0, 1) := by decide +kernel
theorem dX9_image_61 : decode cX9_image 61 = .ok (.getfield 13, 3) := by decide +kernel
theorem dX9_image_64 : decode cX9_image 64 = .ok (.iload_n 1, 1) := by decide +kernel
theorem dX9_image_65 : decode cX9_image 65 = .ok (.iaload, 1) := by decide +kernel
theorem dX9_image_66 : decode cX9_image 66 = .ok (.iastore, 1) := by decide +kernel
theorem dX9_image_67 : decode cX9_image 67 = .ok (.iinc 1 1, 3) := by decide +kernel
theorem dX9_image_70 : decode cX9_image 70 = .ok (.goto (-21), 3) := by decide +kernel
theorem dX9_image_73 : decode cX9_image 73 = .ok (.iconst 0, 1) := by decide +kernel
theorem dX9_image_74 : decode cX9_image 74 = .ok (.istore_n 1, 1) := by decide +kernel
theorem dX9_image_75 : decode cX9_image 75 = .ok (.iload_n 1, 1) := by decide +kernel
theorem dX9_image_76 : decode cX9_image 76 = .ok (.bipush 24, 2) := by decide +kernel
theorem dX9_image_78 : decode cX9_image 78 = .ok (.if_icmp .ge 21, 3) := by decide +kernel
theorem dX9_image_81 : decode cX9_image 81 = .ok (.aload_n 0, 1) := by decide +kernel
theorem dX9_image_82 : decode cX9_image 82 = .ok (.getfield 57, 3) := by decide +kernel
theorem dX9_image_85 : decode cX9_image 85 = .ok (.iload_n 1, 1) := by decide +kernel
theorem dX9_image_86 : decode cX9_image 86 = .ok (.aload_n 0, 1) := by decide +kernel
theorem dX9_image_87 : decode cX9_image 87 = .ok (.getfield 16, 3) := by decide +kernel
theorem dX9_image_90 : decode cX9_image 90 = .ok (.iload_n 1, 1) := by decide +kernel
theorem dX9_image_91 : decode cX9_image 91 = .ok (.iaload, 1) := by decide +kernel
theorem dX9_image_92 : decode cX9_image 92 = .ok (.iastore, 1) := by decide +kernel
theorem dX9_image_93 : decode cX9_image 93 = .ok (.iinc 1 1, 3) := by decide +kernel
theorem dX9_image_96 : decode cX9_image 96 = .ok (.goto (-21), 3) := by decide +kernel
theorem dX9_image_99 : decode cX9_image 99 = .ok (.iconst 0, 1) := by decide +kernel
theorem dX9_image_100 : decode cX9_image 100 = .ok (.istore_n 1, 1) := by decide +kernel
theorem dX9_image_101 : decode cX9_image 101 = .ok (.iload_n 1, 1) := by decide +kernel
theorem dX9_image_102 : decode cX9_image 102 = .ok (.iconst 3, 1) := by decide +kernel
theorem dX9_image_103 : decode cX9_image 103 = .ok (.if_icmp .ge 33, 3) := by decide +kernel
theorem dX9_image_106 : decode cX9_image 106 = .ok (.aload_n 0, 1) := by decide +kernel
theorem dX9_image_107 : decode cX9_image 107 = .ok (.getfield 60, 3) := by decide +kernel
theorem dX9_image_110 : decode cX9_image 110 = .ok (.iload_n 1, 1) := by decide +kernel
theorem dX9_image_111 : decode cX9_image 111 = .ok (.aload_n 0, 1) := by decide +kernel
theorem dX9_image_112 : decode cX9_image 112 = .ok (.getfield 19, 3) := by decide +kernel
theorem dX9_image_115 : decode cX9_image 115 = .ok (.iload_n 1, 1) := by decide +kernel
theorem dX9_image_116 : decode cX9_image 116 = .ok (.iaload, 1) := by decide +kernel
theorem dX9_image_117 : decode cX9_image 117 = .ok (.iastore, 1) := by decide +kernel
theorem dX9_image_118 : decode cX9_image 118 = .ok (.aload_n 0, 1) := by decide +kernel
theorem dX9_image_119 : decode cX9_image 119 = .ok (.getfield 63, 3) := by decide +kernel
theorem dX9_image_122 : decode cX9_image 122 = .ok (.iload_n 1, 1) := by decide +kernel
theorem dX9_image_123 : decode cX9_image 123 = .ok (.aload_n 0, 1) := by decide +kernel
theorem dX9_image_124 : decode cX9_image 124 = .ok (.getfield 22, 3) := by decide +kernel
theorem dX9_image_127 : decode cX9_image 127 = .ok (.iload_n 1, 1) := by decide +kernel
theorem dX9_image_128 : decode cX9_image 128 = .ok (.iaload, 1) := by decide +kernel
theorem dX9_image_129 : decode cX9_image 129 = .ok (.iastore, 1) := by decide +kernel
theorem dX9_image_130 : decode cX9_image 130 = .ok (.iinc 1 1, 3) := by decide +kernel
theorem dX9_image_133 : decode cX9_image 133 = .ok (.goto (-32), 3) := by decide +kernel
theorem dX9_image_136 : decode cX9_image 136 = .ok (.iconst 0, 1) := by decide +kernel
theorem dX9_image_137 : decode cX9_image 137 = .ok (.istore_n 1, 1) := by decide +kernel
theorem dX9_image_138 : decode cX9_image 138 = .ok (.iload_n 1, 1) := by decide +kernel
theorem dX9_image_139 : decode cX9_image 139 = .ok (.bipush 6, 2) := by decide +kernel
theorem dX9_image_141 : decode cX9_image 141 = .ok (.if_icmp .ge 45, 3) := by decide +kernel
theorem dX9_image_144 : decode cX9_image 144 = .ok (.aload_n 0, 1) := by decide +kernel
theorem dX9_image_145 : decode cX9_image 145 = .ok (.getfield 66, 3) := by decide +kernel
theorem dX9_image_148 : decode cX9_image 148 = .ok (.iload_n 1, 1) := by decide +kernel
theorem dX9_image_149 : decode cX9_image 149 = .ok (.aload_n 0, 1) := by decide +kernel
theorem dX9_image_150 : decode cX9_image 150 = .ok (.getfield 25, 3) := by decide +kernel
theorem dX9_image_153 : decode cX9_image 153 = .ok (.iload_n 1, 1) := by decide +kernel
theorem dX9_image_154 : decode cX9_image 154 = .ok (.iaload, 1) := by decide +kernel
theorem dX9_image_155 : decode cX9_image 155 = .ok (.iastore, 1) := by decide +kernel
theorem dX9_image_156 : decode cX9_image 156 = .ok (.aload_n 0, 1) := by decide +kernel
theorem dX9_image_157 : decode cX9_image 157 = .ok (.getfield 69, 3) := by decide +kernel
theorem dX9_image_160 : decode cX9_image 160 = .ok (.iload_n 1, 1) := by decide +kernel
theorem dX9_image_161 : decode cX9_image 161 = .ok (.aload_n 0, 1) := by decide +kernel
theorem dX9_image_162 : decode cX9_image 162 = .ok (.getfield 28, 3) := by decide +kernel
theorem dX9_image_165 : decode cX9_image 165 = .ok (.iload_n 1, 1) := by decide +kernel
theorem dX9_image_166 : decode cX9_image 166 = .ok (.iaload, 1) := by decide +kernel
theorem dX9_image_167 : decode cX9_image 167 = .ok (.iastore, 1) := by decide +kernel
theorem dX9_image_168 : decode cX9_image 168 = .ok (.aload_n 0, 1) := by decide +kernel
theorem dX9_image_169 : decode cX9_image 169 = .ok (.getfield 72, 3) := by decide +kernel
theorem dX9_image_172 : decode cX9_image 172 = .ok (.iload_n 1, 1) := by decide +kernel
theorem dX9_image_173 : decode cX9_image 173 = .ok (.aload_n 0, 1) := by decide +kernel
theorem dX9_image_174 : decode cX9_image 174 = .ok (.getfield 31, 3) := by decide +kernel
theorem dX9_image_177 : decode cX9_image 177 = .ok (.iload_n 1, 1) := by decide +kernel
theorem dX9_image_178 : decode cX9_image 178 = .ok (.iaload, 1) := by decide +kernel
theorem dX9_image_179 : decode cX9_image 179 = .ok (.iastore, 1) := by decide +kernel
theorem dX9_image_180 : decode cX9_image 180 = .ok (.iinc 1 1, 3) := by decide +kernel
theorem dX9_image_183 : decode cX9_image 183 = .ok (.goto (-45), 3) := by decide +kernel
theorem dX9_image_186 : decode cX9_image 186 = .ok (.aload_n 0, 1) := by decide +kernel
theorem dX9_image_187 : decode cX9_image 187 = .ok (.getfield 118, 3) := by decide +kernel
theorem dX9_image_190 : decode cX9_image 190 = .ok (.ireturn, 1) := by decide +kernel
theorem dX9_restore_0 : decode cX9_restore 0 = .ok (.aload_n 0, 1) := by decide +kernel
theorem dX9_restore_1 : decode cX9_restore 1 = .ok (.getfield 251, 3) := by decide +kernel
theorem dX9_restore_4 : decode cX9_restore 4 = .ok (.ifCond .eq 14, 3) := by decide +kernel
theorem dX9_restore_7 : decode cX9_restore 7 = .ok (.aload_n 0, 1) := by decide +kernel
theorem dX9_restore_8 : decode cX9_restore 8 = .ok (.getfield 254, 3) := by decide +kernel
theorem dX9_restore_11 : decode cX9_restore 11 = .ok (.aload_n 0, 1) := by decide +kernel
theorem dX9_restore_12 : decode cX9_restore 12 = .ok (.getfield 121, 3) := by decide +kernel
theorem dX9_restore_15 : decode cX9_restore 15 = .ok (.if_icmp .eq 6, 3) := by decide +kernel
theorem dX9_restore_18 : decode cX9_restore 18 = .ok (.bipush (-103), 2) := by decide +kernel
theorem dX9_restore_20 : decode cX9_restore 20 = .ok (.ireturn, 1) := by decide +kernel
theorem dX9_restore_21 : decode cX9_restore 21 = .ok (.aload_n 0, 1) := by decide +kernel
theorem dX9_restore_22 : decode cX9_restore 22 = .ok (.aload_n 0, 1) := by decide +kernel
theorem dX9_restore_23 : decode cX9_restore 23 = .ok (.getfield 257, 3) := by decide +kernel
theorem dX9_restore_26 : decode cX9_restore 26 = .ok (.putfield 115, 3) := by decide +kernel
theorem dX9_restore_29 : decode cX9_restore 29 = .ok (.aload_n 0, 1) := by decide +kernel
theorem dX9_restore_30 : decode cX9_restore 30 = .ok (.aload_n 0, 1) := by decide +kernel
theorem dX9_restore_31 : decode cX9_restore 31 = .ok (.getfield 260, 3) := by decide +kernel
theorem dX9_restore_34 : decode cX9_restore 34 = .ok (.putfield 118, 3) := by decide +kernel
theorem dX9_restore_37 : decode cX9_restore 37 = .ok (.aload_n 0, 1) := by decide +kernel
theorem dX9_restore_38 : decode cX9_restore 38 = .ok (.aload_n 0, 1) := by decide +kernel
theorem dX9_restore_39 : decode cX9_restore 39 = .ok (.getfield 263, 3) := by decide +kernel
theorem dX9_restore_42 : decode cX9_restore 42 = .ok (.putfield 124, 3) := by decide +kernel
theorem dX9_restore_45 : decode cX9_restore 45 = .ok (.iconst 0, 1) := by decide +kernel
theorem dX9_restore_46 : decode cX9_restore 46 = .ok (.istore_n 1, 1) := by decide +kernel
theorem dX9_restore_47 : decode cX9_restore 47 = .ok (.iload_n 1, 1) := by decide +kernel
theorem dX9_restore_48 : decode cX9_restore 48 = .ok (.bipush 8, 2) := by decide +kernel
theorem dX9_restore_50 : decode cX9_restore 50 = .ok (.if_icmp .ge 21, 3) := by decide +kernel
theorem dX9_restore_53 : decode cX9_restore 53 = .ok (.aload_n 0, 1) := by decide +kernel
theorem dX9_restore_54 : decode cX9_restore 54 = .ok (.getfield 13, 3) := by decide +kernel
theorem dX9_restore_57 : decode cX9_restore 57 = .ok (.iload_n 1, 1) := by decide +kernel
theorem dX9_restore_58 : decode cX9_restore 58 = .ok (.aload_n 0, 1) := by decide +kernel
theorem dX9_restore_59 : decode cX9_restore 59 = .ok (.getfield 54, 3) := by decide +kernel
theorem dX9_restore_62 : decode cX9_restore 62 = .ok (.iload_n 1, 1) := by decide +kernel
theorem dX9_restore_63 : decode cX9_restore 63 = .ok (.iaload, 1) := by decide +kernel
theorem dX9_restore_64 : decode cX9_restore 64 = .ok (.iastore, 1) := by decide +kernel
theorem dX9_restore_65 : decode cX9_restore 65 = .ok (.iinc 1 1, 3) := by decide +kernel
theorem dX9_restore_68 : decode cX9_restore 68 = .ok (.goto (-21), 3) := by decide +kernel
theorem dX9_restore_71 : decode cX9_restore 71 = .ok (.iconst 0, 1) := by decide +kernel
theorem dX9_restore_72 : decode cX9_restore 72 = .ok (.istore_n 1, 1) := by decide +kernel
theorem dX9_restore_73 : decode cX9_restore 73 = .ok (.iload_n 1, 1) := by decide +kernel
theorem dX9_restore_74 : decode cX9_restore 74 = .ok (.bipush 24, 2) := by decide +kernel
theorem dX9_restore_76 : decode cX9_restore 76 = .ok (.if_icmp .ge 21, 3) := by decide +kernel
theorem dX9_restore_79 : decode cX9_restore 79 = .ok (.aload_n 0, 1) := by decide +kernel
theorem dX9_restore_80 : decode cX9_restore 80 = .ok (.getfield 16, 3) := by decide +kernel
theorem dX9_restore_83 : decode cX9_restore 83 = .ok (.iload_n 1, 1) := by decide +kernel
theorem dX9_restore_84 : decode cX9_restore 84 = .ok (.aload_n 0, 1) := by decide +kernel
theorem dX9_restore_85 : decode cX9_restore 85 = .ok (.getfield 57, 3) := by decide +kernel
theorem dX9_restore_88 : decode cX9_restore 88 = .ok (.iload_n 1, 1) := by decide +kernel
theorem dX9_restore_89 : decode cX9_restore 89 = .ok (.iaload, 1) := by decide +kernel
theorem dX9_restore_90 : decode cX9_restore 90 = .ok (.iastore, 1) := by decide +kernel
theorem dX9_restore_91 : decode cX9_restore 91 = .ok (.iinc 1 1, 3) := by decide +kernel
theorem dX9_restore_94 : decode cX9_restore 94 = .ok (.goto (-21), 3) := by decide +kernel
theorem dX9_restore_97 : decode cX9_restore 97 = .ok (.iconst 0, 1) := by decide +kernel
theorem dX9_restore_98 : decode cX9_restore 98 = .ok (.istore_n 1, 1) := by decide +kernel
theorem dX9_restore_99 : decode cX9_restore 99 = .ok (.iload_n 1, 1) := by decide +kernel
theorem dX9_restore_100 : decode cX9_restore 100 = .ok (.iconst 3, 1) := by decide +kernel
theorem dX9_restore_101 : decode cX9_restore 101 = .ok (.if_icmp .ge 33, 3) := by decide +kernel
theorem dX9_restore_104 : decode cX9_restore 104 = .ok (.aload_n 0, 1) := by decide +kernel
theorem dX9_restore_105 : decode cX9_restore 105 = .ok (.getfield 19, 3) := by decide +kernel
theorem dX9_restore_108 : decode cX9_restore 108 = .ok (.iload_n 1, 1) := by decide +kernel
theorem dX9_restore_109 : decode cX9_restore 109 = .ok (.aload_n 0, 1) := by decide +kernel
theorem dX9_restore_110 : decode cX9_restore 110 = .ok (.getfield 60, 3) := by decide +kernel
theorem dX9_restore_113 : decode cX9_restore 113 = .ok (.iload_n 1, 1) := by decide +kernel
theorem dX9_restore_114 : decode cX9_restore 114 = .ok (.iaload, 1) := by decide +kernel
theorem dX9_restore_115 : decode cX9_restore 115 = .ok (.iastore, 1) := by decide +kernel
theorem dX9_restore_116 : decode cX9_restore 116 = .ok (.aload_n 0, 1) := by decide +kernel
theorem dX9_restore_117 : decode cX9_restore 117 = .ok (.getfield 22, 3) := by decide +kernel
theorem dX9_restore_120 : decode cX9_restore 120 = .ok (.iload_n 1, 1) := by decide +kernel
theorem dX9_restore_121 : decode cX9_restore 121 = .ok (.aload_n 0, 1) := by decide +kernel
theorem dX9_restore_122 : decode cX9_restore 122 = .ok (.getfield 63, 3) := by decide +kernel
theorem dX9_restore_125 : decode cX9_restore 125 = .ok (.iload_n 1, 1) := by decide +kernel
theorem dX9_restore_126 : decode cX9_restore 126 = .ok (.iaload, 1) := by decide +kernel
theorem dX9_restore_127 : decode cX9_restore 127 = .ok (.iastore, 1) := by decide +kernel
theorem dX9_restore_128 : decode cX9_restore 128 = .ok (.iinc 1 1, 3) := by decide +kernel
theorem dX9_restore_131 : decode cX9_restore 131 = .ok (.goto (-32), 3) := by decide +kernel
theorem dX9_restore_134 : decode cX9_restore 134 = .ok (.iconst 0, 1) := by decide +kernel
theorem dX9_restore_135 : decode cX9_restore 135 = .ok (.istore_n 1, 1) := by decide +kernel
theorem dX9_restore_136 : decode cX9_restore 136 = .ok (.iload_n 1, 1) := by decide +kernel
theorem dX9_restore_137 : decode cX9_restore 137 = .ok (.bipush 6, 2) := by decide +kernel
theorem dX9_restore_139 : decode cX9_restore 139 = .ok (.if_icmp .ge 45, 3) := by decide +kernel
theorem dX9_restore_142 : decode cX9_restore 142 = .ok (.aload_n 0, 1) := by decide +kernel
theorem dX9_restore_143 : decode cX9_restore 143 = .ok (.getfield 25, 3) := by decide +kernel
theorem dX9_restore_146 : decode cX9_restore 146 = .ok (.iload_n 1, 1) := by decide +kernel
theorem dX9_restore_147 : decode cX9_restore 147 = .ok (.aload_n 0, 1) := by decide +kernel
theorem dX9_restore_148 : decode cX9_restore 148 = .ok (.getfield 66, 3) := by decide +kernel
theorem dX9_restore_151 : decode cX9_restore 151 = .ok (.iload_n 1, 1) := by decide +kernel
theorem dX9_restore_152 : decode cX9_restore 152 = .ok (.iaload, 1) := by decide +kernel
theorem dX9_restore_153 : decode cX9_restore 153 = .ok (.iastore, 1) := by decide +kernel
theorem dX9_restore_154 : decode cX9_restore 154 = .ok (.aload_n 0, 1) := by decide +kernel
theorem dX9_restore_155 : decode cX9_restore 155 = .ok (.getfield 28, 3) := by decide +kernel
theorem dX9_restore_158 : decode cX9_restore 158 = .ok (.iload_n 1, 1) := by decide +kernel
theorem dX9_restore_159 : decode cX9_restore 159 = .ok (.aload_n 0, 1) := by decide +kernel
theorem dX9_restore_160 : decode cX9_restore 160 = .ok (.getfield 69, 3) := by decide +kernel
theorem dX9_restore_163 : decode cX9_restore 163 = .ok (.iload_n 1, 1) := by decide +kernel
theorem dX9_restore_164 : decode cX9_restore 164 = .ok (.iaload, 1) := by decide +kernel
theorem dX9_restore_165 : decode cX9_restore 165 = .ok (.iastore, 1) := by decide +kernel
theorem dX9_restore_166 : decode cX9_restore 166 = .ok (.aload_n 0, 1) := by decide +kernel
theorem dX9_restore_167 : decode cX9_restore 167 = .ok (.getfield 31, 3) := by decide +kernel
theorem dX9_restore_170 : decode cX9_restore 170 = .ok (.iload_n 1, 1) := by decide +kernel
theorem dX9_restore_171 : decode cX9_restore 171 = .ok (.aload_n 0, 1) := by decide +kernel
theorem dX9_restore_172 : decode cX9_restore 172 = .ok (.getfield 72, 3) := by decide +kernel
theorem dX9_restore_175 : decode cX9_restore 175 = .ok (.iload_n 1, 1) := by decide +kernel
theorem dX9_restore_176 : decode cX9_restore 176 = .ok (.iaload, 1) := by decide +kernel
theorem dX9_restore_177 : decode cX9_restore 177 = .ok (.iastore, 1) := by decide +kernel
theorem dX9_restore_178 : decode cX9_restore 178 = .ok (.iinc 1 1, 3) := by decide +kernel
theorem dX9_restore_181 : decode cX9_restore 181 = .ok (.goto (-45), 3) := by decide +kernel
theorem dX9_restore_184 : decode cX9_restore 184 = .ok (.aload_n 0, 1) := by decide +kernel
theorem dX9_restore_185 : decode cX9_restore 185 = .ok (.getfield 118, 3) := by decide +kernel
theorem dX9_restore_188 : decode cX9_restore 188 = .ok (.ireturn, 1) := by decide +kernel
theorem dX9_weights_0 : decode cX9_weights 0 = .ok (.iconst 0, 1) := by decide +kernel
theorem dX9_weights_1 : decode cX9_weights 1 = .ok (.istore_n 1, 1) := by decide +kernel
theorem dX9_weights_2 : decode cX9_weights 2 = .ok (.iconst 0, 1) := by decide +kernel
theorem dX9_weights_3 : decode cX9_weights 3 = .ok (.istore_n 2, 1) := by decide +kernel
theorem dX9_weights_4 : decode cX9_weights 4 = .ok (.iload_n 2, 1) := by decide +kernel
theorem dX9_weights_5 : decode cX9_weights 5 = .ok (.aload_n 0, 1) := by decide +kernel
theorem dX9_weights_6 : decode cX9_weights 6 = .ok (.getfield 112, 3) := by decide +kernel
theorem dX9_weights_9 : decode cX9_weights 9 = .ok (.if_icmp .ge 18, 3) := by decide +kernel
theorem dX9_weights_12 : decode cX9_weights 12 = .ok (.iload_n 1, 1) := by decide +kernel
theorem dX9_weights_13 : decode cX9_weights 13 = .ok (.aload_n 0, 1) := by decide +kernel
theorem dX9_weights_14 : decode cX9_weights 14 = .ok (.getfield 13, 3) := by decide +kernel
theorem dX9_weights_17 : decode cX9_weights 17 = .ok (.iload_n 2, 1) := by decide +kernel
theorem dX9_weights_18 : decode cX9_weights 18 = .ok (.iaload, 1) := by decide +kernel
theorem dX9_weights_19 : decode cX9_weights 19 = .ok (.iadd, 1) := by decide +kernel
theorem dX9_weights_20 : decode cX9_weights 20 = .ok (.istore_n 1, 1) := by decide +kernel
theorem dX9_weights_21 : decode cX9_weights 21 = .ok (.iinc 2 1, 3) := by decide +kernel
theorem dX9_weights_24 : decode cX9_weights 24 = .ok (.goto (-20), 3) := by decide +kernel
theorem dX9_weights_27 : decode cX9_weights 27 = .ok (.iload_n 1, 1) := by decide +kernel
theorem dX9_weights_28 : decode cX9_weights 28 = .ok (.ireturn, 1) := by decide +kernel
theorem dX9_carriedNow_0 : decode cX9_carriedNow 0 = .ok (.iconst 0, 1) := by decide +kernel
theorem dX9_carriedNow_1 : decode cX9_carriedNow 1 = .ok (.istore_n 1, 1) := by decide +kernel
theorem dX9_carriedNow_2 : decode cX9_carriedNow 2 = .ok (.iconst 0, 1) := by decide +kernel
theorem dX9_carriedNow_3 : decode cX9_carriedNow 3 = .ok (.istore_n 2, 1) := by decide +kernel
theorem dX9_carriedNow_4 : decode cX9_carriedNow 4 = .ok (.iload_n 2, 1) := by decide +kernel
theorem dX9_carriedNow_5 : decode cX9_carriedNow 5 = .ok (.iconst 3, 1) := by decide +kernel
theorem dX9_carriedNow_6 : decode cX9_carriedNow 6 = .ok (.if_icmp .ge 26, 3) := by decide +kernel
theorem dX9_carriedNow_9 : decode cX9_carriedNow 9 = .ok (.iload_n 1, 1) := by decide +kernel
theorem dX9_carriedNow_10 : decode cX9_carriedNow 10 = .ok (.aload_n 0, 1) := by decide +kernel
theorem dX9_carriedNow_11 : decode cX9_carriedNow 11 = .ok (.iload_n 2, 1) := by decide +kernel
theorem dX9_carriedNow_12 : decode cX9_carriedNow 12 = .ok (.invokevirtual 161, 3) := by decide +kernel
theorem dX9_carriedNow_15 : decode cX9_carriedNow 15 = .ok (.iconst 1, 1) := by decide +kernel
theorem dX9_carriedNow_16 : decode cX9_carriedNow 16 = .ok (.if_icmp .ne 7, 3) := by decide +kernel
theorem dX9_carriedNow_19 : decode cX9_carriedNow 19 = .ok (.iconst 1, 1) := by decide +kernel
theorem dX9_carriedNow_20 : decode cX9_carriedNow 20 = .ok (.goto 4, 3) := by decide +kernel
theorem dX9_carriedNow_23 : decode cX9_carriedNow 23 = .ok (.iconst 0, 1) := by decide +kernel
theorem dX9_carriedNow_24 : decode cX9_carriedNow 24 = .ok (.iadd, 1) := by decide +kernel
theorem dX9_carriedNow_25 : decode cX9_carriedNow 25 = .ok (.istore_n 1, 1) := by decide +kernel
theorem dX9_carriedNow_26 : decode cX9_carriedNow 26 = .ok (.iinc 2 1, 3) := by decide +kernel
theorem dX9_carriedNow_29 : decode cX9_carriedNow 29 = .ok (.goto (-25), 3) := by decide +kernel
theorem dX9_carriedNow_32 : decode cX9_carriedNow 32 = .ok (.iload_n 1, 1) := by decide +kernel
theorem dX9_carriedNow_33 : decode cX9_carriedNow 33 = .ok (.ireturn, 1) := by decide +kernel
theorem dX9_howMany_0 : decode cX9_howMany 0 = .ok (.iload_n 1, 1) := by decide +kernel
theorem dX9_howMany_1 : decode cX9_howMany 1 = .ok (.tableswitch 161 0 11 #[63, 68, 76, 84, 89, 94, 115, 136, 141, 146, 151, 156], 63) := by decide +kernel
theorem dX9_howMany_64 : decode cX9_howMany 64 = .ok (.aload_n 0, 1) := by decide +kernel
theorem dX9_howMany_65 : decode cX9_howMany 65 = .ok (.getfield 112, 3) := by decide +kernel
theorem dX9_howMany_68 : decode cX9_howMany 68 = .ok (.ireturn, 1) := by decide +kernel
theorem dX9_howMany_69 : decode cX9_howMany 69 = .ok (.aload_n 0, 1) := by decide +kernel
theorem dX9_howMany_70 : decode cX9_howMany 70 = .ok (.invokevirtual 176, 3) := by decide +kernel
theorem dX9_howMany_73 : decode cX9_howMany 73 = .ok (.invokestatic 179, 3) := by decide +kernel
theorem dX9_howMany_76 : decode cX9_howMany 76 = .ok (.ireturn, 1) := by decide +kernel
theorem dX9_howMany_77 : decode cX9_howMany 77 = .ok (.aload_n 0, 1) := by decide +kernel
theorem dX9_howMany_78 : decode cX9_howMany 78 = .ok (.getfield 115, 3) := by decide +kernel
theorem dX9_howMany_81 : decode cX9_howMany 81 = .ok (.invokestatic 179, 3) := by decide +kernel
theorem dX9_howMany_84 : decode cX9_howMany 84 = .ok (.ireturn, 1) := by decide +kernel
theorem dX9_howMany_85 : decode cX9_howMany 85 = .ok (.aload_n 0, 1) := by decide +kernel
theorem dX9_howMany_86 : decode cX9_howMany 86 = .ok (.invokevirtual 266, 3) := by decide +kernel
theorem dX9_howMany_89 : decode cX9_howMany 89 = .ok (.ireturn, 1) := by decide +kernel
theorem dX9_howMany_90 : decode cX9_howMany 90 = .ok (.aload_n 0, 1) := by decide +kernel
theorem dX9_howMany_91 : decode cX9_howMany 91 = .ok (.getfield 118, 3) := by decide +kernel
theorem dX9_howMany_94 : decode cX9_howMany 94 = .ok (.ireturn, 1) := by decide +kernel
theorem dX9_howMany_95 : decode cX9_howMany 95 = .ok (.aload_n 0, 1) := by decide +kernel
theorem dX9_howMany_96 : decode cX9_howMany 96 = .ok (.getfield 19, 3) := by decide +kernel
theorem dX9_howMany_99 : decode cX9_howMany 99 = .ok (.iconst 0, 1) := by decide +kernel
theorem dX9_howMany_100 : decode cX9_howMany 100 = .ok (.iaload, 1) := by decide +kernel
theorem dX9_howMany_101 : decode cX9_howMany 101 = .ok (.aload_n 0, 1) := by decide +kernel
theorem dX9_howMany_102 : decode cX9_howMany 102 = .ok (.getfield 19, 3) := by decide +kernel
theorem dX9_howMany_105 : decode cX9_howMany 105 = .ok (.iconst 1, 1) := by decide +kernel
theorem dX9_howMany_106 : decode cX9_howMany 106 = .ok (.iaload, 1) := by decide +kernel
theorem dX9_howMany_107 : decode cX9_howMany 107 = .ok (.iadd, 1) := by decide +kernel
theorem dX9_howMany_108 : decode cX9_howMany 108 = .ok (.aload_n 0, 1) := by decide +kernel
theorem dX9_howMany_109 : decode cX9_howMany 109 = .ok (.getfield 19, 3) := by decide +kernel
theorem dX9_howMany_112 : decode cX9_howMany 112 = .ok (.iconst 2, 1) := by decide +kernel
theorem dX9_howMany_113 : decode cX9_howMany 113 = .ok (.iaload, 1) := by decide +kernel
theorem dX9_howMany_114 : decode cX9_howMany 114 = .ok (.iadd, 1) := by decide +kernel
theorem dX9_howMany_115 : decode cX9_howMany 115 = .ok (.ireturn, 1) := by decide +kernel
theorem dX9_howMany_116 : decode cX9_howMany 116 = .ok (.aload_n 0, 1) := by decide +kernel
theorem dX9_howMany_117 : decode cX9_howMany 117 = .ok (.getfield 22, 3) := by decide +kernel
theorem dX9_howMany_120 : decode cX9_howMany 120 = .ok (.iconst 0, 1) := by decide +kernel
theorem dX9_howMany_121 : decode cX9_howMany 121 = .ok (.iaload, 1) := by decide +kernel
theorem dX9_howMany_122 : decode cX9_howMany 122 = .ok (.aload_n 0, 1) := by decide +kernel
theorem dX9_howMany_123 : decode cX9_howMany 123 = .ok (.getfield 22, 3) := by decide +kernel
theorem dX9_howMany_126 : decode cX9_howMany 126 = .ok (.iconst 1, 1) := by decide +kernel
theorem dX9_howMany_127 : decode cX9_howMany 127 = .ok (.iaload, 1) := by decide +kernel
theorem dX9_howMany_128 : decode cX9_howMany 128 = .ok (.iadd, 1) := by decide +kernel
theorem dX9_howMany_129 : decode cX9_howMany 129 = .ok (.aload_n 0, 1) := by decide +kernel
theorem dX9_howMany_130 : decode cX9_howMany 130 = .ok (.getfield 22, 3) := by decide +kernel
theorem dX9_howMany_133 : decode cX9_howMany 133 = .ok (.iconst 2, 1) := by decide +kernel
theorem dX9_howMany_134 : decode cX9_howMany 134 = .ok (.iaload, 1) := by decide +kernel
theorem dX9_howMany_135 : decode cX9_howMany 135 = .ok (.iadd, 1) := by decide +kernel
theorem dX9_howMany_136 : decode cX9_howMany 136 = .ok (.ireturn, 1) := by decide +kernel
theorem dX9_howMany_137 : decode cX9_howMany 137 = .ok (.aload_n 0, 1) := by decide +kernel
theorem dX9_howMany_138 : decode cX9_howMany 138 = .ok (.invokevirtual 269, 3) := by decide +kernel
theorem dX9_howMany_141 : decode cX9_howMany 141 = .ok (.ireturn, 1) := by decide +kernel
theorem dX9_howMany_142 : decode cX9_howMany 142 = .ok (.aload_n 0, 1) := by decide +kernel
theorem dX9_howMany_143 : decode cX9_howMany 143 = .ok (.getfield 124, 3) := by decide +kernel
theorem dX9_howMany_146 : decode cX9_howMany 146 = .ok (.ireturn, 1) := by decide +kernel
theorem dX9_howMany_147 : decode cX9_howMany 147 = .ok (.aload_n 0, 1) := by decide +kernel
theorem dX9_howMany_148 : decode cX9_howMany 148 = .ok (.getfield 83, 3) := by decide +kernel
theorem dX9_howMany_151 : decode cX9_howMany 151 = .ok (.ireturn, 1) := by decide +kernel
theorem dX9_howMany_152 : decode cX9_howMany 152 = .ok (.aload_n 0, 1) := by decide +kernel
theorem dX9_howMany_153 : decode cX9_howMany 153 = .ok (.getfield 121, 3) := by decide +kernel
theorem dX9_howMany_156 : decode cX9_howMany 156 = .ok (.ireturn, 1) := by decide +kernel
theorem dX9_howMany_157 : decode cX9_howMany 157 = .ok (.aload_n 0, 1) := by decide +kernel
theorem dX9_howMany_158 : decode cX9_howMany 158 = .ok (.getfield 210, 3) := by decide +kernel
theorem dX9_howMany_161 : decode cX9_howMany 161 = .ok (.ireturn, 1) := by decide +kernel
theorem dX9_howMany_162 : decode cX9_howMany 162 = .ok (.bipush (-102), 2) := by decide +kernel
theorem dX9_howMany_164 : decode cX9_howMany 164 = .ok (.ireturn, 1) := by decide +kernel
theorem dX9_count_0 : decode cX9_count 0 = .ok (.aload_n 0, 1) := by decide +kernel
theorem dX9_count_1 : decode cX9_count 1 = .ok (.iload_n 1, 1) := by decide +kernel
theorem dX9_count_2 : decode cX9_count 2 = .ok (.invokevirtual 272, 3) := by decide +kernel
theorem dX9_count_5 : decode cX9_count 5 = .ok (.ireturn, 1) := by decide +kernel
theorem dX9_mix_0 : decode cX9_mix 0 = .ok (.aload_n 0, 1) := by decide +kernel
theorem dX9_mix_1 : decode cX9_mix 1 = .ok (.ldc2_w 275, 3) := by decide +kernel
theorem dX9_mix_4 : decode cX9_mix 4 = .ok (.aload_n 0, 1) := by decide +kernel
theorem dX9_mix_5 : decode cX9_mix 5 = .ok (.getfield 277, 3) := by decide +kernel
theorem dX9_mix_8 : decode cX9_mix 8 = .ok (.lmul, 1) := by decide +kernel
theorem dX9_mix_9 : decode cX9_mix 9 = .ok (.lload_n 1, 1) := by decide +kernel
theorem dX9_mix_10 : decode cX9_mix 10 = .ok (.ladd, 1) := by decide +kernel
theorem dX9_mix_11 : decode cX9_mix 11 = .ok (.putfield 277, 3) := by decide +kernel
theorem dX9_mix_14 : decode cX9_mix 14 = .ok (.return_, 1) := by decide +kernel
theorem dX9_mixQuestion_0 : decode cX9_mixQuestion 0 = .ok (.iconst 0, 1) := by decide +kernel
theorem dX9_mixQuestion_1 : decode cX9_mixQuestion 1 = .ok (.istore_n 2, 1) := by decide +kernel
theorem dX9_mixQuestion_2 : decode cX9_mixQuestion 2 = .ok (.iload_n 2, 1) := by decide +kernel
theorem dX9_mixQuestion_3 : decode cX9_mixQuestion 3 = .ok (.bipush 6, 2) := by decide +kernel
theorem dX9_mixQuestion_5 : decode cX9_mixQuestion 5 = .ok (.if_icmp .ge 20, 3) := by decide +kernel
theorem dX9_mixQuestion_8 : decode cX9_mixQuestion 8 = .ok (.aload_n 0, 1) := by decide +kernel
theorem dX9_mixQuestion_9 : decode cX9_mixQuestion 9 = .ok (.aload_n 0, 1) := by decide +kernel
theorem dX9_mixQuestion_10 : decode cX9_mixQuestion 10 = .ok (.iload_n 1, 1) := by decide +kernel
theorem dX9_mixQuestion_11 : decode cX9_mixQuestion 11 = .ok (.iload_n 2, 1) := by decide +kernel
theorem dX9_mixQuestion_12 : decode cX9_mixQuestion 12 = .ok (.invokevirtual 170, 3) := by decide +kernel
theorem dX9_mixQuestion_15 : decode cX9_mixQuestion 15 = .ok (.i2l, 1) := by decide +kernel
theorem dX9_mixQuestion_16 : decode cX9_mixQuestion 16 = .ok (.invokevirtual 280, 3) := by decide +kernel
theorem dX9_mixQuestion_19 : decode cX9_mixQuestion 19 = .ok (.iinc 2 1, 3) := by decide +kernel
theorem dX9_mixQuestion_22 : decode cX9_mixQuestion 22 = .ok (.goto (-20), 3) := by decide +kernel
theorem dX9_mixQuestion_25 : decode cX9_mixQuestion 25 = .ok (.iconst 0, 1) := by decide +kernel
theorem dX9_mixQuestion_26 : decode cX9_mixQuestion 26 = .ok (.istore_n 2, 1) := by decide +kernel
theorem dX9_mixQuestion_27 : decode cX9_mixQuestion 27 = .ok (.iload_n 2, 1) := by decide +kernel
theorem dX9_mixQuestion_28 : decode cX9_mixQuestion 28 = .ok (.aload_n 0, 1) := by decide +kernel
theorem dX9_mixQuestion_29 : decode cX9_mixQuestion 29 = .ok (.getfield 112, 3) := by decide +kernel
theorem dX9_mixQuestion_32 : decode cX9_mixQuestion 32 = .ok (.if_icmp .ge 33, 3) := by decide +kernel
theorem dX9_mixQuestion_35 : decode cX9_mixQuestion 35 = .ok (.aload_n 0, 1) := by decide +kernel
theorem dX9_mixQuestion_36 : decode cX9_mixQuestion 36 = .ok (.aload_n 0, 1) := by decide +kernel
theorem dX9_mixQuestion_37 : decode cX9_mixQuestion 37 = .ok (.iload_n 2, 1) := by decide +kernel
theorem dX9_mixQuestion_38 : decode cX9_mixQuestion 38 = .ok (.iload_n 1, 1) := by decide +kernel
theorem dX9_mixQuestion_39 : decode cX9_mixQuestion 39 = .ok (.iconst 0, 1) := by decide +kernel
theorem dX9_mixQuestion_40 : decode cX9_mixQuestion 40 = .ok (.invokevirtual 192, 3) := by decide +kernel
theorem dX9_mixQuestion_43 : decode cX9_mixQuestion 43 = .ok (.i2l, 1) := by decide +kernel
theorem dX9_mixQuestion_44 : decode cX9_mixQuestion 44 = .ok (.invokevirtual 280, 3) := by decide +kernel
theorem dX9_mixQuestion_47 : decode cX9_mixQuestion 47 = .ok (.aload_n 0, 1) := by decide +kernel
theorem dX9_mixQuestion_48 : decode cX9_mixQuestion 48 = .ok (.aload_n 0, 1) := by decide +kernel
theorem dX9_mixQuestion_49 : decode cX9_mixQuestion 49 = .ok (.iload_n 2, 1) := by decide +kernel
theorem dX9_mixQuestion_50 : decode cX9_mixQuestion 50 = .ok (.iload_n 1, 1) := by decide +kernel
theorem dX9_mixQuestion_51 : decode cX9_mixQuestion 51 = .ok (.iconst 1, 1) := by decide +kernel
theorem dX9_mixQuestion_52 : decode cX9_mixQuestion 52 = .ok (.invokevirtual 192, 3) := by decide +kernel
theorem dX9_mixQuestion_55 : decode cX9_mixQuestion 55 = .ok (.i2l, 1) := by decide +kernel
theorem dX9_mixQuestion_56 : decode cX9_mixQuestion 56 = .ok (.invokevirtual 280, 3) := by decide +kernel
theorem dX9_mixQuestion_59 : decode cX9_mixQuestion 59 = .ok (.iinc 2 1, 3) := by decide +kernel
theorem dX9_mixQuestion_62 : decode cX9_mixQuestion 62 = .ok (.goto (-35), 3) := by decide +kernel
theorem dX9_mixQuestion_65 : decode cX9_mixQuestion 65 = .ok (.aload_n 0, 1) := by decide +kernel
theorem dX9_mixQuestion_66 : decode cX9_mixQuestion 66 = .ok (.aload_n 0, 1) := by decide +kernel
theorem dX9_mixQuestion_67 : decode cX9_mixQuestion 67 = .ok (.iload_n 1, 1) := by decide +kernel
theorem dX9_mixQuestion_68 : decode cX9_mixQuestion 68 = .ok (.iconst 3, 1) := by decide +kernel
theorem dX9_mixQuestion_69 : decode cX9_mixQuestion 69 = .ok (.iconst 0, 1) := by decide +kernel
theorem dX9_mixQuestion_70 : decode cX9_mixQuestion 70 = .ok (.invokevirtual 195, 3) := by decide +kernel
theorem dX9_mixQuestion_73 : decode cX9_mixQuestion 73 = .ok (.i2l, 1) := by decide +kernel
theorem dX9_mixQuestion_74 : decode cX9_mixQuestion 74 = .ok (.invokevirtual 280, 3) := by decide +kernel
theorem dX9_mixQuestion_77 : decode cX9_mixQuestion 77 = .ok (.aload_n 0, 1) := by decide +kernel
theorem dX9_mixQuestion_78 : decode cX9_mixQuestion 78 = .ok (.aload_n 0, 1) := by decide +kernel
theorem dX9_mixQuestion_79 : decode cX9_mixQuestion 79 = .ok (.iload_n 1, 1) := by decide +kernel
theorem dX9_mixQuestion_80 : decode cX9_mixQuestion 80 = .ok (.iconst 3, 1) := by decide +kernel
theorem dX9_mixQuestion_81 : decode cX9_mixQuestion 81 = .ok (.iconst 1, 1) := by decide +kernel
theorem dX9_mixQuestion_82 : decode cX9_mixQuestion 82 = .ok (.invokevirtual 195, 3) := by decide +kernel
theorem dX9_mixQuestion_85 : decode cX9_mixQuestion 85 = .ok (.i2l, 1) := by decide +kernel
theorem dX9_mixQuestion_86 : decode cX9_mixQuestion 86 = .ok (.invokevirtual 280, 3) := by decide +kernel
theorem dX9_mixQuestion_89 : decode cX9_mixQuestion 89 = .ok (.aload_n 0, 1) := by decide +kernel
theorem dX9_mixQuestion_90 : decode cX9_mixQuestion 90 = .ok (.aload_n 0, 1) := by decide +kernel
theorem dX9_mixQuestion_91 : decode cX9_mixQuestion 91 = .ok (.iload_n 1, 1) := by decide +kernel
theorem dX9_mixQuestion_92 : decode cX9_mixQuestion 92 = .ok (.iconst 1, 1) := by decide +kernel
theorem dX9_mixQuestion_93 : decode cX9_mixQuestion 93 = .ok (.iconst 0, 1) := by decide +kernel
theorem dX9_mixQuestion_94 : decode cX9_mixQuestion 94 = .ok (.invokevirtual 198, 3) := by decide +kernel
theorem dX9_mixQuestion_97 : decode cX9_mixQuestion 97 = .ok (.i2l, 1) := by decide +kernel
theorem dX9_mixQuestion_98 : decode cX9_mixQuestion 98 = .ok (.invokevirtual 280, 3) := by decide +kernel
theorem dX9_mixQuestion_101 : decode cX9_mixQuestion 101 = .ok (.aload_n 0, 1) := by decide +kernel
theorem dX9_mixQuestion_102 : decode cX9_mixQuestion 102 = .ok (.aload_n 0, 1) := by decide +kernel
theorem dX9_mixQuestion_103 : decode cX9_mixQuestion 103 = .ok (.iload_n 1, 1) := by decide +kernel
theorem dX9_mixQuestion_104 : decode cX9_mixQuestion 104 = .ok (.iconst 1, 1) := by decide +kernel
theorem dX9_mixQuestion_105 : decode cX9_mixQuestion 105 = .ok (.iconst 1, 1) := by decide +kernel
theorem dX9_mixQuestion_106 : decode cX9_mixQuestion 106 = .ok (.invokevirtual 198, 3) := by decide +kernel
theorem dX9_mixQuestion_109 : decode cX9_mixQuestion 109 = .ok (.i2l, 1) := by decide +kernel
theorem dX9_mixQuestion_110 : decode cX9_mixQuestion 110 = .ok (.invokevirtual 280, 3) := by decide +kernel
theorem dX9_mixQuestion_113 : decode cX9_mixQuestion 113 = .ok (.return_, 1) := by decide +kernel
theorem dX9_digest_0 : decode cX9_digest 0 = .ok (.aload_n 0, 1) := by decide +kernel
theorem dX9_digest_1 : decode cX9_digest 1 = .ok (.ldc2_w 284, 3) := by decide +kernel
theorem dX9_digest_4 : decode cX9_digest 4 = .ok (.putfield 277, 3) := by decide +kernel
theorem dX9_digest_7 : decode cX9_digest 7 = .ok (.iconst 0, 1) := by decide +kernel
theorem dX9_digest_8 : decode cX9_digest 8 = .ok (.istore_n 1, 1) := by decide +kernel
theorem dX9_digest_9 : decode cX9_digest 9 = .ok (.iload_n 1, 1) := by decide +kernel
theorem dX9_digest_10 : decode cX9_digest 10 = .ok (.aload_n 0, 1) := by decide +kernel
theorem dX9_digest_11 : decode cX9_digest 11 = .ok (.getfield 112, 3) := by decide +kernel
theorem dX9_digest_14 : decode cX9_digest 14 = .ok (.if_icmp .ge 41, 3) := by decide +kernel
theorem dX9_digest_17 : decode cX9_digest 17 = .ok (.iconst 0, 1) := by decide +kernel
theorem dX9_digest_18 : decode cX9_digest 18 = .ok (.istore_n 2, 1) := by decide +kernel
theorem dX9_digest_19 : decode cX9_digest 19 = .ok (.iload_n 2, 1) := by decide +kernel
theorem dX9_digest_20 : decode cX9_digest 20 = .ok (.bipush 23, 2) := by decide +kernel
theorem dX9_digest_22 : decode cX9_digest 22 = .ok (.if_icmp .ge 27, 3) := by decide +kernel
theorem dX9_digest_25 : decode cX9_digest 25 = .ok (.iload_n 2, 1) := by decide +kernel
theorem dX9_digest_26 : decode cX9_digest 26 = .ok (.invokestatic 155, 3) := by decide +kernel
theorem dX9_digest_29 : decode cX9_digest 29 = .ok (.ifCond .eq 14, 3) := by decide +kernel
theorem dX9_digest_32 : decode cX9_digest 32 = .ok (.aload_n 0, 1) := by decide +kernel
theorem dX9_digest_33 : decode cX9_digest 33 = .ok (.aload_n 0, 1) := by decide +kernel
theorem dX9_digest_34 : decode cX9_digest 34 = .ok (.iload_n 1, 1) := by decide +kernel
theorem dX9_digest_35 : decode cX9_digest 35 = .ok (.iload_n 2, 1) := by decide +kernel
theorem dX9_digest_36 : decode cX9_digest 36 = .ok (.invokevirtual 158, 3) := by decide +kernel
theorem dX9_digest_39 : decode cX9_digest 39 = .ok (.i2l, 1) := by decide +kernel
theorem dX9_digest_40 : decode cX9_digest 40 = .ok (.invokevirtual 280, 3) := by decide +kernel
theorem dX9_digest_43 : decode cX9_digest 43 = .ok (.iinc 2 1, 3) := by decide +kernel
theorem dX9_digest_46 : decode cX9_digest 46 = .ok (.goto (-27), 3) := by decide +kernel
theorem dX9_digest_49 : decode cX9_digest 49 = .ok (.iinc 1 1, 3) := by decide +kernel
theorem dX9_digest_52 : decode cX9_digest 52 = .ok (.goto (-43), 3) := by decide +kernel
theorem dX9_digest_55 : decode cX9_digest 55 = .ok (.aload_n 0, 1) := by decide +kernel
theorem dX9_digest_56 : decode cX9_digest 56 = .ok (.getfield 112, 3) := by decide +kernel
theorem dX9_digest_59 : decode cX9_digest 59 = .ok (.ifCond .le 41, 3) := by decide +kernel
theorem dX9_digest_62 : decode cX9_digest 62 = .ok (.iconst 0, 1) := by decide +kernel
theorem dX9_digest_63 : decode cX9_digest 63 = .ok (.istore_n 1, 1) := by decide +kernel
theorem dX9_digest_64 : decode cX9_digest 64 = .ok (.iload_n 1, 1) := by decide +kernel
theorem dX9_digest_65 : decode cX9_digest 65 = .ok (.iconst 3, 1) := by decide +kernel
theorem dX9_digest_66 : decode cX9_digest 66 = .ok (.if_icmp .ge 14, 3) := by decide +kernel
theorem dX9_digest_69 : decode cX9_digest 69 = .ok (.aload_n 0, 1) := by decide +kernel
theorem dX9_digest_70 : decode cX9_digest 70 = .ok (.iload_n 1, 1) := by decide +kernel
theorem dX9_digest_71 : decode cX9_digest 71 = .ok (.invokevirtual 286, 3) := by decide +kernel
theorem dX9_digest_74 : decode cX9_digest 74 = .ok (.iinc 1 1, 3) := by decide +kernel
theorem dX9_digest_77 : decode cX9_digest 77 = .ok (.goto (-13), 3) := by decide +kernel
theorem dX9_digest_80 : decode cX9_digest 80 = .ok (.aload_n 0, 1) := by decide +kernel
theorem dX9_digest_81 : decode cX9_digest 81 = .ok (.aload_n 0, 1) := by decide +kernel
theorem dX9_digest_82 : decode cX9_digest 82 = .ok (.iconst 0, 1) := by decide +kernel
theorem dX9_digest_83 : decode cX9_digest 83 = .ok (.invokevirtual 222, 3) := by decide +kernel
theorem dX9_digest_86 : decode cX9_digest 86 = .ok (.i2l, 1) := by decide +kernel
theorem dX9_digest_87 : decode cX9_digest 87 = .ok (.invokevirtual 280, 3) := by decide +kernel
theorem dX9_digest_90 : decode cX9_digest 90 = .ok (.aload_n 0, 1) := by decide +kernel
theorem dX9_digest_91 : decode cX9_digest 91 = .ok (.aload_n 0, 1) := by decide +kernel
theorem dX9_digest_92 : decode cX9_digest 92 = .ok (.iconst 1, 1) := by decide +kernel
theorem dX9_digest_93 : decode cX9_digest 93 = .ok (.invokevirtual 222, 3) := by decide +kernel
theorem dX9_digest_96 : decode cX9_digest 96 = .ok (.i2l, 1) := by decide +kernel
theorem dX9_digest_97 : decode cX9_digest 97 = .ok (.invokevirtual 280, 3) := by decide +kernel
theorem dX9_digest_100 : decode cX9_digest 100 = .ok (.iconst 0, 1) := by decide +kernel
theorem dX9_digest_101 : decode cX9_digest 101 = .ok (.istore_n 1, 1) := by decide +kernel
theorem dX9_digest_102 : decode cX9_digest 102 = .ok (.iload_n 1, 1) := by decide +kernel
theorem dX9_digest_103 : decode cX9_digest 103 = .ok (.aload_n 0, 1) := by decide +kernel
theorem dX9_digest_104 : decode cX9_digest 104 = .ok (.getfield 83, 3) := by decide +kernel
theorem dX9_digest_107 : decode cX9_digest 107 = .ok (.if_icmp .ge 20, 3) := by decide +kernel
theorem dX9_digest_110 : decode cX9_digest 110 = .ok (.aload_n 0, 1) := by decide +kernel
theorem dX9_digest_111 : decode cX9_digest 111 = .ok (.aload_n 0, 1) := by decide +kernel
theorem dX9_digest_112 : decode cX9_digest 112 = .ok (.getfield 34, 3) := by decide +kernel
theorem dX9_digest_115 : decode cX9_digest 115 = .ok (.iload_n 1, 1) := by decide +kernel
theorem dX9_digest_116 : decode cX9_digest 116 = .ok (.baload, 1) := by decide +kernel
theorem dX9_digest_117 : decode cX9_digest 117 = .ok (.i2l, 1) := by decide +kernel
theorem dX9_digest_118 : decode cX9_digest 118 = .ok (.invokevirtual 280, 3) := by decide +kernel
theorem dX9_digest_121 : decode cX9_digest 121 = .ok (.iinc 1 1, 3) := by decide +kernel
theorem dX9_digest_124 : decode cX9_digest 124 = .ok (.goto (-22), 3) := by decide +kernel
theorem dX9_digest_127 : decode cX9_digest 127 = .ok (.iconst 0, 1) := by decide +kernel
theorem dX9_digest_128 : decode cX9_digest 128 = .ok (.istore_n 1, 1) := by decide +kernel
theorem dX9_digest_129 : decode cX9_digest 129 = .ok (.iload_n 1, 1) := by decide +kernel
theorem dX9_digest_130 : decode cX9_digest 130 = .ok (.bipush 12, 2) := by decide +kernel
theorem dX9_digest_132 : decode cX9_digest 132 = .ok (.if_icmp .ge 19, 3) := by decide +kernel
theorem dX9_digest_135 : decode cX9_digest 135 = .ok (.aload_n 0, 1) := by decide +kernel
theorem dX9_digest_136 : decode cX9_digest 136 = .ok (.aload_n 0, 1) := by decide +kernel
theorem dX9_digest_137 : decode cX9_digest 137 = .ok (.iload_n 1, 1) := by decide +kernel
theorem dX9_digest_138 : decode cX9_digest 138 = .ok (.invokevirtual 272, 3) := by decide +kernel
theorem dX9_digest_141 : decode cX9_digest 141 = .ok (.i2l, 1) := by decide +kernel
theorem dX9_digest_142 : decode cX9_digest 142 = .ok (.invokevirtual 280, 3) := by decide +kernel
theorem dX9_digest_145 : decode cX9_digest 145 = .ok (.iinc 1 1, 3) := by decide +kernel
theorem dX9_digest_148 : decode cX9_digest 148 = .ok (.goto (-19), 3) := by decide +kernel
theorem dX9_digest_151 : decode cX9_digest 151 = .ok (.aload_n 0, 1) := by decide +kernel
theorem dX9_digest_152 : decode cX9_digest 152 = .ok (.getfield 277, 3) := by decide +kernel
theorem dX9_digest_155 : decode cX9_digest 155 = .ok (.lreturn, 1) := by decide +kernel
theorem dJ6_bitCount_0f7a4_0 : decode cJ6_bitCount_0f7a4 0 = .ok (.iload_n 0, 1) := by decide +kernel
theorem dJ6_bitCount_0f7a4_1 : decode cJ6_bitCount_0f7a4 1 = .ok (.iload_n 0, 1) := by decide +kernel
theorem dJ6_bitCount_0f7a4_2 : decode cJ6_bitCount_0f7a4 2 = .ok (.iconst 1, 1) := by decide +kernel
theorem dJ6_bitCount_0f7a4_3 : decode cJ6_bitCount_0f7a4 3 = .ok (.iushr, 1) := by decide +kernel
theorem dJ6_bitCount_0f7a4_4 : decode cJ6_bitCount_0f7a4 4 = .ok (.ldc_w 265, 3) := by decide +kernel
theorem dJ6_bitCount_0f7a4_7 : decode cJ6_bitCount_0f7a4 7 = .ok (.iand, 1) := by decide +kernel
theorem dJ6_bitCount_0f7a4_8 : decode cJ6_bitCount_0f7a4 8 = .ok (.isub, 1) := by decide +kernel
theorem dJ6_bitCount_0f7a4_9 : decode cJ6_bitCount_0f7a4 9 = .ok (.istore_n 0, 1) := by decide +kernel
theorem dJ6_bitCount_0f7a4_10 : decode cJ6_bitCount_0f7a4 10 = .ok (.iload_n 0, 1) := by decide +kernel
theorem dJ6_bitCount_0f7a4_11 : decode cJ6_bitCount_0f7a4 11 = .ok (.ldc_w 266, 3) := by decide +kernel
theorem dJ6_bitCount_0f7a4_14 : decode cJ6_bitCount_0f7a4 14 = .ok (.iand, 1) := by decide +kernel
theorem dJ6_bitCount_0f7a4_15 : decode cJ6_bitCount_0f7a4 15 = .ok (.iload_n 0, 1) := by decide +kernel
theorem dJ6_bitCount_0f7a4_16 : decode cJ6_bitCount_0f7a4 16 = .ok (.iconst 2, 1) := by decide +kernel
theorem dJ6_bitCount_0f7a4_17 : decode cJ6_bitCount_0f7a4 17 = .ok (.iushr, 1) := by decide +kernel
theorem dJ6_bitCount_0f7a4_18 : decode cJ6_bitCount_0f7a4 18 = .ok (.ldc_w 266, 3) := by decide +kernel
theorem dJ6_bitCount_0f7a4_21 : decode cJ6_bitCount_0f7a4 21 = .ok (.iand, 1) := by decide +kernel
theorem dJ6_bitCount_0f7a4_22 : decode cJ6_bitCount_0f7a4 22 = .ok (.iadd, 1) := by decide +kernel
theorem dJ6_bitCount_0f7a4_23 : decode cJ6_bitCount_0f7a4 23 = .ok (.istore_n 0, 1) := by decide +kernel
theorem dJ6_bitCount_0f7a4_24 : decode cJ6_bitCount_0f7a4 24 = .ok (.iload_n 0, 1) := by decide +kernel
theorem dJ6_bitCount_0f7a4_25 : decode cJ6_bitCount_0f7a4 25 = .ok (.iload_n 0, 1) := by decide +kernel
theorem dJ6_bitCount_0f7a4_26 : decode cJ6_bitCount_0f7a4 26 = .ok (.iconst 4, 1) := by decide +kernel
theorem dJ6_bitCount_0f7a4_27 : decode cJ6_bitCount_0f7a4 27 = .ok (.iushr, 1) := by decide +kernel
theorem dJ6_bitCount_0f7a4_28 : decode cJ6_bitCount_0f7a4 28 = .ok (.iadd, 1) := by decide +kernel
theorem dJ6_bitCount_0f7a4_29 : decode cJ6_bitCount_0f7a4 29 = .ok (.ldc_w 267, 3) := by decide +kernel
theorem dJ6_bitCount_0f7a4_32 : decode cJ6_bitCount_0f7a4 32 = .ok (.iand, 1) := by decide +kernel
theorem dJ6_bitCount_0f7a4_33 : decode cJ6_bitCount_0f7a4 33 = .ok (.istore_n 0, 1) := by decide +kernel
theorem dJ6_bitCount_0f7a4_34 : decode cJ6_bitCount_0f7a4 34 = .ok (.iload_n 0, 1) := by decide +kernel
theorem dJ6_bitCount_0f7a4_35 : decode cJ6_bitCount_0f7a4 35 = .ok (.iload_n 0, 1) := by decide +kernel
theorem dJ6_bitCount_0f7a4_36 : decode cJ6_bitCount_0f7a4 36 = .ok (.bipush 8, 2) := by decide +kernel
theorem dJ6_bitCount_0f7a4_38 : decode cJ6_bitCount_0f7a4 38 = .ok (.iushr, 1) := by decide +kernel
theorem dJ6_bitCount_0f7a4_39 : decode cJ6_bitCount_0f7a4 39 = .ok (.iadd, 1) := by decide +kernel
theorem dJ6_bitCount_0f7a4_40 : decode cJ6_bitCount_0f7a4 40 = .ok (.istore_n 0, 1) := by decide +kernel
theorem dJ6_bitCount_0f7a4_41 : decode cJ6_bitCount_0f7a4 41 = .ok (.iload_n 0, 1) := by decide +kernel
theorem dJ6_bitCount_0f7a4_42 : decode cJ6_bitCount_0f7a4 42 = .ok (.iload_n 0, 1) := by decide +kernel
theorem dJ6_bitCount_0f7a4_43 : decode cJ6_bitCount_0f7a4 43 = .ok (.bipush 16, 2) := by decide +kernel
theorem dJ6_bitCount_0f7a4_45 : decode cJ6_bitCount_0f7a4 45 = .ok (.iushr, 1) := by decide +kernel
theorem dJ6_bitCount_0f7a4_46 : decode cJ6_bitCount_0f7a4 46 = .ok (.iadd, 1) := by decide +kernel
theorem dJ6_bitCount_0f7a4_47 : decode cJ6_bitCount_0f7a4 47 = .ok (.istore_n 0, 1) := by decide +kernel
theorem dJ6_bitCount_0f7a4_48 : decode cJ6_bitCount_0f7a4 48 = .ok (.iload_n 0, 1) := by decide +kernel
theorem dJ6_bitCount_0f7a4_49 : decode cJ6_bitCount_0f7a4 49 = .ok (.bipush 63, 2) := by decide +kernel
theorem dJ6_bitCount_0f7a4_51 : decode cJ6_bitCount_0f7a4 51 = .ok (.iand, 1) := by decide +kernel
theorem dJ6_bitCount_0f7a4_52 : decode cJ6_bitCount_0f7a4 52 = .ok (.ireturn, 1) := by decide +kernel
theorem dJ9_max_7cf53_0 : decode cJ9_max_7cf53 0 = .ok (.iload_n 0, 1) := by decide +kernel
theorem dJ9_max_7cf53_1 : decode cJ9_max_7cf53 1 = .ok (.iload_n 1, 1) := by decide +kernel
theorem dJ9_max_7cf53_2 : decode cJ9_max_7cf53 2 = .ok (.if_icmp .lt 7, 3) := by decide +kernel
theorem dJ9_max_7cf53_5 : decode cJ9_max_7cf53 5 = .ok (.iload_n 0, 1) := by decide +kernel
theorem dJ9_max_7cf53_6 : decode cJ9_max_7cf53 6 = .ok (.goto 4, 3) := by decide +kernel
theorem dJ9_max_7cf53_9 : decode cJ9_max_7cf53 9 = .ok (.iload_n 1, 1) := by decide +kernel
theorem dJ9_max_7cf53_10 : decode cJ9_max_7cf53 10 = .ok (.ireturn, 1) := by decide +kernel
theorem dJ9_min_7cf53_0 : decode cJ9_min_7cf53 0 = .ok (.iload_n 0, 1) := by decide +kernel
theorem dJ9_min_7cf53_1 : decode cJ9_min_7cf53 1 = .ok (.iload_n 1, 1) := by decide +kernel
theorem dJ9_min_7cf53_2 : decode cJ9_min_7cf53 2 = .ok (.if_icmp .gt 7, 3) := by decide +kernel
theorem dJ9_min_7cf53_5 : decode cJ9_min_7cf53 5 = .ok (.iload_n 0, 1) := by decide +kernel
theorem dJ9_min_7cf53_6 : decode cJ9_min_7cf53 6 = .ok (.goto 4, 3) := by decide +kernel
theorem dJ9_min_7cf53_9 : decode cJ9_min_7cf53 9 = .ok (.iload_n 1, 1) := by decide +kernel
theorem dJ9_min_7cf53_10 : decode cJ9_min_7cf53 10 = .ok (.ireturn, 1) := by decide +kernel
theorem dJ0_length_8abf5_0 : decode cJ0_length_8abf5 0 = .ok (.aload_n 0, 1) := by decide +kernel
theorem dJ0_length_8abf5_1 : decode cJ0_length_8abf5 1 = .ok (.getfield 9, 3) := by decide +kernel
theorem dJ0_length_8abf5_4 : decode cJ0_length_8abf5 4 = .ok (.arraylength, 1) := by decide +kernel
theorem dJ0_length_8abf5_5 : decode cJ0_length_8abf5 5 = .ok (.aload_n 0, 1) := by decide +kernel
theorem dJ0_length_8abf5_6 : decode cJ0_length_8abf5 6 = .ok (.invokevirtual 335, 3) := by decide +kernel
theorem dJ0_length_8abf5_9 : decode cJ0_length_8abf5 9 = .ok (.ishr, 1) := by decide +kernel
theorem dJ0_length_8abf5_10 : decode cJ0_length_8abf5 10 = .ok (.ireturn, 1) := by decide +kernel
theorem dJ0_indexOf_0f7a4_0 : decode cJ0_indexOf_0f7a4 0 = .ok (.aload_n 0, 1) := by decide +kernel
theorem dJ0_indexOf_0f7a4_1 : decode cJ0_indexOf_0f7a4 1 = .ok (.iload_n 1, 1) := by decide +kernel
theorem dJ0_indexOf_0f7a4_2 : decode cJ0_indexOf_0f7a4 2 = .ok (.iconst 0, 1) := by decide +kernel
theorem dJ0_indexOf_0f7a4_3 : decode cJ0_indexOf_0f7a4 3 = .ok (.invokevirtual 633, 3) := by decide +kernel
theorem dJ0_indexOf_0f7a4_6 : decode cJ0_indexOf_0f7a4 6 = .ok (.ireturn, 1) := by decide +kernel
theorem dJ0_indexOf_7cf53_0 : decode cJ0_indexOf_7cf53 0 = .ok (.aload_n 0, 1) := by decide +kernel
theorem dJ0_indexOf_7cf53_1 : decode cJ0_indexOf_7cf53 1 = .ok (.invokevirtual 492, 3) := by decide +kernel
theorem dJ0_indexOf_7cf53_4 : decode cJ0_indexOf_7cf53 4 = .ok (.ifCond .eq 19, 3) := by decide +kernel
theorem dJ0_indexOf_7cf53_7 : decode cJ0_indexOf_7cf53 7 = .ok (.aload_n 0, 1) := by decide +kernel
theorem dJ0_indexOf_7cf53_8 : decode cJ0_indexOf_7cf53 8 = .ok (.getfield 9, 3) := by decide +kernel
theorem dJ0_indexOf_7cf53_11 : decode cJ0_indexOf_7cf53 11 = .ok (.iload_n 1, 1) := by decide +kernel
theorem dJ0_indexOf_7cf53_12 : decode cJ0_indexOf_7cf53 12 = .ok (.iload_n 2, 1) := by decide +kernel
theorem dJ0_indexOf_7cf53_13 : decode cJ0_indexOf_7cf53 13 = .ok (.aload_n 0, 1) := by decide +kernel
theorem dJ0_indexOf_7cf53_14 : decode cJ0_indexOf_7cf53 14 = .ok (.invokevirtual 505, 3) := by decide +kernel
theorem dJ0_indexOf_7cf53_17 : decode cJ0_indexOf_7cf53 17 = .ok (.invokestatic 637, 3) := by decide +kernel
theorem dJ0_indexOf_7cf53_20 : decode cJ0_indexOf_7cf53 20 = .ok (.goto 16, 3) := by decide +kernel
theorem dJ0_indexOf_7cf53_23 : decode cJ0_indexOf_7cf53 23 = .ok (.aload_n 0, 1) := by decide +kernel
theorem dJ0_indexOf_7cf53_24 : decode cJ0_indexOf_7cf53 24 = .ok (.getfield 9, 3) := by decide +kernel
theorem dJ0_indexOf_7cf53_27 : decode cJ0_indexOf_7cf53 27 = .ok (.iload_n 1, 1) := by decide +kernel
theorem dJ0_indexOf_7cf53_28 : decode cJ0_indexOf_7cf53 28 = .ok (.iload_n 2, 1) := by decide +kernel
theorem dJ0_indexOf_7cf53_29 : decode cJ0_indexOf_7cf53 29 = .ok (.aload_n 0, 1) := by decide +kernel
theorem dJ0_indexOf_7cf53_30 : decode cJ0_indexOf_7cf53 30 = .ok (.invokevirtual 505, 3) := by decide +kernel
theorem dJ0_indexOf_7cf53_33 : decode cJ0_indexOf_7cf53 33 = .ok (.invokestatic 640, 3) := by decide +kernel
theorem dJ0_indexOf_7cf53_36 : decode cJ0_indexOf_7cf53 36 = .ok (.ireturn, 1) := by decide +kernel
theorem dJ0_coder_7d493_0 : decode cJ0_coder_7d493 0 = .ok (.getstatic 38, 3) := by decide +kernel
theorem dJ0_coder_7d493_3 : decode cJ0_coder_7d493 3 = .ok (.ifCond .eq 10, 3) := by decide +kernel
theorem dJ0_coder_7d493_6 : decode cJ0_coder_7d493 6 = .ok (.aload_n 0, 1) := by decide +kernel
theorem dJ0_coder_7d493_7 : decode cJ0_coder_7d493 7 = .ok (.getfield 15, 3) := by decide +kernel
theorem dJ0_coder_7d493_10 : decode cJ0_coder_7d493 10 = .ok (.goto 4, 3) := by decide +kernel
theorem dJ0_coder_7d493_13 : decode cJ0_coder_7d493 13 = .ok (.iconst 1, 1) := by decide +kernel
theorem dJ0_coder_7d493_14 : decode cJ0_coder_7d493 14 = .ok (.ireturn, 1) := by decide +kernel
theorem dJ0_isLatin1_aae02_0 : decode cJ0_isLatin1_aae02 0 = .ok (.getstatic 38, 3) := by decide +kernel
theorem dJ0_isLatin1_aae02_3 : decode cJ0_isLatin1_aae02 3 = .ok (.ifCond .eq 14, 3) := by decide +kernel
theorem dJ0_isLatin1_aae02_6 : decode cJ0_isLatin1_aae02 6 = .ok (.aload_n 0, 1) := by decide +kernel
theorem dJ0_isLatin1_aae02_7 : decode cJ0_isLatin1_aae02 7 = .ok (.getfield 15, 3) := by decide +kernel
theorem dJ0_isLatin1_aae02_10 : decode cJ0_isLatin1_aae02 10 = .ok (.ifCond .ne 7, 3) := by decide +kernel
theorem dJ0_isLatin1_aae02_13 : decode cJ0_isLatin1_aae02 13 = .ok (.iconst 1, 1) := by decide +kernel
theorem dJ0_isLatin1_aae02_14 : decode cJ0_isLatin1_aae02 14 = .ok (.goto 4, 3) := by decide +kernel
theorem dJ0_isLatin1_aae02_17 : decode cJ0_isLatin1_aae02 17 = .ok (.iconst 0, 1) := by decide +kernel
theorem dJ0_isLatin1_aae02_18 : decode cJ0_isLatin1_aae02 18 = .ok (.ireturn, 1) := by decide +kernel
theorem dJ0_checkBoundsBeginEnd_23922_0 : decode cJ0_checkBoundsBeginEnd_23922 0 = .ok (.iload_n 0, 1) := by decide +kernel
theorem dJ0_checkBoundsBeginEnd_23922_1 : decode cJ0_checkBoundsBeginEnd_23922 1 = .ok (.iload_n 1, 1) := by decide +kernel
theorem dJ0_checkBoundsBeginEnd_23922_2 : decode cJ0_checkBoundsBeginEnd_23922 2 = .ok (.iload_n 2, 1) := by decide +kernel
theorem dJ0_checkBoundsBeginEnd_23922_3 : decode cJ0_checkBoundsBeginEnd_23922 3 = .ok (.getstatic 1053, 3) := by decide +kernel
theorem dJ0_checkBoundsBeginEnd_23922_6 : decode cJ0_checkBoundsBeginEnd_23922 6 = .ok (.invokestatic 1062, 3) := by decide +kernel
theorem dJ0_checkBoundsBeginEnd_23922_9 : decode cJ0_checkBoundsBeginEnd_23922 9 = .ok (.pop, 1) := by decide +kernel
theorem dJ0_checkBoundsBeginEnd_23922_10 : decode cJ0_checkBoundsBeginEnd_23922 10 = .ok (.return_, 1) := by decide +kernel
theorem dJ1_canEncode_9a6ad_0 : decode cJ1_canEncode_9a6ad 0 = .ok (.iload_n 0, 1) := by decide +kernel
theorem dJ1_canEncode_9a6ad_1 : decode cJ1_canEncode_9a6ad 1 = .ok (.ifCond .lt 14, 3) := by decide +kernel
theorem dJ1_canEncode_9a6ad_4 : decode cJ1_canEncode_9a6ad 4 = .ok (.iload_n 0, 1) := by decide +kernel
theorem dJ1_canEncode_9a6ad_5 : decode cJ1_canEncode_9a6ad 5 = .ok (.sipush 255, 3) := by decide +kernel
theorem dJ1_canEncode_9a6ad_8 : decode cJ1_canEncode_9a6ad 8 = .ok (.if_icmp .gt 7, 3) := by decide +kernel
theorem dJ1_canEncode_9a6ad_11 : decode cJ1_canEncode_9a6ad 11 = .ok (.iconst 1, 1) := by decide +kernel
theorem dJ1_canEncode_9a6ad_12 : decode cJ1_canEncode_9a6ad 12 = .ok (.goto 4, 3) := by decide +kernel
theorem dJ1_canEncode_9a6ad_15 : decode cJ1_canEncode_9a6ad 15 = .ok (.iconst 0, 1) := by decide +kernel
theorem dJ1_canEncode_9a6ad_16 : decode cJ1_canEncode_9a6ad 16 = .ok (.ireturn, 1) := by decide +kernel
theorem dJ1_indexOf_4cfef_0 : decode cJ1_indexOf_4cfef 0 = .ok (.iload_n 1, 1) := by decide +kernel
theorem dJ1_indexOf_4cfef_1 : decode cJ1_indexOf_4cfef 1 = .ok (.invokestatic 88, 3) := by decide +kernel
theorem dJ1_indexOf_4cfef_4 : decode cJ1_indexOf_4cfef 4 = .ok (.ifCond .ne 5, 3) := by decide +kernel
theorem dJ1_indexOf_4cfef_7 : decode cJ1_indexOf_4cfef 7 = .ok (.iconst (-1), 1) := by decide +kernel
theorem dJ1_indexOf_4cfef_8 : decode cJ1_indexOf_4cfef 8 = .ok (.ireturn, 1) := by decide +kernel
theorem dJ1_indexOf_4cfef_9 : decode cJ1_indexOf_4cfef 9 = .ok (.iload_n 2, 1) := by decide +kernel
theorem dJ1_indexOf_4cfef_10 : decode cJ1_indexOf_4cfef 10 = .ok (.iconst 0, 1) := by decide +kernel
theorem dJ1_indexOf_4cfef_11 : decode cJ1_indexOf_4cfef 11 = .ok (.invokestatic 92, 3) := by decide +kernel
theorem dJ1_indexOf_4cfef_14 : decode cJ1_indexOf_4cfef 14 = .ok (.istore_n 2, 1) := by decide +kernel
theorem dJ1_indexOf_4cfef_15 : decode cJ1_indexOf_4cfef 15 = .ok (.iload_n 3, 1) := by decide +kernel
theorem dJ1_indexOf_4cfef_16 : decode cJ1_indexOf_4cfef 16 = .ok (.aload_n 0, 1) := by decide +kernel
theorem dJ1_indexOf_4cfef_17 : decode cJ1_indexOf_4cfef 17 = .ok (.arraylength, 1) := by decide +kernel
theorem dJ1_indexOf_4cfef_18 : decode cJ1_indexOf_4cfef 18 = .ok (.invokestatic 38, 3) := by decide +kernel
theorem dJ1_indexOf_4cfef_21 : decode cJ1_indexOf_4cfef 21 = .ok (.istore_n 3, 1) := by decide +kernel
theorem dJ1_indexOf_4cfef_22 : decode cJ1_indexOf_4cfef 22 = .ok (.iload_n 2, 1) := by decide +kernel
theorem dJ1_indexOf_4cfef_23 : decode cJ1_indexOf_4cfef 23 = .ok (.iload_n 3, 1) := by decide +kernel
theorem dJ1_indexOf_4cfef_24 : decode cJ1_indexOf_4cfef 24 = .ok (.if_icmp .lt 5, 3) := by decide +kernel
theorem dJ1_indexOf_4cfef_27 : decode cJ1_indexOf_4cfef 27 = .ok (.iconst (-1), 1) := by decide +kernel
theorem dJ1_indexOf_4cfef_28 : decode cJ1_indexOf_4cfef 28 = .ok (.ireturn, 1) := by decide +kernel
theorem dJ1_indexOf_4cfef_29 : decode cJ1_indexOf_4cfef 29 = .ok (.aload_n 0, 1) := by decide +kernel
theorem dJ1_indexOf_4cfef_30 : decode cJ1_indexOf_4cfef 30 = .ok (.iload_n 1, 1) := by decide +kernel
theorem dJ1_indexOf_4cfef_31 : decode cJ1_indexOf_4cfef 31 = .ok (.iload_n 2, 1) := by decide +kernel
theorem dJ1_indexOf_4cfef_32 : decode cJ1_indexOf_4cfef 32 = .ok (.iload_n 3, 1) := by decide +kernel
theorem dJ1_indexOf_4cfef_33 : decode cJ1_indexOf_4cfef 33 = .ok (.invokestatic 95, 3) := by decide +kernel
theorem dJ1_indexOf_4cfef_36 : decode cJ1_indexOf_4cfef 36 = .ok (.ireturn, 1) := by decide +kernel
theorem dJ1_indexOfChar_4cfef_0 : decode cJ1_indexOfChar_4cfef 0 = .ok (.iload_n 1, 1) := by decide +kernel
theorem dJ1_indexOfChar_4cfef_1 : decode cJ1_indexOfChar_4cfef 1 = .ok (.i2b, 1) := by decide +kernel
theorem dJ1_indexOfChar_4cfef_2 : decode cJ1_indexOfChar_4cfef 2 = .ok (.istore 4, 2) := by decide +kernel
theorem dJ1_indexOfChar_4cfef_4 : decode cJ1_indexOfChar_4cfef 4 = .ok (.iload_n 2, 1) := by decide +kernel
theorem dJ1_indexOfChar_4cfef_5 : decode cJ1_indexOfChar_4cfef 5 = .ok (.istore 5, 2) := by decide +kernel
theorem dJ1_indexOfChar_4cfef_7 : decode cJ1_indexOfChar_4cfef 7 = .ok (.iload 5, 2) := by decide +kernel
theorem dJ1_indexOfChar_4cfef_9 : decode cJ1_indexOfChar_4cfef 9 = .ok (.iload_n 3, 1) := by decide +kernel
theorem dJ1_indexOfChar_4cfef_10 : decode cJ1_indexOfChar_4cfef 10 = .ok (.if_icmp .ge 21, 3) := by decide +kernel
theorem dJ1_indexOfChar_4cfef_13 : decode cJ1_indexOfChar_4cfef 13 = .ok (.aload_n 0, 1) := by decide +kernel
theorem dJ1_indexOfChar_4cfef_14 : decode cJ1_indexOfChar_4cfef 14 = .ok (.iload 5, 2) := by decide +kernel
theorem dJ1_indexOfChar_4cfef_16 : decode cJ1_indexOfChar_4cfef 16 = .ok (.baload, 1) := by decide +kernel
theorem dJ1_indexOfChar_4cfef_17 : decode cJ1_indexOfChar_4cfef 17 = .ok (.iload 4, 2) := by decide +kernel
theorem dJ1_indexOfChar_4cfef_19 : decode cJ1_indexOfChar_4cfef 19 = .ok (.if_icmp .ne 6, 3) := by decide +kernel
theorem dJ1_indexOfChar_4cfef_22 : decode cJ1_indexOfChar_4cfef 22 = .ok (.iload 5, 2) := by decide +kernel
theorem dJ1_indexOfChar_4cfef_24 : decode cJ1_indexOfChar_4cfef 24 = .ok (.ireturn, 1) := by decide +kernel
theorem dJ1_indexOfChar_4cfef_25 : decode cJ1_indexOfChar_4cfef 25 = .ok (.iinc 5 1, 3) := by decide +kernel
theorem dJ1_indexOfChar_4cfef_28 : decode cJ1_indexOfChar_4cfef 28 = .ok (.goto (-21), 3) := by decide +kernel
theorem dJ1_indexOfChar_4cfef_31 : decode cJ1_indexOfChar_4cfef 31 = .ok (.iconst (-1), 1) := by decide +kernel
theorem dJ1_indexOfChar_4cfef_32 : decode cJ1_indexOfChar_4cfef 32 = .ok (.ireturn, 1) := by decide +kernel
theorem dL_law_0 : decode cL_law 0 = .ok (.new 7, 3) := by decide +kernel
theorem dL_law_3 : decode cL_law 3 = .ok (.dup, 1) := by decide +kernel
theorem dL_law_4 : decode cL_law 4 = .ok (.invokespecial 9, 3) := by decide +kernel
theorem dL_law_7 : decode cL_law 7 = .ok (.astore_n 1, 1) := by decide +kernel
theorem dL_law_8 : decode cL_law 8 = .ok (.new 10, 3) := by decide +kernel
theorem dL_law_11 : decode cL_law 11 = .ok (.dup, 1) := by decide +kernel
theorem dL_law_12 : decode cL_law 12 = .ok (.invokespecial 12, 3) := by decide +kernel
theorem dL_law_15 : decode cL_law 15 = .ok (.astore_n 2, 1) := by decide +kernel
theorem dL_law_16 : decode cL_law 16 = .ok (.iconst 0, 1) := by decide +kernel
theorem dL_law_17 : decode cL_law 17 = .ok (.istore_n 3, 1) := by decide +kernel
theorem dL_law_18 : decode cL_law 18 = .ok (.iload_n 3, 1) := by decide +kernel
theorem dL_law_19 : decode cL_law 19 = .ok (.aload_n 0, 1) := by decide +kernel
theorem dL_law_20 : decode cL_law 20 = .ok (.arraylength, 1) := by decide +kernel
theorem dL_law_21 : decode cL_law 21 = .ok (.iconst 4, 1) := by decide +kernel
theorem dL_law_22 : decode cL_law 22 = .ok (.isub, 1) := by decide +kernel
theorem dL_law_23 : decode cL_law 23 = .ok (.if_icmp .gt 807, 3) := by decide +kernel
theorem dL_law_26 : decode cL_law 26 = .ok (.aload_n 0, 1) := by decide +kernel
theorem dL_law_27 : decode cL_law 27 = .ok (.iload_n 3, 1) := by decide +kernel
theorem dL_law_28 : decode cL_law 28 = .ok (.iaload, 1) := by decide +kernel
theorem dL_law_29 : decode cL_law 29 = .ok (.bipush 31, 2) := by decide +kernel
theorem dL_law_31 : decode cL_law 31 = .ok (.iand, 1) := by decide +kernel
theorem dL_law_32 : decode cL_law 32 = .ok (.tableswitch 792 0 24 #[116, 139, 152, 165, 178, 211, 244, 277, 300, 313, 336, 359, 402, 435, 478, 521, 564, 607, 630, 673, 686, 729, 742, 755, 778], 116) := by decide +kernel
theorem dL_law_148 : decode cL_law 148 = .ok (.aload_n 1, 1) := by decide +kernel
theorem dL_law_149 : decode cL_law 149 = .ok (.aload_n 0, 1) := by decide +kernel
theorem dL_law_150 : decode cL_law 150 = .ok (.iload_n 3, 1) := by decide +kernel
theorem dL_law_151 : decode cL_law 151 = .ok (.iconst 1, 1) := by decide +kernel
theorem dL_law_152 : decode cL_law 152 = .ok (.iadd, 1) := by decide +kernel
theorem dL_law_153 : decode cL_law 153 = .ok (.iaload, 1) := by decide +kernel
theorem dL_law_154 : decode cL_law 154 = .ok (.invokevirtual 13, 3) := by decide +kernel
theorem dL_law_157 : decode cL_law 157 = .ok (.aload_n 2, 1) := by decide +kernel
theorem dL_law_158 : decode cL_law 158 = .ok (.aload_n 0, 1) := by decide +kernel
theorem dL_law_159 : decode cL_law 159 = .ok (.iload_n 3, 1) := by decide +kernel
theorem dL_law_160 : decode cL_law 160 = .ok (.iconst 1, 1) := by decide +kernel
theorem dL_law_161 : decode cL_law 161 = .ok (.iadd, 1) := by decide +kernel
theorem dL_law_162 : decode cL_law 162 = .ok (.iaload, 1) := by decide +kernel
theorem dL_law_163 : decode cL_law 163 = .ok (.invokevirtual 17, 3) := by decide +kernel
theorem dL_law_166 : decode cL_law 166 = .ok (.if_icmp .eq 658, 3) := by decide +kernel
theorem dL_law_169 : decode cL_law 169 = .ok (.iconst 0, 1) := by decide +kernel
theorem dL_law_170 : decode cL_law 170 = .ok (.ireturn, 1) := by decide +kernel
theorem dL_law_171 : decode cL_law 171 = .ok (.aload_n 1, 1) := by decide +kernel
theorem dL_law_172 : decode cL_law 172 = .ok (.invokevirtual 18, 3) := by decide +kernel
theorem dL_law_175 : decode cL_law 175 = .ok (.aload_n 2, 1) := by decide +kernel
theorem dL_law_176 : decode cL_law 176 = .ok (.invokevirtual 22, 3) := by decide +kernel
theorem dL_law_179 : decode cL_law 179 = .ok (.if_icmp .eq 645, 3) := by decide +kernel
theorem dL_law_182 : decode cL_law 182 = .ok (.iconst 0, 1) := by decide +kernel
theorem dL_law_183 : decode cL_law 183 = .ok (.ireturn, 1) := by decide +kernel
theorem dL_law_184 : decode cL_law 184 = .ok (.aload_n 1, 1) := by decide +kernel
theorem dL_law_185 : decode cL_law 185 = .ok (.invokevirtual 23, 3) := by decide +kernel
theorem dL_law_188 : decode cL_law 188 = .ok (.aload_n 2, 1) := by decide +kernel
theorem dL_law_189 : decode cL_law 189 = .ok (.invokevirtual 26, 3) := by decide +kernel
theorem dL_law_192 : decode cL_law 192 = .ok (.if_icmp .eq 632, 3) := by decide +kernel
theorem dL_law_195 : decode cL_law 195 = .ok (.iconst 0, 1) := by decide +kernel
theorem dL_law_196 : decode cL_law 196 = .ok (.ireturn, 1) := by decide +kernel
theorem dL_law_197 : decode cL_law 197 = .ok (.aload_n 1, 1) := by decide +kernel
theorem dL_law_198 : decode cL_law 198 = .ok (.invokevirtual 27, 3) := by decide +kernel
theorem dL_law_201 : decode cL_law 201 = .ok (.aload_n 2, 1) := by decide +kernel
theorem dL_law_202 : decode cL_law 202 = .ok (.invokevirtual 30, 3) := by decide +kernel
theorem dL_law_205 : decode cL_law 205 = .ok (.if_icmp .eq 619, 3) := by decide +kernel
theorem dL_law_208 : decode cL_law 208 = .ok (.iconst 0, 1) := by decide +kernel
theorem dL_law_209 : decode cL_law 209 = .ok (.ireturn, 1) := by decide +kernel
theorem dL_law_210 : decode cL_law 210 = .ok (.aload_n 1, 1) := by decide +kernel
theorem dL_law_211 : decode cL_law 211 = .ok (.aload_n 0, 1) := by decide +kernel
theorem dL_law_212 : decode cL_law 212 = .ok (.iload_n 3, 1) := by decide +kernel
theorem dL_law_213 : decode cL_law 213 = .ok (.iconst 1, 1) := by decide +kernel
theorem dL_law_214 : decode cL_law 214 = .ok (.iadd, 1) := by decide +kernel
theorem dL_law_215 : decode cL_law 215 = .ok (.iaload, 1) := by decide +kernel
theorem dL_law_216 : decode cL_law 216 = .ok (.aload_n 0, 1) := by decide +kernel
theorem dL_law_217 : decode cL_law 217 = .ok (.iload_n 3, 1) := by decide +kernel
theorem dL_law_218 : decode cL_law 218 = .ok (.iconst 2, 1) := by decide +kernel
theorem dL_law_219 : decode cL_law 219 = .ok (.iadd, 1) := by decide +kernel
theorem dL_law_220 : decode cL_law 220 = .ok (.iaload, 1) := by decide +kernel
theorem dL_law_221 : decode cL_law 221 = .ok (.invokevirtual 31, 3) := by decide +kernel
theorem dL_law_224 : decode cL_law 224 = .ok (.aload_n 2, 1) := by decide +kernel
theorem dL_law_225 : decode cL_law 225 = .ok (.aload_n 0, 1) := by decide +kernel
theorem dL_law_226 : decode cL_law 226 = .ok (.iload_n 3, 1) := by decide +kernel
theorem dL_law_227 : decode cL_law 227 = .ok (.iconst 1, 1) := by decide +kernel
theorem dL_law_228 : decode cL_law 228 = .ok (.iadd, 1) := by decide +kernel
theorem dL_law_229 : decode cL_law 229 = .ok (.iaload, 1) := by decide +kernel
theorem dL_law_230 : decode cL_law 230 = .ok (.aload_n 0, 1) := by decide +kernel
theorem dL_law_231 : decode cL_law 231 = .ok (.iload_n 3, 1) := by decide +kernel
theorem dL_law_232 : decode cL_law 232 = .ok (.iconst 2, 1) := by decide +kernel
theorem dL_law_233 : decode cL_law 233 = .ok (.iadd, 1) := by decide +kernel
theorem dL_law_234 : decode cL_law 234 = .ok (.iaload, 1) := by decide +kernel
theorem dL_law_235 : decode cL_law 235 = .ok (.invokevirtual 35, 3) := by decide +kernel
theorem dL_law_238 : decode cL_law 238 = .ok (.if_icmp .eq 586, 3) := by decide +kernel
theorem dL_law_241 : decode cL_law 241 = .ok (.iconst 0, 1) := by decide +kernel
theorem dL_law_242 : decode cL_law 242 = .ok (.ireturn, 1) := by decide +kernel
theorem dL_law_243 : decode cL_law 243 = .ok (.aload_n 1, 1) := by decide +kernel
theorem dL_law_244 : decode cL_law 244 = .ok (.aload_n 0, 1) := by decide +kernel
theorem dL_law_245 : decode cL_law 245 = .ok (.iload_n 3, 1) := by decide +kernel
theorem dL_law_246 : decode cL_law 246 = .ok (.iconst 1, 1) := by decide +kernel
theorem dL_law_247 : decode cL_law 247 = .ok (.iadd, 1) := by decide +kernel
theorem dL_law_248 : decode cL_law 248 = .ok (.iaload, 1) := by decide +kernel
theorem dL_law_249 : decode cL_law 249 = .ok (.aload_n 0, 1) := by decide +kernel
theorem dL_law_250 : decode cL_law 250 = .ok (.iload_n 3, 1) := by decide +kernel
theorem dL_law_251 : decode cL_law 251 = .ok (.iconst 2, 1) := by decide +kernel
theorem dL_law_252 : decode cL_law 252 = .ok (.iadd, 1) := by decide +kernel
theorem dL_law_253 : decode cL_law 253 = .ok (.iaload, 1) := by decide +kernel
theorem dL_law_254 : decode cL_law 254 = .ok (.invokevirtual 36, 3) := by decide +kernel
theorem dL_law_257 : decode cL_law 257 = .ok (.aload_n 2, 1) := by decide +kernel
theorem dL_law_258 : decode cL_law 258 = .ok (.aload_n 0, 1) := by decide +kernel
theorem dL_law_259 : decode cL_law 259 = .ok (.iload_n 3, 1) := by decide +kernel
theorem dL_law_260 : decode cL_law 260 = .ok (.iconst 1, 1) := by decide +kernel
theorem dL_law_261 : decode cL_law 261 = .ok (.iadd, 1) := by decide +kernel
theorem dL_law_262 : decode cL_law 262 = .ok (.iaload, 1) := by decide +kernel
theorem dL_law_263 : decode cL_law 263 = .ok (.aload_n 0, 1) := by decide +kernel
theorem dL_law_264 : decode cL_law 264 = .ok (.iload_n 3, 1) := by decide +kernel
theorem dL_law_265 : decode cL_law 265 = .ok (.iconst 2, 1) := by decide +kernel
theorem dL_law_266 : decode cL_law 266 = .ok (.iadd, 1) := by decide +kernel
theorem dL_law_267 : decode cL_law 267 = .ok (.iaload, 1) := by decide +kernel
theorem dL_law_268 : decode cL_law 268 = .ok (.invokevirtual 39, 3) := by decide +kernel
theorem dL_law_271 : decode cL_law 271 = .ok (.if_icmp .eq 553, 3) := by decide +kernel
theorem dL_law_274 : decode cL_law 274 = .ok (.iconst 0, 1) := by decide +kernel
theorem dL_law_275 : decode cL_law 275 = .ok (.ireturn, 1) := by decide +kernel
theorem dL_law_276 : decode cL_law 276 = .ok (.aload_n 1, 1) := by decide +kernel
theorem dL_law_277 : decode cL_law 277 = .ok (.aload_n 0, 1) := by decide +kernel
theorem dL_law_278 : decode cL_law 278 = .ok (.iload_n 3, 1) := by decide +kernel
theorem dL_law_279 : decode cL_law 279 = .ok (.iconst 1, 1) := by decide +kernel
theorem dL_law_280 : decode cL_law 280 = .ok (.iadd, 1) := by decide +kernel
theorem dL_law_281 : decode cL_law 281 = .ok (.iaload, 1) := by decide +kernel
theorem dL_law_282 : decode cL_law 282 = .ok (.aload_n 0, 1) := by decide +kernel
theorem dL_law_283 : decode cL_law 283 = .ok (.iload_n 3, 1) := by decide +kernel
theorem dL_law_284 : decode cL_law 284 = .ok (.iconst 2, 1) := by decide +kernel
theorem dL_law_285 : decode cL_law 285 = .ok (.iadd, 1) := by decide +kernel
theorem dL_law_286 : decode cL_law 286 = .ok (.iaload, 1) := by decide +kernel
theorem dL_law_287 : decode cL_law 287 = .ok (.invokevirtual 40, 3) := by decide +kernel
theorem dL_law_290 : decode cL_law 290 = .ok (.aload_n 2, 1) := by decide +kernel
theorem dL_law_291 : decode cL_law 291 = .ok (.aload_n 0, 1) := by decide +kernel
theorem dL_law_292 : decode cL_law 292 = .ok (.iload_n 3, 1) := by decide +kernel
theorem dL_law_293 : decode cL_law 293 = .ok (.iconst 1, 1) := by decide +kernel
theorem dL_law_294 : decode cL_law 294 = .ok (.iadd, 1) := by decide +kernel
theorem dL_law_295 : decode cL_law 295 = .ok (.iaload, 1) := by decide +kernel
theorem dL_law_296 : decode cL_law 296 = .ok (.aload_n 0, 1) := by decide +kernel
theorem dL_law_297 : decode cL_law 297 = .ok (.iload_n 3, 1) := by decide +kernel
theorem dL_law_298 : decode cL_law 298 = .ok (.iconst 2, 1) := by decide +kernel
theorem dL_law_299 : decode cL_law 299 = .ok (.iadd, 1) := by decide +kernel
theorem dL_law_300 : decode cL_law 300 = .ok (.iaload, 1) := by decide +kernel
theorem dL_law_301 : decode cL_law 301 = .ok (.invokevirtual 43, 3) := by decide +kernel
theorem dL_law_304 : decode cL_law 304 = .ok (.if_icmp .eq 520, 3) := by decide +kernel
theorem dL_law_307 : decode cL_law 307 = .ok (.iconst 0, 1) := by decide +kernel
theorem dL_law_308 : decode cL_law 308 = .ok (.ireturn, 1) := by decide +kernel
theorem dL_law_309 : decode cL_law 309 = .ok (.aload_n 1, 1) := by decide +kernel
theorem dL_law_310 : decode cL_law 310 = .ok (.aload_n 0, 1) := by decide +kernel
theorem dL_law_311 : decode cL_law 311 = .ok (.iload_n 3, 1) := by decide +kernel
theorem dL_law_312 : decode cL_law 312 = .ok (.iconst 1, 1) := by decide +kernel
theorem dL_law_313 : decode cL_law 313 = .ok (.iadd, 1) := by decide +kernel
theorem dL_law_314 : decode cL_law 314 = .ok (.iaload, 1) := by decide +kernel
theorem dL_law_315 : decode cL_law 315 = .ok (.invokevirtual 44, 3) := by decide +kernel
theorem dL_law_318 : decode cL_law 318 = .ok (.aload_n 2, 1) := by decide +kernel
theorem dL_law_319 : decode cL_law 319 = .ok (.aload_n 0, 1) := by decide +kernel
theorem dL_law_320 : decode cL_law 320 = .ok (.iload_n 3, 1) := by decide +kernel
theorem dL_law_321 : decode cL_law 321 = .ok (.iconst 1, 1) := by decide +kernel
theorem dL_law_322 : decode cL_law 322 = .ok (.iadd, 1) := by decide +kernel
theorem dL_law_323 : decode cL_law 323 = .ok (.iaload, 1) := by decide +kernel
theorem dL_law_324 : decode cL_law 324 = .ok (.invokevirtual 47, 3) := by decide +kernel
theorem dL_law_327 : decode cL_law 327 = .ok (.if_icmp .eq 497, 3) := by decide +kernel
theorem dL_law_330 : decode cL_law 330 = .ok (.iconst 0, 1) := by decide +kernel
theorem dL_law_331 : decode cL_law 331 = .ok (.ireturn, 1) := by decide +kernel
theorem dL_law_332 : decode cL_law 332 = .ok (.aload_n 1, 1) := by decide +kernel
theorem dL_law_333 : decode cL_law 333 = .ok (.invokevirtual 48, 3) := by decide +kernel
theorem dL_law_336 : decode cL_law 336 = .ok (.aload_n 2, 1) := by decide +kernel
theorem dL_law_337 : decode cL_law 337 = .ok (.invokevirtual 51, 3) := by decide +kernel
theorem dL_law_340 : decode cL_law 340 = .ok (.if_icmp .eq 484, 3) := by decide +kernel
theorem dL_law_343 : decode cL_law 343 = .ok (.iconst 0, 1) := by decide +kernel
theorem dL_law_344 : decode cL_law 344 = .ok (.ireturn, 1) := by decide +kernel
theorem dL_law_345 : decode cL_law 345 = .ok (.aload_n 1, 1) := by decide +kernel
theorem dL_law_346 : decode cL_law 346 = .ok (.aload_n 0, 1) := by decide +kernel
theorem dL_law_347 : decode cL_law 347 = .ok (.iload_n 3, 1) := by decide +kernel
theorem dL_law_348 : decode cL_law 348 = .ok (.iconst 1, 1) := by decide +kernel
theorem dL_law_349 : decode cL_law 349 = .ok (.iadd, 1) := by decide +kernel
theorem dL_law_350 : decode cL_law 350 = .ok (.iaload, 1) := by decide +kernel
theorem dL_law_351 : decode cL_law 351 = .ok (.invokevirtual 52, 3) := by decide +kernel
theorem dL_law_354 : decode cL_law 354 = .ok (.aload_n 2, 1) := by decide +kernel
theorem dL_law_355 : decode cL_law 355 = .ok (.aload_n 0, 1) := by decide +kernel
theorem dL_law_356 : decode cL_law 356 = .ok (.iload_n 3, 1) := by decide +kernel
theorem dL_law_357 : decode cL_law 357 = .ok (.iconst 1, 1) := by decide +kernel
theorem dL_law_358 : decode cL_law 358 = .ok (.iadd, 1) := by decide +kernel
theorem dL_law_359 : decode cL_law 359 = .ok (.iaload, 1) := by decide +kernel
theorem dL_law_360 : decode cL_law 360 = .ok (.invokevirtual 55, 3) := by decide +kernel
theorem dL_law_363 : decode cL_law 363 = .ok (.if_icmp .eq 461, 3) := by decide +kernel
theorem dL_law_366 : decode cL_law 366 = .ok (.iconst 0, 1) := by decide +kernel
theorem dL_law_367 : decode cL_law 367 = .ok (.ireturn, 1) := by decide +kernel
theorem dL_law_368 : decode cL_law 368 = .ok (.aload_n 1, 1) := by decide +kernel
theorem dL_law_369 : decode cL_law 369 = .ok (.aload_n 0, 1) := by decide +kernel
theorem dL_law_370 : decode cL_law 370 = .ok (.iload_n 3, 1) := by decide +kernel
theorem dL_law_371 : decode cL_law 371 = .ok (.iconst 1, 1) := by decide +kernel
theorem dL_law_372 : decode cL_law 372 = .ok (.iadd, 1) := by decide +kernel
theorem dL_law_373 : decode cL_law 373 = .ok (.iaload, 1) := by decide +kernel
theorem dL_law_374 : decode cL_law 374 = .ok (.invokevirtual 56, 3) := by decide +kernel
theorem dL_law_377 : decode cL_law 377 = .ok (.aload_n 2, 1) := by decide +kernel
theorem dL_law_378 : decode cL_law 378 = .ok (.aload_n 0, 1) := by decide +kernel
theorem dL_law_379 : decode cL_law 379 = .ok (.iload_n 3, 1) := by decide +kernel
theorem dL_law_380 : decode cL_law 380 = .ok (.iconst 1, 1) := by decide +kernel
theorem dL_law_381 : decode cL_law 381 = .ok (.iadd, 1) := by decide +kernel
theorem dL_law_382 : decode cL_law 382 = .ok (.iaload, 1) := by decide +kernel
theorem dL_law_383 : decode cL_law 383 = .ok (.invokevirtual 59, 3) := by decide +kernel
theorem dL_law_386 : decode cL_law 386 = .ok (.if_icmp .eq 438, 3) := by decide +kernel
theorem dL_law_389 : decode cL_law 389 = .ok (.iconst 0, 1) := by decide +kernel
theorem dL_law_390 : decode cL_law 390 = .ok (.ireturn, 1) := by decide +kernel
theorem dL_law_391 : decode cL_law 391 = .ok (.aload_n 1, 1) := by decide +kernel
theorem dL_law_392 : decode cL_law 392 = .ok (.aload_n 0, 1) := by decide +kernel
theorem dL_law_393 : decode cL_law 393 = .ok (.iload_n 3, 1) := by decide +kernel
theorem dL_law_394 : decode cL_law 394 = .ok (.iconst 1, 1) := by decide +kernel
theorem dL_law_395 : decode cL_law 395 = .ok (.iadd, 1) := by decide +kernel
theorem dL_law_396 : decode cL_law 396 = .ok (.iaload, 1) := by decide +kernel
theorem dL_law_397 : decode cL_law 397 = .ok (.aload_n 0, 1) := by decide +kernel
theorem dL_law_398 : decode cL_law 398 = .ok (.iload_n 3, 1) := by decide +kernel
theorem dL_law_399 : decode cL_law 399 = .ok (.iconst 2, 1) := by decide +kernel
theorem dL_law_400 : decode cL_law 400 = .ok (.iadd, 1) := by decide +kernel
theorem dL_law_401 : decode cL_law 401 = .ok (.iaload, 1) := by decide +kernel
theorem dL_law_402 : decode cL_law 402 = .ok (.aload_n 0, 1) := by decide +kernel
theorem dL_law_403 : decode cL_law 403 = .ok (.iload_n 3, 1) := by decide +kernel
theorem dL_law_404 : decode cL_law 404 = .ok (.iconst 3, 1) := by decide +kernel
theorem dL_law_405 : decode cL_law 405 = .ok (.iadd, 1) := by decide +kernel
theorem dL_law_406 : decode cL_law 406 = .ok (.iaload, 1) := by decide +kernel
theorem dL_law_407 : decode cL_law 407 = .ok (.invokevirtual 60, 3) := by decide +kernel
theorem dL_law_410 : decode cL_law 410 = .ok (.aload_n 2, 1) := by decide +kernel
theorem dL_law_411 : decode cL_law 411 = .ok (.aload_n 0, 1) := by decide +kernel
theorem dL_law_412 : decode cL_law 412 = .ok (.iload_n 3, 1) := by decide +kernel
theorem dL_law_413 : decode cL_law 413 = .ok (.iconst 1, 1) := by decide +kernel
theorem dL_law_414 : decode cL_law 414 = .ok (.iadd, 1) := by decide +kernel
theorem dL_law_415 : decode cL_law 415 = .ok (.iaload, 1) := by decide +kernel
theorem dL_law_416 : decode cL_law 416 = .ok (.aload_n 0, 1) := by decide +kernel
theorem dL_law_417 : decode cL_law 417 = .ok (.iload_n 3, 1) := by decide +kernel
theorem dL_law_418 : decode cL_law 418 = .ok (.iconst 2, 1) := by decide +kernel
theorem dL_law_419 : decode cL_law 419 = .ok (.iadd, 1) := by decide +kernel
theorem dL_law_420 : decode cL_law 420 = .ok (.iaload, 1) := by decide +kernel
theorem dL_law_421 : decode cL_law 421 = .ok (.aload_n 0, 1) := by decide +kernel
theorem dL_law_422 : decode cL_law 422 = .ok (.iload_n 3, 1) := by decide +kernel
theorem dL_law_423 : decode cL_law 423 = .ok (.iconst 3, 1) := by decide +kernel
theorem dL_law_424 : decode cL_law 424 = .ok (.iadd, 1) := by decide +kernel
theorem dL_law_425 : decode cL_law 425 = .ok (.iaload, 1) := by decide +kernel
theorem dL_law_426 : decode cL_law 426 = .ok (.invokevirtual 64, 3) := by decide +kernel
theorem dL_law_429 : decode cL_law 429 = .ok (.if_icmp .eq 395, 3) := by decide +kernel
theorem dL_law_432 : decode cL_law 432 = .ok (.iconst 0, 1) := by decide +kernel
theorem dL_law_433 : decode cL_law 433 = .ok (.ireturn, 1) := by decide +kernel
theorem dL_law_434 : decode cL_law 434 = .ok (.aload_n 1, 1) := by decide +kernel
theorem dL_law_435 : decode cL_law 435 = .ok (.aload_n 0, 1) := by decide +kernel
theorem dL_law_436 : decode cL_law 436 = .ok (.iload_n 3, 1) := by decide +kernel
theorem dL_law_437 : decode cL_law 437 = .ok (.iconst 1, 1) := by decide +kernel
theorem dL_law_438 : decode cL_law 438 = .ok (.iadd, 1) := by decide +kernel
theorem dL_law_439 : decode cL_law 439 = .ok (.iaload, 1) := by decide +kernel
theorem dL_law_440 : decode cL_law 440 = .ok (.aload_n 0, 1) := by decide +kernel
theorem dL_law_441 : decode cL_law 441 = .ok (.iload_n 3, 1) := by decide +kernel
theorem dL_law_442 : decode cL_law 442 = .ok (.iconst 2, 1) := by decide +kernel
theorem dL_law_443 : decode cL_law 443 = .ok (.iadd, 1) := by decide +kernel
theorem dL_law_444 : decode cL_law 444 = .ok (.iaload, 1) := by decide +kernel
theorem dL_law_445 : decode cL_law 445 = .ok (.invokevirtual 65, 3) := by decide +kernel
theorem dL_law_448 : decode cL_law 448 = .ok (.aload_n 2, 1) := by decide +kernel
theorem dL_law_449 : decode cL_law 449 = .ok (.aload_n 0, 1) := by decide +kernel
theorem dL_law_450 : decode cL_law 450 = .ok (.iload_n 3, 1) := by decide +kernel
theorem dL_law_451 : decode cL_law 451 = .ok (.iconst 1, 1) := by decide +kernel
theorem dL_law_452 : decode cL_law 452 = .ok (.iadd, 1) := by decide +kernel
theorem dL_law_453 : decode cL_law 453 = .ok (.iaload, 1) := by decide +kernel
theorem dL_law_454 : decode cL_law 454 = .ok (.aload_n 0, 1) := by decide +kernel
theorem dL_law_455 : decode cL_law 455 = .ok (.iload_n 3, 1) := by decide +kernel
theorem dL_law_456 : decode cL_law 456 = .ok (.iconst 2, 1) := by decide +kernel
theorem dL_law_457 : decode cL_law 457 = .ok (.iadd, 1) := by decide +kernel
theorem dL_law_458 : decode cL_law 458 = .ok (.iaload, 1) := by decide +kernel
theorem dL_law_459 : decode cL_law 459 = .ok (.invokevirtual 68, 3) := by decide +kernel
theorem dL_law_462 : decode cL_law 462 = .ok (.if_icmp .eq 362, 3) := by decide +kernel
theorem dL_law_465 : decode cL_law 465 = .ok (.iconst 0, 1) := by decide +kernel
theorem dL_law_466 : decode cL_law 466 = .ok (.ireturn, 1) := by decide +kernel
theorem dL_law_467 : decode cL_law 467 = .ok (.aload_n 1, 1) := by decide +kernel
theorem dL_law_468 : decode cL_law 468 = .ok (.aload_n 0, 1) := by decide +kernel
theorem dL_law_469 : decode cL_law 469 = .ok (.iload_n 3, 1) := by decide +kernel
theorem dL_law_470 : decode cL_law 470 = .ok (.iconst 1, 1) := by decide +kernel
theorem dL_law_471 : decode cL_law 471 = .ok (.iadd, 1) := by decide +kernel
theorem dL_law_472 : decode cL_law 472 = .ok (.iaload, 1) := by decide +kernel
theorem dL_law_473 : decode cL_law 473 = .ok (.aload_n 0, 1) := by decide +kernel
theorem dL_law_474 : decode cL_law 474 = .ok (.iload_n 3, 1) := by decide +kernel
theorem dL_law_475 : decode cL_law 475 = .ok (.iconst 2, 1) := by decide +kernel
theorem dL_law_476 : decode cL_law 476 = .ok (.iadd, 1) := by decide +kernel
theorem dL_law_477 : decode cL_law 477 = .ok (.iaload, 1) := by decide +kernel
theorem dL_law_478 : decode cL_law 478 = .ok (.aload_n 0, 1) := by decide +kernel
theorem dL_law_479 : decode cL_law 479 = .ok (.iload_n 3, 1) := by decide +kernel
theorem dL_law_480 : decode cL_law 480 = .ok (.iconst 3, 1) := by decide +kernel
theorem dL_law_481 : decode cL_law 481 = .ok (.iadd, 1) := by decide +kernel
theorem dL_law_482 : decode cL_law 482 = .ok (.iaload, 1) := by decide +kernel
theorem dL_law_483 : decode cL_law 483 = .ok (.invokevirtual 69, 3) := by decide +kernel
theorem dL_law_486 : decode cL_law 486 = .ok (.aload_n 2, 1) := by decide +kernel
theorem dL_law_487 : decode cL_law 487 = .ok (.aload_n 0, 1) := by decide +kernel
theorem dL_law_488 : decode cL_law 488 = .ok (.iload_n 3, 1) := by decide +kernel
theorem dL_law_489 : decode cL_law 489 = .ok (.iconst 1, 1) := by decide +kernel
theorem dL_law_490 : decode cL_law 490 = .ok (.iadd, 1) := by decide +kernel
theorem dL_law_491 : decode cL_law 491 = .ok (.iaload, 1) := by decide +kernel
theorem dL_law_492 : decode cL_law 492 = .ok (.aload_n 0, 1) := by decide +kernel
theorem dL_law_493 : decode cL_law 493 = .ok (.iload_n 3, 1) := by decide +kernel
theorem dL_law_494 : decode cL_law 494 = .ok (.iconst 2, 1) := by decide +kernel
theorem dL_law_495 : decode cL_law 495 = .ok (.iadd, 1) := by decide +kernel
theorem dL_law_496 : decode cL_law 496 = .ok (.iaload, 1) := by decide +kernel
theorem dL_law_497 : decode cL_law 497 = .ok (.aload_n 0, 1) := by decide +kernel
theorem dL_law_498 : decode cL_law 498 = .ok (.iload_n 3, 1) := by decide +kernel
theorem dL_law_499 : decode cL_law 499 = .ok (.iconst 3, 1) := by decide +kernel
theorem dL_law_500 : decode cL_law 500 = .ok (.iadd, 1) := by decide +kernel
theorem dL_law_501 : decode cL_law 501 = .ok (.iaload, 1) := by decide +kernel
theorem dL_law_502 : decode cL_law 502 = .ok (.invokevirtual 72, 3) := by decide +kernel
theorem dL_law_505 : decode cL_law 505 = .ok (.if_icmp .eq 319, 3) := by decide +kernel
theorem dL_law_508 : decode cL_law 508 = .ok (.iconst 0, 1) := by decide +kernel
theorem dL_law_509 : decode cL_law 509 = .ok (.ireturn, 1) := by decide +kernel
theorem dL_law_510 : decode cL_law 510 = .ok (.aload_n 1, 1) := by decide +kernel
theorem dL_law_511 : decode cL_law 511 = .ok (.aload_n 0, 1) := by decide +kernel
theorem dL_law_512 : decode cL_law 512 = .ok (.iload_n 3, 1) := by decide +kernel
theorem dL_law_513 : decode cL_law 513 = .ok (.iconst 1, 1) := by decide +kernel
theorem dL_law_514 : decode cL_law 514 = .ok (.iadd, 1) := by decide +kernel
theorem dL_law_515 : decode cL_law 515 = .ok (.iaload, 1) := by decide +kernel
theorem dL_law_516 : decode cL_law 516 = .ok (.aload_n 0, 1) := by decide +kernel
theorem dL_law_517 : decode cL_law 517 = .ok (.iload_n 3, 1) := by decide +kernel
theorem dL_law_518 : decode cL_law 518 = .ok (.iconst 2, 1) := by decide +kernel
theorem dL_law_519 : decode cL_law 519 = .ok (.iadd, 1) := by decide +kernel
theorem dL_law_520 : decode cL_law 520 = .ok (.iaload, 1) := by decide +kernel
theorem dL_law_521 : decode cL_law 521 = .ok (.aload_n 0, 1) := by decide +kernel
theorem dL_law_522 : decode cL_law 522 = .ok (.iload_n 3, 1) := by decide +kernel
theorem dL_law_523 : decode cL_law 523 = .ok (.iconst 3, 1) := by decide +kernel
theorem dL_law_524 : decode cL_law 524 = .ok (.iadd, 1) := by decide +kernel
theorem dL_law_525 : decode cL_law 525 = .ok (.iaload, 1) := by decide +kernel
theorem dL_law_526 : decode cL_law 526 = .ok (.invokevirtual 73, 3) := by decide +kernel
theorem dL_law_529 : decode cL_law 529 = .ok (.aload_n 2, 1) := by decide +kernel
theorem dL_law_530 : decode cL_law 530 = .ok (.aload_n 0, 1) := by decide +kernel
theorem dL_law_531 : decode cL_law 531 = .ok (.iload_n 3, 1) := by decide +kernel
theorem dL_law_532 : decode cL_law 532 = .ok (.iconst 1, 1) := by decide +kernel
theorem dL_law_533 : decode cL_law 533 = .ok (.iadd, 1) := by decide +kernel
theorem dL_law_534 : decode cL_law 534 = .ok (.iaload, 1) := by decide +kernel
theorem dL_law_535 : decode cL_law 535 = .ok (.aload_n 0, 1) := by decide +kernel
theorem dL_law_536 : decode cL_law 536 = .ok (.iload_n 3, 1) := by decide +kernel
theorem dL_law_537 : decode cL_law 537 = .ok (.iconst 2, 1) := by decide +kernel
theorem dL_law_538 : decode cL_law 538 = .ok (.iadd, 1) := by decide +kernel
theorem dL_law_539 : decode cL_law 539 = .ok (.iaload, 1) := by decide +kernel
theorem dL_law_540 : decode cL_law 540 = .ok (.aload_n 0, 1) := by decide +kernel
theorem dL_law_541 : decode cL_law 541 = .ok (.iload_n 3, 1) := by decide +kernel
theorem dL_law_542 : decode cL_law 542 = .ok (.iconst 3, 1) := by decide +kernel
theorem dL_law_543 : decode cL_law 543 = .ok (.iadd, 1) := by decide +kernel
theorem dL_law_544 : decode cL_law 544 = .ok (.iaload, 1) := by decide +kernel
theorem dL_law_545 : decode cL_law 545 = .ok (.invokevirtual 76, 3) := by decide +kernel
theorem dL_law_548 : decode cL_law 548 = .ok (.if_icmp .eq 276, 3) := by decide +kernel
theorem dL_law_551 : decode cL_law 551 = .ok (.iconst 0, 1) := by decide +kernel
theorem dL_law_552 : decode cL_law 552 = .ok (.ireturn, 1) := by decide +kernel
theorem dL_law_553 : decode cL_law 553 = .ok (.aload_n 1, 1) := by decide +kernel
theorem dL_law_554 : decode cL_law 554 = .ok (.aload_n 0, 1) := by decide +kernel
theorem dL_law_555 : decode cL_law 555 = .ok (.iload_n 3, 1) := by decide +kernel
theorem dL_law_556 : decode cL_law 556 = .ok (.iconst 1, 1) := by decide +kernel
theorem dL_law_557 : decode cL_law 557 = .ok (.iadd, 1) := by decide +kernel
theorem dL_law_558 : decode cL_law 558 = .ok (.iaload, 1) := by decide +kernel
theorem dL_law_559 : decode cL_law 559 = .ok (.aload_n 0, 1) := by decide +kernel
theorem dL_law_560 : decode cL_law 560 = .ok (.iload_n 3, 1) := by decide +kernel
theorem dL_law_561 : decode cL_law 561 = .ok (.iconst 2, 1) := by decide +kernel
theorem dL_law_562 : decode cL_law 562 = .ok (.iadd, 1) := by decide +kernel
theorem dL_law_563 : decode cL_law 563 = .ok (.iaload, 1) := by decide +kernel
theorem dL_law_564 : decode cL_law 564 = .ok (.aload_n 0, 1) := by decide +kernel
theorem dL_law_565 : decode cL_law 565 = .ok (.iload_n 3, 1) := by decide +kernel
theorem dL_law_566 : decode cL_law 566 = .ok (.iconst 3, 1) := by decide +kernel
theorem dL_law_567 : decode cL_law 567 = .ok (.iadd, 1) := by decide +kernel
theorem dL_law_568 : decode cL_law 568 = .ok (.iaload, 1) := by decide +kernel
theorem dL_law_569 : decode cL_law 569 = .ok (.invokevirtual 77, 3) := by decide +kernel
theorem dL_law_572 : decode cL_law 572 = .ok (.aload_n 2, 1) := by decide +kernel
theorem dL_law_573 : decode cL_law 573 = .ok (.aload_n 0, 1) := by decide +kernel
theorem dL_law_574 : decode cL_law 574 = .ok (.iload_n 3, 1) := by decide +kernel
theorem dL_law_575 : decode cL_law 575 = .ok (.iconst 1, 1) := by decide +kernel
theorem dL_law_576 : decode cL_law 576 = .ok (.iadd, 1) := by decide +kernel
theorem dL_law_577 : decode cL_law 577 = .ok (.iaload, 1) := by decide +kernel
theorem dL_law_578 : decode cL_law 578 = .ok (.aload_n 0, 1) := by decide +kernel
theorem dL_law_579 : decode cL_law 579 = .ok (.iload_n 3, 1) := by decide +kernel
theorem dL_law_580 : decode cL_law 580 = .ok (.iconst 2, 1) := by decide +kernel
theorem dL_law_581 : decode cL_law 581 = .ok (.iadd, 1) := by decide +kernel
theorem dL_law_582 : decode cL_law 582 = .ok (.iaload, 1) := by decide +kernel
theorem dL_law_583 : decode cL_law 583 = .ok (.aload_n 0, 1) := by decide +kernel
theorem dL_law_584 : decode cL_law 584 = .ok (.iload_n 3, 1) := by decide +kernel
theorem dL_law_585 : decode cL_law 585 = .ok (.iconst 3, 1) := by decide +kernel
theorem dL_law_586 : decode cL_law 586 = .ok (.iadd, 1) := by decide +kernel
theorem dL_law_587 : decode cL_law 587 = .ok (.iaload, 1) := by decide +kernel
theorem dL_law_588 : decode cL_law 588 = .ok (.invokevirtual 80, 3) := by decide +kernel
theorem dL_law_591 : decode cL_law 591 = .ok (.if_icmp .eq 233, 3) := by decide +kernel
theorem dL_law_594 : decode cL_law 594 = .ok (.iconst 0, 1) := by decide +kernel
theorem dL_law_595 : decode cL_law 595 = .ok (.ireturn, 1) := by decide +kernel
theorem dL_law_596 : decode cL_law 596 = .ok (.aload_n 1, 1) := by decide +kernel
theorem dL_law_597 : decode cL_law 597 = .ok (.aload_n 0, 1) := by decide +kernel
theorem dL_law_598 : decode cL_law 598 = .ok (.iload_n 3, 1) := by decide +kernel
theorem dL_law_599 : decode cL_law 599 = .ok (.iconst 1, 1) := by decide +kernel
theorem dL_law_600 : decode cL_law 600 = .ok (.iadd, 1) := by decide +kernel
theorem dL_law_601 : decode cL_law 601 = .ok (.iaload, 1) := by decide +kernel
theorem dL_law_602 : decode cL_law 602 = .ok (.aload_n 0, 1) := by decide +kernel
theorem dL_law_603 : decode cL_law 603 = .ok (.iload_n 3, 1) := by decide +kernel
theorem dL_law_604 : decode cL_law 604 = .ok (.iconst 2, 1) := by decide +kernel
theorem dL_law_605 : decode cL_law 605 = .ok (.iadd, 1) := by decide +kernel
theorem dL_law_606 : decode cL_law 606 = .ok (.iaload, 1) := by decide +kernel
theorem dL_law_607 : decode cL_law 607 = .ok (.aload_n 0, 1) := by decide +kernel
theorem dL_law_608 : decode cL_law 608 = .ok (.iload_n 3, 1) := by decide +kernel
theorem dL_law_609 : decode cL_law 609 = .ok (.iconst 3, 1) := by decide +kernel
theorem dL_law_610 : decode cL_law 610 = .ok (.iadd, 1) := by decide +kernel
theorem dL_law_611 : decode cL_law 611 = .ok (.iaload, 1) := by decide +kernel
theorem dL_law_612 : decode cL_law 612 = .ok (.invokevirtual 81, 3) := by decide +kernel
theorem dL_law_615 : decode cL_law 615 = .ok (.aload_n 2, 1) := by decide +kernel
theorem dL_law_616 : decode cL_law 616 = .ok (.aload_n 0, 1) := by decide +kernel
theorem dL_law_617 : decode cL_law 617 = .ok (.iload_n 3, 1) := by decide +kernel
theorem dL_law_618 : decode cL_law 618 = .ok (.iconst 1, 1) := by decide +kernel
theorem dL_law_619 : decode cL_law 619 = .ok (.iadd, 1) := by decide +kernel
theorem dL_law_620 : decode cL_law 620 = .ok (.iaload, 1) := by decide +kernel
theorem dL_law_621 : decode cL_law 621 = .ok (.aload_n 0, 1) := by decide +kernel
theorem dL_law_622 : decode cL_law 622 = .ok (.iload_n 3, 1) := by decide +kernel
theorem dL_law_623 : decode cL_law 623 = .ok (.iconst 2, 1) := by decide +kernel
theorem dL_law_624 : decode cL_law 624 = .ok (.iadd, 1) := by decide +kernel
theorem dL_law_625 : decode cL_law 625 = .ok (.iaload, 1) := by decide +kernel
theorem dL_law_626 : decode cL_law 626 = .ok (.aload_n 0, 1) := by decide +kernel
theorem dL_law_627 : decode cL_law 627 = .ok (.iload_n 3, 1) := by decide +kernel
theorem dL_law_628 : decode cL_law 628 = .ok (.iconst 3, 1) := by decide +kernel
theorem dL_law_629 : decode cL_law 629 = .ok (.iadd, 1) := by decide +kernel
theorem dL_law_630 : decode cL_law 630 = .ok (.iaload, 1) := by decide +kernel
theorem dL_law_631 : decode cL_law 631 = .ok (.invokevirtual 84, 3) := by decide +kernel
theorem dL_law_634 : decode cL_law 634 = .ok (.if_icmp .eq 190, 3) := by decide +kernel
theorem dL_law_637 : decode cL_law 637 = .ok (.iconst 0, 1) := by decide +kernel
theorem dL_law_638 : decode cL_law 638 = .ok (.ireturn, 1) := by decide +kernel
theorem dL_law_639 : decode cL_law 639 = .ok (.aload_n 1, 1) := by decide +kernel
theorem dL_law_640 : decode cL_law 640 = .ok (.aload_n 0, 1) := by decide +kernel
theorem dL_law_641 : decode cL_law 641 = .ok (.iload_n 3, 1) := by decide +kernel
theorem dL_law_642 : decode cL_law 642 = .ok (.iconst 1, 1) := by decide +kernel
theorem dL_law_643 : decode cL_law 643 = .ok (.iadd, 1) := by decide +kernel
theorem dL_law_644 : decode cL_law 644 = .ok (.iaload, 1) := by decide +kernel
theorem dL_law_645 : decode cL_law 645 = .ok (.invokevirtual 85, 3) := by decide +kernel
theorem dL_law_648 : decode cL_law 648 = .ok (.aload_n 2, 1) := by decide +kernel
theorem dL_law_649 : decode cL_law 649 = .ok (.aload_n 0, 1) := by decide +kernel
theorem dL_law_650 : decode cL_law 650 = .ok (.iload_n 3, 1) := by decide +kernel
theorem dL_law_651 : decode cL_law 651 = .ok (.iconst 1, 1) := by decide +kernel
theorem dL_law_652 : decode cL_law 652 = .ok (.iadd, 1) := by decide +kernel
theorem dL_law_653 : decode cL_law 653 = .ok (.iaload, 1) := by decide +kernel
theorem dL_law_654 : decode cL_law 654 = .ok (.invokevirtual 88, 3) := by decide +kernel
theorem dL_law_657 : decode cL_law 657 = .ok (.if_icmp .eq 167, 3) := by decide +kernel
theorem dL_law_660 : decode cL_law 660 = .ok (.iconst 0, 1) := by decide +kernel
theorem dL_law_661 : decode cL_law 661 = .ok (.ireturn, 1) := by decide +kernel
theorem dL_law_662 : decode cL_law 662 = .ok (.aload_n 1, 1) := by decide +kernel
theorem dL_law_663 : decode cL_law 663 = .ok (.aload_n 0, 1) := by decide +kernel
theorem dL_law_664 : decode cL_law 664 = .ok (.iload_n 3, 1) := by decide +kernel
theorem dL_law_665 : decode cL_law 665 = .ok (.iconst 1, 1) := by decide +kernel
theorem dL_law_666 : decode cL_law 666 = .ok (.iadd, 1) := by decide +kernel
theorem dL_law_667 : decode cL_law 667 = .ok (.iaload, 1) := by decide +kernel
theorem dL_law_668 : decode cL_law 668 = .ok (.aload_n 0, 1) := by decide +kernel
theorem dL_law_669 : decode cL_law 669 = .ok (.iload_n 3, 1) := by decide +kernel
theorem dL_law_670 : decode cL_law 670 = .ok (.iconst 2, 1) := by decide +kernel
theorem dL_law_671 : decode cL_law 671 = .ok (.iadd, 1) := by decide +kernel
theorem dL_law_672 : decode cL_law 672 = .ok (.iaload, 1) := by decide +kernel
theorem dL_law_673 : decode cL_law 673 = .ok (.aload_n 0, 1) := by decide +kernel
theorem dL_law_674 : decode cL_law 674 = .ok (.iload_n 3, 1) := by decide +kernel
theorem dL_law_675 : decode cL_law 675 = .ok (.iconst 3, 1) := by decide +kernel
theorem dL_law_676 : decode cL_law 676 = .ok (.iadd, 1) := by decide +kernel
theorem dL_law_677 : decode cL_law 677 = .ok (.iaload, 1) := by decide +kernel
theorem dL_law_678 : decode cL_law 678 = .ok (.invokevirtual 89, 3) := by decide +kernel
theorem dL_law_681 : decode cL_law 681 = .ok (.aload_n 2, 1) := by decide +kernel
theorem dL_law_682 : decode cL_law 682 = .ok (.aload_n 0, 1) := by decide +kernel
theorem dL_law_683 : decode cL_law 683 = .ok (.iload_n 3, 1) := by decide +kernel
theorem dL_law_684 : decode cL_law 684 = .ok (.iconst 1, 1) := by decide +kernel
theorem dL_law_685 : decode cL_law 685 = .ok (.iadd, 1) := by decide +kernel
theorem dL_law_686 : decode cL_law 686 = .ok (.iaload, 1) := by decide +kernel
theorem dL_law_687 : decode cL_law 687 = .ok (.aload_n 0, 1) := by decide +kernel
theorem dL_law_688 : decode cL_law 688 = .ok (.iload_n 3, 1) := by decide +kernel
theorem dL_law_689 : decode cL_law 689 = .ok (.iconst 2, 1) := by decide +kernel
theorem dL_law_690 : decode cL_law 690 = .ok (.iadd, 1) := by decide +kernel
theorem dL_law_691 : decode cL_law 691 = .ok (.iaload, 1) := by decide +kernel
theorem dL_law_692 : decode cL_law 692 = .ok (.aload_n 0, 1) := by decide +kernel
theorem dL_law_693 : decode cL_law 693 = .ok (.iload_n 3, 1) := by decide +kernel
theorem dL_law_694 : decode cL_law 694 = .ok (.iconst 3, 1) := by decide +kernel
theorem dL_law_695 : decode cL_law 695 = .ok (.iadd, 1) := by decide +kernel
theorem dL_law_696 : decode cL_law 696 = .ok (.iaload, 1) := by decide +kernel
theorem dL_law_697 : decode cL_law 697 = .ok (.invokevirtual 92, 3) := by decide +kernel
theorem dL_law_700 : decode cL_law 700 = .ok (.if_icmp .eq 124, 3) := by decide +kernel
theorem dL_law_703 : decode cL_law 703 = .ok (.iconst 0, 1) := by decide +kernel
theorem dL_law_704 : decode cL_law 704 = .ok (.ireturn, 1) := by decide +kernel
theorem dL_law_705 : decode cL_law 705 = .ok (.aload_n 1, 1) := by decide +kernel
theorem dL_law_706 : decode cL_law 706 = .ok (.invokevirtual 93, 3) := by decide +kernel
theorem dL_law_709 : decode cL_law 709 = .ok (.aload_n 2, 1) := by decide +kernel
theorem dL_law_710 : decode cL_law 710 = .ok (.invokevirtual 96, 3) := by decide +kernel
theorem dL_law_713 : decode cL_law 713 = .ok (.if_icmp .eq 111, 3) := by decide +kernel
theorem dL_law_716 : decode cL_law 716 = .ok (.iconst 0, 1) := by decide +kernel
theorem dL_law_717 : decode cL_law 717 = .ok (.ireturn, 1) := by decide +kernel
theorem dL_law_718 : decode cL_law 718 = .ok (.aload_n 1, 1) := by decide +kernel
theorem dL_law_719 : decode cL_law 719 = .ok (.aload_n 0, 1) := by decide +kernel
theorem dL_law_720 : decode cL_law 720 = .ok (.iload_n 3, 1) := by decide +kernel
theorem dL_law_721 : decode cL_law 721 = .ok (.iconst 1, 1) := by decide +kernel
theorem dL_law_722 : decode cL_law 722 = .ok (.iadd, 1) := by decide +kernel
theorem dL_law_723 : decode cL_law 723 = .ok (.iaload, 1) := by decide +kernel
theorem dL_law_724 : decode cL_law 724 = .ok (.aload_n 0, 1) := by decide +kernel
theorem dL_law_725 : decode cL_law 725 = .ok (.iload_n 3, 1) := by decide +kernel
theorem dL_law_726 : decode cL_law 726 = .ok (.iconst 2, 1) := by decide +kernel
theorem dL_law_727 : decode cL_law 727 = .ok (.iadd, 1) := by decide +kernel
theorem dL_law_728 : decode cL_law 728 = .ok (.iaload, 1) := by decide +kernel
theorem dL_law_729 : decode cL_law 729 = .ok (.aload_n 0, 1) := by decide +kernel
theorem dL_law_730 : decode cL_law 730 = .ok (.iload_n 3, 1) := by decide +kernel
theorem dL_law_731 : decode cL_law 731 = .ok (.iconst 3, 1) := by decide +kernel
theorem dL_law_732 : decode cL_law 732 = .ok (.iadd, 1) := by decide +kernel
theorem dL_law_733 : decode cL_law 733 = .ok (.iaload, 1) := by decide +kernel
theorem dL_law_734 : decode cL_law 734 = .ok (.invokevirtual 97, 3) := by decide +kernel
theorem dL_law_737 : decode cL_law 737 = .ok (.aload_n 2, 1) := by decide +kernel
theorem dL_law_738 : decode cL_law 738 = .ok (.aload_n 0, 1) := by decide +kernel
theorem dL_law_739 : decode cL_law 739 = .ok (.iload_n 3, 1) := by decide +kernel
theorem dL_law_740 : decode cL_law 740 = .ok (.iconst 1, 1) := by decide +kernel
theorem dL_law_741 : decode cL_law 741 = .ok (.iadd, 1) := by decide +kernel
theorem dL_law_742 : decode cL_law 742 = .ok (.iaload, 1) := by decide +kernel
theorem dL_law_743 : decode cL_law 743 = .ok (.aload_n 0, 1) := by decide +kernel
theorem dL_law_744 : decode cL_law 744 = .ok (.iload_n 3, 1) := by decide +kernel
theorem dL_law_745 : decode cL_law 745 = .ok (.iconst 2, 1) := by decide +kernel
theorem dL_law_746 : decode cL_law 746 = .ok (.iadd, 1) := by decide +kernel
theorem dL_law_747 : decode cL_law 747 = .ok (.iaload, 1) := by decide +kernel
theorem dL_law_748 : decode cL_law 748 = .ok (.aload_n 0, 1) := by decide +kernel
theorem dL_law_749 : decode cL_law 749 = .ok (.iload_n 3, 1) := by decide +kernel
theorem dL_law_750 : decode cL_law 750 = .ok (.iconst 3, 1) := by decide +kernel
theorem dL_law_751 : decode cL_law 751 = .ok (.iadd, 1) := by decide +kernel
theorem dL_law_752 : decode cL_law 752 = .ok (.iaload, 1) := by decide +kernel
theorem dL_law_753 : decode cL_law 753 = .ok (.invokevirtual 100, 3) := by decide +kernel
theorem dL_law_756 : decode cL_law 756 = .ok (.if_icmp .eq 68, 3) := by decide +kernel
theorem dL_law_759 : decode cL_law 759 = .ok (.iconst 0, 1) := by decide +kernel
theorem dL_law_760 : decode cL_law 760 = .ok (.ireturn, 1) := by decide +kernel
theorem dL_law_761 : decode cL_law 761 = .ok (.aload_n 1, 1) := by decide +kernel
theorem dL_law_762 : decode cL_law 762 = .ok (.invokevirtual 101, 3) := by decide +kernel
theorem dL_law_765 : decode cL_law 765 = .ok (.aload_n 2, 1) := by decide +kernel
theorem dL_law_766 : decode cL_law 766 = .ok (.invokevirtual 104, 3) := by decide +kernel
theorem dL_law_769 : decode cL_law 769 = .ok (.if_icmp .eq 55, 3) := by decide +kernel
theorem dL_law_772 : decode cL_law 772 = .ok (.iconst 0, 1) := by decide +kernel
theorem dL_law_773 : decode cL_law 773 = .ok (.ireturn, 1) := by decide +kernel
theorem dL_law_774 : decode cL_law 774 = .ok (.aload_n 1, 1) := by decide +kernel
theorem dL_law_775 : decode cL_law 775 = .ok (.invokevirtual 105, 3) := by decide +kernel
theorem dL_law_778 : decode cL_law 778 = .ok (.aload_n 2, 1) := by decide +kernel
theorem dL_law_779 : decode cL_law 779 = .ok (.invokevirtual 108, 3) := by decide +kernel
theorem dL_law_782 : decode cL_law 782 = .ok (.if_icmp .eq 42, 3) := by decide +kernel
theorem dL_law_785 : decode cL_law 785 = .ok (.iconst 0, 1) := by decide +kernel
theorem dL_law_786 : decode cL_law 786 = .ok (.ireturn, 1) := by decide +kernel
theorem dL_law_787 : decode cL_law 787 = .ok (.aload_n 1, 1) := by decide +kernel
theorem dL_law_788 : decode cL_law 788 = .ok (.aload_n 0, 1) := by decide +kernel
theorem dL_law_789 : decode cL_law 789 = .ok (.iload_n 3, 1) := by decide +kernel
theorem dL_law_790 : decode cL_law 790 = .ok (.iconst 1, 1) := by decide +kernel
theorem dL_law_791 : decode cL_law 791 = .ok (.iadd, 1) := by decide +kernel
theorem dL_law_792 : decode cL_law 792 = .ok (.iaload, 1) := by decide +kernel
theorem dL_law_793 : decode cL_law 793 = .ok (.invokevirtual 109, 3) := by decide +kernel
theorem dL_law_796 : decode cL_law 796 = .ok (.aload_n 2, 1) := by decide +kernel
theorem dL_law_797 : decode cL_law 797 = .ok (.aload_n 0, 1) := by decide +kernel
theorem dL_law_798 : decode cL_law 798 = .ok (.iload_n 3, 1) := by decide +kernel
theorem dL_law_799 : decode cL_law 799 = .ok (.iconst 1, 1) := by decide +kernel
theorem dL_law_800 : decode cL_law 800 = .ok (.iadd, 1) := by decide +kernel
theorem dL_law_801 : decode cL_law 801 = .ok (.iaload, 1) := by decide +kernel
theorem dL_law_802 : decode cL_law 802 = .ok (.invokevirtual 112, 3) := by decide +kernel
theorem dL_law_805 : decode cL_law 805 = .ok (.if_icmp .eq 19, 3) := by decide +kernel
theorem dL_law_808 : decode cL_law 808 = .ok (.iconst 0, 1) := by decide +kernel
theorem dL_law_809 : decode cL_law 809 = .ok (.ireturn, 1) := by decide +kernel
theorem dL_law_810 : decode cL_law 810 = .ok (.aload_n 1, 1) := by decide +kernel
theorem dL_law_811 : decode cL_law 811 = .ok (.invokevirtual 113, 3) := by decide +kernel
theorem dL_law_814 : decode cL_law 814 = .ok (.aload_n 2, 1) := by decide +kernel
theorem dL_law_815 : decode cL_law 815 = .ok (.invokevirtual 117, 3) := by decide +kernel
theorem dL_law_818 : decode cL_law 818 = .ok (.lcmp, 1) := by decide +kernel
theorem dL_law_819 : decode cL_law 819 = .ok (.ifCond .eq 5, 3) := by decide +kernel
theorem dL_law_822 : decode cL_law 822 = .ok (.iconst 0, 1) := by decide +kernel
theorem dL_law_823 : decode cL_law 823 = .ok (.ireturn, 1) := by decide +kernel
theorem dL_law_824 : decode cL_law 824 = .ok (.iinc 3 4, 3) := by decide +kernel
theorem dL_law_827 : decode cL_law 827 = .ok (.goto (-809), 3) := by decide +kernel
theorem dL_law_830 : decode cL_law 830 = .ok (.iconst 1, 1) := by decide +kernel
theorem dL_law_831 : decode cL_law 831 = .ok (.ireturn, 1) := by decide +kernel
end
section
/-! ===== the words that contracts use: all of the tables that keep ===== -/
def gG : List Cond := lw_tbl.filter goodWord
theorem gG_of {w : Cond} (i : Nat) (h : lw_tbl[i]? = some w) (g : goodWord w = true) : w ∈ gG := List.mem_filter.mpr ⟨List.mem_of_getElem? h, g⟩
theorem gG_good {big : List Cond} (h : ∀ w ∈ big, w ∈ gG) {Ts : List Cond} (hs : ∀ w ∈ gG, w ∈ Ts) : GoodIn Ts big := fun w hw => ⟨hs w (h w hw), good_of_word (List.mem_filter.mp (h w hw)).2⟩
theorem gG_sub (ws : List Cond) (ps : List Nat) (hp : ws = ps.filterMap (fun i => lw_tbl[i]?)) (hg : ws.all goodWord = true) : ∀ w ∈ ws, w ∈ gG := fun w hw => by
  have h1 := List.all_eq_true.mp hg w hw
  rw [hp] at hw
  obtain ⟨i, -, hi⟩ := List.mem_filterMap.mp hw
  exact List.mem_filter.mpr ⟨List.mem_of_getElem? hi, h1⟩
theorem q0 : Cond.selects RX4 yX4_fitsAt yX4_fitsAt ∈ gG := gG_of 0 (by decide +kernel) (by decide +kernel)
theorem q1 : Cond.selects RX5 yX5_leanAhead yX5_leanAhead ∈ gG := gG_of 1 (by decide +kernel) (by decide +kernel)
theorem q2 : Cond.selects RX5 yX5_leanBehind yX5_leanBehind ∈ gG := gG_of 2 (by decide +kernel) (by decide +kernel)
theorem q3 : Cond.selects RX8 yX8_leansLeft yX8_leansLeft ∈ gG := gG_of 3 (by decide +kernel) (by decide +kernel)
theorem q4 : Cond.selects RX8 yX8_bestQuestion yX8_bestQuestion ∈ gG := gG_of 4 (by decide +kernel) (by decide +kernel)
theorem q5 : Cond.selects RX8 yX8_mostAlike yX8_mostAlike ∈ gG := gG_of 5 (by decide +kernel) (by decide +kernel)
theorem q6 : Cond.selects RX8 yX8_isQuestion yX8_isQuestion ∈ gG := gG_of 6 (by decide +kernel) (by decide +kernel)
theorem q7 : Cond.selects RX8 yX8_howManyLean yX8_howManyLean ∈ gG := gG_of 7 (by decide +kernel) (by decide +kernel)
theorem q8 : Cond.selects RX8 yX8_ordersDecided yX8_ordersDecided ∈ gG := gG_of 8 (by decide +kernel) (by decide +kernel)
theorem q9 : Cond.selects RX8 yX8_fillSubsetSums yX8_fillSubsetSums ∈ gG := gG_of 9 (by decide +kernel) (by decide +kernel)
theorem q10 : Cond.selects RX8 yX8_partsCarried yX8_partsCarried ∈ gG := gG_of 10 (by decide +kernel) (by decide +kernel)
theorem q11 : Cond.selects RX8 yX8_fewestCut yX8_fewestCut ∈ gG := gG_of 11 (by decide +kernel) (by decide +kernel)
theorem q12 : Cond.selects RX8 yX8_fewestTurned yX8_fewestTurned ∈ gG := gG_of 12 (by decide +kernel) (by decide +kernel)
theorem q13 : Cond.selects RX8 yX8_comesOutTurned yX8_comesOutTurned ∈ gG := gG_of 13 (by decide +kernel) (by decide +kernel)
theorem q14 : Cond.selects RX8 yX8_leanOtherwise yX8_leanOtherwise ∈ gG := gG_of 14 (by decide +kernel) (by decide +kernel)
theorem q15 : Cond.selects RX8 yX8_tidesTillAgain yX8_tidesTillAgain ∈ gG := gG_of 15 (by decide +kernel) (by decide +kernel)
theorem q16 : Cond.selects RX8 yX8_firstLike yX8_firstLike ∈ gG := gG_of 16 (by decide +kernel) (by decide +kernel)
theorem q17 : Cond.selects RX8 yX8_howManyCarriedNow yX8_howManyCarriedNow ∈ gG := gG_of 17 (by decide +kernel) (by decide +kernel)
theorem q18 : Cond.selects RX8 yX8_mixedQuestion yX8_mixedQuestion ∈ gG := gG_of 18 (by decide +kernel) (by decide +kernel)
theorem q19 : Cond.selects RX9 yX9_read yX9_read ∈ gG := gG_of 19 (by decide +kernel) (by decide +kernel)
theorem q20 : Cond.selects RX9 yX9_readOne yX9_readOne ∈ gG := gG_of 20 (by decide +kernel) (by decide +kernel)
theorem q21 : Cond.selects RX9 yX9_at yX9_at ∈ gG := gG_of 21 (by decide +kernel) (by decide +kernel)
theorem q22 : Cond.selects RX9 yX9_isMussel yX9_isMussel ∈ gG := gG_of 22 (by decide +kernel) (by decide +kernel)
theorem q23 : Cond.selects RX9 yX9_musselNow yX9_musselNow ∈ gG := gG_of 23 (by decide +kernel) (by decide +kernel)
theorem q24 : Cond.selects RX9 yX9_leansOf yX9_leansOf ∈ gG := gG_of 24 (by decide +kernel) (by decide +kernel)
theorem q25 : Cond.selects RX9 yX9_laySums yX9_laySums ∈ gG := gG_of 25 (by decide +kernel) (by decide +kernel)
theorem q26 : Cond.selects RX9 yX9_sumOf yX9_sumOf ∈ gG := gG_of 26 (by decide +kernel) (by decide +kernel)
theorem q27 : Cond.selects RX9 yX9_isFelt yX9_isFelt ∈ gG := gG_of 27 (by decide +kernel) (by decide +kernel)
theorem q28 : Cond.selects RX9 yX9_pulls yX9_pulls ∈ gG := gG_of 28 (by decide +kernel) (by decide +kernel)
theorem q29 : Cond.selects RX9 yX9_leanAhead yX9_leanAhead ∈ gG := gG_of 29 (by decide +kernel) (by decide +kernel)
theorem q30 : Cond.selects RX9 yX9_leanBehind yX9_leanBehind ∈ gG := gG_of 30 (by decide +kernel) (by decide +kernel)
theorem q31 : Cond.selects RX9 yX9_askOf yX9_askOf ∈ gG := gG_of 31 (by decide +kernel) (by decide +kernel)
theorem q32 : Cond.selects RX9 yX9_worstOn yX9_worstOn ∈ gG := gG_of 32 (by decide +kernel) (by decide +kernel)
theorem q33 : Cond.selects RX9 yX9_isQuestion yX9_isQuestion ∈ gG := gG_of 33 (by decide +kernel) (by decide +kernel)
theorem q34 : Cond.selects RX9 yX9_questionNow yX9_questionNow ∈ gG := gG_of 34 (by decide +kernel) (by decide +kernel)
theorem q35 : Cond.selects RX9 yX9_outOf yX9_outOf ∈ gG := gG_of 35 (by decide +kernel) (by decide +kernel)
theorem q36 : Cond.selects RX9 yX9_leaning yX9_leaning ∈ gG := gG_of 36 (by decide +kernel) (by decide +kernel)
theorem q37 : Cond.selects RX9 yX9_turnTide yX9_turnTide ∈ gG := gG_of 37 (by decide +kernel) (by decide +kernel)
theorem q38 : Cond.selects RX9 yX9_felt yX9_felt ∈ gG := gG_of 38 (by decide +kernel) (by decide +kernel)
theorem q39 : Cond.selects RX9 yX9_sayNow yX9_sayNow ∈ gG := gG_of 39 (by decide +kernel) (by decide +kernel)
theorem q40 : Cond.selects RX9 yX9_forBy yX9_forBy ∈ gG := gG_of 40 (by decide +kernel) (by decide +kernel)
theorem q41 : Cond.selects RX9 yX9_chanceNow yX9_chanceNow ∈ gG := gG_of 41 (by decide +kernel) (by decide +kernel)
theorem q42 : Cond.selects RX9 yX9_cutsNow yX9_cutsNow ∈ gG := gG_of 42 (by decide +kernel) (by decide +kernel)
theorem q43 : Cond.selects RX9 yX9_turnsNow yX9_turnsNow ∈ gG := gG_of 43 (by decide +kernel) (by decide +kernel)
theorem q44 : Cond.selects RX9 yX9_saveLeans yX9_saveLeans ∈ gG := gG_of 44 (by decide +kernel) (by decide +kernel)
theorem q45 : Cond.selects RX9 yX9_otherwise yX9_otherwise ∈ gG := gG_of 45 (by decide +kernel) (by decide +kernel)
theorem q46 : Cond.selects RX9 yX9_loadLeans yX9_loadLeans ∈ gG := gG_of 46 (by decide +kernel) (by decide +kernel)
theorem q47 : Cond.selects RX9 yX9_settleNow yX9_settleNow ∈ gG := gG_of 47 (by decide +kernel) (by decide +kernel)
theorem q48 : Cond.selects RX9 yX9_leansTold yX9_leansTold ∈ gG := gG_of 48 (by decide +kernel) (by decide +kernel)
theorem q49 : Cond.selects RX9 yX9_tidesNow yX9_tidesNow ∈ gG := gG_of 49 (by decide +kernel) (by decide +kernel)
theorem q50 : Cond.selects RX9 yX9_draw yX9_draw ∈ gG := gG_of 50 (by decide +kernel) (by decide +kernel)
theorem q51 : Cond.selects RX9 yX9_howMany yX9_howMany ∈ gG := gG_of 51 (by decide +kernel) (by decide +kernel)
theorem q52 : Cond.selects RX9 yX9_weights yX9_weights ∈ gG := gG_of 52 (by decide +kernel) (by decide +kernel)
theorem q53 : Cond.selects RX9 yX9_carriedNow yX9_carriedNow ∈ gG := gG_of 53 (by decide +kernel) (by decide +kernel)
theorem q54 : Cond.selects RX9 yX9_mix yX9_mix ∈ gG := gG_of 54 (by decide +kernel) (by decide +kernel)
theorem q55 : Cond.selects RX9 yX9_mixQuestion yX9_mixQuestion ∈ gG := gG_of 55 (by decide +kernel) (by decide +kernel)
theorem q56 : Cond.initialized RL ∈ gG := gG_of 56 (by decide +kernel) (by decide +kernel)
theorem q57 : Cond.initialized RX8 ∈ gG := gG_of 57 (by decide +kernel) (by decide +kernel)
theorem q58 : Cond.initialized RX4 ∈ gG := gG_of 58 (by decide +kernel) (by decide +kernel)
theorem q59 : Cond.initialized RX5 ∈ gG := gG_of 59 (by decide +kernel) (by decide +kernel)
theorem q60 : Cond.initialized RX3 ∈ gG := gG_of 60 (by decide +kernel) (by decide +kernel)
theorem q61 : Cond.initialized RX1 ∈ gG := gG_of 61 (by decide +kernel) (by decide +kernel)
theorem q62 : Cond.initialized RX0 ∈ gG := gG_of 62 (by decide +kernel) (by decide +kernel)
theorem q63 : Cond.initialized RX2 ∈ gG := gG_of 63 (by decide +kernel) (by decide +kernel)
theorem q64 : Cond.initialized RX7 ∈ gG := gG_of 64 (by decide +kernel) (by decide +kernel)
theorem q65 : Cond.initialized RX6 ∈ gG := gG_of 65 (by decide +kernel) (by decide +kernel)
theorem q66 : Cond.initialized RX9 ∈ gG := gG_of 66 (by decide +kernel) (by decide +kernel)
theorem q67 : Cond.initialized RJ0 ∈ gG := gG_of 67 (by decide +kernel) (by decide +kernel)
theorem q68 : Cond.initialized RJ1 ∈ gG := gG_of 68 (by decide +kernel) (by decide +kernel)
theorem q69 : Cond.initialized RJ9 ∈ gG := gG_of 69 (by decide +kernel) (by decide +kernel)
theorem q70 : Cond.initialized RJ2 ∈ gG := gG_of 70 (by decide +kernel) (by decide +kernel)
theorem q71 : Cond.initialized RJ3 ∈ gG := gG_of 71 (by decide +kernel) (by decide +kernel)
theorem q72 : Cond.initialized RJ11 ∈ gG := gG_of 72 (by decide +kernel) (by decide +kernel)
theorem q73 : Cond.initialized RJ10 ∈ gG := gG_of 73 (by decide +kernel) (by decide +kernel)
theorem q74 : Cond.initialized RJ6 ∈ gG := gG_of 74 (by decide +kernel) (by decide +kernel)
theorem q75 : Cond.classLink RL 7 RX8 ∈ gG := gG_of 75 (by decide +kernel) (by decide +kernel)
theorem q76 : Cond.instantiable RX8 12 ∈ gG := gG_of 76 (by decide +kernel) (by decide +kernel)
theorem q77 : Cond.methodLink RL 9 yX8_init ∈ gG := gG_of 77 (by decide +kernel) (by decide +kernel)
theorem q78 : Cond.instanceMethod yX8_init ∈ gG := gG_of 78 (by decide +kernel) (by decide +kernel)
theorem q79 : Cond.code yX8_init cX8_init 1 none ∈ gG := gG_of 79 (by decide +kernel) (by decide +kernel)
theorem q80 : Cond.methodLink RX8 1 objectInit ∈ gG := gG_of 80 (by decide +kernel) (by decide +kernel)
theorem q81 : Cond.instanceMethod objectInit ∈ gG := gG_of 81 (by decide +kernel) (by decide +kernel)
theorem q82 : Cond.code objectInit object_method_1_code 1 none ∈ gG := gG_of 82 (by decide +kernel) (by decide +kernel)
theorem q83 : Cond.classLink RX8 7 RX4 ∈ gG := gG_of 83 (by decide +kernel) (by decide +kernel)
theorem q84 : Cond.instantiable RX4 2 ∈ gG := gG_of 84 (by decide +kernel) (by decide +kernel)
theorem q86 : Cond.instanceMethod yX4_init ∈ gG := gG_of 86 (by decide +kernel) (by decide +kernel)
theorem q87 : Cond.code yX4_init cX4_init 1 none ∈ gG := gG_of 87 (by decide +kernel) (by decide +kernel)
theorem q88 : Cond.methodLink RX4 3 objectInit ∈ gG := gG_of 88 (by decide +kernel) (by decide +kernel)
theorem q89 : Cond.fieldLink RX4 9 RX4 "letters" "[I" ∈ gG := gG_of 89 (by decide +kernel) (by decide +kernel)
theorem q90 : Cond.fieldLink RX8 54 RX4 "letters" "[I" ∈ gG := gG_of 90 (by decide +kernel) (by decide +kernel)
theorem q91 : Cond.fieldLink RX4 15 RX4 "length" "I" ∈ gG := gG_of 91 (by decide +kernel) (by decide +kernel)
theorem q92 : Cond.fieldLink RX8 50 RX4 "length" "I" ∈ gG := gG_of 92 (by decide +kernel) (by decide +kernel)
theorem q97 : Cond.superclass RX4 "java/lang/Object" ∈ gG := gG_of 97 (by decide +kernel) (by decide +kernel)
theorem q98 : Cond.arrayClass FieldType.int ∈ gG := gG_of 98 (by decide +kernel) (by decide +kernel)
theorem q99 : Cond.classLink RX8 16 RX5 ∈ gG := gG_of 99 (by decide +kernel) (by decide +kernel)
theorem q100 : Cond.instantiable RX5 3 ∈ gG := gG_of 100 (by decide +kernel) (by decide +kernel)
theorem q102 : Cond.instanceMethod yX5_init ∈ gG := gG_of 102 (by decide +kernel) (by decide +kernel)
theorem q103 : Cond.code yX5_init cX5_init 1 none ∈ gG := gG_of 103 (by decide +kernel) (by decide +kernel)
theorem q104 : Cond.methodLink RX5 3 objectInit ∈ gG := gG_of 104 (by decide +kernel) (by decide +kernel)
theorem q105 : Cond.classLink RX5 9 RX3 ∈ gG := gG_of 105 (by decide +kernel) (by decide +kernel)
theorem q107 : Cond.instantiable RX3 0 ∈ gG := gG_of 107 (by decide +kernel) (by decide +kernel)
theorem q109 : Cond.instanceMethod yX3_init ∈ gG := gG_of 109 (by decide +kernel) (by decide +kernel)
theorem q110 : Cond.code yX3_init cX3_init 1 none ∈ gG := gG_of 110 (by decide +kernel) (by decide +kernel)
theorem q111 : Cond.methodLink RX3 1 objectInit ∈ gG := gG_of 111 (by decide +kernel) (by decide +kernel)
theorem q112 : Cond.superclass RX3 "java/lang/Object" ∈ gG := gG_of 112 (by decide +kernel) (by decide +kernel)
theorem q113 : Cond.classLink RX5 12 RX1 ∈ gG := gG_of 113 (by decide +kernel) (by decide +kernel)
theorem q114 : Cond.instantiable RX1 0 ∈ gG := gG_of 114 (by decide +kernel) (by decide +kernel)
theorem q116 : Cond.instanceMethod yX1_init ∈ gG := gG_of 116 (by decide +kernel) (by decide +kernel)
theorem q117 : Cond.code yX1_init cX1_init 1 none ∈ gG := gG_of 117 (by decide +kernel) (by decide +kernel)
theorem q119 : Cond.superclass RX1 RX3 ∈ gG := gG_of 119 (by decide +kernel) (by decide +kernel)
theorem q120 : Cond.classLink RX5 15 RX0 ∈ gG := gG_of 120 (by decide +kernel) (by decide +kernel)
theorem q121 : Cond.instantiable RX0 0 ∈ gG := gG_of 121 (by decide +kernel) (by decide +kernel)
theorem q123 : Cond.instanceMethod yX0_init ∈ gG := gG_of 123 (by decide +kernel) (by decide +kernel)
theorem q124 : Cond.code yX0_init cX0_init 1 none ∈ gG := gG_of 124 (by decide +kernel) (by decide +kernel)
theorem q126 : Cond.superclass RX0 RX3 ∈ gG := gG_of 126 (by decide +kernel) (by decide +kernel)
theorem q127 : Cond.classLink RX5 18 RX2 ∈ gG := gG_of 127 (by decide +kernel) (by decide +kernel)
theorem q128 : Cond.instantiable RX2 0 ∈ gG := gG_of 128 (by decide +kernel) (by decide +kernel)
theorem q130 : Cond.instanceMethod yX2_init ∈ gG := gG_of 130 (by decide +kernel) (by decide +kernel)
theorem q131 : Cond.code yX2_init cX2_init 1 none ∈ gG := gG_of 131 (by decide +kernel) (by decide +kernel)
theorem q133 : Cond.superclass RX2 RX3 ∈ gG := gG_of 133 (by decide +kernel) (by decide +kernel)
theorem q134 : Cond.classLink RX5 21 RX7 ∈ gG := gG_of 134 (by decide +kernel) (by decide +kernel)
theorem q135 : Cond.instantiable RX7 0 ∈ gG := gG_of 135 (by decide +kernel) (by decide +kernel)
theorem q137 : Cond.instanceMethod yX7_init ∈ gG := gG_of 137 (by decide +kernel) (by decide +kernel)
theorem q138 : Cond.code yX7_init cX7_init 1 none ∈ gG := gG_of 138 (by decide +kernel) (by decide +kernel)
theorem q140 : Cond.superclass RX7 RX2 ∈ gG := gG_of 140 (by decide +kernel) (by decide +kernel)
theorem q141 : Cond.fieldLink RX5 24 RX5 "kinds" "[LRopeVote$Mussel;" ∈ gG := gG_of 141 (by decide +kernel) (by decide +kernel)
theorem q142 : Cond.fieldLink RX5 30 RX5 "hung" "[I" ∈ gG := gG_of 142 (by decide +kernel) (by decide +kernel)
theorem q143 : Cond.fieldLink RX5 34 RX5 "size" "I" ∈ gG := gG_of 143 (by decide +kernel) (by decide +kernel)
theorem q144 : Cond.fieldLink RX8 68 RX5 "size" "I" ∈ gG := gG_of 144 (by decide +kernel) (by decide +kernel)
theorem q151 : Cond.superclass RX5 "java/lang/Object" ∈ gG := gG_of 151 (by decide +kernel) (by decide +kernel)
theorem q152 : Cond.classLink RX8 23 RX6 ∈ gG := gG_of 152 (by decide +kernel) (by decide +kernel)
theorem q153 : Cond.instantiable RX6 10 ∈ gG := gG_of 153 (by decide +kernel) (by decide +kernel)
theorem q155 : Cond.instanceMethod yX6_init ∈ gG := gG_of 155 (by decide +kernel) (by decide +kernel)
theorem q156 : Cond.code yX6_init cX6_init 1 none ∈ gG := gG_of 156 (by decide +kernel) (by decide +kernel)
theorem q157 : Cond.methodLink RX6 3 objectInit ∈ gG := gG_of 157 (by decide +kernel) (by decide +kernel)
theorem q158 : Cond.classLink RX6 15 "[[I" ∈ gG := gG_of 158 (by decide +kernel) (by decide +kernel)
theorem q160 : Cond.fieldLink RX6 9 RX6 "weights" "[I" ∈ gG := gG_of 160 (by decide +kernel) (by decide +kernel)
theorem q161 : Cond.fieldLink RX8 79 RX6 "weights" "[I" ∈ gG := gG_of 161 (by decide +kernel) (by decide +kernel)
theorem q162 : Cond.fieldLink RX5 61 RX6 "weights" "[I" ∈ gG := gG_of 162 (by decide +kernel) (by decide +kernel)
theorem q163 : Cond.fieldLink RX6 17 RX6 "leans" "[[I" ∈ gG := gG_of 163 (by decide +kernel) (by decide +kernel)
theorem q164 : Cond.fieldLink RX8 85 RX6 "leans" "[[I" ∈ gG := gG_of 164 (by decide +kernel) (by decide +kernel)
theorem q165 : Cond.fieldLink RX5 64 RX6 "leans" "[[I" ∈ gG := gG_of 165 (by decide +kernel) (by decide +kernel)
theorem q166 : Cond.fieldLink RX6 20 RX6 "cutThreads" "[I" ∈ gG := gG_of 166 (by decide +kernel) (by decide +kernel)
theorem q167 : Cond.fieldLink RX5 38 RX6 "cutThreads" "[I" ∈ gG := gG_of 167 (by decide +kernel) (by decide +kernel)
theorem q168 : Cond.fieldLink RX8 124 RX6 "cutThreads" "[I" ∈ gG := gG_of 168 (by decide +kernel) (by decide +kernel)
theorem q169 : Cond.fieldLink RX6 23 RX6 "asked" "[I" ∈ gG := gG_of 169 (by decide +kernel) (by decide +kernel)
theorem q170 : Cond.fieldLink RX8 150 RX6 "asked" "[I" ∈ gG := gG_of 170 (by decide +kernel) (by decide +kernel)
theorem q171 : Cond.fieldLink RX6 26 RX6 "carried" "[I" ∈ gG := gG_of 171 (by decide +kernel) (by decide +kernel)
theorem q172 : Cond.fieldLink RX8 153 RX6 "carried" "[I" ∈ gG := gG_of 172 (by decide +kernel) (by decide +kernel)
theorem q173 : Cond.fieldLink RX6 29 RX6 "seenMussels" "[I" ∈ gG := gG_of 173 (by decide +kernel) (by decide +kernel)
theorem q174 : Cond.fieldLink RX6 32 RX6 "seenQuestions" "[I" ∈ gG := gG_of 174 (by decide +kernel) (by decide +kernel)
theorem q175 : Cond.fieldLink RX6 35 RX6 "seenSums" "[I" ∈ gG := gG_of 175 (by decide +kernel) (by decide +kernel)
theorem q176 : Cond.fieldLink RX6 38 RX6 "seenCount" "I" ∈ gG := gG_of 176 (by decide +kernel) (by decide +kernel)
theorem q177 : Cond.fieldLink RX8 206 RX6 "seenCount" "I" ∈ gG := gG_of 177 (by decide +kernel) (by decide +kernel)
theorem q178 : Cond.fieldLink RX6 44 RX6 "tideCount" "I" ∈ gG := gG_of 178 (by decide +kernel) (by decide +kernel)
theorem q179 : Cond.fieldLink RX8 159 RX6 "tideCount" "I" ∈ gG := gG_of 179 (by decide +kernel) (by decide +kernel)
theorem q200 : Cond.superclass RX6 "java/lang/Object" ∈ gG := gG_of 200 (by decide +kernel) (by decide +kernel)
theorem q201 : Cond.fieldLink RX8 10 RX8 "page" "LRopeVote$Page;" ∈ gG := gG_of 201 (by decide +kernel) (by decide +kernel)
theorem q202 : Cond.fieldLink RX8 19 RX8 "rope" "LRopeVote$Rope;" ∈ gG := gG_of 202 (by decide +kernel) (by decide +kernel)
theorem q203 : Cond.fieldLink RX8 26 RX8 "now" "LRopeVote$Standing;" ∈ gG := gG_of 203 (by decide +kernel) (by decide +kernel)
theorem q204 : Cond.fieldLink RX8 30 RX8 "kept" "LRopeVote$Standing;" ∈ gG := gG_of 204 (by decide +kernel) (by decide +kernel)
theorem q205 : Cond.fieldLink RX8 33 RX8 "trial" "LRopeVote$Standing;" ∈ gG := gG_of 205 (by decide +kernel) (by decide +kernel)
theorem q206 : Cond.fieldLink RX8 36 RX8 "subsetSums" "[I" ∈ gG := gG_of 206 (by decide +kernel) (by decide +kernel)
theorem q207 : Cond.fieldLink RX8 40 RX8 "carriedBySize" "[I" ∈ gG := gG_of 207 (by decide +kernel) (by decide +kernel)
theorem q208 : Cond.fieldLink RX8 43 RX8 "sumsByLean" "[I" ∈ gG := gG_of 208 (by decide +kernel) (by decide +kernel)
theorem q209 : Cond.fieldLink RX8 46 RX8 "leanCodes" "[J" ∈ gG := gG_of 209 (by decide +kernel) (by decide +kernel)
theorem q210 : Cond.fieldLink RX8 93 RX8 "imageKept" "Z" ∈ gG := gG_of 210 (by decide +kernel) (by decide +kernel)
theorem q211 : Cond.fieldLink RX8 97 RX8 "ropesRead" "I" ∈ gG := gG_of 211 (by decide +kernel) (by decide +kernel)
theorem q212 : Cond.fieldLink RX8 194 RX8 "fewTurnsDone" "I" ∈ gG := gG_of 212 (by decide +kernel) (by decide +kernel)
theorem q237 : Cond.superclass RX8 "java/lang/Object" ∈ gG := gG_of 237 (by decide +kernel) (by decide +kernel)
theorem q238 : Cond.arrayClass FieldType.long ∈ gG := gG_of 238 (by decide +kernel) (by decide +kernel)
theorem q239 : Cond.methodLink RL 13 yX8_letter ∈ gG := gG_of 239 (by decide +kernel) (by decide +kernel)
theorem q240 : Cond.instanceMethod yX8_letter ∈ gG := gG_of 240 (by decide +kernel) (by decide +kernel)
theorem q241 : Cond.selects RX8 yX8_letter yX8_letter ∈ gG := gG_of 241 (by decide +kernel) (by decide +kernel)
theorem q242 : Cond.code yX8_letter cX8_letter 2 (Option.some FieldType.int) ∈ gG := gG_of 242 (by decide +kernel) (by decide +kernel)
theorem q243 : Cond.methodLink RL 18 yX8_blank ∈ gG := gG_of 243 (by decide +kernel) (by decide +kernel)
theorem q244 : Cond.instanceMethod yX8_blank ∈ gG := gG_of 244 (by decide +kernel) (by decide +kernel)
theorem q245 : Cond.selects RX8 yX8_blank yX8_blank ∈ gG := gG_of 245 (by decide +kernel) (by decide +kernel)
theorem q246 : Cond.code yX8_blank cX8_blank 2 (Option.some FieldType.int) ∈ gG := gG_of 246 (by decide +kernel) (by decide +kernel)
theorem q247 : Cond.methodLink RL 23 yX8_fault ∈ gG := gG_of 247 (by decide +kernel) (by decide +kernel)
theorem q248 : Cond.instanceMethod yX8_fault ∈ gG := gG_of 248 (by decide +kernel) (by decide +kernel)
theorem q249 : Cond.selects RX8 yX8_fault yX8_fault ∈ gG := gG_of 249 (by decide +kernel) (by decide +kernel)
theorem q250 : Cond.code yX8_fault cX8_fault 1 (Option.some FieldType.int) ∈ gG := gG_of 250 (by decide +kernel) (by decide +kernel)
theorem q251 : Cond.methodLink RX8 57 yX4_firstFault ∈ gG := gG_of 251 (by decide +kernel) (by decide +kernel)
theorem q252 : Cond.instanceMethod yX4_firstFault ∈ gG := gG_of 252 (by decide +kernel) (by decide +kernel)
theorem q253 : Cond.selects RX4 yX4_firstFault yX4_firstFault ∈ gG := gG_of 253 (by decide +kernel) (by decide +kernel)
theorem q254 : Cond.code yX4_firstFault cX4_firstFault 2 (Option.some FieldType.int) ∈ gG := gG_of 254 (by decide +kernel) (by decide +kernel)
theorem q255 : Cond.methodLink RX4 19 yX4_fitsAt ∈ gG := gG_of 255 (by decide +kernel) (by decide +kernel)
theorem q257 : Cond.instanceMethod yX4_fitsAt ∈ gG := gG_of 257 (by decide +kernel) (by decide +kernel)
theorem q258 : Cond.code yX4_fitsAt cX4_fitsAt 3 (Option.some FieldType.boolean) ∈ gG := gG_of 258 (by decide +kernel) (by decide +kernel)
theorem q260 : Cond.methodLink RX4 25 yJ0_indexOf_0f7a4 ∈ gG := gG_of 260 (by decide +kernel) (by decide +kernel)
theorem q261 : Cond.instanceMethod yJ0_indexOf_0f7a4 ∈ gG := gG_of 261 (by decide +kernel) (by decide +kernel)
theorem q262 : Cond.selects RJ0 yJ0_indexOf_0f7a4 yJ0_indexOf_0f7a4 ∈ gG := gG_of 262 (by decide +kernel) (by decide +kernel)
theorem q263 : Cond.code yJ0_indexOf_0f7a4 cJ0_indexOf_0f7a4 2 (Option.some FieldType.int) ∈ gG := gG_of 263 (by decide +kernel) (by decide +kernel)
theorem q264 : Cond.methodLink RJ0 633 yJ0_indexOf_7cf53 ∈ gG := gG_of 264 (by decide +kernel) (by decide +kernel)
theorem q265 : Cond.instanceMethod yJ0_indexOf_7cf53 ∈ gG := gG_of 265 (by decide +kernel) (by decide +kernel)
theorem q266 : Cond.selects RJ0 yJ0_indexOf_7cf53 yJ0_indexOf_7cf53 ∈ gG := gG_of 266 (by decide +kernel) (by decide +kernel)
theorem q267 : Cond.code yJ0_indexOf_7cf53 cJ0_indexOf_7cf53 3 (Option.some FieldType.int) ∈ gG := gG_of 267 (by decide +kernel) (by decide +kernel)
theorem q268 : Cond.methodLink RJ0 492 yJ0_isLatin1_aae02 ∈ gG := gG_of 268 (by decide +kernel) (by decide +kernel)
theorem q269 : Cond.instanceMethod yJ0_isLatin1_aae02 ∈ gG := gG_of 269 (by decide +kernel) (by decide +kernel)
theorem q270 : Cond.selects RJ0 yJ0_isLatin1_aae02 yJ0_isLatin1_aae02 ∈ gG := gG_of 270 (by decide +kernel) (by decide +kernel)
theorem q271 : Cond.code yJ0_isLatin1_aae02 cJ0_isLatin1_aae02 1 (Option.some FieldType.boolean) ∈ gG := gG_of 271 (by decide +kernel) (by decide +kernel)
theorem q272 : Cond.fieldLink RJ0 38 RJ0 "COMPACT_STRINGS" "Z" ∈ gG := gG_of 272 (by decide +kernel) (by decide +kernel)
theorem q274 : Cond.methodLink RJ0 505 yJ0_length_8abf5 ∈ gG := gG_of 274 (by decide +kernel) (by decide +kernel)
theorem q275 : Cond.instanceMethod yJ0_length_8abf5 ∈ gG := gG_of 275 (by decide +kernel) (by decide +kernel)
theorem q276 : Cond.selects RJ0 yJ0_length_8abf5 yJ0_length_8abf5 ∈ gG := gG_of 276 (by decide +kernel) (by decide +kernel)
theorem q277 : Cond.code yJ0_length_8abf5 cJ0_length_8abf5 1 (Option.some FieldType.int) ∈ gG := gG_of 277 (by decide +kernel) (by decide +kernel)
theorem q278 : Cond.methodLink RJ0 335 yJ0_coder_7d493 ∈ gG := gG_of 278 (by decide +kernel) (by decide +kernel)
theorem q279 : Cond.instanceMethod yJ0_coder_7d493 ∈ gG := gG_of 279 (by decide +kernel) (by decide +kernel)
theorem q280 : Cond.selects RJ0 yJ0_coder_7d493 yJ0_coder_7d493 ∈ gG := gG_of 280 (by decide +kernel) (by decide +kernel)
theorem q281 : Cond.code yJ0_coder_7d493 cJ0_coder_7d493 1 (Option.some FieldType.byte) ∈ gG := gG_of 281 (by decide +kernel) (by decide +kernel)
theorem q282 : Cond.methodLink RJ0 637 yJ1_indexOf_4cfef ∈ gG := gG_of 282 (by decide +kernel) (by decide +kernel)
theorem q283 : Cond.static yJ1_indexOf_4cfef ∈ gG := gG_of 283 (by decide +kernel) (by decide +kernel)
theorem q284 : Cond.code yJ1_indexOf_4cfef cJ1_indexOf_4cfef 4 (Option.some FieldType.int) ∈ gG := gG_of 284 (by decide +kernel) (by decide +kernel)
theorem q285 : Cond.methodLink RJ1 88 yJ1_canEncode_9a6ad ∈ gG := gG_of 285 (by decide +kernel) (by decide +kernel)
theorem q286 : Cond.static yJ1_canEncode_9a6ad ∈ gG := gG_of 286 (by decide +kernel) (by decide +kernel)
theorem q287 : Cond.code yJ1_canEncode_9a6ad cJ1_canEncode_9a6ad 1 (Option.some FieldType.boolean) ∈ gG := gG_of 287 (by decide +kernel) (by decide +kernel)
theorem q288 : Cond.methodLink RJ1 92 yJ9_max_7cf53 ∈ gG := gG_of 288 (by decide +kernel) (by decide +kernel)
theorem q289 : Cond.static yJ9_max_7cf53 ∈ gG := gG_of 289 (by decide +kernel) (by decide +kernel)
theorem q290 : Cond.code yJ9_max_7cf53 cJ9_max_7cf53 2 (Option.some FieldType.int) ∈ gG := gG_of 290 (by decide +kernel) (by decide +kernel)
theorem q291 : Cond.methodLink RJ1 38 yJ9_min_7cf53 ∈ gG := gG_of 291 (by decide +kernel) (by decide +kernel)
theorem q292 : Cond.static yJ9_min_7cf53 ∈ gG := gG_of 292 (by decide +kernel) (by decide +kernel)
theorem q293 : Cond.code yJ9_min_7cf53 cJ9_min_7cf53 2 (Option.some FieldType.int) ∈ gG := gG_of 293 (by decide +kernel) (by decide +kernel)
theorem q294 : Cond.methodLink RJ1 95 yJ1_indexOfChar_4cfef ∈ gG := gG_of 294 (by decide +kernel) (by decide +kernel)
theorem q295 : Cond.static yJ1_indexOfChar_4cfef ∈ gG := gG_of 295 (by decide +kernel) (by decide +kernel)
theorem q296 : Cond.code yJ1_indexOfChar_4cfef cJ1_indexOfChar_4cfef 6 (Option.some FieldType.int) ∈ gG := gG_of 296 (by decide +kernel) (by decide +kernel)
theorem q297 : Cond.methodLink RJ0 640 yJ2_indexOf_4cfef ∈ gG := gG_of 297 (by decide +kernel) (by decide +kernel)
theorem q298 : Cond.static yJ2_indexOf_4cfef ∈ gG := gG_of 298 (by decide +kernel) (by decide +kernel)
theorem q299 : Cond.code yJ2_indexOf_4cfef cJ2_indexOf_4cfef 4 (Option.some FieldType.int) ∈ gG := gG_of 299 (by decide +kernel) (by decide +kernel)
theorem q300 : Cond.methodLink RJ2 224 yJ9_max_7cf53 ∈ gG := gG_of 300 (by decide +kernel) (by decide +kernel)
theorem q301 : Cond.methodLink RJ2 183 yJ9_min_7cf53 ∈ gG := gG_of 301 (by decide +kernel) (by decide +kernel)
theorem q302 : Cond.constant RJ2 227 65536 ∈ gG := gG_of 302 (by decide +kernel) (by decide +kernel)
theorem q303 : Cond.methodLink RJ2 228 yJ2_indexOfChar_4cfef ∈ gG := gG_of 303 (by decide +kernel) (by decide +kernel)
theorem q304 : Cond.static yJ2_indexOfChar_4cfef ∈ gG := gG_of 304 (by decide +kernel) (by decide +kernel)
theorem q305 : Cond.code yJ2_indexOfChar_4cfef cJ2_indexOfChar_4cfef 4 (Option.some FieldType.int) ∈ gG := gG_of 305 (by decide +kernel) (by decide +kernel)
theorem q306 : Cond.methodLink RJ2 96 yJ2_checkBoundsBeginEnd_d044e ∈ gG := gG_of 306 (by decide +kernel) (by decide +kernel)
theorem q307 : Cond.static yJ2_checkBoundsBeginEnd_d044e ∈ gG := gG_of 307 (by decide +kernel) (by decide +kernel)
theorem q308 : Cond.code yJ2_checkBoundsBeginEnd_d044e cJ2_checkBoundsBeginEnd_d044e 3 none ∈ gG := gG_of 308 (by decide +kernel) (by decide +kernel)
theorem q309 : Cond.methodLink RJ2 48 yJ2_length_9d52b ∈ gG := gG_of 309 (by decide +kernel) (by decide +kernel)
theorem q310 : Cond.static yJ2_length_9d52b ∈ gG := gG_of 310 (by decide +kernel) (by decide +kernel)
theorem q311 : Cond.code yJ2_length_9d52b cJ2_length_9d52b 1 (Option.some FieldType.int) ∈ gG := gG_of 311 (by decide +kernel) (by decide +kernel)
theorem q312 : Cond.methodLink RJ2 241 yJ0_checkBoundsBeginEnd_23922 ∈ gG := gG_of 312 (by decide +kernel) (by decide +kernel)
theorem q313 : Cond.static yJ0_checkBoundsBeginEnd_23922 ∈ gG := gG_of 313 (by decide +kernel) (by decide +kernel)
theorem q314 : Cond.code yJ0_checkBoundsBeginEnd_23922 cJ0_checkBoundsBeginEnd_23922 3 none ∈ gG := gG_of 314 (by decide +kernel) (by decide +kernel)
theorem q315 : Cond.fieldLink RJ0 1053 RJ3 "SIOOBE_FORMATTER" "Ljava/util/function/BiFunction;" ∈ gG := gG_of 315 (by decide +kernel) (by decide +kernel)
theorem q317 : Cond.methodLink RJ0 1062 yJ3_checkFromToIndex_8c36e ∈ gG := gG_of 317 (by decide +kernel) (by decide +kernel)
theorem q318 : Cond.static yJ3_checkFromToIndex_8c36e ∈ gG := gG_of 318 (by decide +kernel) (by decide +kernel)
theorem q319 : Cond.code yJ3_checkFromToIndex_8c36e cJ3_checkFromToIndex_8c36e 4 (Option.some FieldType.int) ∈ gG := gG_of 319 (by decide +kernel) (by decide +kernel)
theorem q320 : Cond.methodLink RJ2 244 yJ2_indexOfCharUnsafe_4cfef ∈ gG := gG_of 320 (by decide +kernel) (by decide +kernel)
theorem q321 : Cond.static yJ2_indexOfCharUnsafe_4cfef ∈ gG := gG_of 321 (by decide +kernel) (by decide +kernel)
theorem q322 : Cond.code yJ2_indexOfCharUnsafe_4cfef cJ2_indexOfCharUnsafe_4cfef 5 (Option.some FieldType.int) ∈ gG := gG_of 322 (by decide +kernel) (by decide +kernel)
theorem q323 : Cond.methodLink RJ2 71 yJ2_getChar_3b067 ∈ gG := gG_of 323 (by decide +kernel) (by decide +kernel)
theorem q324 : Cond.static yJ2_getChar_3b067 ∈ gG := gG_of 324 (by decide +kernel) (by decide +kernel)
theorem q325 : Cond.code yJ2_getChar_3b067 cJ2_getChar_3b067 2 (Option.some FieldType.char) ∈ gG := gG_of 325 (by decide +kernel) (by decide +kernel)
theorem q326 : Cond.fieldLink RJ2 44 RJ2 "$assertionsDisabled" "Z" ∈ gG := gG_of 326 (by decide +kernel) (by decide +kernel)
theorem q328 : Cond.fieldLink RJ2 59 RJ2 "HI_BYTE_SHIFT" "I" ∈ gG := gG_of 328 (by decide +kernel) (by decide +kernel)
theorem q330 : Cond.fieldLink RJ2 63 RJ2 "LO_BYTE_SHIFT" "I" ∈ gG := gG_of 330 (by decide +kernel) (by decide +kernel)
theorem q332 : Cond.methodLink RJ2 232 yJ2_indexOfSupplementary_4cfef ∈ gG := gG_of 332 (by decide +kernel) (by decide +kernel)
theorem q333 : Cond.static yJ2_indexOfSupplementary_4cfef ∈ gG := gG_of 333 (by decide +kernel) (by decide +kernel)
theorem q334 : Cond.code yJ2_indexOfSupplementary_4cfef cJ2_indexOfSupplementary_4cfef 7 (Option.some FieldType.int) ∈ gG := gG_of 334 (by decide +kernel) (by decide +kernel)
theorem q335 : Cond.methodLink RJ2 164 yJ11_isValidCodePoint_9a6ad ∈ gG := gG_of 335 (by decide +kernel) (by decide +kernel)
theorem q336 : Cond.static yJ11_isValidCodePoint_9a6ad ∈ gG := gG_of 336 (by decide +kernel) (by decide +kernel)
theorem q337 : Cond.code yJ11_isValidCodePoint_9a6ad cJ11_isValidCodePoint_9a6ad 2 (Option.some FieldType.boolean) ∈ gG := gG_of 337 (by decide +kernel) (by decide +kernel)
theorem q338 : Cond.methodLink RJ2 157 yJ11_highSurrogate_5068e ∈ gG := gG_of 338 (by decide +kernel) (by decide +kernel)
theorem q339 : Cond.static yJ11_highSurrogate_5068e ∈ gG := gG_of 339 (by decide +kernel) (by decide +kernel)
theorem q340 : Cond.code yJ11_highSurrogate_5068e cJ11_highSurrogate_5068e 1 (Option.some FieldType.char) ∈ gG := gG_of 340 (by decide +kernel) (by decide +kernel)
theorem q341 : Cond.constant RJ11 110 55232 ∈ gG := gG_of 341 (by decide +kernel) (by decide +kernel)
theorem q342 : Cond.methodLink RJ2 161 yJ11_lowSurrogate_5068e ∈ gG := gG_of 342 (by decide +kernel) (by decide +kernel)
theorem q343 : Cond.static yJ11_lowSurrogate_5068e ∈ gG := gG_of 343 (by decide +kernel) (by decide +kernel)
theorem q344 : Cond.code yJ11_lowSurrogate_5068e cJ11_lowSurrogate_5068e 1 (Option.some FieldType.char) ∈ gG := gG_of 344 (by decide +kernel) (by decide +kernel)
theorem q345 : Cond.constant RJ11 76 56320 ∈ gG := gG_of 345 (by decide +kernel) (by decide +kernel)
theorem q346 : Cond.arrayClass FieldType.byte ∈ gG := gG_of 346 (by decide +kernel) (by decide +kernel)
theorem q347 : Cond.methodLink RL 27 yX8_rope ∈ gG := gG_of 347 (by decide +kernel) (by decide +kernel)
theorem q348 : Cond.instanceMethod yX8_rope ∈ gG := gG_of 348 (by decide +kernel) (by decide +kernel)
theorem q349 : Cond.selects RX8 yX8_rope yX8_rope ∈ gG := gG_of 349 (by decide +kernel) (by decide +kernel)
theorem q350 : Cond.code yX8_rope cX8_rope 3 (Option.some FieldType.int) ∈ gG := gG_of 350 (by decide +kernel) (by decide +kernel)
theorem q351 : Cond.methodLink RX8 61 yX4_readsAsRope ∈ gG := gG_of 351 (by decide +kernel) (by decide +kernel)
theorem q352 : Cond.instanceMethod yX4_readsAsRope ∈ gG := gG_of 352 (by decide +kernel) (by decide +kernel)
theorem q353 : Cond.selects RX4 yX4_readsAsRope yX4_readsAsRope ∈ gG := gG_of 353 (by decide +kernel) (by decide +kernel)
theorem q354 : Cond.code yX4_readsAsRope cX4_readsAsRope 2 (Option.some FieldType.boolean) ∈ gG := gG_of 354 (by decide +kernel) (by decide +kernel)
theorem q355 : Cond.methodLink RX4 31 yX4_firstFault ∈ gG := gG_of 355 (by decide +kernel) (by decide +kernel)
theorem q356 : Cond.methodLink RX8 65 yX6_clearAll ∈ gG := gG_of 356 (by decide +kernel) (by decide +kernel)
theorem q357 : Cond.instanceMethod yX6_clearAll ∈ gG := gG_of 357 (by decide +kernel) (by decide +kernel)
theorem q358 : Cond.selects RX6 yX6_clearAll yX6_clearAll ∈ gG := gG_of 358 (by decide +kernel) (by decide +kernel)
theorem q359 : Cond.code yX6_clearAll cX6_clearAll 3 none ∈ gG := gG_of 359 (by decide +kernel) (by decide +kernel)
theorem q360 : Cond.methodLink RX8 71 yX4_kindAt ∈ gG := gG_of 360 (by decide +kernel) (by decide +kernel)
theorem q361 : Cond.instanceMethod yX4_kindAt ∈ gG := gG_of 361 (by decide +kernel) (by decide +kernel)
theorem q362 : Cond.selects RX4 yX4_kindAt yX4_kindAt ∈ gG := gG_of 362 (by decide +kernel) (by decide +kernel)
theorem q363 : Cond.code yX4_kindAt cX4_kindAt 2 (Option.some FieldType.int) ∈ gG := gG_of 363 (by decide +kernel) (by decide +kernel)
theorem q364 : Cond.methodLink RX8 75 yX5_hang ∈ gG := gG_of 364 (by decide +kernel) (by decide +kernel)
theorem q365 : Cond.instanceMethod yX5_hang ∈ gG := gG_of 365 (by decide +kernel) (by decide +kernel)
theorem q366 : Cond.selects RX5 yX5_hang yX5_hang ∈ gG := gG_of 366 (by decide +kernel) (by decide +kernel)
theorem q367 : Cond.code yX5_hang cX5_hang 3 none ∈ gG := gG_of 367 (by decide +kernel) (by decide +kernel)
theorem q368 : Cond.methodLink RX8 82 yX4_weightAt ∈ gG := gG_of 368 (by decide +kernel) (by decide +kernel)
theorem q369 : Cond.instanceMethod yX4_weightAt ∈ gG := gG_of 369 (by decide +kernel) (by decide +kernel)
theorem q370 : Cond.selects RX4 yX4_weightAt yX4_weightAt ∈ gG := gG_of 370 (by decide +kernel) (by decide +kernel)
theorem q371 : Cond.code yX4_weightAt cX4_weightAt 2 (Option.some FieldType.int) ∈ gG := gG_of 371 (by decide +kernel) (by decide +kernel)
theorem q372 : Cond.methodLink RX8 89 yX4_leanAt ∈ gG := gG_of 372 (by decide +kernel) (by decide +kernel)
theorem q373 : Cond.instanceMethod yX4_leanAt ∈ gG := gG_of 373 (by decide +kernel) (by decide +kernel)
theorem q374 : Cond.selects RX4 yX4_leanAt yX4_leanAt ∈ gG := gG_of 374 (by decide +kernel) (by decide +kernel)
theorem q375 : Cond.code yX4_leanAt cX4_leanAt 4 (Option.some FieldType.int) ∈ gG := gG_of 375 (by decide +kernel) (by decide +kernel)
theorem q376 : Cond.methodLink RL 31 yX8_mussel ∈ gG := gG_of 376 (by decide +kernel) (by decide +kernel)
theorem q377 : Cond.instanceMethod yX8_mussel ∈ gG := gG_of 377 (by decide +kernel) (by decide +kernel)
theorem q378 : Cond.selects RX8 yX8_mussel yX8_mussel ∈ gG := gG_of 378 (by decide +kernel) (by decide +kernel)
theorem q379 : Cond.code yX8_mussel cX8_mussel 3 (Option.some FieldType.int) ∈ gG := gG_of 379 (by decide +kernel) (by decide +kernel)
theorem q380 : Cond.methodLink RX8 100 yX5_has ∈ gG := gG_of 380 (by decide +kernel) (by decide +kernel)
theorem q381 : Cond.instanceMethod yX5_has ∈ gG := gG_of 381 (by decide +kernel) (by decide +kernel)
theorem q382 : Cond.selects RX5 yX5_has yX5_has ∈ gG := gG_of 382 (by decide +kernel) (by decide +kernel)
theorem q383 : Cond.code yX5_has cX5_has 2 (Option.some FieldType.boolean) ∈ gG := gG_of 383 (by decide +kernel) (by decide +kernel)
theorem q384 : Cond.methodLink RX8 104 yX5_pullOf ∈ gG := gG_of 384 (by decide +kernel) (by decide +kernel)
theorem q385 : Cond.instanceMethod yX5_pullOf ∈ gG := gG_of 385 (by decide +kernel) (by decide +kernel)
theorem q386 : Cond.selects RX5 yX5_pullOf yX5_pullOf ∈ gG := gG_of 386 (by decide +kernel) (by decide +kernel)
theorem q387 : Cond.code yX5_pullOf cX5_pullOf 7 (Option.some FieldType.int) ∈ gG := gG_of 387 (by decide +kernel) (by decide +kernel)
theorem q388 : Cond.methodLink RX5 51 yX5_leanAhead ∈ gG := gG_of 388 (by decide +kernel) (by decide +kernel)
theorem q390 : Cond.instanceMethod yX5_leanAhead ∈ gG := gG_of 390 (by decide +kernel) (by decide +kernel)
theorem q391 : Cond.code yX5_leanAhead cX5_leanAhead 4 (Option.some FieldType.int) ∈ gG := gG_of 391 (by decide +kernel) (by decide +kernel)
theorem q392 : Cond.methodLink RX5 54 yX5_leanBehind ∈ gG := gG_of 392 (by decide +kernel) (by decide +kernel)
theorem q394 : Cond.instanceMethod yX5_leanBehind ∈ gG := gG_of 394 (by decide +kernel) (by decide +kernel)
theorem q395 : Cond.code yX5_leanBehind cX5_leanBehind 5 (Option.some FieldType.int) ∈ gG := gG_of 395 (by decide +kernel) (by decide +kernel)
theorem q396 : Cond.methodLink RX5 57 yX5_kindOf ∈ gG := gG_of 396 (by decide +kernel) (by decide +kernel)
theorem q397 : Cond.instanceMethod yX5_kindOf ∈ gG := gG_of 397 (by decide +kernel) (by decide +kernel)
theorem q398 : Cond.selects RX5 yX5_kindOf yX5_kindOf ∈ gG := gG_of 398 (by decide +kernel) (by decide +kernel)
theorem q399 : Cond.code yX5_kindOf cX5_kindOf 2 (Option.some (FieldType.object RX3)) ∈ gG := gG_of 399 (by decide +kernel) (by decide +kernel)
theorem q400 : Cond.methodLink RX5 68 yX3_pulled ∈ gG := gG_of 400 (by decide +kernel) (by decide +kernel)
theorem q401 : Cond.instanceMethod yX3_pulled ∈ gG := gG_of 401 (by decide +kernel) (by decide +kernel)
theorem q402 : Cond.selects RX3 yX3_pulled yX3_pulled ∈ gG := gG_of 402 (by decide +kernel) (by decide +kernel)
theorem q403 : Cond.sameMethod RX3 RX3 "pulled" "(III)I" ∈ gG := gG_of 403 (by decide +kernel) (by decide +kernel)
theorem q404 : Cond.selects RX0 yX3_pulled yX0_pulled ∈ gG := gG_of 404 (by decide +kernel) (by decide +kernel)
theorem q405 : Cond.instanceMethod yX0_pulled ∈ gG := gG_of 405 (by decide +kernel) (by decide +kernel)
theorem q406 : Cond.code yX0_pulled cX0_pulled 4 (Option.some FieldType.int) ∈ gG := gG_of 406 (by decide +kernel) (by decide +kernel)
theorem q407 : Cond.selects RX1 yX3_pulled yX1_pulled ∈ gG := gG_of 407 (by decide +kernel) (by decide +kernel)
theorem q408 : Cond.instanceMethod yX1_pulled ∈ gG := gG_of 408 (by decide +kernel) (by decide +kernel)
theorem q409 : Cond.code yX1_pulled cX1_pulled 4 (Option.some FieldType.int) ∈ gG := gG_of 409 (by decide +kernel) (by decide +kernel)
theorem q410 : Cond.selects RX2 yX3_pulled yX2_pulled ∈ gG := gG_of 410 (by decide +kernel) (by decide +kernel)
theorem q411 : Cond.instanceMethod yX2_pulled ∈ gG := gG_of 411 (by decide +kernel) (by decide +kernel)
theorem q412 : Cond.code yX2_pulled cX2_pulled 4 (Option.some FieldType.int) ∈ gG := gG_of 412 (by decide +kernel) (by decide +kernel)
theorem q413 : Cond.selects RX7 yX3_pulled yX7_pulled ∈ gG := gG_of 413 (by decide +kernel) (by decide +kernel)
theorem q414 : Cond.instanceMethod yX7_pulled ∈ gG := gG_of 414 (by decide +kernel) (by decide +kernel)
theorem q415 : Cond.code yX7_pulled cX7_pulled 4 (Option.some FieldType.int) ∈ gG := gG_of 415 (by decide +kernel) (by decide +kernel)
theorem q416 : Cond.code yX3_pulled cX3_pulled 4 (Option.some FieldType.int) ∈ gG := gG_of 416 (by decide +kernel) (by decide +kernel)
theorem q417 : Cond.methodLink RX8 108 yX8_leansLeft ∈ gG := gG_of 417 (by decide +kernel) (by decide +kernel)
theorem q419 : Cond.instanceMethod yX8_leansLeft ∈ gG := gG_of 419 (by decide +kernel) (by decide +kernel)
theorem q420 : Cond.code yX8_leansLeft cX8_leansLeft 5 (Option.some FieldType.int) ∈ gG := gG_of 420 (by decide +kernel) (by decide +kernel)
theorem q421 : Cond.methodLink RX8 213 yX6_takeFrom ∈ gG := gG_of 421 (by decide +kernel) (by decide +kernel)
theorem q422 : Cond.instanceMethod yX6_takeFrom ∈ gG := gG_of 422 (by decide +kernel) (by decide +kernel)
theorem q423 : Cond.selects RX6 yX6_takeFrom yX6_takeFrom ∈ gG := gG_of 423 (by decide +kernel) (by decide +kernel)
theorem q424 : Cond.code yX6_takeFrom cX6_takeFrom 3 none ∈ gG := gG_of 424 (by decide +kernel) (by decide +kernel)
theorem q425 : Cond.methodLink RX6 47 ⟨RJ10, "arraycopy", "(Ljava/lang/Object;ILjava/lang/Object;II)V"⟩ ∈ gG := gG_of 425 (by decide +kernel) (by decide +kernel)
theorem q426 : Cond.static ⟨RJ10, "arraycopy", "(Ljava/lang/Object;ILjava/lang/Object;II)V"⟩ ∈ gG := gG_of 426 (by decide +kernel) (by decide +kernel)
theorem q427 : Cond.native ⟨RJ10, "arraycopy", "(Ljava/lang/Object;ILjava/lang/Object;II)V"⟩ ∈ gG := gG_of 427 (by decide +kernel) (by decide +kernel)
theorem q428 : Cond.methodLink RX8 143 yX5_sumOf ∈ gG := gG_of 428 (by decide +kernel) (by decide +kernel)
theorem q429 : Cond.instanceMethod yX5_sumOf ∈ gG := gG_of 429 (by decide +kernel) (by decide +kernel)
theorem q430 : Cond.selects RX5 yX5_sumOf yX5_sumOf ∈ gG := gG_of 430 (by decide +kernel) (by decide +kernel)
theorem q431 : Cond.code yX5_sumOf cX5_sumOf 6 (Option.some FieldType.int) ∈ gG := gG_of 431 (by decide +kernel) (by decide +kernel)
theorem q432 : Cond.methodLink RX5 43 yX5_feltIn ∈ gG := gG_of 432 (by decide +kernel) (by decide +kernel)
theorem q433 : Cond.instanceMethod yX5_feltIn ∈ gG := gG_of 433 (by decide +kernel) (by decide +kernel)
theorem q434 : Cond.selects RX5 yX5_feltIn yX5_feltIn ∈ gG := gG_of 434 (by decide +kernel) (by decide +kernel)
theorem q435 : Cond.code yX5_feltIn cX5_feltIn 3 (Option.some FieldType.int) ∈ gG := gG_of 435 (by decide +kernel) (by decide +kernel)
theorem q436 : Cond.methodLink RX5 47 yX5_pullOf ∈ gG := gG_of 436 (by decide +kernel) (by decide +kernel)
theorem q437 : Cond.methodLink RX8 299 yX6_seenAllows ∈ gG := gG_of 437 (by decide +kernel) (by decide +kernel)
theorem q438 : Cond.instanceMethod yX6_seenAllows ∈ gG := gG_of 438 (by decide +kernel) (by decide +kernel)
theorem q439 : Cond.selects RX6 yX6_seenAllows yX6_seenAllows ∈ gG := gG_of 439 (by decide +kernel) (by decide +kernel)
theorem q440 : Cond.code yX6_seenAllows cX6_seenAllows 6 (Option.some FieldType.boolean) ∈ gG := gG_of 440 (by decide +kernel) (by decide +kernel)
theorem q441 : Cond.methodLink RX8 111 yX5_kindOf ∈ gG := gG_of 441 (by decide +kernel) (by decide +kernel)
theorem q442 : Cond.methodLink RX8 115 yX3_number ∈ gG := gG_of 442 (by decide +kernel) (by decide +kernel)
theorem q443 : Cond.instanceMethod yX3_number ∈ gG := gG_of 443 (by decide +kernel) (by decide +kernel)
theorem q444 : Cond.selects RX3 yX3_number yX3_number ∈ gG := gG_of 444 (by decide +kernel) (by decide +kernel)
theorem q445 : Cond.sameMethod RX3 RX3 "number" "()I" ∈ gG := gG_of 445 (by decide +kernel) (by decide +kernel)
theorem q446 : Cond.selects RX0 yX3_number yX0_number ∈ gG := gG_of 446 (by decide +kernel) (by decide +kernel)
theorem q447 : Cond.instanceMethod yX0_number ∈ gG := gG_of 447 (by decide +kernel) (by decide +kernel)
theorem q448 : Cond.code yX0_number cX0_number 1 (Option.some FieldType.int) ∈ gG := gG_of 448 (by decide +kernel) (by decide +kernel)
theorem q449 : Cond.selects RX1 yX3_number yX1_number ∈ gG := gG_of 449 (by decide +kernel) (by decide +kernel)
theorem q450 : Cond.instanceMethod yX1_number ∈ gG := gG_of 450 (by decide +kernel) (by decide +kernel)
theorem q451 : Cond.code yX1_number cX1_number 1 (Option.some FieldType.int) ∈ gG := gG_of 451 (by decide +kernel) (by decide +kernel)
theorem q452 : Cond.selects RX2 yX3_number yX2_number ∈ gG := gG_of 452 (by decide +kernel) (by decide +kernel)
theorem q453 : Cond.instanceMethod yX2_number ∈ gG := gG_of 453 (by decide +kernel) (by decide +kernel)
theorem q454 : Cond.code yX2_number cX2_number 1 (Option.some FieldType.int) ∈ gG := gG_of 454 (by decide +kernel) (by decide +kernel)
theorem q455 : Cond.selects RX7 yX3_number yX7_number ∈ gG := gG_of 455 (by decide +kernel) (by decide +kernel)
theorem q456 : Cond.instanceMethod yX7_number ∈ gG := gG_of 456 (by decide +kernel) (by decide +kernel)
theorem q457 : Cond.code yX7_number cX7_number 1 (Option.some FieldType.int) ∈ gG := gG_of 457 (by decide +kernel) (by decide +kernel)
theorem q458 : Cond.code yX3_number cX3_number 1 (Option.some FieldType.int) ∈ gG := gG_of 458 (by decide +kernel) (by decide +kernel)
theorem q459 : Cond.methodLink RX8 120 yX5_feltIn ∈ gG := gG_of 459 (by decide +kernel) (by decide +kernel)
theorem q460 : Cond.methodLink RX8 127 yX8_bestQuestion ∈ gG := gG_of 460 (by decide +kernel) (by decide +kernel)
theorem q462 : Cond.instanceMethod yX8_bestQuestion ∈ gG := gG_of 462 (by decide +kernel) (by decide +kernel)
theorem q463 : Cond.code yX8_bestQuestion cX8_bestQuestion 7 (Option.some FieldType.int) ∈ gG := gG_of 463 (by decide +kernel) (by decide +kernel)
theorem q464 : Cond.methodLink RX8 302 yX8_mostAlike ∈ gG := gG_of 464 (by decide +kernel) (by decide +kernel)
theorem q466 : Cond.instanceMethod yX8_mostAlike ∈ gG := gG_of 466 (by decide +kernel) (by decide +kernel)
theorem q467 : Cond.code yX8_mostAlike cX8_mostAlike 7 (Option.some FieldType.int) ∈ gG := gG_of 467 (by decide +kernel) (by decide +kernel)
theorem q468 : Cond.methodLink RX8 305 yJ9_max_7cf53 ∈ gG := gG_of 468 (by decide +kernel) (by decide +kernel)
theorem q469 : Cond.methodLink RX8 280 yJ6_bitCount_0f7a4 ∈ gG := gG_of 469 (by decide +kernel) (by decide +kernel)
theorem q470 : Cond.static yJ6_bitCount_0f7a4 ∈ gG := gG_of 470 (by decide +kernel) (by decide +kernel)
theorem q471 : Cond.code yJ6_bitCount_0f7a4 cJ6_bitCount_0f7a4 1 (Option.some FieldType.int) ∈ gG := gG_of 471 (by decide +kernel) (by decide +kernel)
theorem q472 : Cond.constant RJ6 265 1431655765 ∈ gG := gG_of 472 (by decide +kernel) (by decide +kernel)
theorem q473 : Cond.constant RJ6 266 858993459 ∈ gG := gG_of 473 (by decide +kernel) (by decide +kernel)
theorem q474 : Cond.constant RJ6 267 252645135 ∈ gG := gG_of 474 (by decide +kernel) (by decide +kernel)
theorem q475 : Cond.methodLink RL 36 yX8_as ∈ gG := gG_of 475 (by decide +kernel) (by decide +kernel)
theorem q476 : Cond.instanceMethod yX8_as ∈ gG := gG_of 476 (by decide +kernel) (by decide +kernel)
theorem q477 : Cond.selects RX8 yX8_as yX8_as ∈ gG := gG_of 477 (by decide +kernel) (by decide +kernel)
theorem q478 : Cond.code yX8_as cX8_as 3 (Option.some FieldType.int) ∈ gG := gG_of 478 (by decide +kernel) (by decide +kernel)
theorem q480 : Cond.methodLink RX8 132 yJ0_length_8abf5 ∈ gG := gG_of 480 (by decide +kernel) (by decide +kernel)
theorem q481 : Cond.methodLink RX8 136 yX8_isOfKind ∈ gG := gG_of 481 (by decide +kernel) (by decide +kernel)
theorem q482 : Cond.static yX8_isOfKind ∈ gG := gG_of 482 (by decide +kernel) (by decide +kernel)
theorem q483 : Cond.code yX8_isOfKind cX8_isOfKind 2 (Option.some FieldType.boolean) ∈ gG := gG_of 483 (by decide +kernel) (by decide +kernel)
theorem q484 : Cond.classLink RX8 268 RX1 ∈ gG := gG_of 484 (by decide +kernel) (by decide +kernel)
theorem q485 : Cond.classLink RX8 270 RX0 ∈ gG := gG_of 485 (by decide +kernel) (by decide +kernel)
theorem q486 : Cond.classLink RX8 272 RX2 ∈ gG := gG_of 486 (by decide +kernel) (by decide +kernel)
theorem q487 : Cond.classLink RX8 274 RX7 ∈ gG := gG_of 487 (by decide +kernel) (by decide +kernel)
theorem q488 : Cond.methodLink RL 40 yX8_question ∈ gG := gG_of 488 (by decide +kernel) (by decide +kernel)
theorem q489 : Cond.instanceMethod yX8_question ∈ gG := gG_of 489 (by decide +kernel) (by decide +kernel)
theorem q490 : Cond.selects RX8 yX8_question yX8_question ∈ gG := gG_of 490 (by decide +kernel) (by decide +kernel)
theorem q491 : Cond.code yX8_question cX8_question 3 (Option.some FieldType.int) ∈ gG := gG_of 491 (by decide +kernel) (by decide +kernel)
theorem q492 : Cond.methodLink RX8 140 yX8_isQuestion ∈ gG := gG_of 492 (by decide +kernel) (by decide +kernel)
theorem q494 : Cond.instanceMethod yX8_isQuestion ∈ gG := gG_of 494 (by decide +kernel) (by decide +kernel)
theorem q495 : Cond.code yX8_isQuestion cX8_isQuestion 2 (Option.some FieldType.boolean) ∈ gG := gG_of 495 (by decide +kernel) (by decide +kernel)
theorem q496 : Cond.methodLink RX8 147 yX8_outcomeOf ∈ gG := gG_of 496 (by decide +kernel) (by decide +kernel)
theorem q497 : Cond.static yX8_outcomeOf ∈ gG := gG_of 497 (by decide +kernel) (by decide +kernel)
theorem q498 : Cond.code yX8_outcomeOf cX8_outcomeOf 1 (Option.some FieldType.int) ∈ gG := gG_of 498 (by decide +kernel) (by decide +kernel)
theorem q499 : Cond.methodLink RX8 156 yX8_howManyLean ∈ gG := gG_of 499 (by decide +kernel) (by decide +kernel)
theorem q501 : Cond.instanceMethod yX8_howManyLean ∈ gG := gG_of 501 (by decide +kernel) (by decide +kernel)
theorem q502 : Cond.code yX8_howManyLean cX8_howManyLean 5 (Option.some FieldType.int) ∈ gG := gG_of 502 (by decide +kernel) (by decide +kernel)
theorem q503 : Cond.methodLink RL 44 yX8_ask ∈ gG := gG_of 503 (by decide +kernel) (by decide +kernel)
theorem q504 : Cond.instanceMethod yX8_ask ∈ gG := gG_of 504 (by decide +kernel) (by decide +kernel)
theorem q505 : Cond.selects RX8 yX8_ask yX8_ask ∈ gG := gG_of 505 (by decide +kernel) (by decide +kernel)
theorem q506 : Cond.code yX8_ask cX8_ask 3 (Option.some FieldType.int) ∈ gG := gG_of 506 (by decide +kernel) (by decide +kernel)
theorem q507 : Cond.methodLink RL 48 yX8_tide ∈ gG := gG_of 507 (by decide +kernel) (by decide +kernel)
theorem q508 : Cond.instanceMethod yX8_tide ∈ gG := gG_of 508 (by decide +kernel) (by decide +kernel)
theorem q509 : Cond.selects RX8 yX8_tide yX8_tide ∈ gG := gG_of 509 (by decide +kernel) (by decide +kernel)
theorem q510 : Cond.code yX8_tide cX8_tide 1 (Option.some FieldType.int) ∈ gG := gG_of 510 (by decide +kernel) (by decide +kernel)
theorem q511 : Cond.methodLink RX8 162 yX5_drift ∈ gG := gG_of 511 (by decide +kernel) (by decide +kernel)
theorem q512 : Cond.instanceMethod yX5_drift ∈ gG := gG_of 512 (by decide +kernel) (by decide +kernel)
theorem q513 : Cond.selects RX5 yX5_drift yX5_drift ∈ gG := gG_of 513 (by decide +kernel) (by decide +kernel)
theorem q514 : Cond.code yX5_drift cX5_drift 8 none ∈ gG := gG_of 514 (by decide +kernel) (by decide +kernel)
theorem q515 : Cond.methodLink RX5 72 yX3_driftsAlong ∈ gG := gG_of 515 (by decide +kernel) (by decide +kernel)
theorem q516 : Cond.instanceMethod yX3_driftsAlong ∈ gG := gG_of 516 (by decide +kernel) (by decide +kernel)
theorem q517 : Cond.selects RX3 yX3_driftsAlong yX3_driftsAlong ∈ gG := gG_of 517 (by decide +kernel) (by decide +kernel)
theorem q518 : Cond.sameMethod RX3 RX3 "driftsAlong" "()Z" ∈ gG := gG_of 518 (by decide +kernel) (by decide +kernel)
theorem q519 : Cond.selects RX0 yX3_driftsAlong yX0_driftsAlong ∈ gG := gG_of 519 (by decide +kernel) (by decide +kernel)
theorem q520 : Cond.instanceMethod yX0_driftsAlong ∈ gG := gG_of 520 (by decide +kernel) (by decide +kernel)
theorem q521 : Cond.code yX0_driftsAlong cX0_driftsAlong 1 (Option.some FieldType.boolean) ∈ gG := gG_of 521 (by decide +kernel) (by decide +kernel)
theorem q522 : Cond.selects RX1 yX3_driftsAlong yX3_driftsAlong ∈ gG := gG_of 522 (by decide +kernel) (by decide +kernel)
theorem q523 : Cond.selects RX2 yX3_driftsAlong yX3_driftsAlong ∈ gG := gG_of 523 (by decide +kernel) (by decide +kernel)
theorem q524 : Cond.selects RX7 yX3_driftsAlong yX3_driftsAlong ∈ gG := gG_of 524 (by decide +kernel) (by decide +kernel)
theorem q525 : Cond.code yX3_driftsAlong cX3_driftsAlong 1 (Option.some FieldType.boolean) ∈ gG := gG_of 525 (by decide +kernel) (by decide +kernel)
theorem q527 : Cond.methodLink RL 52 yX8_cut ∈ gG := gG_of 527 (by decide +kernel) (by decide +kernel)
theorem q528 : Cond.instanceMethod yX8_cut ∈ gG := gG_of 528 (by decide +kernel) (by decide +kernel)
theorem q529 : Cond.selects RX8 yX8_cut yX8_cut ∈ gG := gG_of 529 (by decide +kernel) (by decide +kernel)
theorem q530 : Cond.code yX8_cut cX8_cut 2 (Option.some FieldType.int) ∈ gG := gG_of 530 (by decide +kernel) (by decide +kernel)
theorem q531 : Cond.methodLink RL 56 yX8_tie ∈ gG := gG_of 531 (by decide +kernel) (by decide +kernel)
theorem q532 : Cond.instanceMethod yX8_tie ∈ gG := gG_of 532 (by decide +kernel) (by decide +kernel)
theorem q533 : Cond.selects RX8 yX8_tie yX8_tie ∈ gG := gG_of 533 (by decide +kernel) (by decide +kernel)
theorem q534 : Cond.code yX8_tie cX8_tie 2 (Option.some FieldType.int) ∈ gG := gG_of 534 (by decide +kernel) (by decide +kernel)
theorem q535 : Cond.methodLink RL 60 yX8_turn ∈ gG := gG_of 535 (by decide +kernel) (by decide +kernel)
theorem q536 : Cond.instanceMethod yX8_turn ∈ gG := gG_of 536 (by decide +kernel) (by decide +kernel)
theorem q537 : Cond.selects RX8 yX8_turn yX8_turn ∈ gG := gG_of 537 (by decide +kernel) (by decide +kernel)
theorem q538 : Cond.code yX8_turn cX8_turn 5 (Option.some FieldType.int) ∈ gG := gG_of 538 (by decide +kernel) (by decide +kernel)
theorem q539 : Cond.methodLink RX8 166 yX8_isWay ∈ gG := gG_of 539 (by decide +kernel) (by decide +kernel)
theorem q540 : Cond.static yX8_isWay ∈ gG := gG_of 540 (by decide +kernel) (by decide +kernel)
theorem q541 : Cond.code yX8_isWay cX8_isWay 1 (Option.some FieldType.boolean) ∈ gG := gG_of 541 (by decide +kernel) (by decide +kernel)
theorem q542 : Cond.methodLink RL 65 yX8_grow ∈ gG := gG_of 542 (by decide +kernel) (by decide +kernel)
theorem q543 : Cond.instanceMethod yX8_grow ∈ gG := gG_of 543 (by decide +kernel) (by decide +kernel)
theorem q544 : Cond.selects RX8 yX8_grow yX8_grow ∈ gG := gG_of 544 (by decide +kernel) (by decide +kernel)
theorem q545 : Cond.code yX8_grow cX8_grow 4 (Option.some FieldType.int) ∈ gG := gG_of 545 (by decide +kernel) (by decide +kernel)
theorem q546 : Cond.methodLink RL 69 yX8_say ∈ gG := gG_of 546 (by decide +kernel) (by decide +kernel)
theorem q547 : Cond.instanceMethod yX8_say ∈ gG := gG_of 547 (by decide +kernel) (by decide +kernel)
theorem q548 : Cond.selects RX8 yX8_say yX8_say ∈ gG := gG_of 548 (by decide +kernel) (by decide +kernel)
theorem q549 : Cond.code yX8_say cX8_say 5 (Option.some FieldType.int) ∈ gG := gG_of 549 (by decide +kernel) (by decide +kernel)
theorem q550 : Cond.methodLink RX8 169 yX8_isHalf ∈ gG := gG_of 550 (by decide +kernel) (by decide +kernel)
theorem q551 : Cond.static yX8_isHalf ∈ gG := gG_of 551 (by decide +kernel) (by decide +kernel)
theorem q552 : Cond.code yX8_isHalf cX8_isHalf 1 (Option.some FieldType.boolean) ∈ gG := gG_of 552 (by decide +kernel) (by decide +kernel)
theorem q553 : Cond.methodLink RX8 172 yX8_ordersDecided ∈ gG := gG_of 553 (by decide +kernel) (by decide +kernel)
theorem q555 : Cond.instanceMethod yX8_ordersDecided ∈ gG := gG_of 555 (by decide +kernel) (by decide +kernel)
theorem q556 : Cond.code yX8_ordersDecided cX8_ordersDecided 11 (Option.some FieldType.int) ∈ gG := gG_of 556 (by decide +kernel) (by decide +kernel)
theorem q557 : Cond.methodLink RX8 276 yX8_fillSubsetSums ∈ gG := gG_of 557 (by decide +kernel) (by decide +kernel)
theorem q559 : Cond.instanceMethod yX8_fillSubsetSums ∈ gG := gG_of 559 (by decide +kernel) (by decide +kernel)
theorem q560 : Cond.code yX8_fillSubsetSums cX8_fillSubsetSums 8 none ∈ gG := gG_of 560 (by decide +kernel) (by decide +kernel)
theorem q561 : Cond.fieldLink RX8 176 RX8 "FACTORIALS" "[I" ∈ gG := gG_of 561 (by decide +kernel) (by decide +kernel)
theorem q563 : Cond.methodLink RX8 179 yX8_inLowestTerms ∈ gG := gG_of 563 (by decide +kernel) (by decide +kernel)
theorem q564 : Cond.static yX8_inLowestTerms ∈ gG := gG_of 564 (by decide +kernel) (by decide +kernel)
theorem q565 : Cond.code yX8_inLowestTerms cX8_inLowestTerms 4 (Option.some FieldType.int) ∈ gG := gG_of 565 (by decide +kernel) (by decide +kernel)
theorem q566 : Cond.methodLink RX8 285 yX8_greatestDivisor ∈ gG := gG_of 566 (by decide +kernel) (by decide +kernel)
theorem q567 : Cond.static yX8_greatestDivisor ∈ gG := gG_of 567 (by decide +kernel) (by decide +kernel)
theorem q568 : Cond.code yX8_greatestDivisor cX8_greatestDivisor 6 (Option.some FieldType.int) ∈ gG := gG_of 568 (by decide +kernel) (by decide +kernel)
theorem q569 : Cond.methodLink RL 73 yX8_chance ∈ gG := gG_of 569 (by decide +kernel) (by decide +kernel)
theorem q570 : Cond.instanceMethod yX8_chance ∈ gG := gG_of 570 (by decide +kernel) (by decide +kernel)
theorem q571 : Cond.selects RX8 yX8_chance yX8_chance ∈ gG := gG_of 571 (by decide +kernel) (by decide +kernel)
theorem q572 : Cond.code yX8_chance cX8_chance 5 (Option.some FieldType.int) ∈ gG := gG_of 572 (by decide +kernel) (by decide +kernel)
theorem q573 : Cond.methodLink RX8 182 yX8_partsCarried ∈ gG := gG_of 573 (by decide +kernel) (by decide +kernel)
theorem q575 : Cond.instanceMethod yX8_partsCarried ∈ gG := gG_of 575 (by decide +kernel) (by decide +kernel)
theorem q576 : Cond.code yX8_partsCarried cX8_partsCarried 6 (Option.some FieldType.int) ∈ gG := gG_of 576 (by decide +kernel) (by decide +kernel)
theorem q577 : Cond.methodLink RX8 185 yX8_power ∈ gG := gG_of 577 (by decide +kernel) (by decide +kernel)
theorem q578 : Cond.static yX8_power ∈ gG := gG_of 578 (by decide +kernel) (by decide +kernel)
theorem q579 : Cond.code yX8_power cX8_power 4 (Option.some FieldType.int) ∈ gG := gG_of 579 (by decide +kernel) (by decide +kernel)
theorem q580 : Cond.methodLink RL 77 yX8_cuts ∈ gG := gG_of 580 (by decide +kernel) (by decide +kernel)
theorem q581 : Cond.instanceMethod yX8_cuts ∈ gG := gG_of 581 (by decide +kernel) (by decide +kernel)
theorem q582 : Cond.selects RX8 yX8_cuts yX8_cuts ∈ gG := gG_of 582 (by decide +kernel) (by decide +kernel)
theorem q583 : Cond.code yX8_cuts cX8_cuts 4 (Option.some FieldType.int) ∈ gG := gG_of 583 (by decide +kernel) (by decide +kernel)
theorem q584 : Cond.methodLink RX8 188 yX8_fewestCut ∈ gG := gG_of 584 (by decide +kernel) (by decide +kernel)
theorem q586 : Cond.instanceMethod yX8_fewestCut ∈ gG := gG_of 586 (by decide +kernel) (by decide +kernel)
theorem q587 : Cond.code yX8_fewestCut cX8_fewestCut 5 (Option.some FieldType.int) ∈ gG := gG_of 587 (by decide +kernel) (by decide +kernel)
theorem q588 : Cond.methodLink RX8 191 yX8_toldOfBits ∈ gG := gG_of 588 (by decide +kernel) (by decide +kernel)
theorem q589 : Cond.static yX8_toldOfBits ∈ gG := gG_of 589 (by decide +kernel) (by decide +kernel)
theorem q590 : Cond.code yX8_toldOfBits cX8_toldOfBits 2 (Option.some FieldType.int) ∈ gG := gG_of 590 (by decide +kernel) (by decide +kernel)
theorem q591 : Cond.methodLink RL 81 yX8_fewTurns ∈ gG := gG_of 591 (by decide +kernel) (by decide +kernel)
theorem q592 : Cond.instanceMethod yX8_fewTurns ∈ gG := gG_of 592 (by decide +kernel) (by decide +kernel)
theorem q593 : Cond.selects RX8 yX8_fewTurns yX8_fewTurns ∈ gG := gG_of 593 (by decide +kernel) (by decide +kernel)
theorem q594 : Cond.code yX8_fewTurns cX8_fewTurns 4 (Option.some FieldType.int) ∈ gG := gG_of 594 (by decide +kernel) (by decide +kernel)
theorem q595 : Cond.methodLink RX8 197 yX8_fewestTurned ∈ gG := gG_of 595 (by decide +kernel) (by decide +kernel)
theorem q597 : Cond.instanceMethod yX8_fewestTurned ∈ gG := gG_of 597 (by decide +kernel) (by decide +kernel)
theorem q598 : Cond.code yX8_fewestTurned cX8_fewestTurned 6 (Option.some FieldType.int) ∈ gG := gG_of 598 (by decide +kernel) (by decide +kernel)
theorem q599 : Cond.methodLink RX8 288 yX8_comesOutTurned ∈ gG := gG_of 599 (by decide +kernel) (by decide +kernel)
theorem q601 : Cond.instanceMethod yX8_comesOutTurned ∈ gG := gG_of 601 (by decide +kernel) (by decide +kernel)
theorem q602 : Cond.code yX8_comesOutTurned cX8_comesOutTurned 6 (Option.some FieldType.boolean) ∈ gG := gG_of 602 (by decide +kernel) (by decide +kernel)
theorem q603 : Cond.methodLink RX8 292 yX8_leanOtherwise ∈ gG := gG_of 603 (by decide +kernel) (by decide +kernel)
theorem q605 : Cond.instanceMethod yX8_leanOtherwise ∈ gG := gG_of 605 (by decide +kernel) (by decide +kernel)
theorem q606 : Cond.code yX8_leanOtherwise cX8_leanOtherwise 7 none ∈ gG := gG_of 606 (by decide +kernel) (by decide +kernel)
theorem q607 : Cond.methodLink RL 85 yX8_settle ∈ gG := gG_of 607 (by decide +kernel) (by decide +kernel)
theorem q608 : Cond.instanceMethod yX8_settle ∈ gG := gG_of 608 (by decide +kernel) (by decide +kernel)
theorem q609 : Cond.selects RX8 yX8_settle yX8_settle ∈ gG := gG_of 609 (by decide +kernel) (by decide +kernel)
theorem q610 : Cond.code yX8_settle cX8_settle 3 (Option.some FieldType.int) ∈ gG := gG_of 610 (by decide +kernel) (by decide +kernel)
theorem q611 : Cond.methodLink RX8 200 yX8_tidesTillAgain ∈ gG := gG_of 611 (by decide +kernel) (by decide +kernel)
theorem q613 : Cond.instanceMethod yX8_tidesTillAgain ∈ gG := gG_of 613 (by decide +kernel) (by decide +kernel)
theorem q614 : Cond.code yX8_tidesTillAgain cX8_tidesTillAgain 2 (Option.some FieldType.int) ∈ gG := gG_of 614 (by decide +kernel) (by decide +kernel)
theorem q615 : Cond.methodLink RX8 295 yX6_leanCode ∈ gG := gG_of 615 (by decide +kernel) (by decide +kernel)
theorem q616 : Cond.instanceMethod yX6_leanCode ∈ gG := gG_of 616 (by decide +kernel) (by decide +kernel)
theorem q617 : Cond.selects RX6 yX6_leanCode yX6_leanCode ∈ gG := gG_of 617 (by decide +kernel) (by decide +kernel)
theorem q618 : Cond.code yX6_leanCode cX6_leanCode 5 (Option.some FieldType.long) ∈ gG := gG_of 618 (by decide +kernel) (by decide +kernel)
theorem q619 : Cond.constantLong RX6 42 3 ∈ gG := gG_of 619 (by decide +kernel) (by decide +kernel)
theorem q620 : Cond.methodLink RX8 203 yX8_firstLike ∈ gG := gG_of 620 (by decide +kernel) (by decide +kernel)
theorem q622 : Cond.instanceMethod yX8_firstLike ∈ gG := gG_of 622 (by decide +kernel) (by decide +kernel)
theorem q623 : Cond.code yX8_firstLike cX8_firstLike 3 (Option.some FieldType.int) ∈ gG := gG_of 623 (by decide +kernel) (by decide +kernel)
theorem q624 : Cond.methodLink RL 89 yX8_see ∈ gG := gG_of 624 (by decide +kernel) (by decide +kernel)
theorem q625 : Cond.instanceMethod yX8_see ∈ gG := gG_of 625 (by decide +kernel) (by decide +kernel)
theorem q626 : Cond.selects RX8 yX8_see yX8_see ∈ gG := gG_of 626 (by decide +kernel) (by decide +kernel)
theorem q627 : Cond.code yX8_see cX8_see 4 (Option.some FieldType.int) ∈ gG := gG_of 627 (by decide +kernel) (by decide +kernel)
theorem q628 : Cond.methodLink RX8 209 yX6_addSeen ∈ gG := gG_of 628 (by decide +kernel) (by decide +kernel)
theorem q629 : Cond.instanceMethod yX6_addSeen ∈ gG := gG_of 629 (by decide +kernel) (by decide +kernel)
theorem q630 : Cond.selects RX6 yX6_addSeen yX6_addSeen ∈ gG := gG_of 630 (by decide +kernel) (by decide +kernel)
theorem q631 : Cond.code yX6_addSeen cX6_addSeen 4 none ∈ gG := gG_of 631 (by decide +kernel) (by decide +kernel)
theorem q632 : Cond.methodLink RL 93 yX8_forget ∈ gG := gG_of 632 (by decide +kernel) (by decide +kernel)
theorem q633 : Cond.instanceMethod yX8_forget ∈ gG := gG_of 633 (by decide +kernel) (by decide +kernel)
theorem q634 : Cond.selects RX8 yX8_forget yX8_forget ∈ gG := gG_of 634 (by decide +kernel) (by decide +kernel)
theorem q635 : Cond.code yX8_forget cX8_forget 2 (Option.some FieldType.int) ∈ gG := gG_of 635 (by decide +kernel) (by decide +kernel)
theorem q636 : Cond.methodLink RL 97 yX8_tides ∈ gG := gG_of 636 (by decide +kernel) (by decide +kernel)
theorem q637 : Cond.instanceMethod yX8_tides ∈ gG := gG_of 637 (by decide +kernel) (by decide +kernel)
theorem q638 : Cond.selects RX8 yX8_tides yX8_tides ∈ gG := gG_of 638 (by decide +kernel) (by decide +kernel)
theorem q639 : Cond.code yX8_tides cX8_tides 10 (Option.some FieldType.int) ∈ gG := gG_of 639 (by decide +kernel) (by decide +kernel)
theorem q640 : Cond.methodLink RX8 216 yX8_nextSeed ∈ gG := gG_of 640 (by decide +kernel) (by decide +kernel)
theorem q641 : Cond.static yX8_nextSeed ∈ gG := gG_of 641 (by decide +kernel) (by decide +kernel)
theorem q642 : Cond.code yX8_nextSeed cX8_nextSeed 1 (Option.some FieldType.int) ∈ gG := gG_of 642 (by decide +kernel) (by decide +kernel)
theorem q643 : Cond.constantLong RX8 310 1103515245 ∈ gG := gG_of 643 (by decide +kernel) (by decide +kernel)
theorem q644 : Cond.constantLong RX8 312 12345 ∈ gG := gG_of 644 (by decide +kernel) (by decide +kernel)
theorem q645 : Cond.constantLong RX8 314 2147483647 ∈ gG := gG_of 645 (by decide +kernel) (by decide +kernel)
theorem q646 : Cond.methodLink RX8 219 yX8_drawOf ∈ gG := gG_of 646 (by decide +kernel) (by decide +kernel)
theorem q647 : Cond.static yX8_drawOf ∈ gG := gG_of 647 (by decide +kernel) (by decide +kernel)
theorem q648 : Cond.code yX8_drawOf cX8_drawOf 2 (Option.some FieldType.int) ∈ gG := gG_of 648 (by decide +kernel) (by decide +kernel)
theorem q649 : Cond.constant RX8 316 65536 ∈ gG := gG_of 649 (by decide +kernel) (by decide +kernel)
theorem q650 : Cond.methodLink RX8 222 yX6_turnRound ∈ gG := gG_of 650 (by decide +kernel) (by decide +kernel)
theorem q651 : Cond.instanceMethod yX6_turnRound ∈ gG := gG_of 651 (by decide +kernel) (by decide +kernel)
theorem q652 : Cond.selects RX6 yX6_turnRound yX6_turnRound ∈ gG := gG_of 652 (by decide +kernel) (by decide +kernel)
theorem q653 : Cond.code yX6_turnRound cX6_turnRound 4 none ∈ gG := gG_of 653 (by decide +kernel) (by decide +kernel)
theorem q654 : Cond.methodLink RL 101 yX8_image ∈ gG := gG_of 654 (by decide +kernel) (by decide +kernel)
theorem q655 : Cond.instanceMethod yX8_image ∈ gG := gG_of 655 (by decide +kernel) (by decide +kernel)
theorem q656 : Cond.selects RX8 yX8_image yX8_image ∈ gG := gG_of 656 (by decide +kernel) (by decide +kernel)
theorem q657 : Cond.code yX8_image cX8_image 1 (Option.some FieldType.int) ∈ gG := gG_of 657 (by decide +kernel) (by decide +kernel)
theorem q658 : Cond.methodLink RL 105 yX8_restore ∈ gG := gG_of 658 (by decide +kernel) (by decide +kernel)
theorem q659 : Cond.instanceMethod yX8_restore ∈ gG := gG_of 659 (by decide +kernel) (by decide +kernel)
theorem q660 : Cond.selects RX8 yX8_restore yX8_restore ∈ gG := gG_of 660 (by decide +kernel) (by decide +kernel)
theorem q661 : Cond.code yX8_restore cX8_restore 1 (Option.some FieldType.int) ∈ gG := gG_of 661 (by decide +kernel) (by decide +kernel)
theorem q662 : Cond.methodLink RL 109 yX8_count ∈ gG := gG_of 662 (by decide +kernel) (by decide +kernel)
theorem q663 : Cond.instanceMethod yX8_count ∈ gG := gG_of 663 (by decide +kernel) (by decide +kernel)
theorem q664 : Cond.selects RX8 yX8_count yX8_count ∈ gG := gG_of 664 (by decide +kernel) (by decide +kernel)
theorem q665 : Cond.code yX8_count cX8_count 2 (Option.some FieldType.int) ∈ gG := gG_of 665 (by decide +kernel) (by decide +kernel)
theorem q666 : Cond.methodLink RX8 225 yX8_totalOf ∈ gG := gG_of 666 (by decide +kernel) (by decide +kernel)
theorem q667 : Cond.static yX8_totalOf ∈ gG := gG_of 667 (by decide +kernel) (by decide +kernel)
theorem q668 : Cond.code yX8_totalOf cX8_totalOf 6 (Option.some FieldType.int) ∈ gG := gG_of 668 (by decide +kernel) (by decide +kernel)
theorem q669 : Cond.methodLink RX8 229 yX8_howManyCarriedNow ∈ gG := gG_of 669 (by decide +kernel) (by decide +kernel)
theorem q671 : Cond.instanceMethod yX8_howManyCarriedNow ∈ gG := gG_of 671 (by decide +kernel) (by decide +kernel)
theorem q672 : Cond.code yX8_howManyCarriedNow cX8_howManyCarriedNow 3 (Option.some FieldType.int) ∈ gG := gG_of 672 (by decide +kernel) (by decide +kernel)
theorem q673 : Cond.methodLink RL 113 yX8_digest ∈ gG := gG_of 673 (by decide +kernel) (by decide +kernel)
theorem q674 : Cond.instanceMethod yX8_digest ∈ gG := gG_of 674 (by decide +kernel) (by decide +kernel)
theorem q675 : Cond.selects RX8 yX8_digest yX8_digest ∈ gG := gG_of 675 (by decide +kernel) (by decide +kernel)
theorem q676 : Cond.code yX8_digest cX8_digest 8 (Option.some FieldType.long) ∈ gG := gG_of 676 (by decide +kernel) (by decide +kernel)
theorem q677 : Cond.constantLong RX8 232 1171 ∈ gG := gG_of 677 (by decide +kernel) (by decide +kernel)
theorem q678 : Cond.fieldLink RX8 234 RX8 "DIGESTED_OF_MUSSEL" "[I" ∈ gG := gG_of 678 (by decide +kernel) (by decide +kernel)
theorem q680 : Cond.methodLink RX8 237 yX8_mussel ∈ gG := gG_of 680 (by decide +kernel) (by decide +kernel)
theorem q681 : Cond.methodLink RX8 240 yX8_mixed ∈ gG := gG_of 681 (by decide +kernel) (by decide +kernel)
theorem q682 : Cond.static yX8_mixed ∈ gG := gG_of 682 (by decide +kernel) (by decide +kernel)
theorem q683 : Cond.code yX8_mixed cX8_mixed 4 (Option.some FieldType.long) ∈ gG := gG_of 683 (by decide +kernel) (by decide +kernel)
theorem q684 : Cond.constantLong RX8 266 31 ∈ gG := gG_of 684 (by decide +kernel) (by decide +kernel)
theorem q685 : Cond.methodLink RX8 244 yX8_mixedQuestion ∈ gG := gG_of 685 (by decide +kernel) (by decide +kernel)
theorem q687 : Cond.instanceMethod yX8_mixedQuestion ∈ gG := gG_of 687 (by decide +kernel) (by decide +kernel)
theorem q688 : Cond.code yX8_mixedQuestion cX8_mixedQuestion 7 (Option.some FieldType.long) ∈ gG := gG_of 688 (by decide +kernel) (by decide +kernel)
theorem q689 : Cond.methodLink RX8 254 yX8_question ∈ gG := gG_of 689 (by decide +kernel) (by decide +kernel)
theorem q690 : Cond.methodLink RX8 257 yX8_say ∈ gG := gG_of 690 (by decide +kernel) (by decide +kernel)
theorem q691 : Cond.methodLink RX8 260 yX8_chance ∈ gG := gG_of 691 (by decide +kernel) (by decide +kernel)
theorem q692 : Cond.methodLink RX8 263 yX8_cuts ∈ gG := gG_of 692 (by decide +kernel) (by decide +kernel)
theorem q693 : Cond.methodLink RX8 248 yX8_settle ∈ gG := gG_of 693 (by decide +kernel) (by decide +kernel)
theorem q694 : Cond.methodLink RX8 251 yX8_count ∈ gG := gG_of 694 (by decide +kernel) (by decide +kernel)
theorem q695 : Cond.classLink RL 10 RX9 ∈ gG := gG_of 695 (by decide +kernel) (by decide +kernel)
theorem q696 : Cond.instantiable RX9 37 ∈ gG := gG_of 696 (by decide +kernel) (by decide +kernel)
theorem q697 : Cond.methodLink RL 12 yX9_init ∈ gG := gG_of 697 (by decide +kernel) (by decide +kernel)
theorem q698 : Cond.instanceMethod yX9_init ∈ gG := gG_of 698 (by decide +kernel) (by decide +kernel)
theorem q699 : Cond.code yX9_init cX9_init 1 none ∈ gG := gG_of 699 (by decide +kernel) (by decide +kernel)
theorem q700 : Cond.methodLink RX9 1 objectInit ∈ gG := gG_of 700 (by decide +kernel) (by decide +kernel)
theorem q701 : Cond.fieldLink RX9 121 RX9 "ropes" "I" ∈ gG := gG_of 701 (by decide +kernel) (by decide +kernel)
theorem q702 : Cond.fieldLink RX9 112 RX9 "mussels" "I" ∈ gG := gG_of 702 (by decide +kernel) (by decide +kernel)
theorem q703 : Cond.fieldLink RX9 7 RX9 "kindOf" "[I" ∈ gG := gG_of 703 (by decide +kernel) (by decide +kernel)
theorem q704 : Cond.fieldLink RX9 13 RX9 "weightOf" "[I" ∈ gG := gG_of 704 (by decide +kernel) (by decide +kernel)
theorem q705 : Cond.fieldLink RX9 16 RX9 "leanOf" "[I" ∈ gG := gG_of 705 (by decide +kernel) (by decide +kernel)
theorem q706 : Cond.fieldLink RX9 115 RX9 "cutThreads" "I" ∈ gG := gG_of 706 (by decide +kernel) (by decide +kernel)
theorem q707 : Cond.fieldLink RX9 118 RX9 "tides" "I" ∈ gG := gG_of 707 (by decide +kernel) (by decide +kernel)
theorem q708 : Cond.fieldLink RX9 19 RX9 "askedOf" "[I" ∈ gG := gG_of 708 (by decide +kernel) (by decide +kernel)
theorem q709 : Cond.fieldLink RX9 22 RX9 "carriedOf" "[I" ∈ gG := gG_of 709 (by decide +kernel) (by decide +kernel)
theorem q710 : Cond.fieldLink RX9 210 RX9 "asks" "I" ∈ gG := gG_of 710 (by decide +kernel) (by decide +kernel)
theorem q711 : Cond.fieldLink RX9 124 RX9 "seen" "I" ∈ gG := gG_of 711 (by decide +kernel) (by decide +kernel)
theorem q712 : Cond.fieldLink RX9 25 RX9 "seenMussel" "[I" ∈ gG := gG_of 712 (by decide +kernel) (by decide +kernel)
theorem q713 : Cond.fieldLink RX9 28 RX9 "seenQuestion" "[I" ∈ gG := gG_of 713 (by decide +kernel) (by decide +kernel)
theorem q714 : Cond.fieldLink RX9 31 RX9 "seenSum" "[I" ∈ gG := gG_of 714 (by decide +kernel) (by decide +kernel)
theorem q715 : Cond.fieldLink RX9 83 RX9 "pageLength" "I" ∈ gG := gG_of 715 (by decide +kernel) (by decide +kernel)
theorem q716 : Cond.fieldLink RX9 34 RX9 "page" "[B" ∈ gG := gG_of 716 (by decide +kernel) (by decide +kernel)
theorem q717 : Cond.fieldLink RX9 98 RX9 "isWhole" "Z" ∈ gG := gG_of 717 (by decide +kernel) (by decide +kernel)
theorem q718 : Cond.fieldLink RX9 102 RX9 "newMussels" "I" ∈ gG := gG_of 718 (by decide +kernel) (by decide +kernel)
theorem q719 : Cond.fieldLink RX9 38 RX9 "newLean" "[I" ∈ gG := gG_of 719 (by decide +kernel) (by decide +kernel)
theorem q720 : Cond.fieldLink RX9 41 RX9 "savedLean" "[I" ∈ gG := gG_of 720 (by decide +kernel) (by decide +kernel)
theorem q721 : Cond.fieldLink RX9 44 RX9 "history" "[J" ∈ gG := gG_of 721 (by decide +kernel) (by decide +kernel)
theorem q722 : Cond.fieldLink RX9 48 RX9 "sumBy" "[I" ∈ gG := gG_of 722 (by decide +kernel) (by decide +kernel)
theorem q723 : Cond.fieldLink RX9 235 RX9 "seedNow" "J" ∈ gG := gG_of 723 (by decide +kernel) (by decide +kernel)
theorem q724 : Cond.fieldLink RX9 51 RX9 "keptNow" "[I" ∈ gG := gG_of 724 (by decide +kernel) (by decide +kernel)
theorem q725 : Cond.fieldLink RX9 251 RX9 "isKept" "Z" ∈ gG := gG_of 725 (by decide +kernel) (by decide +kernel)
theorem q726 : Cond.fieldLink RX9 254 RX9 "keptRope" "I" ∈ gG := gG_of 726 (by decide +kernel) (by decide +kernel)
theorem q727 : Cond.fieldLink RX9 257 RX9 "keptCut" "I" ∈ gG := gG_of 727 (by decide +kernel) (by decide +kernel)
theorem q728 : Cond.fieldLink RX9 260 RX9 "keptTides" "I" ∈ gG := gG_of 728 (by decide +kernel) (by decide +kernel)
theorem q729 : Cond.fieldLink RX9 263 RX9 "keptSeen" "I" ∈ gG := gG_of 729 (by decide +kernel) (by decide +kernel)
theorem q730 : Cond.fieldLink RX9 54 RX9 "keptWeight" "[I" ∈ gG := gG_of 730 (by decide +kernel) (by decide +kernel)
theorem q731 : Cond.fieldLink RX9 57 RX9 "keptLean" "[I" ∈ gG := gG_of 731 (by decide +kernel) (by decide +kernel)
theorem q732 : Cond.fieldLink RX9 60 RX9 "keptAsked" "[I" ∈ gG := gG_of 732 (by decide +kernel) (by decide +kernel)
theorem q733 : Cond.fieldLink RX9 63 RX9 "keptCarried" "[I" ∈ gG := gG_of 733 (by decide +kernel) (by decide +kernel)
theorem q734 : Cond.fieldLink RX9 66 RX9 "keptMussel" "[I" ∈ gG := gG_of 734 (by decide +kernel) (by decide +kernel)
theorem q735 : Cond.fieldLink RX9 69 RX9 "keptQuestion" "[I" ∈ gG := gG_of 735 (by decide +kernel) (by decide +kernel)
theorem q736 : Cond.fieldLink RX9 72 RX9 "keptSum" "[I" ∈ gG := gG_of 736 (by decide +kernel) (by decide +kernel)
theorem q737 : Cond.fieldLink RX9 277 RX9 "h" "J" ∈ gG := gG_of 737 (by decide +kernel) (by decide +kernel)
theorem q812 : Cond.superclass RX9 "java/lang/Object" ∈ gG := gG_of 812 (by decide +kernel) (by decide +kernel)
theorem q813 : Cond.methodLink RL 17 yX9_letter ∈ gG := gG_of 813 (by decide +kernel) (by decide +kernel)
theorem q814 : Cond.instanceMethod yX9_letter ∈ gG := gG_of 814 (by decide +kernel) (by decide +kernel)
theorem q815 : Cond.selects RX9 yX9_letter yX9_letter ∈ gG := gG_of 815 (by decide +kernel) (by decide +kernel)
theorem q816 : Cond.code yX9_letter cX9_letter 2 (Option.some FieldType.int) ∈ gG := gG_of 816 (by decide +kernel) (by decide +kernel)
theorem q817 : Cond.methodLink RX9 79 yX9_within ∈ gG := gG_of 817 (by decide +kernel) (by decide +kernel)
theorem q818 : Cond.static yX9_within ∈ gG := gG_of 818 (by decide +kernel) (by decide +kernel)
theorem q819 : Cond.code yX9_within cX9_within 3 (Option.some FieldType.boolean) ∈ gG := gG_of 819 (by decide +kernel) (by decide +kernel)
theorem q820 : Cond.methodLink RL 22 yX9_blank ∈ gG := gG_of 820 (by decide +kernel) (by decide +kernel)
theorem q821 : Cond.instanceMethod yX9_blank ∈ gG := gG_of 821 (by decide +kernel) (by decide +kernel)
theorem q822 : Cond.selects RX9 yX9_blank yX9_blank ∈ gG := gG_of 822 (by decide +kernel) (by decide +kernel)
theorem q823 : Cond.code yX9_blank cX9_blank 2 (Option.some FieldType.int) ∈ gG := gG_of 823 (by decide +kernel) (by decide +kernel)
theorem q824 : Cond.methodLink RL 26 yX9_fault ∈ gG := gG_of 824 (by decide +kernel) (by decide +kernel)
theorem q825 : Cond.instanceMethod yX9_fault ∈ gG := gG_of 825 (by decide +kernel) (by decide +kernel)
theorem q826 : Cond.selects RX9 yX9_fault yX9_fault ∈ gG := gG_of 826 (by decide +kernel) (by decide +kernel)
theorem q827 : Cond.code yX9_fault cX9_fault 1 (Option.some FieldType.int) ∈ gG := gG_of 827 (by decide +kernel) (by decide +kernel)
theorem q828 : Cond.methodLink RX9 108 yX9_read ∈ gG := gG_of 828 (by decide +kernel) (by decide +kernel)
theorem q830 : Cond.instanceMethod yX9_read ∈ gG := gG_of 830 (by decide +kernel) (by decide +kernel)
theorem q831 : Cond.code yX9_read cX9_read 3 (Option.some FieldType.int) ∈ gG := gG_of 831 (by decide +kernel) (by decide +kernel)
theorem q832 : Cond.methodLink RX9 105 yX9_readOne ∈ gG := gG_of 832 (by decide +kernel) (by decide +kernel)
theorem q834 : Cond.instanceMethod yX9_readOne ∈ gG := gG_of 834 (by decide +kernel) (by decide +kernel)
theorem q835 : Cond.code yX9_readOne cX9_readOne 3 (Option.some FieldType.int) ∈ gG := gG_of 835 (by decide +kernel) (by decide +kernel)
theorem q836 : Cond.methodLink RX9 87 yX9_at ∈ gG := gG_of 836 (by decide +kernel) (by decide +kernel)
theorem q838 : Cond.instanceMethod yX9_at ∈ gG := gG_of 838 (by decide +kernel) (by decide +kernel)
theorem q839 : Cond.code yX9_at cX9_at 2 (Option.some FieldType.int) ∈ gG := gG_of 839 (by decide +kernel) (by decide +kernel)
theorem q840 : Cond.methodLink RX9 91 yX9_kindBy ∈ gG := gG_of 840 (by decide +kernel) (by decide +kernel)
theorem q841 : Cond.static yX9_kindBy ∈ gG := gG_of 841 (by decide +kernel) (by decide +kernel)
theorem q842 : Cond.code yX9_kindBy cX9_kindBy 1 (Option.some FieldType.int) ∈ gG := gG_of 842 (by decide +kernel) (by decide +kernel)
theorem q843 : Cond.methodLink RX9 94 yX9_isLean ∈ gG := gG_of 843 (by decide +kernel) (by decide +kernel)
theorem q844 : Cond.static yX9_isLean ∈ gG := gG_of 844 (by decide +kernel) (by decide +kernel)
theorem q845 : Cond.code yX9_isLean cX9_isLean 1 (Option.some FieldType.boolean) ∈ gG := gG_of 845 (by decide +kernel) (by decide +kernel)
theorem q846 : Cond.methodLink RL 30 yX9_rope ∈ gG := gG_of 846 (by decide +kernel) (by decide +kernel)
theorem q847 : Cond.instanceMethod yX9_rope ∈ gG := gG_of 847 (by decide +kernel) (by decide +kernel)
theorem q848 : Cond.selects RX9 yX9_rope yX9_rope ∈ gG := gG_of 848 (by decide +kernel) (by decide +kernel)
theorem q849 : Cond.code yX9_rope cX9_rope 4 (Option.some FieldType.int) ∈ gG := gG_of 849 (by decide +kernel) (by decide +kernel)
theorem q850 : Cond.methodLink RL 35 yX9_mussel ∈ gG := gG_of 850 (by decide +kernel) (by decide +kernel)
theorem q851 : Cond.instanceMethod yX9_mussel ∈ gG := gG_of 851 (by decide +kernel) (by decide +kernel)
theorem q852 : Cond.selects RX9 yX9_mussel yX9_mussel ∈ gG := gG_of 852 (by decide +kernel) (by decide +kernel)
theorem q853 : Cond.code yX9_mussel cX9_mussel 3 (Option.some FieldType.int) ∈ gG := gG_of 853 (by decide +kernel) (by decide +kernel)
theorem q854 : Cond.methodLink RX9 152 yX9_isMussel ∈ gG := gG_of 854 (by decide +kernel) (by decide +kernel)
theorem q856 : Cond.instanceMethod yX9_isMussel ∈ gG := gG_of 856 (by decide +kernel) (by decide +kernel)
theorem q857 : Cond.code yX9_isMussel cX9_isMussel 2 (Option.some FieldType.boolean) ∈ gG := gG_of 857 (by decide +kernel) (by decide +kernel)
theorem q858 : Cond.methodLink RX9 155 yX9_isTold ∈ gG := gG_of 858 (by decide +kernel) (by decide +kernel)
theorem q859 : Cond.static yX9_isTold ∈ gG := gG_of 859 (by decide +kernel) (by decide +kernel)
theorem q860 : Cond.code yX9_isTold cX9_isTold 1 (Option.some FieldType.boolean) ∈ gG := gG_of 860 (by decide +kernel) (by decide +kernel)
theorem q861 : Cond.methodLink RX9 158 yX9_musselNow ∈ gG := gG_of 861 (by decide +kernel) (by decide +kernel)
theorem q863 : Cond.instanceMethod yX9_musselNow ∈ gG := gG_of 863 (by decide +kernel) (by decide +kernel)
theorem q864 : Cond.code yX9_musselNow cX9_musselNow 3 (Option.some FieldType.int) ∈ gG := gG_of 864 (by decide +kernel) (by decide +kernel)
theorem q865 : Cond.methodLink RX9 146 yX9_leansOf ∈ gG := gG_of 865 (by decide +kernel) (by decide +kernel)
theorem q867 : Cond.instanceMethod yX9_leansOf ∈ gG := gG_of 867 (by decide +kernel) (by decide +kernel)
theorem q868 : Cond.code yX9_leansOf cX9_leansOf 7 (Option.some FieldType.int) ∈ gG := gG_of 868 (by decide +kernel) (by decide +kernel)
theorem q869 : Cond.methodLink RX9 225 yX9_laySums ∈ gG := gG_of 869 (by decide +kernel) (by decide +kernel)
theorem q871 : Cond.instanceMethod yX9_laySums ∈ gG := gG_of 871 (by decide +kernel) (by decide +kernel)
theorem q872 : Cond.code yX9_laySums cX9_laySums 5 none ∈ gG := gG_of 872 (by decide +kernel) (by decide +kernel)
theorem q873 : Cond.methodLink RX9 143 yX9_sumOf ∈ gG := gG_of 873 (by decide +kernel) (by decide +kernel)
theorem q875 : Cond.instanceMethod yX9_sumOf ∈ gG := gG_of 875 (by decide +kernel) (by decide +kernel)
theorem q876 : Cond.code yX9_sumOf cX9_sumOf 4 (Option.some FieldType.int) ∈ gG := gG_of 876 (by decide +kernel) (by decide +kernel)
theorem q877 : Cond.methodLink RX9 127 yX9_isFelt ∈ gG := gG_of 877 (by decide +kernel) (by decide +kernel)
theorem q879 : Cond.instanceMethod yX9_isFelt ∈ gG := gG_of 879 (by decide +kernel) (by decide +kernel)
theorem q880 : Cond.code yX9_isFelt cX9_isFelt 2 (Option.some FieldType.boolean) ∈ gG := gG_of 880 (by decide +kernel) (by decide +kernel)
theorem q881 : Cond.methodLink RX9 140 yX9_pulls ∈ gG := gG_of 881 (by decide +kernel) (by decide +kernel)
theorem q883 : Cond.instanceMethod yX9_pulls ∈ gG := gG_of 883 (by decide +kernel) (by decide +kernel)
theorem q884 : Cond.code yX9_pulls cX9_pulls 6 (Option.some FieldType.int) ∈ gG := gG_of 884 (by decide +kernel) (by decide +kernel)
theorem q885 : Cond.methodLink RX9 134 yX9_leanAhead ∈ gG := gG_of 885 (by decide +kernel) (by decide +kernel)
theorem q887 : Cond.instanceMethod yX9_leanAhead ∈ gG := gG_of 887 (by decide +kernel) (by decide +kernel)
theorem q888 : Cond.code yX9_leanAhead cX9_leanAhead 3 (Option.some FieldType.int) ∈ gG := gG_of 888 (by decide +kernel) (by decide +kernel)
theorem q889 : Cond.methodLink RX9 130 yX9_isIn ∈ gG := gG_of 889 (by decide +kernel) (by decide +kernel)
theorem q890 : Cond.static yX9_isIn ∈ gG := gG_of 890 (by decide +kernel) (by decide +kernel)
theorem q891 : Cond.code yX9_isIn cX9_isIn 2 (Option.some FieldType.boolean) ∈ gG := gG_of 891 (by decide +kernel) (by decide +kernel)
theorem q892 : Cond.methodLink RX9 137 yX9_leanBehind ∈ gG := gG_of 892 (by decide +kernel) (by decide +kernel)
theorem q894 : Cond.instanceMethod yX9_leanBehind ∈ gG := gG_of 894 (by decide +kernel) (by decide +kernel)
theorem q895 : Cond.code yX9_leanBehind cX9_leanBehind 3 (Option.some FieldType.int) ∈ gG := gG_of 895 (by decide +kernel) (by decide +kernel)
theorem q896 : Cond.methodLink RX9 149 yX9_askOf ∈ gG := gG_of 896 (by decide +kernel) (by decide +kernel)
theorem q898 : Cond.instanceMethod yX9_askOf ∈ gG := gG_of 898 (by decide +kernel) (by decide +kernel)
theorem q899 : Cond.code yX9_askOf cX9_askOf 8 (Option.some FieldType.int) ∈ gG := gG_of 899 (by decide +kernel) (by decide +kernel)
theorem q900 : Cond.constant RX9 229 268435456 ∈ gG := gG_of 900 (by decide +kernel) (by decide +kernel)
theorem q901 : Cond.methodLink RX9 230 yX9_worstOn ∈ gG := gG_of 901 (by decide +kernel) (by decide +kernel)
theorem q903 : Cond.instanceMethod yX9_worstOn ∈ gG := gG_of 903 (by decide +kernel) (by decide +kernel)
theorem q904 : Cond.code yX9_worstOn cX9_worstOn 6 (Option.some FieldType.int) ∈ gG := gG_of 904 (by decide +kernel) (by decide +kernel)
theorem q905 : Cond.methodLink RX9 179 yX9_size ∈ gG := gG_of 905 (by decide +kernel) (by decide +kernel)
theorem q906 : Cond.static yX9_size ∈ gG := gG_of 906 (by decide +kernel) (by decide +kernel)
theorem q907 : Cond.code yX9_size cX9_size 3 (Option.some FieldType.int) ∈ gG := gG_of 907 (by decide +kernel) (by decide +kernel)
theorem q908 : Cond.methodLink RL 39 yX9_as ∈ gG := gG_of 908 (by decide +kernel) (by decide +kernel)
theorem q909 : Cond.instanceMethod yX9_as ∈ gG := gG_of 909 (by decide +kernel) (by decide +kernel)
theorem q910 : Cond.selects RX9 yX9_as yX9_as ∈ gG := gG_of 910 (by decide +kernel) (by decide +kernel)
theorem q911 : Cond.code yX9_as cX9_as 4 (Option.some FieldType.int) ∈ gG := gG_of 911 (by decide +kernel) (by decide +kernel)
theorem q912 : Cond.methodLink RL 43 yX9_question ∈ gG := gG_of 912 (by decide +kernel) (by decide +kernel)
theorem q913 : Cond.instanceMethod yX9_question ∈ gG := gG_of 913 (by decide +kernel) (by decide +kernel)
theorem q914 : Cond.selects RX9 yX9_question yX9_question ∈ gG := gG_of 914 (by decide +kernel) (by decide +kernel)
theorem q915 : Cond.code yX9_question cX9_question 3 (Option.some FieldType.int) ∈ gG := gG_of 915 (by decide +kernel) (by decide +kernel)
theorem q916 : Cond.methodLink RX9 167 yX9_isQuestion ∈ gG := gG_of 916 (by decide +kernel) (by decide +kernel)
theorem q918 : Cond.instanceMethod yX9_isQuestion ∈ gG := gG_of 918 (by decide +kernel) (by decide +kernel)
theorem q919 : Cond.code yX9_isQuestion cX9_isQuestion 2 (Option.some FieldType.boolean) ∈ gG := gG_of 919 (by decide +kernel) (by decide +kernel)
theorem q920 : Cond.methodLink RX9 170 yX9_questionNow ∈ gG := gG_of 920 (by decide +kernel) (by decide +kernel)
theorem q922 : Cond.instanceMethod yX9_questionNow ∈ gG := gG_of 922 (by decide +kernel) (by decide +kernel)
theorem q923 : Cond.code yX9_questionNow cX9_questionNow 3 (Option.some FieldType.int) ∈ gG := gG_of 923 (by decide +kernel) (by decide +kernel)
theorem q924 : Cond.methodLink RX9 161 yX9_outOf ∈ gG := gG_of 924 (by decide +kernel) (by decide +kernel)
theorem q926 : Cond.instanceMethod yX9_outOf ∈ gG := gG_of 926 (by decide +kernel) (by decide +kernel)
theorem q927 : Cond.code yX9_outOf cX9_outOf 3 (Option.some FieldType.int) ∈ gG := gG_of 927 (by decide +kernel) (by decide +kernel)
theorem q928 : Cond.methodLink RX9 164 yX9_leaning ∈ gG := gG_of 928 (by decide +kernel) (by decide +kernel)
theorem q930 : Cond.instanceMethod yX9_leaning ∈ gG := gG_of 930 (by decide +kernel) (by decide +kernel)
theorem q931 : Cond.code yX9_leaning cX9_leaning 5 (Option.some FieldType.int) ∈ gG := gG_of 931 (by decide +kernel) (by decide +kernel)
theorem q932 : Cond.methodLink RL 47 yX9_ask ∈ gG := gG_of 932 (by decide +kernel) (by decide +kernel)
theorem q933 : Cond.instanceMethod yX9_ask ∈ gG := gG_of 933 (by decide +kernel) (by decide +kernel)
theorem q934 : Cond.selects RX9 yX9_ask yX9_ask ∈ gG := gG_of 934 (by decide +kernel) (by decide +kernel)
theorem q935 : Cond.code yX9_ask cX9_ask 3 (Option.some FieldType.int) ∈ gG := gG_of 935 (by decide +kernel) (by decide +kernel)
theorem q936 : Cond.methodLink RL 51 yX9_tide ∈ gG := gG_of 936 (by decide +kernel) (by decide +kernel)
theorem q937 : Cond.instanceMethod yX9_tide ∈ gG := gG_of 937 (by decide +kernel) (by decide +kernel)
theorem q938 : Cond.selects RX9 yX9_tide yX9_tide ∈ gG := gG_of 938 (by decide +kernel) (by decide +kernel)
theorem q939 : Cond.code yX9_tide cX9_tide 1 (Option.some FieldType.int) ∈ gG := gG_of 939 (by decide +kernel) (by decide +kernel)
theorem q940 : Cond.methodLink RX9 173 yX9_turnTide ∈ gG := gG_of 940 (by decide +kernel) (by decide +kernel)
theorem q942 : Cond.instanceMethod yX9_turnTide ∈ gG := gG_of 942 (by decide +kernel) (by decide +kernel)
theorem q943 : Cond.code yX9_turnTide cX9_turnTide 5 none ∈ gG := gG_of 943 (by decide +kernel) (by decide +kernel)
theorem q944 : Cond.methodLink RL 55 yX9_cut ∈ gG := gG_of 944 (by decide +kernel) (by decide +kernel)
theorem q945 : Cond.instanceMethod yX9_cut ∈ gG := gG_of 945 (by decide +kernel) (by decide +kernel)
theorem q946 : Cond.selects RX9 yX9_cut yX9_cut ∈ gG := gG_of 946 (by decide +kernel) (by decide +kernel)
theorem q947 : Cond.code yX9_cut cX9_cut 2 (Option.some FieldType.int) ∈ gG := gG_of 947 (by decide +kernel) (by decide +kernel)
theorem q948 : Cond.methodLink RX9 176 yX9_felt ∈ gG := gG_of 948 (by decide +kernel) (by decide +kernel)
theorem q950 : Cond.instanceMethod yX9_felt ∈ gG := gG_of 950 (by decide +kernel) (by decide +kernel)
theorem q951 : Cond.code yX9_felt cX9_felt 3 (Option.some FieldType.int) ∈ gG := gG_of 951 (by decide +kernel) (by decide +kernel)
theorem q952 : Cond.methodLink RL 59 yX9_tie ∈ gG := gG_of 952 (by decide +kernel) (by decide +kernel)
theorem q953 : Cond.instanceMethod yX9_tie ∈ gG := gG_of 953 (by decide +kernel) (by decide +kernel)
theorem q954 : Cond.selects RX9 yX9_tie yX9_tie ∈ gG := gG_of 954 (by decide +kernel) (by decide +kernel)
theorem q955 : Cond.code yX9_tie cX9_tie 2 (Option.some FieldType.int) ∈ gG := gG_of 955 (by decide +kernel) (by decide +kernel)
theorem q956 : Cond.methodLink RL 64 yX9_turn ∈ gG := gG_of 956 (by decide +kernel) (by decide +kernel)
theorem q957 : Cond.instanceMethod yX9_turn ∈ gG := gG_of 957 (by decide +kernel) (by decide +kernel)
theorem q958 : Cond.selects RX9 yX9_turn yX9_turn ∈ gG := gG_of 958 (by decide +kernel) (by decide +kernel)
theorem q959 : Cond.code yX9_turn cX9_turn 5 (Option.some FieldType.int) ∈ gG := gG_of 959 (by decide +kernel) (by decide +kernel)
theorem q960 : Cond.methodLink RL 68 yX9_grow ∈ gG := gG_of 960 (by decide +kernel) (by decide +kernel)
theorem q961 : Cond.instanceMethod yX9_grow ∈ gG := gG_of 961 (by decide +kernel) (by decide +kernel)
theorem q962 : Cond.selects RX9 yX9_grow yX9_grow ∈ gG := gG_of 962 (by decide +kernel) (by decide +kernel)
theorem q963 : Cond.code yX9_grow cX9_grow 4 (Option.some FieldType.int) ∈ gG := gG_of 963 (by decide +kernel) (by decide +kernel)
theorem q964 : Cond.methodLink RL 72 yX9_say ∈ gG := gG_of 964 (by decide +kernel) (by decide +kernel)
theorem q965 : Cond.instanceMethod yX9_say ∈ gG := gG_of 965 (by decide +kernel) (by decide +kernel)
theorem q966 : Cond.selects RX9 yX9_say yX9_say ∈ gG := gG_of 966 (by decide +kernel) (by decide +kernel)
theorem q967 : Cond.code yX9_say cX9_say 4 (Option.some FieldType.int) ∈ gG := gG_of 967 (by decide +kernel) (by decide +kernel)
theorem q968 : Cond.methodLink RX9 192 yX9_sayNow ∈ gG := gG_of 968 (by decide +kernel) (by decide +kernel)
theorem q970 : Cond.instanceMethod yX9_sayNow ∈ gG := gG_of 970 (by decide +kernel) (by decide +kernel)
theorem q971 : Cond.code yX9_sayNow cX9_sayNow 13 (Option.some FieldType.int) ∈ gG := gG_of 971 (by decide +kernel) (by decide +kernel)
theorem q972 : Cond.methodLink RX9 182 yX9_forBy ∈ gG := gG_of 972 (by decide +kernel) (by decide +kernel)
theorem q974 : Cond.instanceMethod yX9_forBy ∈ gG := gG_of 974 (by decide +kernel) (by decide +kernel)
theorem q975 : Cond.code yX9_forBy cX9_forBy 6 (Option.some FieldType.int) ∈ gG := gG_of 975 (by decide +kernel) (by decide +kernel)
theorem q976 : Cond.methodLink RX9 185 yX9_orders ∈ gG := gG_of 976 (by decide +kernel) (by decide +kernel)
theorem q977 : Cond.static yX9_orders ∈ gG := gG_of 977 (by decide +kernel) (by decide +kernel)
theorem q978 : Cond.code yX9_orders cX9_orders 3 (Option.some FieldType.int) ∈ gG := gG_of 978 (by decide +kernel) (by decide +kernel)
theorem q979 : Cond.methodLink RX9 188 yX9_part ∈ gG := gG_of 979 (by decide +kernel) (by decide +kernel)
theorem q980 : Cond.static yX9_part ∈ gG := gG_of 980 (by decide +kernel) (by decide +kernel)
theorem q981 : Cond.code yX9_part cX9_part 4 (Option.some FieldType.int) ∈ gG := gG_of 981 (by decide +kernel) (by decide +kernel)
theorem q982 : Cond.methodLink RX9 75 yX9_divisor ∈ gG := gG_of 982 (by decide +kernel) (by decide +kernel)
theorem q983 : Cond.static yX9_divisor ∈ gG := gG_of 983 (by decide +kernel) (by decide +kernel)
theorem q984 : Cond.code yX9_divisor cX9_divisor 5 (Option.some FieldType.int) ∈ gG := gG_of 984 (by decide +kernel) (by decide +kernel)
theorem q985 : Cond.methodLink RL 76 yX9_chance ∈ gG := gG_of 985 (by decide +kernel) (by decide +kernel)
theorem q986 : Cond.instanceMethod yX9_chance ∈ gG := gG_of 986 (by decide +kernel) (by decide +kernel)
theorem q987 : Cond.selects RX9 yX9_chance yX9_chance ∈ gG := gG_of 987 (by decide +kernel) (by decide +kernel)
theorem q988 : Cond.code yX9_chance cX9_chance 4 (Option.some FieldType.int) ∈ gG := gG_of 988 (by decide +kernel) (by decide +kernel)
theorem q989 : Cond.methodLink RX9 195 yX9_chanceNow ∈ gG := gG_of 989 (by decide +kernel) (by decide +kernel)
theorem q991 : Cond.instanceMethod yX9_chanceNow ∈ gG := gG_of 991 (by decide +kernel) (by decide +kernel)
theorem q992 : Cond.code yX9_chanceNow cX9_chanceNow 11 (Option.some FieldType.int) ∈ gG := gG_of 992 (by decide +kernel) (by decide +kernel)
theorem q993 : Cond.methodLink RL 80 yX9_cuts ∈ gG := gG_of 993 (by decide +kernel) (by decide +kernel)
theorem q994 : Cond.instanceMethod yX9_cuts ∈ gG := gG_of 994 (by decide +kernel) (by decide +kernel)
theorem q995 : Cond.selects RX9 yX9_cuts yX9_cuts ∈ gG := gG_of 995 (by decide +kernel) (by decide +kernel)
theorem q996 : Cond.code yX9_cuts cX9_cuts 4 (Option.some FieldType.int) ∈ gG := gG_of 996 (by decide +kernel) (by decide +kernel)
theorem q997 : Cond.methodLink RX9 198 yX9_cutsNow ∈ gG := gG_of 997 (by decide +kernel) (by decide +kernel)
theorem q999 : Cond.instanceMethod yX9_cutsNow ∈ gG := gG_of 999 (by decide +kernel) (by decide +kernel)
theorem q1000 : Cond.code yX9_cutsNow cX9_cutsNow 7 (Option.some FieldType.int) ∈ gG := gG_of 1000 (by decide +kernel) (by decide +kernel)
theorem q1001 : Cond.methodLink RL 84 yX9_fewTurns ∈ gG := gG_of 1001 (by decide +kernel) (by decide +kernel)
theorem q1002 : Cond.instanceMethod yX9_fewTurns ∈ gG := gG_of 1002 (by decide +kernel) (by decide +kernel)
theorem q1003 : Cond.selects RX9 yX9_fewTurns yX9_fewTurns ∈ gG := gG_of 1003 (by decide +kernel) (by decide +kernel)
theorem q1004 : Cond.code yX9_fewTurns cX9_fewTurns 4 (Option.some FieldType.int) ∈ gG := gG_of 1004 (by decide +kernel) (by decide +kernel)
theorem q1005 : Cond.methodLink RX9 213 yX9_turnsNow ∈ gG := gG_of 1005 (by decide +kernel) (by decide +kernel)
theorem q1007 : Cond.instanceMethod yX9_turnsNow ∈ gG := gG_of 1007 (by decide +kernel) (by decide +kernel)
theorem q1008 : Cond.code yX9_turnsNow cX9_turnsNow 10 (Option.some FieldType.int) ∈ gG := gG_of 1008 (by decide +kernel) (by decide +kernel)
theorem q1009 : Cond.methodLink RX9 201 yX9_saveLeans ∈ gG := gG_of 1009 (by decide +kernel) (by decide +kernel)
theorem q1011 : Cond.instanceMethod yX9_saveLeans ∈ gG := gG_of 1011 (by decide +kernel) (by decide +kernel)
theorem q1012 : Cond.code yX9_saveLeans cX9_saveLeans 2 none ∈ gG := gG_of 1012 (by decide +kernel) (by decide +kernel)
theorem q1013 : Cond.methodLink RX9 204 yX9_otherwise ∈ gG := gG_of 1013 (by decide +kernel) (by decide +kernel)
theorem q1015 : Cond.instanceMethod yX9_otherwise ∈ gG := gG_of 1015 (by decide +kernel) (by decide +kernel)
theorem q1016 : Cond.code yX9_otherwise cX9_otherwise 4 (Option.some FieldType.int) ∈ gG := gG_of 1016 (by decide +kernel) (by decide +kernel)
theorem q1017 : Cond.methodLink RX9 207 yX9_loadLeans ∈ gG := gG_of 1017 (by decide +kernel) (by decide +kernel)
theorem q1019 : Cond.instanceMethod yX9_loadLeans ∈ gG := gG_of 1019 (by decide +kernel) (by decide +kernel)
theorem q1020 : Cond.code yX9_loadLeans cX9_loadLeans 2 none ∈ gG := gG_of 1020 (by decide +kernel) (by decide +kernel)
theorem q1021 : Cond.methodLink RL 88 yX9_settle ∈ gG := gG_of 1021 (by decide +kernel) (by decide +kernel)
theorem q1022 : Cond.instanceMethod yX9_settle ∈ gG := gG_of 1022 (by decide +kernel) (by decide +kernel)
theorem q1023 : Cond.selects RX9 yX9_settle yX9_settle ∈ gG := gG_of 1023 (by decide +kernel) (by decide +kernel)
theorem q1024 : Cond.code yX9_settle cX9_settle 2 (Option.some FieldType.int) ∈ gG := gG_of 1024 (by decide +kernel) (by decide +kernel)
theorem q1025 : Cond.methodLink RX9 222 yX9_settleNow ∈ gG := gG_of 1025 (by decide +kernel) (by decide +kernel)
theorem q1027 : Cond.instanceMethod yX9_settleNow ∈ gG := gG_of 1027 (by decide +kernel) (by decide +kernel)
theorem q1028 : Cond.code yX9_settleNow cX9_settleNow 5 (Option.some FieldType.int) ∈ gG := gG_of 1028 (by decide +kernel) (by decide +kernel)
theorem q1029 : Cond.methodLink RX9 218 yX9_leansTold ∈ gG := gG_of 1029 (by decide +kernel) (by decide +kernel)
theorem q1031 : Cond.instanceMethod yX9_leansTold ∈ gG := gG_of 1031 (by decide +kernel) (by decide +kernel)
theorem q1032 : Cond.code yX9_leansTold cX9_leansTold 4 (Option.some FieldType.long) ∈ gG := gG_of 1032 (by decide +kernel) (by decide +kernel)
theorem q1033 : Cond.constantLong RX9 216 3 ∈ gG := gG_of 1033 (by decide +kernel) (by decide +kernel)
theorem q1034 : Cond.methodLink RL 92 yX9_see ∈ gG := gG_of 1034 (by decide +kernel) (by decide +kernel)
theorem q1035 : Cond.instanceMethod yX9_see ∈ gG := gG_of 1035 (by decide +kernel) (by decide +kernel)
theorem q1036 : Cond.selects RX9 yX9_see yX9_see ∈ gG := gG_of 1036 (by decide +kernel) (by decide +kernel)
theorem q1037 : Cond.code yX9_see cX9_see 4 (Option.some FieldType.int) ∈ gG := gG_of 1037 (by decide +kernel) (by decide +kernel)
theorem q1038 : Cond.methodLink RL 96 yX9_forget ∈ gG := gG_of 1038 (by decide +kernel) (by decide +kernel)
theorem q1039 : Cond.instanceMethod yX9_forget ∈ gG := gG_of 1039 (by decide +kernel) (by decide +kernel)
theorem q1040 : Cond.selects RX9 yX9_forget yX9_forget ∈ gG := gG_of 1040 (by decide +kernel) (by decide +kernel)
theorem q1041 : Cond.code yX9_forget cX9_forget 2 (Option.some FieldType.int) ∈ gG := gG_of 1041 (by decide +kernel) (by decide +kernel)
theorem q1042 : Cond.methodLink RL 100 yX9_tides ∈ gG := gG_of 1042 (by decide +kernel) (by decide +kernel)
theorem q1043 : Cond.instanceMethod yX9_tides ∈ gG := gG_of 1043 (by decide +kernel) (by decide +kernel)
theorem q1044 : Cond.selects RX9 yX9_tides yX9_tides ∈ gG := gG_of 1044 (by decide +kernel) (by decide +kernel)
theorem q1045 : Cond.code yX9_tides cX9_tides 4 (Option.some FieldType.int) ∈ gG := gG_of 1045 (by decide +kernel) (by decide +kernel)
theorem q1046 : Cond.methodLink RX9 248 yX9_tidesNow ∈ gG := gG_of 1046 (by decide +kernel) (by decide +kernel)
theorem q1048 : Cond.instanceMethod yX9_tidesNow ∈ gG := gG_of 1048 (by decide +kernel) (by decide +kernel)
theorem q1049 : Cond.code yX9_tidesNow cX9_tidesNow 10 (Option.some FieldType.int) ∈ gG := gG_of 1049 (by decide +kernel) (by decide +kernel)
theorem q1050 : Cond.methodLink RX9 245 yX9_draw ∈ gG := gG_of 1050 (by decide +kernel) (by decide +kernel)
theorem q1052 : Cond.instanceMethod yX9_draw ∈ gG := gG_of 1052 (by decide +kernel) (by decide +kernel)
theorem q1053 : Cond.code yX9_draw cX9_draw 2 (Option.some FieldType.int) ∈ gG := gG_of 1053 (by decide +kernel) (by decide +kernel)
theorem q1054 : Cond.constantLong RX9 233 1103515245 ∈ gG := gG_of 1054 (by decide +kernel) (by decide +kernel)
theorem q1055 : Cond.constantLong RX9 239 12345 ∈ gG := gG_of 1055 (by decide +kernel) (by decide +kernel)
theorem q1056 : Cond.constantLong RX9 241 2147483647 ∈ gG := gG_of 1056 (by decide +kernel) (by decide +kernel)
theorem q1057 : Cond.constantLong RX9 243 65536 ∈ gG := gG_of 1057 (by decide +kernel) (by decide +kernel)
theorem q1058 : Cond.methodLink RL 104 yX9_image ∈ gG := gG_of 1058 (by decide +kernel) (by decide +kernel)
theorem q1059 : Cond.instanceMethod yX9_image ∈ gG := gG_of 1059 (by decide +kernel) (by decide +kernel)
theorem q1060 : Cond.selects RX9 yX9_image yX9_image ∈ gG := gG_of 1060 (by decide +kernel) (by decide +kernel)
theorem q1061 : Cond.code yX9_image cX9_image 2 (Option.some FieldType.int) ∈ gG := gG_of 1061 (by decide +kernel) (by decide +kernel)
theorem q1062 : Cond.methodLink RL 108 yX9_restore ∈ gG := gG_of 1062 (by decide +kernel) (by decide +kernel)
theorem q1063 : Cond.instanceMethod yX9_restore ∈ gG := gG_of 1063 (by decide +kernel) (by decide +kernel)
theorem q1064 : Cond.selects RX9 yX9_restore yX9_restore ∈ gG := gG_of 1064 (by decide +kernel) (by decide +kernel)
theorem q1065 : Cond.code yX9_restore cX9_restore 2 (Option.some FieldType.int) ∈ gG := gG_of 1065 (by decide +kernel) (by decide +kernel)
theorem q1066 : Cond.methodLink RL 112 yX9_count ∈ gG := gG_of 1066 (by decide +kernel) (by decide +kernel)
theorem q1067 : Cond.instanceMethod yX9_count ∈ gG := gG_of 1067 (by decide +kernel) (by decide +kernel)
theorem q1068 : Cond.selects RX9 yX9_count yX9_count ∈ gG := gG_of 1068 (by decide +kernel) (by decide +kernel)
theorem q1069 : Cond.code yX9_count cX9_count 2 (Option.some FieldType.int) ∈ gG := gG_of 1069 (by decide +kernel) (by decide +kernel)
theorem q1070 : Cond.methodLink RX9 272 yX9_howMany ∈ gG := gG_of 1070 (by decide +kernel) (by decide +kernel)
theorem q1072 : Cond.instanceMethod yX9_howMany ∈ gG := gG_of 1072 (by decide +kernel) (by decide +kernel)
theorem q1073 : Cond.code yX9_howMany cX9_howMany 2 (Option.some FieldType.int) ∈ gG := gG_of 1073 (by decide +kernel) (by decide +kernel)
theorem q1074 : Cond.methodLink RX9 266 yX9_weights ∈ gG := gG_of 1074 (by decide +kernel) (by decide +kernel)
theorem q1076 : Cond.instanceMethod yX9_weights ∈ gG := gG_of 1076 (by decide +kernel) (by decide +kernel)
theorem q1077 : Cond.code yX9_weights cX9_weights 3 (Option.some FieldType.int) ∈ gG := gG_of 1077 (by decide +kernel) (by decide +kernel)
theorem q1078 : Cond.methodLink RX9 269 yX9_carriedNow ∈ gG := gG_of 1078 (by decide +kernel) (by decide +kernel)
theorem q1080 : Cond.instanceMethod yX9_carriedNow ∈ gG := gG_of 1080 (by decide +kernel) (by decide +kernel)
theorem q1081 : Cond.code yX9_carriedNow cX9_carriedNow 3 (Option.some FieldType.int) ∈ gG := gG_of 1081 (by decide +kernel) (by decide +kernel)
theorem q1082 : Cond.methodLink RL 117 yX9_digest ∈ gG := gG_of 1082 (by decide +kernel) (by decide +kernel)
theorem q1083 : Cond.instanceMethod yX9_digest ∈ gG := gG_of 1083 (by decide +kernel) (by decide +kernel)
theorem q1084 : Cond.selects RX9 yX9_digest yX9_digest ∈ gG := gG_of 1084 (by decide +kernel) (by decide +kernel)
theorem q1085 : Cond.code yX9_digest cX9_digest 3 (Option.some FieldType.long) ∈ gG := gG_of 1085 (by decide +kernel) (by decide +kernel)
theorem q1086 : Cond.constantLong RX9 284 1171 ∈ gG := gG_of 1086 (by decide +kernel) (by decide +kernel)
theorem q1087 : Cond.methodLink RX9 280 yX9_mix ∈ gG := gG_of 1087 (by decide +kernel) (by decide +kernel)
theorem q1089 : Cond.instanceMethod yX9_mix ∈ gG := gG_of 1089 (by decide +kernel) (by decide +kernel)
theorem q1090 : Cond.code yX9_mix cX9_mix 3 none ∈ gG := gG_of 1090 (by decide +kernel) (by decide +kernel)
theorem q1091 : Cond.constantLong RX9 275 31 ∈ gG := gG_of 1091 (by decide +kernel) (by decide +kernel)
theorem q1092 : Cond.methodLink RX9 286 yX9_mixQuestion ∈ gG := gG_of 1092 (by decide +kernel) (by decide +kernel)
theorem q1094 : Cond.instanceMethod yX9_mixQuestion ∈ gG := gG_of 1094 (by decide +kernel) (by decide +kernel)
theorem q1095 : Cond.code yX9_mixQuestion cX9_mixQuestion 3 none ∈ gG := gG_of 1095 (by decide +kernel) (by decide +kernel)
theorem q1101 : Cond.fieldLink RJ0 15 RJ0 "coder" "B" ∈ gG := gG_of 1101 (by decide +kernel) (by decide +kernel)
theorem q1102 : Cond.fieldLink RJ0 9 RJ0 "value" "[B" ∈ gG := gG_of 1102 (by decide +kernel) (by decide +kernel)
theorem igX0 : ∀ w ∈ u_ws RX0 TX0 0, w ∈ gG := gG_sub _ [] (by decide +kernel) (by decide +kernel)
theorem igX1 : ∀ w ∈ u_ws RX1 TX1 0, w ∈ gG := gG_sub _ [] (by decide +kernel) (by decide +kernel)
theorem igX2 : ∀ w ∈ u_ws RX2 TX2 0, w ∈ gG := gG_sub _ [] (by decide +kernel) (by decide +kernel)
theorem igX3 : ∀ w ∈ u_ws RX3 TX3 0, w ∈ gG := gG_sub _ [] (by decide +kernel) (by decide +kernel)
theorem igX4 : ∀ w ∈ u_ws RX4 TX4 2, w ∈ gG := gG_sub _ [93, 95] (by decide +kernel) (by decide +kernel)
theorem igX5 : ∀ w ∈ u_ws RX5 TX5 3, w ∈ gG := gG_sub _ [145, 147, 149] (by decide +kernel) (by decide +kernel)
theorem igX6 : ∀ w ∈ u_ws RX6 TX6 10, w ∈ gG := gG_sub _ [180, 182, 184, 186, 188, 190, 192, 194, 196, 198] (by decide +kernel) (by decide +kernel)
theorem igX7 : ∀ w ∈ u_ws RX7 TX7 0, w ∈ gG := gG_sub _ [] (by decide +kernel) (by decide +kernel)
theorem igX8 : ∀ w ∈ u_ws RX8 TX8 12, w ∈ gG := gG_sub _ [213, 215, 217, 219, 221, 223, 225, 227, 229, 231, 233, 235] (by decide +kernel) (by decide +kernel)
theorem igX9 : ∀ w ∈ u_ws RX9 TX9 37, w ∈ gG := gG_sub _ [738, 740, 742, 744, 746, 748, 750, 752, 754, 756, 758, 760, 762, 764, 766, 768, 770, 772, 774, 776, 778, 780, 782, 784, 786, 788, 790, 792, 794, 796, 798, 800, 802, 804, 806, 808, 810] (by decide +kernel) (by decide +kernel)
end
section
/-! ===== THE LAYER: one bundle for a world (gW), one form for a contract (MI, ML, MV), rows over them; numbers that are naturals (nI) ===== -/
def gT (ct : Nat → ClassId) : List (ClassId × FieldType) := [(ct 0, .int), (ct 1, .long), (ct 2, .byte), (ct 3, .object "RopeVote$Mussel"), (ct 4, .array .int)]
/-- the world ws lies in the heap H, apart, in A; since the start nothing outside A has changed -/
def gW (D : va_G) (ct : Nat → ClassId) (A : Nat → Prop) (s : State) (H : Heap) (ll : List Loc) (ws : va_W) : Prop :=
  va_K D vwCl (gT ct) s ∧ va_P D vwCl ws H ∧ va_D A ws ∧ va_S A s.heap H ll ∧ ∀ q : Nat, s.heap.size ≤ q → A q
theorem gW.to {D : va_G} {ct : Nat → ClassId} {A : Nat → Prop} {s : State} {H : Heap} {ll : List Loc} {ws ws' : va_W} (h : gW D ct A s H ll ws) (e : ws = ws') : gW D ct A s H ll ws' := e ▸ h
theorem gW.inA {D : va_G} {ct : Nat → ClassId} {A : Nat → Prop} {s : State} {H : Heap} {ll : List Loc} {ws : va_W} (h : gW D ct A s H ll ws) : ∀ q : Nat, va_A ws H.size q → A q := by
  rintro q (⟨k, e, hk⟩ | hq)
  · exact h.2.2.1.2 k _ hk
  · exact h.2.2.2.2 q (Nat.le_trans h.2.2.2.1.1 hq)
theorem gW.aft {D : va_G} {ct : Nat → ClassId} {A : Nat → Prop} {s : State} {H H1 : Heap} {ll l1 : List Loc} {ws w1 : va_W} (h : gW D ct A s H ll ws) (hP : va_P D vwCl w1 H1) (hD : va_D (va_A ws H.size) w1) (hS : va_S A s.heap H1 l1) : gW D ct A s H1 l1 w1 :=
  ⟨h.1, hP, hD.weaken (fun _ _ _ hq => h.inA _ hq), hS, h.2.2.2.2⟩
/-- a method's words: its code, and all of the law's -/
def gWs (y : MethodName) (cc : ByteArray) (n : Nat) (ret : Option FieldType) : List Cond := .code y cc n ret :: gG
theorem gWs_in {y : MethodName} {cc : ByteArray} {n : Nat} {ret : Option FieldType} {w : Cond} (h : w ∈ gG) : w ∈ gWs y cc n ret := List.mem_cons_of_mem _ h
/-- what is known of statics -/
abbrev gX : Type := (Nat → Prop) → State → Prop
def gNo : gX := fun _ _ => True
def gXok (X : gX) : Prop := (∀ (A : Nat → Prop) (a : Array Value) (U : State) (g : JFrame) (mk : MethodId), X A U → X A (U.calling g mk a)) ∧ ∀ (A B : Nat → Prop) (s U : State), X A s → s.WarmedH U.vm → (∀ q : Nat, q < s.heap.size → ¬ A q → U.heap[q]? = s.heap[q]?) → (∀ q, B q → A q) → X B U
theorem gfz0 (v : Int32) : fits .boolean (narrow .boolean (.int v)) = true := by
  obtain ⟨j, hj, e⟩ := pk_andE v (m := 1) 1 (by decide)
  show (v &&& 1 == 0 || v &&& 1 == 1) = true
  rw [e]
  match j, hj with
  | 0, _ => rfl
  | 1, _ => rfl
theorem gfz {v : Int32} (h : narrow .boolean (.int v) = .int v) : fits .boolean (.int v) = true := by rw [← h]; exact gfz0 v
theorem gnz (P : Prop) [Decidable P] : narrow .boolean (.int (if P then 1 else 0)) = .int (if P then 1 else 0) := by by_cases h : P <;> simp only [h, if_true, if_false] <;> rfl
theorem ndec {x z : Nat} (h : z ≤ x) : nI x + Int32.ofInt (-(z : Int)) = nI (x - z) := by
  rw [← pk_sub h, Int32.sub_eq_add_neg]
  congr 1
  rw [Int32.ofInt_neg]; rfl
theorem gNo_ok : gXok gNo := ⟨fun _ _ _ _ _ _ => trivial, fun _ _ _ _ _ _ _ _ => trivial⟩
def gPre (D : va_G) (ct : Nat → ClassId) (X : gX) (wi : va_W) (sz : Nat) : State → Prop := fun U => U.heap.size = sz ∧ va_P D vwCl wi U.heap ∧ va_K D vwCl (gT ct) U ∧ va_D (fun _ => True) wi ∧ X (va_A wi sz) U
def gEnd {S : Type} (D : va_G) (ct : Nat → ClassId) (A : Nat → Prop) (wo : S → va_W) : S → State → Prop := fun u t => va_P D vwCl (wo u) t.heap ∧ va_K D vwCl (gT ct) t ∧ va_D A (wo u)
/-- a contract: from the world wi, with the arguments av, the method answers r, and the world is then wo u, with 'post r u' -/
def MI (l : Launch) (y : MethodName) (cs : List Cond) (rm : Room) (D : va_G) (ct : Nat → ClassId) (X : gX) (av : List Value) (wi : va_W) {S : Type} (wo : S → va_W) (post : Int32 → S → Prop) : Prop :=
  ∀ sz : Nat, Met l y cs rm (va_Pc av (gPre D ct X wi sz)) (va_Qi post (gEnd D ct (va_A wi sz) wo) (va_A wi sz)) 0 0 (va_A wi sz)
def ML (l : Launch) (y : MethodName) (cs : List Cond) (rm : Room) (D : va_G) (ct : Nat → ClassId) (X : gX) (av : List Value) (wi : va_W) {S : Type} (wo : S → va_W) (post : Int64 → S → Prop) : Prop :=
  ∀ sz : Nat, Met l y cs rm (va_Pc av (gPre D ct X wi sz)) (va_Ql post (gEnd D ct (va_A wi sz) wo) (va_A wi sz)) 0 0 (va_A wi sz)
def MV (l : Launch) (y : MethodName) (cs : List Cond) (rm : Room) (D : va_G) (ct : Nat → ClassId) (X : gX) (av : List Value) (wi : va_W) {S : Type} (wo : S → va_W) (post : S → Prop) : Prop :=
  ∀ sz : Nat, Met l y cs rm (va_Pc av (gPre D ct X wi sz)) (va_Qv post (gEnd D ct (va_A wi sz) wo) (va_A wi sz)) 0 0 (va_A wi sz)
theorem gBlind {D : va_G} {ct : Nat → ClassId} {X : gX} {av : List Value} {wi : va_W} {sz : Nat} (hX : gXok X) : FrameBlind (va_Pc av (gPre D ct X wi sz)) := fun a U g mk q => by
  obtain ⟨q0, q1, qP, qK, qD, qX⟩ := q
  exact ⟨q0, q1, qP, va_K.moved (u := U) (U := U.calling g mk a) (Vm.Alike.refl U.vm) qK, qD, hX.1 _ _ _ _ _ qX⟩
section GRows
variable {p : Program} {l : Launch} {e : Env} {R : Room} {s : State} {m : MethodId} {args : Array Value} {below : List Frame} {meth : Method} {c : Code} {H : Heap} {ll : List Loc} {cells slots : Nat} {Q : State → Prop}
variable {cc : ByteArray} {pc nL : Nat} {ls : Array Slot} {rest : List Value} {D : va_G} {ct : Nat → ClassId} {A : Nat → Prop} {a : Nat} {ws : va_W} {y0 : MethodName} {ret0 : Option FieldType} {own : String}
-- ends
theorem gW.iret {S : Type} {wo : S → va_W} {post : Int32 → S → Prop} {v : Int32} (u : S) (h : gW D ct A s H ll (wo u)) (hp : post v u) (hx : p.tables.exec = Jvm.exec) (hb : c.code = cc) (hr : meth.sig.returnType = some .int) (hk : meth.locks = false) (hdg : decode cc pc = .ok (.ireturn, 1)) : W p l e R s m args below meth c H ll 0 0 (MQ below (va_Qi post (gEnd D ct A wo) A) args s 0 0 A) (F0 m pc ls [.int v]) :=
  W.iret hx hb hr (fun t ht hW => ⟨⟨v, u, rfl, hp, by rw [ht]; exact h.2.1, va_K.moved hW.alike h.1, h.2.2.1⟩, h.2.2.2.1.F ht⟩) h.2.2.2.1.2.2 hdg hk
theorem gW.zret {S : Type} {wo : S → va_W} {post : Int32 → S → Prop} {v : Int32} {ty : FieldType} (u : S) (h : gW D ct A s H ll (wo u)) (hp : post v u) (hx : p.tables.exec = Jvm.exec) (hb : c.code = cc) (hr : meth.sig.returnType = some ty) (hk : meth.locks = false) (hdg : decode cc pc = .ok (.ireturn, 1)) (hn : narrow ty (.int v) = .int v) : W p l e R s m args below meth c H ll 0 0 (MQ below (va_Qi post (gEnd D ct A wo) A) args s 0 0 A) (F0 m pc ls [.int v]) :=
  W.zret hx hb hr hn (fun t ht hW => ⟨⟨v, u, rfl, hp, by rw [ht]; exact h.2.1, va_K.moved hW.alike h.1, h.2.2.1⟩, h.2.2.2.1.F ht⟩) h.2.2.2.1.2.2 hdg hk
theorem gW.lret {S : Type} {wo : S → va_W} {post : Int64 → S → Prop} {v : Int64} (u : S) (h : gW D ct A s H ll (wo u)) (hp : post v u) (hx : p.tables.exec = Jvm.exec) (hb : c.code = cc) (hr : meth.sig.returnType = some .long) (hk : meth.locks = false) (hdg : decode cc pc = .ok (.lreturn, 1)) : W p l e R s m args below meth c H ll 0 0 (MQ below (va_Ql post (gEnd D ct A wo) A) args s 0 0 A) (F0 m pc ls [.long v]) :=
  W.lret hx hb hr (fun t ht hW => ⟨⟨v, u, rfl, hp, by rw [ht]; exact h.2.1, va_K.moved hW.alike h.1, h.2.2.1⟩, h.2.2.2.1.F ht⟩) h.2.2.2.1.2.2 hdg hk
theorem gW.vret {S : Type} {wo : S → va_W} {post : S → Prop} (u : S) (h : gW D ct A s H ll (wo u)) (hp : post u) (hx : p.tables.exec = Jvm.exec) (hb : c.code = cc) (hr : meth.sig.returnType = none) (hk : meth.locks = false) (hdg : decode cc pc = .ok (.return_, 1)) : W p l e R s m args below meth c H ll 0 0 (MQ below (va_Qv post (gEnd D ct A wo) A) args s 0 0 A) (F0 m pc ls []) :=
  W.vret hx hb hr (fun t ht hW => ⟨⟨u, rfl, hp, by rw [ht]; exact h.2.1, va_K.moved hW.alike h.1, h.2.2.1⟩, h.2.2.2.1.F ht⟩) h.2.2.2.1.2.2 hdg hk
-- fields
theorem gget (C : CallFix p m c cc nL s args (gWs y0 cc nL ret0) own) (h : gW D ct A s H ll ws) {Cn ref : String} {T : u_T} {N ci index : Nat} (hin : ∀ w ∈ u_ws Cn T N, w ∈ gG) (q0 : Nat) {fs : List Value} (he : ws[q0]? = some (a, .inr (ci, fs))) (hc : vwCl[ci]? = some (Cn, T, N)) (k : Nat) (hk : k < N) (hlink : Cond.fieldLink own index ref (T k).2.1 (T k).2.2.1 ∈ gG) (hrf : (T k).1 = ref) {v : Value} (hv : fs[k]? = some v) (hdg : decode cc pc = .ok (.getfield index, 3))
    (kk : W p l e R s m args below meth c H ll cells slots Q (F0 m (pc + 3) ls (v :: rest))) : W p l e R s m args below meth c H ll cells slots Q (F0 m pc ls (.ref a :: rest)) :=
  va_get C.1 C.2.1 C.2.2.2.2 (fun w hw => gWs_in (hin w hw)) C.2.2.2.1 h.1 h.2.1 q0 he hc k hk (C.2.2.2.2 _ (gWs_in hlink)) (fun _ h9 => hrf ▸ h9) hv hdg kk
theorem gput (C : CallFix p m c cc nL s args (gWs y0 cc nL ret0) own) (h : gW D ct A s H ll ws) {Cn ref : String} {T : u_T} {N ci index : Nat} (hin : ∀ w ∈ u_ws Cn T N, w ∈ gG) (ty0 : Nat → FieldType) (hty : ∀ k, k < N → parseFieldDescriptor (T k).2.2.1 = some (ty0 k)) (hnm : ∀ a, a < N → ∀ b, b < N → a ≠ b → (T a).2.1 ≠ (T b).2.1) (q0 : Nat) {fs : List Value} (he : ws[q0]? = some (a, .inr (ci, fs))) (hc : vwCl[ci]? = some (Cn, T, N)) (k : Nat) (hk : k < N) (hlink : Cond.fieldLink own index ref (T k).2.1 (T k).2.2.1 ∈ gG) (hrf : (T k).1 = ref) (hfin : (T k).2.2.2 = false) {v : Value} {ty : FieldType} (hd : parseFieldDescriptor (T k).2.2.1 = some ty) (hn : narrow ty v = v) (hfit : fits ty v = true) (hl : k < fs.length) (hdg : decode cc pc = .ok (.putfield index, 3))
    (kk : ∀ (H : Heap) (ll : List Loc), gW D ct A s H ll (ws.set q0 (a, .inr (ci, fs.set k v))) → W p l e R s m args below meth c H ll cells slots Q (F0 m (pc + 3) ls rest)) : W p l e R s m args below meth c H ll cells slots Q (F0 m pc ls (v :: .ref a :: rest)) :=
  va_put C.1 C.2.1 C.2.2.2.2 (fun w hw => gWs_in (hin w hw)) ty0 hty hnm C.2.2.2.1 h.1 h.2.1 h.2.2.1 h.2.2.2.1 q0 he hc k hk (C.2.2.2.2 _ (gWs_in hlink)) (fun _ h9 => hrf ▸ h9) hfin hd hn hfit hl hdg (fun H ll hP hD hS => kk H ll ⟨h.1, hP, hD, hS, h.2.2.2.2⟩)
-- arrays, the place a natural
theorem gild (C : CallFix p m c cc nL s args (gWs y0 cc nL ret0) own) (h : gW D ct A s H ll ws) (q0 : Nat) {N : Nat} {f : Nat → Int32} (he : ws[q0]? = some (a, .inl (ct 0, N, .inl f))) {j : Nat} (hj : j < N) (hN : N < 2 ^ 31) (hdg : decode cc pc = .ok (.iaload, 1))
    (kk : W p l e R s m args below meth c H ll cells slots Q (F0 m (pc + 1) ls (.int (f j) :: rest))) : W p l e R s m args below meth c H ll cells slots Q (F0 m pc ls (.int (nI j) :: .ref a :: rest)) := by
  refine va_iald C.1 C.2.1 h.1 h.2.1 q0 0 he rfl (vp_in_nI hj hN) hdg ?_
  rw [nI_clamp (Nat.lt_trans hj hN)]; exact kk
theorem gbld (C : CallFix p m c cc nL s args (gWs y0 cc nL ret0) own) (h : gW D ct A s H ll ws) (q0 : Nat) {N : Nat} {f : Nat → Int32} (he : ws[q0]? = some (a, .inl (ct 2, N, .inl f))) {j : Nat} (hj : j < N) (hN : N < 2 ^ 31) (hdg : decode cc pc = .ok (.baload, 1))
    (kk : W p l e R s m args below meth c H ll cells slots Q (F0 m (pc + 1) ls (.int (f j) :: rest))) : W p l e R s m args below meth c H ll cells slots Q (F0 m pc ls (.int (nI j) :: .ref a :: rest)) := by
  refine va_bald C.1 C.2.1 h.1 h.2.1 q0 2 he rfl (vp_in_nI hj hN) hdg ?_
  rw [nI_clamp (Nat.lt_trans hj hN)]; exact kk
theorem glld (C : CallFix p m c cc nL s args (gWs y0 cc nL ret0) own) (h : gW D ct A s H ll ws) (q0 : Nat) {N : Nat} {f : Nat → Int64} (he : ws[q0]? = some (a, .inl (ct 1, N, .inr (.inl f)))) {j : Nat} (hj : j < N) (hN : N < 2 ^ 31) (hdg : decode cc pc = .ok (.laload, 1))
    (kk : W p l e R s m args below meth c H ll cells slots Q (F0 m (pc + 1) ls (.long (f j) :: rest))) : W p l e R s m args below meth c H ll cells slots Q (F0 m pc ls (.int (nI j) :: .ref a :: rest)) := by
  refine va_lald C.1 C.2.1 h.1 h.2.1 q0 1 he rfl (vp_in_nI hj hN) hdg ?_
  rw [nI_clamp (Nat.lt_trans hj hN)]; exact kk
theorem gist (C : CallFix p m c cc nL s args (gWs y0 cc nL ret0) own) (h : gW D ct A s H ll ws) (q0 : Nat) {N : Nat} {f : Nat → Int32} (he : ws[q0]? = some (a, .inl (ct 0, N, .inl f))) {j : Nat} {x : Int32} (hj : j < N) (hN : N < 2 ^ 31) (hdg : decode cc pc = .ok (.iastore, 1))
    (kk : ∀ (H : Heap) (ll : List Loc), gW D ct A s H ll (ws.set q0 (a, .inl (ct 0, N, .inl (upd f j x)))) → W p l e R s m args below meth c H ll cells slots Q (F0 m (pc + 1) ls rest)) : W p l e R s m args below meth c H ll cells slots Q (F0 m pc ls (.int x :: .int (nI j) :: .ref a :: rest)) := by
  refine va_iast C.1 C.2.1 h.1 h.2.1 h.2.2.1 h.2.2.2.1 q0 0 he rfl (vp_in_nI hj hN) hdg (fun H ll hP hD hS => ?_)
  rw [nI_clamp (Nat.lt_trans hj hN)] at hP hD
  exact kk H ll ⟨h.1, hP, hD, hS, h.2.2.2.2⟩
theorem gbst (C : CallFix p m c cc nL s args (gWs y0 cc nL ret0) own) (h : gW D ct A s H ll ws) (q0 : Nat) {N : Nat} {f : Nat → Int32} (he : ws[q0]? = some (a, .inl (ct 2, N, .inl f))) {j : Nat} {x : Int32} (hj : j < N) (hN : N < 2 ^ 31) (hdg : decode cc pc = .ok (.bastore, 1))
    (kk : ∀ (H : Heap) (ll : List Loc), gW D ct A s H ll (ws.set q0 (a, .inl (ct 2, N, .inl (upd f j (vp_nar .byte x))))) → W p l e R s m args below meth c H ll cells slots Q (F0 m (pc + 1) ls rest)) : W p l e R s m args below meth c H ll cells slots Q (F0 m pc ls (.int x :: .int (nI j) :: .ref a :: rest)) := by
  refine va_bast C.1 C.2.1 h.1 h.2.1 h.2.2.1 h.2.2.2.1 q0 2 he rfl (vp_in_nI hj hN) hdg (fun H ll hP hD hS => ?_)
  rw [nI_clamp (Nat.lt_trans hj hN)] at hP hD
  exact kk H ll ⟨h.1, hP, hD, hS, h.2.2.2.2⟩
theorem glst (C : CallFix p m c cc nL s args (gWs y0 cc nL ret0) own) (h : gW D ct A s H ll ws) (q0 : Nat) {N : Nat} {f : Nat → Int64} (he : ws[q0]? = some (a, .inl (ct 1, N, .inr (.inl f)))) {j : Nat} {x : Int64} (hj : j < N) (hN : N < 2 ^ 31) (hdg : decode cc pc = .ok (.lastore, 1))
    (kk : ∀ (H : Heap) (ll : List Loc), gW D ct A s H ll (ws.set q0 (a, .inl (ct 1, N, .inr (.inl (vp_updL f j x))))) → W p l e R s m args below meth c H ll cells slots Q (F0 m (pc + 1) ls rest)) : W p l e R s m args below meth c H ll cells slots Q (F0 m pc ls (.long x :: .int (nI j) :: .ref a :: rest)) := by
  refine va_last C.1 C.2.1 h.1 h.2.1 h.2.2.1 h.2.2.2.1 q0 1 he rfl (vp_in_nI hj hN) hdg (fun H ll hP hD hS => ?_)
  rw [nI_clamp (Nat.lt_trans hj hN)] at hP hD
  exact kk H ll ⟨h.1, hP, hD, hS, h.2.2.2.2⟩
theorem galen (C : CallFix p m c cc nL s args (gWs y0 cc nL ret0) own) (h : gW D ct A s H ll ws) (q0 : Nat) {N : Nat} {z : (Nat → Int32) ⊕ (Nat → Int64) ⊕ (Nat → UInt32) ⊕ (Nat → UInt64) ⊕ (Nat → Option Nat)} (k : Nat) {ty : FieldType} (ht : (gT ct)[k]? = some (ct k, ty)) (he : ws[q0]? = some (a, .inl (ct k, N, z))) (hdg : decode cc pc = .ok (.arraylength, 1))
    (kk : W p l e R s m args below meth c H ll cells slots Q (F0 m (pc + 1) ls (.int (nI N) :: rest))) : W p l e R s m args below meth c H ll cells slots Q (F0 m pc ls (.ref a :: rest)) :=
  va_alen C.1 C.2.1 h.1 h.2.1 q0 k he ht rfl hdg kk
-- a number by another name
theorem gas {x z : Int32} (k : x = z) (kk : W p l e R s m args below meth c H ll cells slots Q (F0 m pc ls (.int z :: rest))) : W p l e R s m args below meth c H ll cells slots Q (F0 m pc ls (.int x :: rest)) := k ▸ kk
theorem gasl {x z : Int64} (k : x = z) (kk : W p l e R s m args below meth c H ll cells slots Q (F0 m pc ls (.long z :: rest))) : W p l e R s m args below meth c H ll cells slots Q (F0 m pc ls (.long x :: rest)) := k ▸ kk
-- naturals
theorem nadd (hx : p.tables.exec = Jvm.exec) (hb : c.code = cc) (x z : Nat) (hdg : decode cc pc = .ok (.iadd, 1)) (kk : W p l e R s m args below meth c H ll cells slots Q (F0 m (pc + 1) ls (.int (nI (x + z)) :: rest))) : W p l e R s m args below meth c H ll cells slots Q (F0 m pc ls (.int (nI z) :: .int (nI x) :: rest)) := by
  refine lv_iadd hx hb hdg ?_; rw [nI_add]; exact kk
theorem nmul (hx : p.tables.exec = Jvm.exec) (hb : c.code = cc) (x z : Nat) (hdg : decode cc pc = .ok (.imul, 1)) (kk : W p l e R s m args below meth c H ll cells slots Q (F0 m (pc + 1) ls (.int (nI (x * z)) :: rest))) : W p l e R s m args below meth c H ll cells slots Q (F0 m pc ls (.int (nI z) :: .int (nI x) :: rest)) := by
  refine lv_imul hx hb hdg ?_; rw [pk_mul]; exact kk
theorem nsub (hx : p.tables.exec = Jvm.exec) (hb : c.code = cc) (x z : Nat) (hz : z ≤ x) (hdg : decode cc pc = .ok (.isub, 1)) (kk : W p l e R s m args below meth c H ll cells slots Q (F0 m (pc + 1) ls (.int (nI (x - z)) :: rest))) : W p l e R s m args below meth c H ll cells slots Q (F0 m pc ls (.int (nI z) :: .int (nI x) :: rest)) := by
  refine lv_isub hx hb hdg ?_; rw [pk_sub hz]; exact kk
theorem ndiv (hx : p.tables.exec = Jvm.exec) (hb : c.code = cc) (x z : Nat) (h1 : x < 2 ^ 31) (h0 : 0 < z) (h2 : z < 2 ^ 31) (hdg : decode cc pc = .ok (.idiv, 1)) (kk : W p l e R s m args below meth c H ll cells slots Q (F0 m (pc + 1) ls (.int (nI (x / z)) :: rest))) : W p l e R s m args below meth c H ll cells slots Q (F0 m pc ls (.int (nI z) :: .int (nI x) :: rest)) := by
  refine lv_idiv hx hb hdg (nI_ne0 h0 h2) ?_; rw [pk_div h1 h0 h2]; exact kk
theorem nrem (hx : p.tables.exec = Jvm.exec) (hb : c.code = cc) (x z : Nat) (h1 : x < 2 ^ 31) (h0 : 0 < z) (h2 : z < 2 ^ 31) (hdg : decode cc pc = .ok (.irem, 1)) (kk : W p l e R s m args below meth c H ll cells slots Q (F0 m (pc + 1) ls (.int (nI (x % z)) :: rest))) : W p l e R s m args below meth c H ll cells slots Q (F0 m pc ls (.int (nI z) :: .int (nI x) :: rest)) := by
  refine lv_irem hx hb hdg (nI_ne0 h0 h2) ?_; rw [pk_rem h1 h0 h2]; exact kk
theorem g31 : ∀ k, k < 32 → ((nI k &&& 31).toBitVec.smod 32).toNat = k := by decide +kernel
theorem nshl (hx : p.tables.exec = Jvm.exec) (hb : c.code = cc) (x z : Nat) (hz : z < 32) (h1 : x * 2 ^ z < 2 ^ 32) (hdg : decode cc pc = .ok (.ishl, 1)) (kk : W p l e R s m args below meth c H ll cells slots Q (F0 m (pc + 1) ls (.int (nI (x * 2 ^ z)) :: rest))) : W p l e R s m args below meth c H ll cells slots Q (F0 m pc ls (.int (nI z) :: .int (nI x) :: rest)) := by
  refine lv_ishl hx hb hdg ?_; rw [pk_shlN _ z (g31 z hz) h1]; exact kk
theorem nshr (hx : p.tables.exec = Jvm.exec) (hb : c.code = cc) (x z : Nat) (hz : z < 32) (h1 : x < 2 ^ 31) (hdg : decode cc pc = .ok (.ishr, 1)) (kk : W p l e R s m args below meth c H ll cells slots Q (F0 m (pc + 1) ls (.int (nI (x / 2 ^ z)) :: rest))) : W p l e R s m args below meth c H ll cells slots Q (F0 m pc ls (.int (nI z) :: .int (nI x) :: rest)) := by
  refine lv_ishr hx hb hdg ?_; rw [pk_shrN h1 _ z (g31 z hz)]; exact kk
theorem gandN (x z : Nat) : nI x &&& nI z = nI (x &&& z) := by
  apply Int32.toBitVec_inj.mp; apply BitVec.eq_of_toNat_eq
  show ((BitVec.ofNat 32 x) &&& (BitVec.ofNat 32 z)).toNat = (BitVec.ofNat 32 (x &&& z)).toNat
  rw [BitVec.toNat_and, BitVec.toNat_ofNat, BitVec.toNat_ofNat, BitVec.toNat_ofNat, Nat.and_mod_two_pow]
theorem gorN (x z : Nat) : nI x ||| nI z = nI (x ||| z) := by
  apply Int32.toBitVec_inj.mp; apply BitVec.eq_of_toNat_eq
  show ((BitVec.ofNat 32 x) ||| (BitVec.ofNat 32 z)).toNat = (BitVec.ofNat 32 (x ||| z)).toNat
  rw [BitVec.toNat_or, BitVec.toNat_ofNat, BitVec.toNat_ofNat, BitVec.toNat_ofNat, Nat.or_mod_two_pow]
theorem nand (hx : p.tables.exec = Jvm.exec) (hb : c.code = cc) (x z : Nat) (hdg : decode cc pc = .ok (.iand, 1)) (kk : W p l e R s m args below meth c H ll cells slots Q (F0 m (pc + 1) ls (.int (nI (x &&& z)) :: rest))) : W p l e R s m args below meth c H ll cells slots Q (F0 m pc ls (.int (nI z) :: .int (nI x) :: rest)) := by
  refine lv_iand hx hb hdg ?_; rw [gandN]; exact kk
theorem nor (hx : p.tables.exec = Jvm.exec) (hb : c.code = cc) (x z : Nat) (hdg : decode cc pc = .ok (.ior, 1)) (kk : W p l e R s m args below meth c H ll cells slots Q (F0 m (pc + 1) ls (.int (nI (x ||| z)) :: rest))) : W p l e R s m args below meth c H ll cells slots Q (F0 m pc ls (.int (nI z) :: .int (nI x) :: rest)) := by
  refine lv_ior hx hb hdg ?_; rw [gorN]; exact kk
theorem ninc (hx : p.tables.exec = Jvm.exec) (hb : c.code = cc) {i k : Nat} (x z : Nat) {lv lv' : List (Nat × Value)} (hdg : decode cc pc = .ok (.iinc i (z : Int), 3)) (h : lv_has ls nL lv) (hk : lv[k]? = some (i, .int (nI x))) (hn : i < nL) (hl : (i, Value.int (nI (x + z))) :: lv.filter (fun q => !(q.1 == i) && !(q.1 + 1 == i && q.2.category == 2)) = lv')
    (kk : ∀ ls : Array Slot, lv_has ls nL lv' → W p l e R s m args below meth c H ll cells slots Q (F0 m (pc + 3) ls rest)) : W p l e R s m args below meth c H ll cells slots Q (F0 m pc ls rest) :=
  lv_iinc hx hb hdg h hk (show nI x + Int32.ofInt (z : Int) = nI (x + z) by rw [← nI_add]; congr 1) hn hl kk
-- branches of naturals: c ? z
theorem nb_eq (hx : p.tables.exec = Jvm.exec) (hb : c.code = cc) (x z : Nat) (h1 : x < 2 ^ 31) (h2 : z < 2 ^ 31) {off : Int} {tgt : Nat} (hdg : decode cc pc = .ok (.if_icmp .eq off, 3)) (ht : (pc : Int) + off = (tgt : Int)) (kt : x = z → W p l e R s m args below meth c H ll cells slots Q (F0 m tgt ls rest)) (kf : ¬ x = z → W p l e R s m args below meth c H ll cells slots Q (F0 m (pc + 3) ls rest)) : W p l e R s m args below meth c H ll cells slots Q (F0 m pc ls (.int (nI z) :: .int (nI x) :: rest)) :=
  lv_icmp_eq hx hb hdg ht (fun q => kt ((nI_eq h1 h2).mp q)) (fun q => kf (fun w => q ((nI_eq h1 h2).mpr w)))
theorem nb_ne (hx : p.tables.exec = Jvm.exec) (hb : c.code = cc) (x z : Nat) (h1 : x < 2 ^ 31) (h2 : z < 2 ^ 31) {off : Int} {tgt : Nat} (hdg : decode cc pc = .ok (.if_icmp .ne off, 3)) (ht : (pc : Int) + off = (tgt : Int)) (kt : ¬ x = z → W p l e R s m args below meth c H ll cells slots Q (F0 m tgt ls rest)) (kf : x = z → W p l e R s m args below meth c H ll cells slots Q (F0 m (pc + 3) ls rest)) : W p l e R s m args below meth c H ll cells slots Q (F0 m pc ls (.int (nI z) :: .int (nI x) :: rest)) :=
  lv_icmp_ne hx hb hdg ht (fun q => kt (fun w => q ((nI_eq h1 h2).mpr w))) (fun q => kf ((nI_eq h1 h2).mp q))
theorem nb_lt (hx : p.tables.exec = Jvm.exec) (hb : c.code = cc) (x z : Nat) (h1 : x < 2 ^ 31) (h2 : z < 2 ^ 31) {off : Int} {tgt : Nat} (hdg : decode cc pc = .ok (.if_icmp .lt off, 3)) (ht : (pc : Int) + off = (tgt : Int)) (kt : x < z → W p l e R s m args below meth c H ll cells slots Q (F0 m tgt ls rest)) (kf : z ≤ x → W p l e R s m args below meth c H ll cells slots Q (F0 m (pc + 3) ls rest)) : W p l e R s m args below meth c H ll cells slots Q (F0 m pc ls (.int (nI z) :: .int (nI x) :: rest)) :=
  lv_icmp_lt hx hb hdg ht (fun q => kt ((nI_ltI h1 h2).mp q)) (fun q => kf (Nat.le_of_not_lt (fun w => q ((nI_ltI h1 h2).mpr w))))
theorem nb_ge (hx : p.tables.exec = Jvm.exec) (hb : c.code = cc) (x z : Nat) (h1 : x < 2 ^ 31) (h2 : z < 2 ^ 31) {off : Int} {tgt : Nat} (hdg : decode cc pc = .ok (.if_icmp .ge off, 3)) (ht : (pc : Int) + off = (tgt : Int)) (kt : z ≤ x → W p l e R s m args below meth c H ll cells slots Q (F0 m tgt ls rest)) (kf : x < z → W p l e R s m args below meth c H ll cells slots Q (F0 m (pc + 3) ls rest)) : W p l e R s m args below meth c H ll cells slots Q (F0 m pc ls (.int (nI z) :: .int (nI x) :: rest)) :=
  lv_icmp_ge hx hb hdg ht (fun q => kt ((nI_leI h2 h1).mp q)) (fun q => kf (Nat.lt_of_not_le (fun w => q ((nI_leI h2 h1).mpr w))))
theorem nb_gt (hx : p.tables.exec = Jvm.exec) (hb : c.code = cc) (x z : Nat) (h1 : x < 2 ^ 31) (h2 : z < 2 ^ 31) {off : Int} {tgt : Nat} (hdg : decode cc pc = .ok (.if_icmp .gt off, 3)) (ht : (pc : Int) + off = (tgt : Int)) (kt : z < x → W p l e R s m args below meth c H ll cells slots Q (F0 m tgt ls rest)) (kf : x ≤ z → W p l e R s m args below meth c H ll cells slots Q (F0 m (pc + 3) ls rest)) : W p l e R s m args below meth c H ll cells slots Q (F0 m pc ls (.int (nI z) :: .int (nI x) :: rest)) :=
  lv_icmp_gt hx hb hdg ht (fun q => kt ((nI_ltI h2 h1).mp q)) (fun q => kf (Nat.le_of_not_lt (fun w => q ((nI_ltI h2 h1).mpr w))))
theorem nb_le (hx : p.tables.exec = Jvm.exec) (hb : c.code = cc) (x z : Nat) (h1 : x < 2 ^ 31) (h2 : z < 2 ^ 31) {off : Int} {tgt : Nat} (hdg : decode cc pc = .ok (.if_icmp .le off, 3)) (ht : (pc : Int) + off = (tgt : Int)) (kt : x ≤ z → W p l e R s m args below meth c H ll cells slots Q (F0 m tgt ls rest)) (kf : z < x → W p l e R s m args below meth c H ll cells slots Q (F0 m (pc + 3) ls rest)) : W p l e R s m args below meth c H ll cells slots Q (F0 m pc ls (.int (nI z) :: .int (nI x) :: rest)) :=
  lv_icmp_le hx hb hdg ht (fun q => kt ((nI_leI h1 h2).mp q)) (fun q => kf (Nat.lt_of_not_le (fun w => q ((nI_leI h1 h2).mpr w))))
-- branches of a natural against 0
theorem nz_eq (hx : p.tables.exec = Jvm.exec) (hb : c.code = cc) (x : Nat) (h1 : x < 2 ^ 31) {off : Int} {tgt : Nat} (hdg : decode cc pc = .ok (.ifCond .eq off, 3)) (ht : (pc : Int) + off = (tgt : Int)) (kt : x = 0 → W p l e R s m args below meth c H ll cells slots Q (F0 m tgt ls rest)) (kf : ¬ x = 0 → W p l e R s m args below meth c H ll cells slots Q (F0 m (pc + 3) ls rest)) : W p l e R s m args below meth c H ll cells slots Q (F0 m pc ls (.int (nI x) :: rest)) :=
  lv_if_eq hx hb hdg ht (fun q => kt ((nI_eq h1 (by decide : 0 < 2 ^ 31)).mp q)) (fun q => kf (fun w => q (by rw [w]; rfl)))
theorem nz_ne (hx : p.tables.exec = Jvm.exec) (hb : c.code = cc) (x : Nat) (h1 : x < 2 ^ 31) {off : Int} {tgt : Nat} (hdg : decode cc pc = .ok (.ifCond .ne off, 3)) (ht : (pc : Int) + off = (tgt : Int)) (kt : ¬ x = 0 → W p l e R s m args below meth c H ll cells slots Q (F0 m tgt ls rest)) (kf : x = 0 → W p l e R s m args below meth c H ll cells slots Q (F0 m (pc + 3) ls rest)) : W p l e R s m args below meth c H ll cells slots Q (F0 m pc ls (.int (nI x) :: rest)) :=
  lv_if_ne hx hb hdg ht (fun q => kt (fun w => q (by rw [w]; rfl))) (fun q => kf ((nI_eq h1 (by decide : 0 < 2 ^ 31)).mp q))
theorem nz_le (hx : p.tables.exec = Jvm.exec) (hb : c.code = cc) (x : Nat) (h1 : x < 2 ^ 31) {off : Int} {tgt : Nat} (hdg : decode cc pc = .ok (.ifCond .le off, 3)) (ht : (pc : Int) + off = (tgt : Int)) (kt : x = 0 → W p l e R s m args below meth c H ll cells slots Q (F0 m tgt ls rest)) (kf : 0 < x → W p l e R s m args below meth c H ll cells slots Q (F0 m (pc + 3) ls rest)) : W p l e R s m args below meth c H ll cells slots Q (F0 m pc ls (.int (nI x) :: rest)) :=
  lv_if_le hx hb hdg ht (fun q => kt (Nat.le_zero.mp ((nI_leI h1 (by decide : 0 < 2 ^ 31)).mp q))) (fun q => kf (Nat.pos_of_ne_zero (fun w => q (by rw [w]; exact Int32.le_refl 0))))
theorem bz_eq (hx : p.tables.exec = Jvm.exec) (hb : c.code = cc) (P : Prop) [Decidable P] {off : Int} {tgt : Nat} (hdg : decode cc pc = .ok (.ifCond .eq off, 3)) (ht : (pc : Int) + off = (tgt : Int)) (kt : ¬ P → W p l e R s m args below meth c H ll cells slots Q (F0 m tgt ls rest)) (kf : P → W p l e R s m args below meth c H ll cells slots Q (F0 m (pc + 3) ls rest)) : W p l e R s m args below meth c H ll cells slots Q (F0 m pc ls (.int (if P then 1 else 0) :: rest)) :=
  lv_if_eq hx hb hdg ht (fun q => kt (fun w => by rw [if_pos w] at q; exact absurd q (by decide))) (fun q => kf (Decidable.byContradiction (fun w => q (if_neg w))))
theorem bz_ne (hx : p.tables.exec = Jvm.exec) (hb : c.code = cc) (P : Prop) [Decidable P] {off : Int} {tgt : Nat} (hdg : decode cc pc = .ok (.ifCond .ne off, 3)) (ht : (pc : Int) + off = (tgt : Int)) (kt : P → W p l e R s m args below meth c H ll cells slots Q (F0 m tgt ls rest)) (kf : ¬ P → W p l e R s m args below meth c H ll cells slots Q (F0 m (pc + 3) ls rest)) : W p l e R s m args below meth c H ll cells slots Q (F0 m pc ls (.int (if P then 1 else 0) :: rest)) :=
  lv_if_ne hx hb hdg ht (fun q => kt (Decidable.byContradiction (fun w => q (if_neg w)))) (fun q => kf (fun w => by rw [if_pos w] at q; exact absurd q (by decide)))
-- a call over the very same world
theorem gcallVi {S : Type} {X : gX} {y : MethodName} {bytes : ByteArray} {maxL n idx : Nat} {ret : Option FieldType} {rm : Room} {b : Nat} {As : List Value} {wo : S → va_W} {post : Int32 → S → Prop} {Cn : String} (C : CallFix p m c cc nL s args (gWs y0 cc nL ret0) own) (h : gW D ct A s H ll ws) (hX : X A s) (hXo : gXok X) (hM : MI l y (gWs y bytes maxL ret) rm D ct X (.ref b :: As) ws wo post) (cw : CallW R s args own Cn idx y bytes maxL ret (gWs y bytes maxL ret) rm 0 0 n) (q0 : Nat) {ci : Nat} {fs : List Value} {q : vw_C} (he : ws[q0]? = some (b, .inr (ci, fs))) (hc : vwCl[ci]? = some q) (hq : q.1 = Cn) (hn : As.length = n) (hsz : ls.size = nL) {st : List Value} (hst : st = As.reverse ++ .ref b :: rest) (hw : (rest.map fun v => v.category).sum ≤ 8) (hdg : decode cc pc = .ok (.invokevirtual idx, 3)) (hcs : cells ≤ R.cells ∧ slots ≤ R.slots)
    (kk : ∀ (r : Int32) (u : S) (H : Heap) (ll : List Loc), post r u → gW D ct A s H ll (wo u) → W p l e R s m args below meth c H ll cells slots Q (F0 m (pc + 3) ls (.int r :: rest))) : W p l e R s m args below meth c H ll cells slots Q (F0 m pc ls st) :=
  va_calli (va_runV C (hM H.size) cw ⟨gBlind hXo, hq ▸ va_recv h.1 h.2.1 hc he, fun U hU hW => ⟨rfl, by rw [hU], by rw [hU]; exact h.2.1, va_K.moved hW.alike h.1, h.2.2.1.weaken (fun _ _ _ _ => trivial), hXo.2 A _ s U hX hW (fun q h1 h2 => by rw [hU]; exact h.2.2.2.1.2.1 q h1 h2) h.inA⟩⟩ rfl hn hsz hst (lv_room hw) hdg hcs) h.2.2.2.1 (fun q _ hq => h.inA q hq) h.inA (fun r u t H1 l1 ht hvm hw1 hB hz1 hk1 hS => kk r u H1 l1 hw1 (h.aft (by have := hB.1; rw [ht] at this; exact this) hB.2.2 hS))
theorem gcallVl {S : Type} {X : gX} {y : MethodName} {bytes : ByteArray} {maxL n idx : Nat} {ret : Option FieldType} {rm : Room} {b : Nat} {As : List Value} {wo : S → va_W} {post : Int64 → S → Prop} {Cn : String} (C : CallFix p m c cc nL s args (gWs y0 cc nL ret0) own) (h : gW D ct A s H ll ws) (hX : X A s) (hXo : gXok X) (hM : ML l y (gWs y bytes maxL ret) rm D ct X (.ref b :: As) ws wo post) (cw : CallW R s args own Cn idx y bytes maxL ret (gWs y bytes maxL ret) rm 0 0 n) (q0 : Nat) {ci : Nat} {fs : List Value} {q : vw_C} (he : ws[q0]? = some (b, .inr (ci, fs))) (hc : vwCl[ci]? = some q) (hq : q.1 = Cn) (hn : As.length = n) (hsz : ls.size = nL) {st : List Value} (hst : st = As.reverse ++ .ref b :: rest) (hw : (rest.map fun v => v.category).sum ≤ 8) (hdg : decode cc pc = .ok (.invokevirtual idx, 3)) (hcs : cells ≤ R.cells ∧ slots ≤ R.slots)
    (kk : ∀ (r : Int64) (u : S) (H : Heap) (ll : List Loc), post r u → gW D ct A s H ll (wo u) → W p l e R s m args below meth c H ll cells slots Q (F0 m (pc + 3) ls (.long r :: rest))) : W p l e R s m args below meth c H ll cells slots Q (F0 m pc ls st) :=
  va_calll (va_runV C (hM H.size) cw ⟨gBlind hXo, hq ▸ va_recv h.1 h.2.1 hc he, fun U hU hW => ⟨rfl, by rw [hU], by rw [hU]; exact h.2.1, va_K.moved hW.alike h.1, h.2.2.1.weaken (fun _ _ _ _ => trivial), hXo.2 A _ s U hX hW (fun q h1 h2 => by rw [hU]; exact h.2.2.2.1.2.1 q h1 h2) h.inA⟩⟩ rfl hn hsz hst (lv_room hw) hdg hcs) h.2.2.2.1 (fun q _ hq => h.inA q hq) h.inA (fun r u t H1 l1 ht hvm hw1 hB hz1 hk1 hS => kk r u H1 l1 hw1 (h.aft (by have := hB.1; rw [ht] at this; exact this) hB.2.2 hS))
theorem gcallVv {S : Type} {X : gX} {y : MethodName} {bytes : ByteArray} {maxL n idx : Nat} {ret : Option FieldType} {rm : Room} {b : Nat} {As : List Value} {wo : S → va_W} {post : S → Prop} {Cn : String} (C : CallFix p m c cc nL s args (gWs y0 cc nL ret0) own) (h : gW D ct A s H ll ws) (hX : X A s) (hXo : gXok X) (hM : MV l y (gWs y bytes maxL ret) rm D ct X (.ref b :: As) ws wo post) (cw : CallW R s args own Cn idx y bytes maxL ret (gWs y bytes maxL ret) rm 0 0 n) (q0 : Nat) {ci : Nat} {fs : List Value} {q : vw_C} (he : ws[q0]? = some (b, .inr (ci, fs))) (hc : vwCl[ci]? = some q) (hq : q.1 = Cn) (hn : As.length = n) (hsz : ls.size = nL) {st : List Value} (hst : st = As.reverse ++ .ref b :: rest) (hw : (rest.map fun v => v.category).sum ≤ 8) (hdg : decode cc pc = .ok (.invokevirtual idx, 3)) (hcs : cells ≤ R.cells ∧ slots ≤ R.slots)
    (kk : ∀ (u : S) (H : Heap) (ll : List Loc), post u → gW D ct A s H ll (wo u) → W p l e R s m args below meth c H ll cells slots Q (F0 m (pc + 3) ls rest)) : W p l e R s m args below meth c H ll cells slots Q (F0 m pc ls st) :=
  va_callv (va_runV C (hM H.size) cw ⟨gBlind hXo, hq ▸ va_recv h.1 h.2.1 hc he, fun U hU hW => ⟨rfl, by rw [hU], by rw [hU]; exact h.2.1, va_K.moved hW.alike h.1, h.2.2.1.weaken (fun _ _ _ _ => trivial), hXo.2 A _ s U hX hW (fun q h1 h2 => by rw [hU]; exact h.2.2.2.1.2.1 q h1 h2) h.inA⟩⟩ rfl hn hsz hst (lv_room hw) hdg hcs) h.2.2.2.1 (fun q _ hq => h.inA q hq) h.inA (fun u t H1 l1 ht hvm hw1 hB hz1 hk1 hS => kk u H1 l1 hw1 (h.aft (by have := hB.1; rw [ht] at this; exact this) hB.2.2 hS))
/-- a static call of a method that needs no world -/
theorem gcallSi {y : MethodName} {bytes : ByteArray} {maxL n idx : Nat} {ret : Option FieldType} {rm : Room} {As : List Value} {f : Int32} (C : CallFix p m c cc nL s args (gWs y0 cc nL ret0) own) (h : gW D ct A s H ll ws) (hM : MI l y (gWs y bytes maxL ret) rm D ct gNo As [] (fun _ : Unit => []) (fun r _ => r = f)) (cw : CallB R s args own idx y bytes maxL ret (gWs y bytes maxL ret) rm 0 0 n ∧ (Cond.static y).before args s = true) (hn : As.length = n) (hsz : ls.size = nL) {st : List Value} (hst : st = As.reverse ++ rest) (hw : (rest.map fun v => v.category).sum ≤ 8) (hdg : decode cc pc = .ok (.invokestatic idx, 3)) (hcs : cells ≤ R.cells ∧ slots ≤ R.slots)
    (kk : ∀ (H : Heap) (ll : List Loc), gW D ct A s H ll ws → W p l e R s m args below meth c H ll cells slots Q (F0 m (pc + 3) ls (.int f :: rest))) : W p l e R s m args below meth c H ll cells slots Q (F0 m pc ls st) := by
  have hF : ∀ q : Nat, va_A ([] : va_W) H.size q → A q := by
    rintro q (⟨k, e, hk⟩ | hq)
    · simp at hk
    · exact h.2.2.2.2 q (Nat.le_trans h.2.2.2.1.1 hq)
  refine va_calli (va_runS C (hM H.size) cw ⟨gBlind gNo_ok, fun U hU hW => ⟨rfl, by rw [hU], fun k q hk => by simp at hk, va_K.moved hW.alike h.1, ⟨fun i j p q hi => by simp at hi, fun k q hk => by simp at hk⟩, trivial⟩⟩ rfl hn hsz hst (lv_room hw) hdg hcs) h.2.2.2.1 (fun q _ hq => hF q hq) hF (fun r u t H1 l1 ht hvm hw1 hB hz1 hk1 hS => ?_)
  rw [hw1]
  exact kk H1 l1 ⟨h.1, h.2.1.kept (fun k q hk => hk1 q.1 ((h.2.1 k q hk).lt) (by
    rintro (⟨k, e, hk⟩ | hq)
    · simp at hk
    · exact absurd ((h.2.1 k q hk).lt) (Nat.not_lt.mpr hq))), h.2.2.1, hS, h.2.2.2.2⟩
end GRows
theorem MI.ofI {l : Launch} {y : MethodName} {cc : ByteArray} {nL : Nat} {rm : Room} {D : va_G} {ct : Nat → ClassId} {X : gX} {av : List Value} {wi : va_W} {S : Type} {wo : S → va_W} {post : Int32 → S → Prop} (own : String) (ho : y.cls = own) (hy : plainName y.cls = true) (hlen : (lg_sl av).length ≤ nL)
    (body : ∀ (p : Program) (e : Env) (s : State) (m : MethodId) (args : Array Value) (below : List Frame) (meth : Method) (c : Code) (A : Nat → Prop) (ls : Array Slot) (Q : State → Prop), CallFix p m c cc nL s args (gWs y cc nL (some .int)) own → gW D ct A s s.heap [] wi → X A s → lv_has ls nL (lv_args 0 av) →
      (∀ (v : Int32) (u : S) (H : Heap) (ll : List Loc) (pc : Nat) (ls : Array Slot), gW D ct A s H ll (wo u) → post v u → decode cc pc = .ok (.ireturn, 1) → W p l e rm s m args below meth c H ll 0 0 Q (F0 m pc ls [.int v])) → W p l e rm s m args below meth c s.heap [] 0 0 Q (F0 m 0 ls [])) : MI l y (gWs y cc nL (some .int)) rm D ct X av wi wo post := by
  intro sz
  refine Met.ofW (cc := cc) (maxL := nL) (ret := (some .int)) hy rfl ?_
  intro p e s m args below meth c s₁ B hml hv
  obtain ⟨rfl, hsz, hP, hK, hD0, hX⟩ := hv
  subst hsz
  have hts := atoms_spec (ws := gWs y cc nL (some .int)) B.pre
  have hown : s.vm.findClass own = some m.cls := ho ▸ findClass_of_methodNamed B.named
  have hl := lv_entry av (n := nL) hlen
  rw [lg_entry_eq]
  generalize (lg_sl av ++ List.replicate (nL - (lg_sl av).length) Slot.unset).toArray = ls at hl ⊢
  exact body p e s m av.toArray below meth c (va_A wi s.heap.size) ls _ ⟨B.exec, B.bytes, hml, hown, hts⟩ ⟨hK, hP, hD0.self, va_S.rf, fun q h => Or.inr h⟩ hX hl (fun v u H ll pc ls h hp hd => gW.iret u h hp B.exec B.bytes B.returns B.notSynchronized hd)
theorem MI.ofZ {l : Launch} {y : MethodName} {cc : ByteArray} {nL : Nat} {rm : Room} {D : va_G} {ct : Nat → ClassId} {X : gX} {av : List Value} {wi : va_W} {S : Type} {wo : S → va_W} {post : Int32 → S → Prop} (own : String) (ho : y.cls = own) (hy : plainName y.cls = true) (hlen : (lg_sl av).length ≤ nL)
    (body : ∀ (p : Program) (e : Env) (s : State) (m : MethodId) (args : Array Value) (below : List Frame) (meth : Method) (c : Code) (A : Nat → Prop) (ls : Array Slot) (Q : State → Prop), CallFix p m c cc nL s args (gWs y cc nL (some .boolean)) own → gW D ct A s s.heap [] wi → X A s → lv_has ls nL (lv_args 0 av) →
      (∀ (v : Int32) (u : S) (H : Heap) (ll : List Loc) (pc : Nat) (ls : Array Slot), gW D ct A s H ll (wo u) → post v u → decode cc pc = .ok (.ireturn, 1) → narrow .boolean (.int v) = .int v → W p l e rm s m args below meth c H ll 0 0 Q (F0 m pc ls [.int v])) → W p l e rm s m args below meth c s.heap [] 0 0 Q (F0 m 0 ls [])) : MI l y (gWs y cc nL (some .boolean)) rm D ct X av wi wo post := by
  intro sz
  refine Met.ofW (cc := cc) (maxL := nL) (ret := (some .boolean)) hy rfl ?_
  intro p e s m args below meth c s₁ B hml hv
  obtain ⟨rfl, hsz, hP, hK, hD0, hX⟩ := hv
  subst hsz
  have hts := atoms_spec (ws := gWs y cc nL (some .boolean)) B.pre
  have hown : s.vm.findClass own = some m.cls := ho ▸ findClass_of_methodNamed B.named
  have hl := lv_entry av (n := nL) hlen
  rw [lg_entry_eq]
  generalize (lg_sl av ++ List.replicate (nL - (lg_sl av).length) Slot.unset).toArray = ls at hl ⊢
  exact body p e s m av.toArray below meth c (va_A wi s.heap.size) ls _ ⟨B.exec, B.bytes, hml, hown, hts⟩ ⟨hK, hP, hD0.self, va_S.rf, fun q h => Or.inr h⟩ hX hl (fun v u H ll pc ls h hp hd hn => gW.zret u h hp B.exec B.bytes B.returns B.notSynchronized hd hn)
theorem ML.of {l : Launch} {y : MethodName} {cc : ByteArray} {nL : Nat} {rm : Room} {D : va_G} {ct : Nat → ClassId} {X : gX} {av : List Value} {wi : va_W} {S : Type} {wo : S → va_W} {post : Int64 → S → Prop} (own : String) (ho : y.cls = own) (hy : plainName y.cls = true) (hlen : (lg_sl av).length ≤ nL)
    (body : ∀ (p : Program) (e : Env) (s : State) (m : MethodId) (args : Array Value) (below : List Frame) (meth : Method) (c : Code) (A : Nat → Prop) (ls : Array Slot) (Q : State → Prop), CallFix p m c cc nL s args (gWs y cc nL (some .long)) own → gW D ct A s s.heap [] wi → X A s → lv_has ls nL (lv_args 0 av) →
      (∀ (v : Int64) (u : S) (H : Heap) (ll : List Loc) (pc : Nat) (ls : Array Slot), gW D ct A s H ll (wo u) → post v u → decode cc pc = .ok (.lreturn, 1) → W p l e rm s m args below meth c H ll 0 0 Q (F0 m pc ls [.long v])) → W p l e rm s m args below meth c s.heap [] 0 0 Q (F0 m 0 ls [])) : ML l y (gWs y cc nL (some .long)) rm D ct X av wi wo post := by
  intro sz
  refine Met.ofW (cc := cc) (maxL := nL) (ret := (some .long)) hy rfl ?_
  intro p e s m args below meth c s₁ B hml hv
  obtain ⟨rfl, hsz, hP, hK, hD0, hX⟩ := hv
  subst hsz
  have hts := atoms_spec (ws := gWs y cc nL (some .long)) B.pre
  have hown : s.vm.findClass own = some m.cls := ho ▸ findClass_of_methodNamed B.named
  have hl := lv_entry av (n := nL) hlen
  rw [lg_entry_eq]
  generalize (lg_sl av ++ List.replicate (nL - (lg_sl av).length) Slot.unset).toArray = ls at hl ⊢
  exact body p e s m av.toArray below meth c (va_A wi s.heap.size) ls _ ⟨B.exec, B.bytes, hml, hown, hts⟩ ⟨hK, hP, hD0.self, va_S.rf, fun q h => Or.inr h⟩ hX hl (fun v u H ll pc ls h hp hd => gW.lret u h hp B.exec B.bytes B.returns B.notSynchronized hd)
theorem MV.of {l : Launch} {y : MethodName} {cc : ByteArray} {nL : Nat} {rm : Room} {D : va_G} {ct : Nat → ClassId} {X : gX} {av : List Value} {wi : va_W} {S : Type} {wo : S → va_W} {post : S → Prop} (own : String) (ho : y.cls = own) (hy : plainName y.cls = true) (hlen : (lg_sl av).length ≤ nL)
    (body : ∀ (p : Program) (e : Env) (s : State) (m : MethodId) (args : Array Value) (below : List Frame) (meth : Method) (c : Code) (A : Nat → Prop) (ls : Array Slot) (Q : State → Prop), CallFix p m c cc nL s args (gWs y cc nL none) own → gW D ct A s s.heap [] wi → X A s → lv_has ls nL (lv_args 0 av) →
      (∀ (u : S) (H : Heap) (ll : List Loc) (pc : Nat) (ls : Array Slot), gW D ct A s H ll (wo u) → post u → decode cc pc = .ok (.return_, 1) → W p l e rm s m args below meth c H ll 0 0 Q (F0 m pc ls [])) → W p l e rm s m args below meth c s.heap [] 0 0 Q (F0 m 0 ls [])) : MV l y (gWs y cc nL none) rm D ct X av wi wo post := by
  intro sz
  refine Met.ofW (cc := cc) (maxL := nL) (ret := none) hy rfl ?_
  intro p e s m args below meth c s₁ B hml hv
  obtain ⟨rfl, hsz, hP, hK, hD0, hX⟩ := hv
  subst hsz
  have hts := atoms_spec (ws := gWs y cc nL none) B.pre
  have hown : s.vm.findClass own = some m.cls := ho ▸ findClass_of_methodNamed B.named
  have hl := lv_entry av (n := nL) hlen
  rw [lg_entry_eq]
  generalize (lg_sl av ++ List.replicate (nL - (lg_sl av).length) Slot.unset).toArray = ls at hl ⊢
  exact body p e s m av.toArray below meth c (va_A wi s.heap.size) ls _ ⟨B.exec, B.bytes, hml, hown, hts⟩ ⟨hK, hP, hD0.self, va_S.rf, fun q h => Or.inr h⟩ hX hl (fun u H ll pc ls h hp hd => gW.vret u h hp B.exec B.bytes B.returns B.notSynchronized hd)
theorem gIn {big : List Cond} {y0 : MethodName} {cc : ByteArray} {n : Nat} {ret : Option FieldType} (h : ∀ w ∈ big, w ∈ gG) : GoodIn (gWs y0 cc n ret) big := fun w hw => ⟨gWs_in (h w hw), good_of_word (List.mem_filter.mp (h w hw)).2⟩
theorem gInV {own Cn : String} {idx maxL : Nat} {y : MethodName} {bytes : ByteArray} {ret : Option FieldType} (h1 : Cond.methodLink own idx y ∈ gG) (h2 : Cond.instanceMethod y ∈ gG) (h3 : Cond.selects Cn y y ∈ gG) (h4 : Cond.initialized Cn ∈ gG) (h5 : Cond.code y bytes maxL ret ∈ gG) {y0 : MethodName} {cc : ByteArray} {n : Nat} {ret0 : Option FieldType} : GoodIn (gWs y0 cc n ret0) (wsV own idx Cn y (gWs y bytes maxL ret)) := gIn (fun w hw => by
  simp only [wsV, gWs, List.mem_append, List.mem_cons, List.not_mem_nil, or_false] at hw
  rcases hw with (rfl | rfl | rfl | rfl) | rfl | hw <;> assumption)
theorem gInS {own : String} {idx maxL : Nat} {y : MethodName} {bytes : ByteArray} {ret : Option FieldType} (h1 : Cond.methodLink own idx y ∈ gG) (h2 : Cond.static y ∈ gG) (h4 : Cond.initialized y.cls ∈ gG) (h5 : Cond.code y bytes maxL ret ∈ gG) {y0 : MethodName} {cc : ByteArray} {n : Nat} {ret0 : Option FieldType} : GoodIn (gWs y0 cc n ret0) (va_wsS own idx y (gWs y bytes maxL ret)) := gIn (fun w hw => by
  simp only [va_wsS, gWs, List.mem_append, List.mem_cons, List.not_mem_nil, or_false] at hw
  rcases hw with (rfl | rfl | rfl) | rfl | hw <;> assumption)
end
section
/-! ===== the world of the reference: ad: addresses (0 the object, k the array of field k), σ ints (field k, place j), τ longs ===== -/
def fM (ad : Nat → Nat) (σ : Nat → Nat → Int32) (τ : Nat → Nat → Int64) : List Value := [.int (σ 0 0), .int (σ 1 0), .ref (ad 2), .ref (ad 3), .ref (ad 4), .int (σ 5 0), .int (σ 6 0), .ref (ad 7), .ref (ad 8), .int (σ 9 0), .int (σ 10 0), .ref (ad 11), .ref (ad 12), .ref (ad 13), .int (σ 14 0), .ref (ad 15), .int (σ 16 0), .int (σ 17 0), .ref (ad 18), .ref (ad 19), .ref (ad 20), .ref (ad 21), .long (τ 22 0), .ref (ad 23), .int (σ 24 0), .int (σ 25 0), .int (σ 26 0), .int (σ 27 0), .int (σ 28 0), .ref (ad 29), .ref (ad 30), .ref (ad 31), .ref (ad 32), .ref (ad 33), .ref (ad 34), .ref (ad 35), .long (τ 36 0)]
def wM (ad : Nat → Nat) (ct : Nat → ClassId) (σ : Nat → Nat → Int32) (τ : Nat → Nat → Int64) : va_W := [(ad 0, .inr (9, fM ad σ τ)), (ad 2, .inl (ct 0, 8, .inl (σ 2))), (ad 3, .inl (ct 0, 8, .inl (σ 3))), (ad 4, .inl (ct 0, 24, .inl (σ 4))), (ad 7, .inl (ct 0, 3, .inl (σ 7))), (ad 8, .inl (ct 0, 3, .inl (σ 8))), (ad 11, .inl (ct 0, 6, .inl (σ 11))), (ad 12, .inl (ct 0, 6, .inl (σ 12))), (ad 13, .inl (ct 0, 6, .inl (σ 13))), (ad 15, .inl (ct 2, 50, .inl (σ 15))), (ad 18, .inl (ct 0, 24, .inl (σ 18))), (ad 19, .inl (ct 0, 24, .inl (σ 19))), (ad 20, .inl (ct 1, 100, .inr (.inl (τ 20)))), (ad 21, .inl (ct 0, 3, .inl (σ 21))), (ad 23, .inl (ct 0, 24, .inl (σ 23))), (ad 29, .inl (ct 0, 8, .inl (σ 29))), (ad 30, .inl (ct 0, 24, .inl (σ 30))), (ad 31, .inl (ct 0, 3, .inl (σ 31))), (ad 32, .inl (ct 0, 3, .inl (σ 32))), (ad 33, .inl (ct 0, 6, .inl (σ 33))), (ad 34, .inl (ct 0, 6, .inl (σ 34))), (ad 35, .inl (ct 0, 6, .inl (σ 35)))]
theorem wM_o (ad : Nat → Nat) (ct : Nat → ClassId) (σ : Nat → Nat → Int32) (τ : Nat → Nat → Int64) : (wM ad ct σ τ)[0]? = some (ad 0, .inr (9, fM ad σ τ)) := rfl
section MRows
variable {p : Program} {l : Launch} {e : Env} {R : Room} {s : State} {m : MethodId} {args : Array Value} {below : List Frame} {meth : Method} {c : Code} {H : Heap} {ll : List Loc} {cells slots : Nat} {Q : State → Prop}
variable {cc : ByteArray} {pc nL : Nat} {ls : Array Slot} {rest : List Value} {D : va_G} {ct : Nat → ClassId} {A : Nat → Prop} {ws : va_W} {y0 : MethodName} {ret0 : Option FieldType} {ad : Nat → Nat} {σ : Nat → Nat → Int32} {τ : Nat → Nat → Int64}
theorem mg_kindOf (C : CallFix p m c cc nL s args (gWs y0 cc nL ret0) RX9) (h : gW D ct A s H ll (wM ad ct σ τ)) (hdg : decode cc pc = .ok (.getfield 7, 3)) (kk : W p l e R s m args below meth c H ll cells slots Q (F0 m (pc + 3) ls (.ref (ad 2) :: rest))) : W p l e R s m args below meth c H ll cells slots Q (F0 m pc ls (.ref (ad 0) :: rest)) := gget C h igX9 0 (wM_o ad ct σ τ) rfl 2 (by decide) q703 rfl rfl hdg kk
theorem mg_weightOf (C : CallFix p m c cc nL s args (gWs y0 cc nL ret0) RX9) (h : gW D ct A s H ll (wM ad ct σ τ)) (hdg : decode cc pc = .ok (.getfield 13, 3)) (kk : W p l e R s m args below meth c H ll cells slots Q (F0 m (pc + 3) ls (.ref (ad 3) :: rest))) : W p l e R s m args below meth c H ll cells slots Q (F0 m pc ls (.ref (ad 0) :: rest)) := gget C h igX9 0 (wM_o ad ct σ τ) rfl 3 (by decide) q704 rfl rfl hdg kk
theorem mg_leanOf (C : CallFix p m c cc nL s args (gWs y0 cc nL ret0) RX9) (h : gW D ct A s H ll (wM ad ct σ τ)) (hdg : decode cc pc = .ok (.getfield 16, 3)) (kk : W p l e R s m args below meth c H ll cells slots Q (F0 m (pc + 3) ls (.ref (ad 4) :: rest))) : W p l e R s m args below meth c H ll cells slots Q (F0 m pc ls (.ref (ad 0) :: rest)) := gget C h igX9 0 (wM_o ad ct σ τ) rfl 4 (by decide) q705 rfl rfl hdg kk
theorem mg_askedOf (C : CallFix p m c cc nL s args (gWs y0 cc nL ret0) RX9) (h : gW D ct A s H ll (wM ad ct σ τ)) (hdg : decode cc pc = .ok (.getfield 19, 3)) (kk : W p l e R s m args below meth c H ll cells slots Q (F0 m (pc + 3) ls (.ref (ad 7) :: rest))) : W p l e R s m args below meth c H ll cells slots Q (F0 m pc ls (.ref (ad 0) :: rest)) := gget C h igX9 0 (wM_o ad ct σ τ) rfl 7 (by decide) q708 rfl rfl hdg kk
theorem mg_carriedOf (C : CallFix p m c cc nL s args (gWs y0 cc nL ret0) RX9) (h : gW D ct A s H ll (wM ad ct σ τ)) (hdg : decode cc pc = .ok (.getfield 22, 3)) (kk : W p l e R s m args below meth c H ll cells slots Q (F0 m (pc + 3) ls (.ref (ad 8) :: rest))) : W p l e R s m args below meth c H ll cells slots Q (F0 m pc ls (.ref (ad 0) :: rest)) := gget C h igX9 0 (wM_o ad ct σ τ) rfl 8 (by decide) q709 rfl rfl hdg kk
theorem mg_seenMussel (C : CallFix p m c cc nL s args (gWs y0 cc nL ret0) RX9) (h : gW D ct A s H ll (wM ad ct σ τ)) (hdg : decode cc pc = .ok (.getfield 25, 3)) (kk : W p l e R s m args below meth c H ll cells slots Q (F0 m (pc + 3) ls (.ref (ad 11) :: rest))) : W p l e R s m args below meth c H ll cells slots Q (F0 m pc ls (.ref (ad 0) :: rest)) := gget C h igX9 0 (wM_o ad ct σ τ) rfl 11 (by decide) q712 rfl rfl hdg kk
theorem mg_seenQuestion (C : CallFix p m c cc nL s args (gWs y0 cc nL ret0) RX9) (h : gW D ct A s H ll (wM ad ct σ τ)) (hdg : decode cc pc = .ok (.getfield 28, 3)) (kk : W p l e R s m args below meth c H ll cells slots Q (F0 m (pc + 3) ls (.ref (ad 12) :: rest))) : W p l e R s m args below meth c H ll cells slots Q (F0 m pc ls (.ref (ad 0) :: rest)) := gget C h igX9 0 (wM_o ad ct σ τ) rfl 12 (by decide) q713 rfl rfl hdg kk
theorem mg_seenSum (C : CallFix p m c cc nL s args (gWs y0 cc nL ret0) RX9) (h : gW D ct A s H ll (wM ad ct σ τ)) (hdg : decode cc pc = .ok (.getfield 31, 3)) (kk : W p l e R s m args below meth c H ll cells slots Q (F0 m (pc + 3) ls (.ref (ad 13) :: rest))) : W p l e R s m args below meth c H ll cells slots Q (F0 m pc ls (.ref (ad 0) :: rest)) := gget C h igX9 0 (wM_o ad ct σ τ) rfl 13 (by decide) q714 rfl rfl hdg kk
theorem mg_page (C : CallFix p m c cc nL s args (gWs y0 cc nL ret0) RX9) (h : gW D ct A s H ll (wM ad ct σ τ)) (hdg : decode cc pc = .ok (.getfield 34, 3)) (kk : W p l e R s m args below meth c H ll cells slots Q (F0 m (pc + 3) ls (.ref (ad 15) :: rest))) : W p l e R s m args below meth c H ll cells slots Q (F0 m pc ls (.ref (ad 0) :: rest)) := gget C h igX9 0 (wM_o ad ct σ τ) rfl 15 (by decide) q716 rfl rfl hdg kk
theorem mg_newLean (C : CallFix p m c cc nL s args (gWs y0 cc nL ret0) RX9) (h : gW D ct A s H ll (wM ad ct σ τ)) (hdg : decode cc pc = .ok (.getfield 38, 3)) (kk : W p l e R s m args below meth c H ll cells slots Q (F0 m (pc + 3) ls (.ref (ad 18) :: rest))) : W p l e R s m args below meth c H ll cells slots Q (F0 m pc ls (.ref (ad 0) :: rest)) := gget C h igX9 0 (wM_o ad ct σ τ) rfl 18 (by decide) q719 rfl rfl hdg kk
theorem mg_savedLean (C : CallFix p m c cc nL s args (gWs y0 cc nL ret0) RX9) (h : gW D ct A s H ll (wM ad ct σ τ)) (hdg : decode cc pc = .ok (.getfield 41, 3)) (kk : W p l e R s m args below meth c H ll cells slots Q (F0 m (pc + 3) ls (.ref (ad 19) :: rest))) : W p l e R s m args below meth c H ll cells slots Q (F0 m pc ls (.ref (ad 0) :: rest)) := gget C h igX9 0 (wM_o ad ct σ τ) rfl 19 (by decide) q720 rfl rfl hdg kk
theorem mg_history (C : CallFix p m c cc nL s args (gWs y0 cc nL ret0) RX9) (h : gW D ct A s H ll (wM ad ct σ τ)) (hdg : decode cc pc = .ok (.getfield 44, 3)) (kk : W p l e R s m args below meth c H ll cells slots Q (F0 m (pc + 3) ls (.ref (ad 20) :: rest))) : W p l e R s m args below meth c H ll cells slots Q (F0 m pc ls (.ref (ad 0) :: rest)) := gget C h igX9 0 (wM_o ad ct σ τ) rfl 20 (by decide) q721 rfl rfl hdg kk
theorem mg_sumBy (C : CallFix p m c cc nL s args (gWs y0 cc nL ret0) RX9) (h : gW D ct A s H ll (wM ad ct σ τ)) (hdg : decode cc pc = .ok (.getfield 48, 3)) (kk : W p l e R s m args below meth c H ll cells slots Q (F0 m (pc + 3) ls (.ref (ad 21) :: rest))) : W p l e R s m args below meth c H ll cells slots Q (F0 m pc ls (.ref (ad 0) :: rest)) := gget C h igX9 0 (wM_o ad ct σ τ) rfl 21 (by decide) q722 rfl rfl hdg kk
theorem mg_keptNow (C : CallFix p m c cc nL s args (gWs y0 cc nL ret0) RX9) (h : gW D ct A s H ll (wM ad ct σ τ)) (hdg : decode cc pc = .ok (.getfield 51, 3)) (kk : W p l e R s m args below meth c H ll cells slots Q (F0 m (pc + 3) ls (.ref (ad 23) :: rest))) : W p l e R s m args below meth c H ll cells slots Q (F0 m pc ls (.ref (ad 0) :: rest)) := gget C h igX9 0 (wM_o ad ct σ τ) rfl 23 (by decide) q724 rfl rfl hdg kk
theorem mg_keptWeight (C : CallFix p m c cc nL s args (gWs y0 cc nL ret0) RX9) (h : gW D ct A s H ll (wM ad ct σ τ)) (hdg : decode cc pc = .ok (.getfield 54, 3)) (kk : W p l e R s m args below meth c H ll cells slots Q (F0 m (pc + 3) ls (.ref (ad 29) :: rest))) : W p l e R s m args below meth c H ll cells slots Q (F0 m pc ls (.ref (ad 0) :: rest)) := gget C h igX9 0 (wM_o ad ct σ τ) rfl 29 (by decide) q730 rfl rfl hdg kk
theorem mg_keptLean (C : CallFix p m c cc nL s args (gWs y0 cc nL ret0) RX9) (h : gW D ct A s H ll (wM ad ct σ τ)) (hdg : decode cc pc = .ok (.getfield 57, 3)) (kk : W p l e R s m args below meth c H ll cells slots Q (F0 m (pc + 3) ls (.ref (ad 30) :: rest))) : W p l e R s m args below meth c H ll cells slots Q (F0 m pc ls (.ref (ad 0) :: rest)) := gget C h igX9 0 (wM_o ad ct σ τ) rfl 30 (by decide) q731 rfl rfl hdg kk
theorem mg_keptAsked (C : CallFix p m c cc nL s args (gWs y0 cc nL ret0) RX9) (h : gW D ct A s H ll (wM ad ct σ τ)) (hdg : decode cc pc = .ok (.getfield 60, 3)) (kk : W p l e R s m args below meth c H ll cells slots Q (F0 m (pc + 3) ls (.ref (ad 31) :: rest))) : W p l e R s m args below meth c H ll cells slots Q (F0 m pc ls (.ref (ad 0) :: rest)) := gget C h igX9 0 (wM_o ad ct σ τ) rfl 31 (by decide) q732 rfl rfl hdg kk
theorem mg_keptCarried (C : CallFix p m c cc nL s args (gWs y0 cc nL ret0) RX9) (h : gW D ct A s H ll (wM ad ct σ τ)) (hdg : decode cc pc = .ok (.getfield 63, 3)) (kk : W p l e R s m args below meth c H ll cells slots Q (F0 m (pc + 3) ls (.ref (ad 32) :: rest))) : W p l e R s m args below meth c H ll cells slots Q (F0 m pc ls (.ref (ad 0) :: rest)) := gget C h igX9 0 (wM_o ad ct σ τ) rfl 32 (by decide) q733 rfl rfl hdg kk
theorem mg_keptMussel (C : CallFix p m c cc nL s args (gWs y0 cc nL ret0) RX9) (h : gW D ct A s H ll (wM ad ct σ τ)) (hdg : decode cc pc = .ok (.getfield 66, 3)) (kk : W p l e R s m args below meth c H ll cells slots Q (F0 m (pc + 3) ls (.ref (ad 33) :: rest))) : W p l e R s m args below meth c H ll cells slots Q (F0 m pc ls (.ref (ad 0) :: rest)) := gget C h igX9 0 (wM_o ad ct σ τ) rfl 33 (by decide) q734 rfl rfl hdg kk
theorem mg_keptQuestion (C : CallFix p m c cc nL s args (gWs y0 cc nL ret0) RX9) (h : gW D ct A s H ll (wM ad ct σ τ)) (hdg : decode cc pc = .ok (.getfield 69, 3)) (kk : W p l e R s m args below meth c H ll cells slots Q (F0 m (pc + 3) ls (.ref (ad 34) :: rest))) : W p l e R s m args below meth c H ll cells slots Q (F0 m pc ls (.ref (ad 0) :: rest)) := gget C h igX9 0 (wM_o ad ct σ τ) rfl 34 (by decide) q735 rfl rfl hdg kk
theorem mg_keptSum (C : CallFix p m c cc nL s args (gWs y0 cc nL ret0) RX9) (h : gW D ct A s H ll (wM ad ct σ τ)) (hdg : decode cc pc = .ok (.getfield 72, 3)) (kk : W p l e R s m args below meth c H ll cells slots Q (F0 m (pc + 3) ls (.ref (ad 35) :: rest))) : W p l e R s m args below meth c H ll cells slots Q (F0 m pc ls (.ref (ad 0) :: rest)) := gget C h igX9 0 (wM_o ad ct σ τ) rfl 35 (by decide) q736 rfl rfl hdg kk
theorem mg_pageLength (C : CallFix p m c cc nL s args (gWs y0 cc nL ret0) RX9) (h : gW D ct A s H ll (wM ad ct σ τ)) (hdg : decode cc pc = .ok (.getfield 83, 3)) (kk : W p l e R s m args below meth c H ll cells slots Q (F0 m (pc + 3) ls (.int (σ 14 0) :: rest))) : W p l e R s m args below meth c H ll cells slots Q (F0 m pc ls (.ref (ad 0) :: rest)) := gget C h igX9 0 (wM_o ad ct σ τ) rfl 14 (by decide) q715 rfl rfl hdg kk
theorem wM_p14 (ad : Nat → Nat) (ct : Nat → ClassId) (σ : Nat → Nat → Int32) (τ : Nat → Nat → Int64) (v : Int32) : (wM ad ct σ τ).set 0 (ad 0, .inr (9, (fM ad σ τ).set 14 (.int v))) = wM ad ct (va_up σ 14 (fun _ => v)) τ := rfl
theorem mp_pageLength (C : CallFix p m c cc nL s args (gWs y0 cc nL ret0) RX9) (h : gW D ct A s H ll (wM ad ct σ τ)) {v : Int32} (hdg : decode cc pc = .ok (.putfield 83, 3)) (kk : ∀ (H : Heap) (ll : List Loc), gW D ct A s H ll (wM ad ct (va_up σ 14 (fun _ => v)) τ) → W p l e R s m args below meth c H ll cells slots Q (F0 m (pc + 3) ls rest)) : W p l e R s m args below meth c H ll cells slots Q (F0 m pc ls (.int v :: .ref (ad 0) :: rest)) := gput C h igX9 tyX9 tyX9_ok nmX9 0 (wM_o ad ct σ τ) rfl 14 (by decide) q715 rfl rfl (ty := .int) (by decide +kernel) rfl rfl (Nat.le_of_ble_eq_true rfl) hdg (fun H ll h => kk H ll (h.to (wM_p14 ad ct σ τ v)))
theorem mg_isWhole (C : CallFix p m c cc nL s args (gWs y0 cc nL ret0) RX9) (h : gW D ct A s H ll (wM ad ct σ τ)) (hdg : decode cc pc = .ok (.getfield 98, 3)) (kk : W p l e R s m args below meth c H ll cells slots Q (F0 m (pc + 3) ls (.int (σ 16 0) :: rest))) : W p l e R s m args below meth c H ll cells slots Q (F0 m pc ls (.ref (ad 0) :: rest)) := gget C h igX9 0 (wM_o ad ct σ τ) rfl 16 (by decide) q717 rfl rfl hdg kk
theorem wM_p16 (ad : Nat → Nat) (ct : Nat → ClassId) (σ : Nat → Nat → Int32) (τ : Nat → Nat → Int64) (v : Int32) : (wM ad ct σ τ).set 0 (ad 0, .inr (9, (fM ad σ τ).set 16 (.int v))) = wM ad ct (va_up σ 16 (fun _ => v)) τ := rfl
theorem mp_isWhole (C : CallFix p m c cc nL s args (gWs y0 cc nL ret0) RX9) (h : gW D ct A s H ll (wM ad ct σ τ)) {v : Int32} (hn : narrow .boolean (.int v) = .int v) (hdg : decode cc pc = .ok (.putfield 98, 3)) (kk : ∀ (H : Heap) (ll : List Loc), gW D ct A s H ll (wM ad ct (va_up σ 16 (fun _ => v)) τ) → W p l e R s m args below meth c H ll cells slots Q (F0 m (pc + 3) ls rest)) : W p l e R s m args below meth c H ll cells slots Q (F0 m pc ls (.int v :: .ref (ad 0) :: rest)) := gput C h igX9 tyX9 tyX9_ok nmX9 0 (wM_o ad ct σ τ) rfl 16 (by decide) q717 rfl rfl (ty := .boolean) (by decide +kernel) hn (gfz hn) (Nat.le_of_ble_eq_true rfl) hdg (fun H ll h => kk H ll (h.to (wM_p16 ad ct σ τ v)))
theorem mg_newMussels (C : CallFix p m c cc nL s args (gWs y0 cc nL ret0) RX9) (h : gW D ct A s H ll (wM ad ct σ τ)) (hdg : decode cc pc = .ok (.getfield 102, 3)) (kk : W p l e R s m args below meth c H ll cells slots Q (F0 m (pc + 3) ls (.int (σ 17 0) :: rest))) : W p l e R s m args below meth c H ll cells slots Q (F0 m pc ls (.ref (ad 0) :: rest)) := gget C h igX9 0 (wM_o ad ct σ τ) rfl 17 (by decide) q718 rfl rfl hdg kk
theorem wM_p17 (ad : Nat → Nat) (ct : Nat → ClassId) (σ : Nat → Nat → Int32) (τ : Nat → Nat → Int64) (v : Int32) : (wM ad ct σ τ).set 0 (ad 0, .inr (9, (fM ad σ τ).set 17 (.int v))) = wM ad ct (va_up σ 17 (fun _ => v)) τ := rfl
theorem mp_newMussels (C : CallFix p m c cc nL s args (gWs y0 cc nL ret0) RX9) (h : gW D ct A s H ll (wM ad ct σ τ)) {v : Int32} (hdg : decode cc pc = .ok (.putfield 102, 3)) (kk : ∀ (H : Heap) (ll : List Loc), gW D ct A s H ll (wM ad ct (va_up σ 17 (fun _ => v)) τ) → W p l e R s m args below meth c H ll cells slots Q (F0 m (pc + 3) ls rest)) : W p l e R s m args below meth c H ll cells slots Q (F0 m pc ls (.int v :: .ref (ad 0) :: rest)) := gput C h igX9 tyX9 tyX9_ok nmX9 0 (wM_o ad ct σ τ) rfl 17 (by decide) q718 rfl rfl (ty := .int) (by decide +kernel) rfl rfl (Nat.le_of_ble_eq_true rfl) hdg (fun H ll h => kk H ll (h.to (wM_p17 ad ct σ τ v)))
theorem mg_mussels (C : CallFix p m c cc nL s args (gWs y0 cc nL ret0) RX9) (h : gW D ct A s H ll (wM ad ct σ τ)) (hdg : decode cc pc = .ok (.getfield 112, 3)) (kk : W p l e R s m args below meth c H ll cells slots Q (F0 m (pc + 3) ls (.int (σ 1 0) :: rest))) : W p l e R s m args below meth c H ll cells slots Q (F0 m pc ls (.ref (ad 0) :: rest)) := gget C h igX9 0 (wM_o ad ct σ τ) rfl 1 (by decide) q702 rfl rfl hdg kk
theorem wM_p1 (ad : Nat → Nat) (ct : Nat → ClassId) (σ : Nat → Nat → Int32) (τ : Nat → Nat → Int64) (v : Int32) : (wM ad ct σ τ).set 0 (ad 0, .inr (9, (fM ad σ τ).set 1 (.int v))) = wM ad ct (va_up σ 1 (fun _ => v)) τ := rfl
theorem mp_mussels (C : CallFix p m c cc nL s args (gWs y0 cc nL ret0) RX9) (h : gW D ct A s H ll (wM ad ct σ τ)) {v : Int32} (hdg : decode cc pc = .ok (.putfield 112, 3)) (kk : ∀ (H : Heap) (ll : List Loc), gW D ct A s H ll (wM ad ct (va_up σ 1 (fun _ => v)) τ) → W p l e R s m args below meth c H ll cells slots Q (F0 m (pc + 3) ls rest)) : W p l e R s m args below meth c H ll cells slots Q (F0 m pc ls (.int v :: .ref (ad 0) :: rest)) := gput C h igX9 tyX9 tyX9_ok nmX9 0 (wM_o ad ct σ τ) rfl 1 (by decide) q702 rfl rfl (ty := .int) (by decide +kernel) rfl rfl (Nat.le_of_ble_eq_true rfl) hdg (fun H ll h => kk H ll (h.to (wM_p1 ad ct σ τ v)))
theorem mg_cutThreads (C : CallFix p m c cc nL s args (gWs y0 cc nL ret0) RX9) (h : gW D ct A s H ll (wM ad ct σ τ)) (hdg : decode cc pc = .ok (.getfield 115, 3)) (kk : W p l e R s m args below meth c H ll cells slots Q (F0 m (pc + 3) ls (.int (σ 5 0) :: rest))) : W p l e R s m args below meth c H ll cells slots Q (F0 m pc ls (.ref (ad 0) :: rest)) := gget C h igX9 0 (wM_o ad ct σ τ) rfl 5 (by decide) q706 rfl rfl hdg kk
theorem wM_p5 (ad : Nat → Nat) (ct : Nat → ClassId) (σ : Nat → Nat → Int32) (τ : Nat → Nat → Int64) (v : Int32) : (wM ad ct σ τ).set 0 (ad 0, .inr (9, (fM ad σ τ).set 5 (.int v))) = wM ad ct (va_up σ 5 (fun _ => v)) τ := rfl
theorem mp_cutThreads (C : CallFix p m c cc nL s args (gWs y0 cc nL ret0) RX9) (h : gW D ct A s H ll (wM ad ct σ τ)) {v : Int32} (hdg : decode cc pc = .ok (.putfield 115, 3)) (kk : ∀ (H : Heap) (ll : List Loc), gW D ct A s H ll (wM ad ct (va_up σ 5 (fun _ => v)) τ) → W p l e R s m args below meth c H ll cells slots Q (F0 m (pc + 3) ls rest)) : W p l e R s m args below meth c H ll cells slots Q (F0 m pc ls (.int v :: .ref (ad 0) :: rest)) := gput C h igX9 tyX9 tyX9_ok nmX9 0 (wM_o ad ct σ τ) rfl 5 (by decide) q706 rfl rfl (ty := .int) (by decide +kernel) rfl rfl (Nat.le_of_ble_eq_true rfl) hdg (fun H ll h => kk H ll (h.to (wM_p5 ad ct σ τ v)))
theorem mg_tides (C : CallFix p m c cc nL s args (gWs y0 cc nL ret0) RX9) (h : gW D ct A s H ll (wM ad ct σ τ)) (hdg : decode cc pc = .ok (.getfield 118, 3)) (kk : W p l e R s m args below meth c H ll cells slots Q (F0 m (pc + 3) ls (.int (σ 6 0) :: rest))) : W p l e R s m args below meth c H ll cells slots Q (F0 m pc ls (.ref (ad 0) :: rest)) := gget C h igX9 0 (wM_o ad ct σ τ) rfl 6 (by decide) q707 rfl rfl hdg kk
theorem wM_p6 (ad : Nat → Nat) (ct : Nat → ClassId) (σ : Nat → Nat → Int32) (τ : Nat → Nat → Int64) (v : Int32) : (wM ad ct σ τ).set 0 (ad 0, .inr (9, (fM ad σ τ).set 6 (.int v))) = wM ad ct (va_up σ 6 (fun _ => v)) τ := rfl
theorem mp_tides (C : CallFix p m c cc nL s args (gWs y0 cc nL ret0) RX9) (h : gW D ct A s H ll (wM ad ct σ τ)) {v : Int32} (hdg : decode cc pc = .ok (.putfield 118, 3)) (kk : ∀ (H : Heap) (ll : List Loc), gW D ct A s H ll (wM ad ct (va_up σ 6 (fun _ => v)) τ) → W p l e R s m args below meth c H ll cells slots Q (F0 m (pc + 3) ls rest)) : W p l e R s m args below meth c H ll cells slots Q (F0 m pc ls (.int v :: .ref (ad 0) :: rest)) := gput C h igX9 tyX9 tyX9_ok nmX9 0 (wM_o ad ct σ τ) rfl 6 (by decide) q707 rfl rfl (ty := .int) (by decide +kernel) rfl rfl (Nat.le_of_ble_eq_true rfl) hdg (fun H ll h => kk H ll (h.to (wM_p6 ad ct σ τ v)))
theorem mg_ropes (C : CallFix p m c cc nL s args (gWs y0 cc nL ret0) RX9) (h : gW D ct A s H ll (wM ad ct σ τ)) (hdg : decode cc pc = .ok (.getfield 121, 3)) (kk : W p l e R s m args below meth c H ll cells slots Q (F0 m (pc + 3) ls (.int (σ 0 0) :: rest))) : W p l e R s m args below meth c H ll cells slots Q (F0 m pc ls (.ref (ad 0) :: rest)) := gget C h igX9 0 (wM_o ad ct σ τ) rfl 0 (by decide) q701 rfl rfl hdg kk
theorem wM_p0 (ad : Nat → Nat) (ct : Nat → ClassId) (σ : Nat → Nat → Int32) (τ : Nat → Nat → Int64) (v : Int32) : (wM ad ct σ τ).set 0 (ad 0, .inr (9, (fM ad σ τ).set 0 (.int v))) = wM ad ct (va_up σ 0 (fun _ => v)) τ := rfl
theorem mp_ropes (C : CallFix p m c cc nL s args (gWs y0 cc nL ret0) RX9) (h : gW D ct A s H ll (wM ad ct σ τ)) {v : Int32} (hdg : decode cc pc = .ok (.putfield 121, 3)) (kk : ∀ (H : Heap) (ll : List Loc), gW D ct A s H ll (wM ad ct (va_up σ 0 (fun _ => v)) τ) → W p l e R s m args below meth c H ll cells slots Q (F0 m (pc + 3) ls rest)) : W p l e R s m args below meth c H ll cells slots Q (F0 m pc ls (.int v :: .ref (ad 0) :: rest)) := gput C h igX9 tyX9 tyX9_ok nmX9 0 (wM_o ad ct σ τ) rfl 0 (by decide) q701 rfl rfl (ty := .int) (by decide +kernel) rfl rfl (Nat.le_of_ble_eq_true rfl) hdg (fun H ll h => kk H ll (h.to (wM_p0 ad ct σ τ v)))
theorem mg_seen (C : CallFix p m c cc nL s args (gWs y0 cc nL ret0) RX9) (h : gW D ct A s H ll (wM ad ct σ τ)) (hdg : decode cc pc = .ok (.getfield 124, 3)) (kk : W p l e R s m args below meth c H ll cells slots Q (F0 m (pc + 3) ls (.int (σ 10 0) :: rest))) : W p l e R s m args below meth c H ll cells slots Q (F0 m pc ls (.ref (ad 0) :: rest)) := gget C h igX9 0 (wM_o ad ct σ τ) rfl 10 (by decide) q711 rfl rfl hdg kk
theorem wM_p10 (ad : Nat → Nat) (ct : Nat → ClassId) (σ : Nat → Nat → Int32) (τ : Nat → Nat → Int64) (v : Int32) : (wM ad ct σ τ).set 0 (ad 0, .inr (9, (fM ad σ τ).set 10 (.int v))) = wM ad ct (va_up σ 10 (fun _ => v)) τ := rfl
theorem mp_seen (C : CallFix p m c cc nL s args (gWs y0 cc nL ret0) RX9) (h : gW D ct A s H ll (wM ad ct σ τ)) {v : Int32} (hdg : decode cc pc = .ok (.putfield 124, 3)) (kk : ∀ (H : Heap) (ll : List Loc), gW D ct A s H ll (wM ad ct (va_up σ 10 (fun _ => v)) τ) → W p l e R s m args below meth c H ll cells slots Q (F0 m (pc + 3) ls rest)) : W p l e R s m args below meth c H ll cells slots Q (F0 m pc ls (.int v :: .ref (ad 0) :: rest)) := gput C h igX9 tyX9 tyX9_ok nmX9 0 (wM_o ad ct σ τ) rfl 10 (by decide) q711 rfl rfl (ty := .int) (by decide +kernel) rfl rfl (Nat.le_of_ble_eq_true rfl) hdg (fun H ll h => kk H ll (h.to (wM_p10 ad ct σ τ v)))
theorem mg_asks (C : CallFix p m c cc nL s args (gWs y0 cc nL ret0) RX9) (h : gW D ct A s H ll (wM ad ct σ τ)) (hdg : decode cc pc = .ok (.getfield 210, 3)) (kk : W p l e R s m args below meth c H ll cells slots Q (F0 m (pc + 3) ls (.int (σ 9 0) :: rest))) : W p l e R s m args below meth c H ll cells slots Q (F0 m pc ls (.ref (ad 0) :: rest)) := gget C h igX9 0 (wM_o ad ct σ τ) rfl 9 (by decide) q710 rfl rfl hdg kk
theorem wM_p9 (ad : Nat → Nat) (ct : Nat → ClassId) (σ : Nat → Nat → Int32) (τ : Nat → Nat → Int64) (v : Int32) : (wM ad ct σ τ).set 0 (ad 0, .inr (9, (fM ad σ τ).set 9 (.int v))) = wM ad ct (va_up σ 9 (fun _ => v)) τ := rfl
theorem mp_asks (C : CallFix p m c cc nL s args (gWs y0 cc nL ret0) RX9) (h : gW D ct A s H ll (wM ad ct σ τ)) {v : Int32} (hdg : decode cc pc = .ok (.putfield 210, 3)) (kk : ∀ (H : Heap) (ll : List Loc), gW D ct A s H ll (wM ad ct (va_up σ 9 (fun _ => v)) τ) → W p l e R s m args below meth c H ll cells slots Q (F0 m (pc + 3) ls rest)) : W p l e R s m args below meth c H ll cells slots Q (F0 m pc ls (.int v :: .ref (ad 0) :: rest)) := gput C h igX9 tyX9 tyX9_ok nmX9 0 (wM_o ad ct σ τ) rfl 9 (by decide) q710 rfl rfl (ty := .int) (by decide +kernel) rfl rfl (Nat.le_of_ble_eq_true rfl) hdg (fun H ll h => kk H ll (h.to (wM_p9 ad ct σ τ v)))
theorem mg_seedNow (C : CallFix p m c cc nL s args (gWs y0 cc nL ret0) RX9) (h : gW D ct A s H ll (wM ad ct σ τ)) (hdg : decode cc pc = .ok (.getfield 235, 3)) (kk : W p l e R s m args below meth c H ll cells slots Q (F0 m (pc + 3) ls (.long (τ 22 0) :: rest))) : W p l e R s m args below meth c H ll cells slots Q (F0 m pc ls (.ref (ad 0) :: rest)) := gget C h igX9 0 (wM_o ad ct σ τ) rfl 22 (by decide) q723 rfl rfl hdg kk
theorem wM_p22 (ad : Nat → Nat) (ct : Nat → ClassId) (σ : Nat → Nat → Int32) (τ : Nat → Nat → Int64) (v : Int64) : (wM ad ct σ τ).set 0 (ad 0, .inr (9, (fM ad σ τ).set 22 (.long v))) = wM ad ct σ (va_up τ 22 (fun _ => v)) := rfl
theorem mp_seedNow (C : CallFix p m c cc nL s args (gWs y0 cc nL ret0) RX9) (h : gW D ct A s H ll (wM ad ct σ τ)) {v : Int64} (hdg : decode cc pc = .ok (.putfield 235, 3)) (kk : ∀ (H : Heap) (ll : List Loc), gW D ct A s H ll (wM ad ct σ (va_up τ 22 (fun _ => v))) → W p l e R s m args below meth c H ll cells slots Q (F0 m (pc + 3) ls rest)) : W p l e R s m args below meth c H ll cells slots Q (F0 m pc ls (.long v :: .ref (ad 0) :: rest)) := gput C h igX9 tyX9 tyX9_ok nmX9 0 (wM_o ad ct σ τ) rfl 22 (by decide) q723 rfl rfl (ty := .long) (by decide +kernel) rfl rfl (Nat.le_of_ble_eq_true rfl) hdg (fun H ll h => kk H ll (h.to (wM_p22 ad ct σ τ v)))
theorem mg_isKept (C : CallFix p m c cc nL s args (gWs y0 cc nL ret0) RX9) (h : gW D ct A s H ll (wM ad ct σ τ)) (hdg : decode cc pc = .ok (.getfield 251, 3)) (kk : W p l e R s m args below meth c H ll cells slots Q (F0 m (pc + 3) ls (.int (σ 24 0) :: rest))) : W p l e R s m args below meth c H ll cells slots Q (F0 m pc ls (.ref (ad 0) :: rest)) := gget C h igX9 0 (wM_o ad ct σ τ) rfl 24 (by decide) q725 rfl rfl hdg kk
theorem wM_p24 (ad : Nat → Nat) (ct : Nat → ClassId) (σ : Nat → Nat → Int32) (τ : Nat → Nat → Int64) (v : Int32) : (wM ad ct σ τ).set 0 (ad 0, .inr (9, (fM ad σ τ).set 24 (.int v))) = wM ad ct (va_up σ 24 (fun _ => v)) τ := rfl
theorem mp_isKept (C : CallFix p m c cc nL s args (gWs y0 cc nL ret0) RX9) (h : gW D ct A s H ll (wM ad ct σ τ)) {v : Int32} (hn : narrow .boolean (.int v) = .int v) (hdg : decode cc pc = .ok (.putfield 251, 3)) (kk : ∀ (H : Heap) (ll : List Loc), gW D ct A s H ll (wM ad ct (va_up σ 24 (fun _ => v)) τ) → W p l e R s m args below meth c H ll cells slots Q (F0 m (pc + 3) ls rest)) : W p l e R s m args below meth c H ll cells slots Q (F0 m pc ls (.int v :: .ref (ad 0) :: rest)) := gput C h igX9 tyX9 tyX9_ok nmX9 0 (wM_o ad ct σ τ) rfl 24 (by decide) q725 rfl rfl (ty := .boolean) (by decide +kernel) hn (gfz hn) (Nat.le_of_ble_eq_true rfl) hdg (fun H ll h => kk H ll (h.to (wM_p24 ad ct σ τ v)))
theorem mg_keptRope (C : CallFix p m c cc nL s args (gWs y0 cc nL ret0) RX9) (h : gW D ct A s H ll (wM ad ct σ τ)) (hdg : decode cc pc = .ok (.getfield 254, 3)) (kk : W p l e R s m args below meth c H ll cells slots Q (F0 m (pc + 3) ls (.int (σ 25 0) :: rest))) : W p l e R s m args below meth c H ll cells slots Q (F0 m pc ls (.ref (ad 0) :: rest)) := gget C h igX9 0 (wM_o ad ct σ τ) rfl 25 (by decide) q726 rfl rfl hdg kk
theorem wM_p25 (ad : Nat → Nat) (ct : Nat → ClassId) (σ : Nat → Nat → Int32) (τ : Nat → Nat → Int64) (v : Int32) : (wM ad ct σ τ).set 0 (ad 0, .inr (9, (fM ad σ τ).set 25 (.int v))) = wM ad ct (va_up σ 25 (fun _ => v)) τ := rfl
theorem mp_keptRope (C : CallFix p m c cc nL s args (gWs y0 cc nL ret0) RX9) (h : gW D ct A s H ll (wM ad ct σ τ)) {v : Int32} (hdg : decode cc pc = .ok (.putfield 254, 3)) (kk : ∀ (H : Heap) (ll : List Loc), gW D ct A s H ll (wM ad ct (va_up σ 25 (fun _ => v)) τ) → W p l e R s m args below meth c H ll cells slots Q (F0 m (pc + 3) ls rest)) : W p l e R s m args below meth c H ll cells slots Q (F0 m pc ls (.int v :: .ref (ad 0) :: rest)) := gput C h igX9 tyX9 tyX9_ok nmX9 0 (wM_o ad ct σ τ) rfl 25 (by decide) q726 rfl rfl (ty := .int) (by decide +kernel) rfl rfl (Nat.le_of_ble_eq_true rfl) hdg (fun H ll h => kk H ll (h.to (wM_p25 ad ct σ τ v)))
theorem mg_keptCut (C : CallFix p m c cc nL s args (gWs y0 cc nL ret0) RX9) (h : gW D ct A s H ll (wM ad ct σ τ)) (hdg : decode cc pc = .ok (.getfield 257, 3)) (kk : W p l e R s m args below meth c H ll cells slots Q (F0 m (pc + 3) ls (.int (σ 26 0) :: rest))) : W p l e R s m args below meth c H ll cells slots Q (F0 m pc ls (.ref (ad 0) :: rest)) := gget C h igX9 0 (wM_o ad ct σ τ) rfl 26 (by decide) q727 rfl rfl hdg kk
theorem wM_p26 (ad : Nat → Nat) (ct : Nat → ClassId) (σ : Nat → Nat → Int32) (τ : Nat → Nat → Int64) (v : Int32) : (wM ad ct σ τ).set 0 (ad 0, .inr (9, (fM ad σ τ).set 26 (.int v))) = wM ad ct (va_up σ 26 (fun _ => v)) τ := rfl
theorem mp_keptCut (C : CallFix p m c cc nL s args (gWs y0 cc nL ret0) RX9) (h : gW D ct A s H ll (wM ad ct σ τ)) {v : Int32} (hdg : decode cc pc = .ok (.putfield 257, 3)) (kk : ∀ (H : Heap) (ll : List Loc), gW D ct A s H ll (wM ad ct (va_up σ 26 (fun _ => v)) τ) → W p l e R s m args below meth c H ll cells slots Q (F0 m (pc + 3) ls rest)) : W p l e R s m args below meth c H ll cells slots Q (F0 m pc ls (.int v :: .ref (ad 0) :: rest)) := gput C h igX9 tyX9 tyX9_ok nmX9 0 (wM_o ad ct σ τ) rfl 26 (by decide) q727 rfl rfl (ty := .int) (by decide +kernel) rfl rfl (Nat.le_of_ble_eq_true rfl) hdg (fun H ll h => kk H ll (h.to (wM_p26 ad ct σ τ v)))
theorem mg_keptTides (C : CallFix p m c cc nL s args (gWs y0 cc nL ret0) RX9) (h : gW D ct A s H ll (wM ad ct σ τ)) (hdg : decode cc pc = .ok (.getfield 260, 3)) (kk : W p l e R s m args below meth c H ll cells slots Q (F0 m (pc + 3) ls (.int (σ 27 0) :: rest))) : W p l e R s m args below meth c H ll cells slots Q (F0 m pc ls (.ref (ad 0) :: rest)) := gget C h igX9 0 (wM_o ad ct σ τ) rfl 27 (by decide) q728 rfl rfl hdg kk
theorem wM_p27 (ad : Nat → Nat) (ct : Nat → ClassId) (σ : Nat → Nat → Int32) (τ : Nat → Nat → Int64) (v : Int32) : (wM ad ct σ τ).set 0 (ad 0, .inr (9, (fM ad σ τ).set 27 (.int v))) = wM ad ct (va_up σ 27 (fun _ => v)) τ := rfl
theorem mp_keptTides (C : CallFix p m c cc nL s args (gWs y0 cc nL ret0) RX9) (h : gW D ct A s H ll (wM ad ct σ τ)) {v : Int32} (hdg : decode cc pc = .ok (.putfield 260, 3)) (kk : ∀ (H : Heap) (ll : List Loc), gW D ct A s H ll (wM ad ct (va_up σ 27 (fun _ => v)) τ) → W p l e R s m args below meth c H ll cells slots Q (F0 m (pc + 3) ls rest)) : W p l e R s m args below meth c H ll cells slots Q (F0 m pc ls (.int v :: .ref (ad 0) :: rest)) := gput C h igX9 tyX9 tyX9_ok nmX9 0 (wM_o ad ct σ τ) rfl 27 (by decide) q728 rfl rfl (ty := .int) (by decide +kernel) rfl rfl (Nat.le_of_ble_eq_true rfl) hdg (fun H ll h => kk H ll (h.to (wM_p27 ad ct σ τ v)))
theorem mg_keptSeen (C : CallFix p m c cc nL s args (gWs y0 cc nL ret0) RX9) (h : gW D ct A s H ll (wM ad ct σ τ)) (hdg : decode cc pc = .ok (.getfield 263, 3)) (kk : W p l e R s m args below meth c H ll cells slots Q (F0 m (pc + 3) ls (.int (σ 28 0) :: rest))) : W p l e R s m args below meth c H ll cells slots Q (F0 m pc ls (.ref (ad 0) :: rest)) := gget C h igX9 0 (wM_o ad ct σ τ) rfl 28 (by decide) q729 rfl rfl hdg kk
theorem wM_p28 (ad : Nat → Nat) (ct : Nat → ClassId) (σ : Nat → Nat → Int32) (τ : Nat → Nat → Int64) (v : Int32) : (wM ad ct σ τ).set 0 (ad 0, .inr (9, (fM ad σ τ).set 28 (.int v))) = wM ad ct (va_up σ 28 (fun _ => v)) τ := rfl
theorem mp_keptSeen (C : CallFix p m c cc nL s args (gWs y0 cc nL ret0) RX9) (h : gW D ct A s H ll (wM ad ct σ τ)) {v : Int32} (hdg : decode cc pc = .ok (.putfield 263, 3)) (kk : ∀ (H : Heap) (ll : List Loc), gW D ct A s H ll (wM ad ct (va_up σ 28 (fun _ => v)) τ) → W p l e R s m args below meth c H ll cells slots Q (F0 m (pc + 3) ls rest)) : W p l e R s m args below meth c H ll cells slots Q (F0 m pc ls (.int v :: .ref (ad 0) :: rest)) := gput C h igX9 tyX9 tyX9_ok nmX9 0 (wM_o ad ct σ τ) rfl 28 (by decide) q729 rfl rfl (ty := .int) (by decide +kernel) rfl rfl (Nat.le_of_ble_eq_true rfl) hdg (fun H ll h => kk H ll (h.to (wM_p28 ad ct σ τ v)))
theorem mg_h (C : CallFix p m c cc nL s args (gWs y0 cc nL ret0) RX9) (h : gW D ct A s H ll (wM ad ct σ τ)) (hdg : decode cc pc = .ok (.getfield 277, 3)) (kk : W p l e R s m args below meth c H ll cells slots Q (F0 m (pc + 3) ls (.long (τ 36 0) :: rest))) : W p l e R s m args below meth c H ll cells slots Q (F0 m pc ls (.ref (ad 0) :: rest)) := gget C h igX9 0 (wM_o ad ct σ τ) rfl 36 (by decide) q737 rfl rfl hdg kk
theorem wM_p36 (ad : Nat → Nat) (ct : Nat → ClassId) (σ : Nat → Nat → Int32) (τ : Nat → Nat → Int64) (v : Int64) : (wM ad ct σ τ).set 0 (ad 0, .inr (9, (fM ad σ τ).set 36 (.long v))) = wM ad ct σ (va_up τ 36 (fun _ => v)) := rfl
theorem mp_h (C : CallFix p m c cc nL s args (gWs y0 cc nL ret0) RX9) (h : gW D ct A s H ll (wM ad ct σ τ)) {v : Int64} (hdg : decode cc pc = .ok (.putfield 277, 3)) (kk : ∀ (H : Heap) (ll : List Loc), gW D ct A s H ll (wM ad ct σ (va_up τ 36 (fun _ => v))) → W p l e R s m args below meth c H ll cells slots Q (F0 m (pc + 3) ls rest)) : W p l e R s m args below meth c H ll cells slots Q (F0 m pc ls (.long v :: .ref (ad 0) :: rest)) := gput C h igX9 tyX9 tyX9_ok nmX9 0 (wM_o ad ct σ τ) rfl 36 (by decide) q737 rfl rfl (ty := .long) (by decide +kernel) rfl rfl (Nat.le_of_ble_eq_true rfl) hdg (fun H ll h => kk H ll (h.to (wM_p36 ad ct σ τ v)))
theorem wM_a2 (ad : Nat → Nat) (ct : Nat → ClassId) (σ : Nat → Nat → Int32) (τ : Nat → Nat → Int64) : (wM ad ct σ τ)[1]? = some (ad 2, .inl (ct 0, 8, .inl (σ 2))) := rfl
theorem ml_kindOf (C : CallFix p m c cc nL s args (gWs y0 cc nL ret0) RX9) (h : gW D ct A s H ll (wM ad ct σ τ)) {j : Nat} (hj : j < 8) (hdg : decode cc pc = .ok (.iaload, 1)) (kk : W p l e R s m args below meth c H ll cells slots Q (F0 m (pc + 1) ls (.int (σ 2 j) :: rest))) : W p l e R s m args below meth c H ll cells slots Q (F0 m pc ls (.int (nI j) :: .ref (ad 2) :: rest)) := gild C h 1 (wM_a2 ad ct σ τ) hj (by decide) hdg kk
theorem wM_s2 (ad : Nat → Nat) (ct : Nat → ClassId) (σ : Nat → Nat → Int32) (τ : Nat → Nat → Int64) (j : Nat) (v : Int32) : (wM ad ct σ τ).set 1 (ad 2, .inl (ct 0, 8, .inl (upd (σ 2) j v))) = wM ad ct (va_up σ 2 (upd (σ 2) j v)) τ := rfl
theorem ms_kindOf (C : CallFix p m c cc nL s args (gWs y0 cc nL ret0) RX9) (h : gW D ct A s H ll (wM ad ct σ τ)) {j : Nat} {v : Int32} (hj : j < 8) (hdg : decode cc pc = .ok (.iastore, 1)) (kk : ∀ (H : Heap) (ll : List Loc), gW D ct A s H ll (wM ad ct (va_up σ 2 (upd (σ 2) j v)) τ) → W p l e R s m args below meth c H ll cells slots Q (F0 m (pc + 1) ls rest)) : W p l e R s m args below meth c H ll cells slots Q (F0 m pc ls (.int v :: .int (nI j) :: .ref (ad 2) :: rest)) := gist C h 1 (wM_a2 ad ct σ τ) hj (by decide) hdg (fun H ll h => kk H ll (h.to (wM_s2 ad ct σ τ j v)))
theorem wM_a3 (ad : Nat → Nat) (ct : Nat → ClassId) (σ : Nat → Nat → Int32) (τ : Nat → Nat → Int64) : (wM ad ct σ τ)[2]? = some (ad 3, .inl (ct 0, 8, .inl (σ 3))) := rfl
theorem ml_weightOf (C : CallFix p m c cc nL s args (gWs y0 cc nL ret0) RX9) (h : gW D ct A s H ll (wM ad ct σ τ)) {j : Nat} (hj : j < 8) (hdg : decode cc pc = .ok (.iaload, 1)) (kk : W p l e R s m args below meth c H ll cells slots Q (F0 m (pc + 1) ls (.int (σ 3 j) :: rest))) : W p l e R s m args below meth c H ll cells slots Q (F0 m pc ls (.int (nI j) :: .ref (ad 3) :: rest)) := gild C h 2 (wM_a3 ad ct σ τ) hj (by decide) hdg kk
theorem wM_s3 (ad : Nat → Nat) (ct : Nat → ClassId) (σ : Nat → Nat → Int32) (τ : Nat → Nat → Int64) (j : Nat) (v : Int32) : (wM ad ct σ τ).set 2 (ad 3, .inl (ct 0, 8, .inl (upd (σ 3) j v))) = wM ad ct (va_up σ 3 (upd (σ 3) j v)) τ := rfl
theorem ms_weightOf (C : CallFix p m c cc nL s args (gWs y0 cc nL ret0) RX9) (h : gW D ct A s H ll (wM ad ct σ τ)) {j : Nat} {v : Int32} (hj : j < 8) (hdg : decode cc pc = .ok (.iastore, 1)) (kk : ∀ (H : Heap) (ll : List Loc), gW D ct A s H ll (wM ad ct (va_up σ 3 (upd (σ 3) j v)) τ) → W p l e R s m args below meth c H ll cells slots Q (F0 m (pc + 1) ls rest)) : W p l e R s m args below meth c H ll cells slots Q (F0 m pc ls (.int v :: .int (nI j) :: .ref (ad 3) :: rest)) := gist C h 2 (wM_a3 ad ct σ τ) hj (by decide) hdg (fun H ll h => kk H ll (h.to (wM_s3 ad ct σ τ j v)))
theorem wM_a4 (ad : Nat → Nat) (ct : Nat → ClassId) (σ : Nat → Nat → Int32) (τ : Nat → Nat → Int64) : (wM ad ct σ τ)[3]? = some (ad 4, .inl (ct 0, 24, .inl (σ 4))) := rfl
theorem ml_leanOf (C : CallFix p m c cc nL s args (gWs y0 cc nL ret0) RX9) (h : gW D ct A s H ll (wM ad ct σ τ)) {j : Nat} (hj : j < 24) (hdg : decode cc pc = .ok (.iaload, 1)) (kk : W p l e R s m args below meth c H ll cells slots Q (F0 m (pc + 1) ls (.int (σ 4 j) :: rest))) : W p l e R s m args below meth c H ll cells slots Q (F0 m pc ls (.int (nI j) :: .ref (ad 4) :: rest)) := gild C h 3 (wM_a4 ad ct σ τ) hj (by decide) hdg kk
theorem wM_s4 (ad : Nat → Nat) (ct : Nat → ClassId) (σ : Nat → Nat → Int32) (τ : Nat → Nat → Int64) (j : Nat) (v : Int32) : (wM ad ct σ τ).set 3 (ad 4, .inl (ct 0, 24, .inl (upd (σ 4) j v))) = wM ad ct (va_up σ 4 (upd (σ 4) j v)) τ := rfl
theorem ms_leanOf (C : CallFix p m c cc nL s args (gWs y0 cc nL ret0) RX9) (h : gW D ct A s H ll (wM ad ct σ τ)) {j : Nat} {v : Int32} (hj : j < 24) (hdg : decode cc pc = .ok (.iastore, 1)) (kk : ∀ (H : Heap) (ll : List Loc), gW D ct A s H ll (wM ad ct (va_up σ 4 (upd (σ 4) j v)) τ) → W p l e R s m args below meth c H ll cells slots Q (F0 m (pc + 1) ls rest)) : W p l e R s m args below meth c H ll cells slots Q (F0 m pc ls (.int v :: .int (nI j) :: .ref (ad 4) :: rest)) := gist C h 3 (wM_a4 ad ct σ τ) hj (by decide) hdg (fun H ll h => kk H ll (h.to (wM_s4 ad ct σ τ j v)))
theorem wM_a7 (ad : Nat → Nat) (ct : Nat → ClassId) (σ : Nat → Nat → Int32) (τ : Nat → Nat → Int64) : (wM ad ct σ τ)[4]? = some (ad 7, .inl (ct 0, 3, .inl (σ 7))) := rfl
theorem ml_askedOf (C : CallFix p m c cc nL s args (gWs y0 cc nL ret0) RX9) (h : gW D ct A s H ll (wM ad ct σ τ)) {j : Nat} (hj : j < 3) (hdg : decode cc pc = .ok (.iaload, 1)) (kk : W p l e R s m args below meth c H ll cells slots Q (F0 m (pc + 1) ls (.int (σ 7 j) :: rest))) : W p l e R s m args below meth c H ll cells slots Q (F0 m pc ls (.int (nI j) :: .ref (ad 7) :: rest)) := gild C h 4 (wM_a7 ad ct σ τ) hj (by decide) hdg kk
theorem wM_s7 (ad : Nat → Nat) (ct : Nat → ClassId) (σ : Nat → Nat → Int32) (τ : Nat → Nat → Int64) (j : Nat) (v : Int32) : (wM ad ct σ τ).set 4 (ad 7, .inl (ct 0, 3, .inl (upd (σ 7) j v))) = wM ad ct (va_up σ 7 (upd (σ 7) j v)) τ := rfl
theorem ms_askedOf (C : CallFix p m c cc nL s args (gWs y0 cc nL ret0) RX9) (h : gW D ct A s H ll (wM ad ct σ τ)) {j : Nat} {v : Int32} (hj : j < 3) (hdg : decode cc pc = .ok (.iastore, 1)) (kk : ∀ (H : Heap) (ll : List Loc), gW D ct A s H ll (wM ad ct (va_up σ 7 (upd (σ 7) j v)) τ) → W p l e R s m args below meth c H ll cells slots Q (F0 m (pc + 1) ls rest)) : W p l e R s m args below meth c H ll cells slots Q (F0 m pc ls (.int v :: .int (nI j) :: .ref (ad 7) :: rest)) := gist C h 4 (wM_a7 ad ct σ τ) hj (by decide) hdg (fun H ll h => kk H ll (h.to (wM_s7 ad ct σ τ j v)))
theorem wM_a8 (ad : Nat → Nat) (ct : Nat → ClassId) (σ : Nat → Nat → Int32) (τ : Nat → Nat → Int64) : (wM ad ct σ τ)[5]? = some (ad 8, .inl (ct 0, 3, .inl (σ 8))) := rfl
theorem ml_carriedOf (C : CallFix p m c cc nL s args (gWs y0 cc nL ret0) RX9) (h : gW D ct A s H ll (wM ad ct σ τ)) {j : Nat} (hj : j < 3) (hdg : decode cc pc = .ok (.iaload, 1)) (kk : W p l e R s m args below meth c H ll cells slots Q (F0 m (pc + 1) ls (.int (σ 8 j) :: rest))) : W p l e R s m args below meth c H ll cells slots Q (F0 m pc ls (.int (nI j) :: .ref (ad 8) :: rest)) := gild C h 5 (wM_a8 ad ct σ τ) hj (by decide) hdg kk
theorem wM_s8 (ad : Nat → Nat) (ct : Nat → ClassId) (σ : Nat → Nat → Int32) (τ : Nat → Nat → Int64) (j : Nat) (v : Int32) : (wM ad ct σ τ).set 5 (ad 8, .inl (ct 0, 3, .inl (upd (σ 8) j v))) = wM ad ct (va_up σ 8 (upd (σ 8) j v)) τ := rfl
theorem ms_carriedOf (C : CallFix p m c cc nL s args (gWs y0 cc nL ret0) RX9) (h : gW D ct A s H ll (wM ad ct σ τ)) {j : Nat} {v : Int32} (hj : j < 3) (hdg : decode cc pc = .ok (.iastore, 1)) (kk : ∀ (H : Heap) (ll : List Loc), gW D ct A s H ll (wM ad ct (va_up σ 8 (upd (σ 8) j v)) τ) → W p l e R s m args below meth c H ll cells slots Q (F0 m (pc + 1) ls rest)) : W p l e R s m args below meth c H ll cells slots Q (F0 m pc ls (.int v :: .int (nI j) :: .ref (ad 8) :: rest)) := gist C h 5 (wM_a8 ad ct σ τ) hj (by decide) hdg (fun H ll h => kk H ll (h.to (wM_s8 ad ct σ τ j v)))
theorem wM_a11 (ad : Nat → Nat) (ct : Nat → ClassId) (σ : Nat → Nat → Int32) (τ : Nat → Nat → Int64) : (wM ad ct σ τ)[6]? = some (ad 11, .inl (ct 0, 6, .inl (σ 11))) := rfl
theorem ml_seenMussel (C : CallFix p m c cc nL s args (gWs y0 cc nL ret0) RX9) (h : gW D ct A s H ll (wM ad ct σ τ)) {j : Nat} (hj : j < 6) (hdg : decode cc pc = .ok (.iaload, 1)) (kk : W p l e R s m args below meth c H ll cells slots Q (F0 m (pc + 1) ls (.int (σ 11 j) :: rest))) : W p l e R s m args below meth c H ll cells slots Q (F0 m pc ls (.int (nI j) :: .ref (ad 11) :: rest)) := gild C h 6 (wM_a11 ad ct σ τ) hj (by decide) hdg kk
theorem wM_s11 (ad : Nat → Nat) (ct : Nat → ClassId) (σ : Nat → Nat → Int32) (τ : Nat → Nat → Int64) (j : Nat) (v : Int32) : (wM ad ct σ τ).set 6 (ad 11, .inl (ct 0, 6, .inl (upd (σ 11) j v))) = wM ad ct (va_up σ 11 (upd (σ 11) j v)) τ := rfl
theorem ms_seenMussel (C : CallFix p m c cc nL s args (gWs y0 cc nL ret0) RX9) (h : gW D ct A s H ll (wM ad ct σ τ)) {j : Nat} {v : Int32} (hj : j < 6) (hdg : decode cc pc = .ok (.iastore, 1)) (kk : ∀ (H : Heap) (ll : List Loc), gW D ct A s H ll (wM ad ct (va_up σ 11 (upd (σ 11) j v)) τ) → W p l e R s m args below meth c H ll cells slots Q (F0 m (pc + 1) ls rest)) : W p l e R s m args below meth c H ll cells slots Q (F0 m pc ls (.int v :: .int (nI j) :: .ref (ad 11) :: rest)) := gist C h 6 (wM_a11 ad ct σ τ) hj (by decide) hdg (fun H ll h => kk H ll (h.to (wM_s11 ad ct σ τ j v)))
theorem wM_a12 (ad : Nat → Nat) (ct : Nat → ClassId) (σ : Nat → Nat → Int32) (τ : Nat → Nat → Int64) : (wM ad ct σ τ)[7]? = some (ad 12, .inl (ct 0, 6, .inl (σ 12))) := rfl
theorem ml_seenQuestion (C : CallFix p m c cc nL s args (gWs y0 cc nL ret0) RX9) (h : gW D ct A s H ll (wM ad ct σ τ)) {j : Nat} (hj : j < 6) (hdg : decode cc pc = .ok (.iaload, 1)) (kk : W p l e R s m args below meth c H ll cells slots Q (F0 m (pc + 1) ls (.int (σ 12 j) :: rest))) : W p l e R s m args below meth c H ll cells slots Q (F0 m pc ls (.int (nI j) :: .ref (ad 12) :: rest)) := gild C h 7 (wM_a12 ad ct σ τ) hj (by decide) hdg kk
theorem wM_s12 (ad : Nat → Nat) (ct : Nat → ClassId) (σ : Nat → Nat → Int32) (τ : Nat → Nat → Int64) (j : Nat) (v : Int32) : (wM ad ct σ τ).set 7 (ad 12, .inl (ct 0, 6, .inl (upd (σ 12) j v))) = wM ad ct (va_up σ 12 (upd (σ 12) j v)) τ := rfl
theorem ms_seenQuestion (C : CallFix p m c cc nL s args (gWs y0 cc nL ret0) RX9) (h : gW D ct A s H ll (wM ad ct σ τ)) {j : Nat} {v : Int32} (hj : j < 6) (hdg : decode cc pc = .ok (.iastore, 1)) (kk : ∀ (H : Heap) (ll : List Loc), gW D ct A s H ll (wM ad ct (va_up σ 12 (upd (σ 12) j v)) τ) → W p l e R s m args below meth c H ll cells slots Q (F0 m (pc + 1) ls rest)) : W p l e R s m args below meth c H ll cells slots Q (F0 m pc ls (.int v :: .int (nI j) :: .ref (ad 12) :: rest)) := gist C h 7 (wM_a12 ad ct σ τ) hj (by decide) hdg (fun H ll h => kk H ll (h.to (wM_s12 ad ct σ τ j v)))
theorem wM_a13 (ad : Nat → Nat) (ct : Nat → ClassId) (σ : Nat → Nat → Int32) (τ : Nat → Nat → Int64) : (wM ad ct σ τ)[8]? = some (ad 13, .inl (ct 0, 6, .inl (σ 13))) := rfl
theorem ml_seenSum (C : CallFix p m c cc nL s args (gWs y0 cc nL ret0) RX9) (h : gW D ct A s H ll (wM ad ct σ τ)) {j : Nat} (hj : j < 6) (hdg : decode cc pc = .ok (.iaload, 1)) (kk : W p l e R s m args below meth c H ll cells slots Q (F0 m (pc + 1) ls (.int (σ 13 j) :: rest))) : W p l e R s m args below meth c H ll cells slots Q (F0 m pc ls (.int (nI j) :: .ref (ad 13) :: rest)) := gild C h 8 (wM_a13 ad ct σ τ) hj (by decide) hdg kk
theorem wM_s13 (ad : Nat → Nat) (ct : Nat → ClassId) (σ : Nat → Nat → Int32) (τ : Nat → Nat → Int64) (j : Nat) (v : Int32) : (wM ad ct σ τ).set 8 (ad 13, .inl (ct 0, 6, .inl (upd (σ 13) j v))) = wM ad ct (va_up σ 13 (upd (σ 13) j v)) τ := rfl
theorem ms_seenSum (C : CallFix p m c cc nL s args (gWs y0 cc nL ret0) RX9) (h : gW D ct A s H ll (wM ad ct σ τ)) {j : Nat} {v : Int32} (hj : j < 6) (hdg : decode cc pc = .ok (.iastore, 1)) (kk : ∀ (H : Heap) (ll : List Loc), gW D ct A s H ll (wM ad ct (va_up σ 13 (upd (σ 13) j v)) τ) → W p l e R s m args below meth c H ll cells slots Q (F0 m (pc + 1) ls rest)) : W p l e R s m args below meth c H ll cells slots Q (F0 m pc ls (.int v :: .int (nI j) :: .ref (ad 13) :: rest)) := gist C h 8 (wM_a13 ad ct σ τ) hj (by decide) hdg (fun H ll h => kk H ll (h.to (wM_s13 ad ct σ τ j v)))
theorem wM_a15 (ad : Nat → Nat) (ct : Nat → ClassId) (σ : Nat → Nat → Int32) (τ : Nat → Nat → Int64) : (wM ad ct σ τ)[9]? = some (ad 15, .inl (ct 2, 50, .inl (σ 15))) := rfl
theorem ml_page (C : CallFix p m c cc nL s args (gWs y0 cc nL ret0) RX9) (h : gW D ct A s H ll (wM ad ct σ τ)) {j : Nat} (hj : j < 50) (hdg : decode cc pc = .ok (.baload, 1)) (kk : W p l e R s m args below meth c H ll cells slots Q (F0 m (pc + 1) ls (.int (σ 15 j) :: rest))) : W p l e R s m args below meth c H ll cells slots Q (F0 m pc ls (.int (nI j) :: .ref (ad 15) :: rest)) := gbld C h 9 (wM_a15 ad ct σ τ) hj (by decide) hdg kk
theorem wM_s15 (ad : Nat → Nat) (ct : Nat → ClassId) (σ : Nat → Nat → Int32) (τ : Nat → Nat → Int64) (j : Nat) (v : Int32) : (wM ad ct σ τ).set 9 (ad 15, .inl (ct 2, 50, .inl (upd (σ 15) j (vp_nar .byte v)))) = wM ad ct (va_up σ 15 (upd (σ 15) j (vp_nar .byte v))) τ := rfl
theorem ms_page (C : CallFix p m c cc nL s args (gWs y0 cc nL ret0) RX9) (h : gW D ct A s H ll (wM ad ct σ τ)) {j : Nat} {v : Int32} (hj : j < 50) (hdg : decode cc pc = .ok (.bastore, 1)) (kk : ∀ (H : Heap) (ll : List Loc), gW D ct A s H ll (wM ad ct (va_up σ 15 (upd (σ 15) j (vp_nar .byte v))) τ) → W p l e R s m args below meth c H ll cells slots Q (F0 m (pc + 1) ls rest)) : W p l e R s m args below meth c H ll cells slots Q (F0 m pc ls (.int v :: .int (nI j) :: .ref (ad 15) :: rest)) := gbst C h 9 (wM_a15 ad ct σ τ) hj (by decide) hdg (fun H ll h => kk H ll (h.to (wM_s15 ad ct σ τ j v)))
theorem wM_a18 (ad : Nat → Nat) (ct : Nat → ClassId) (σ : Nat → Nat → Int32) (τ : Nat → Nat → Int64) : (wM ad ct σ τ)[10]? = some (ad 18, .inl (ct 0, 24, .inl (σ 18))) := rfl
theorem ml_newLean (C : CallFix p m c cc nL s args (gWs y0 cc nL ret0) RX9) (h : gW D ct A s H ll (wM ad ct σ τ)) {j : Nat} (hj : j < 24) (hdg : decode cc pc = .ok (.iaload, 1)) (kk : W p l e R s m args below meth c H ll cells slots Q (F0 m (pc + 1) ls (.int (σ 18 j) :: rest))) : W p l e R s m args below meth c H ll cells slots Q (F0 m pc ls (.int (nI j) :: .ref (ad 18) :: rest)) := gild C h 10 (wM_a18 ad ct σ τ) hj (by decide) hdg kk
theorem wM_s18 (ad : Nat → Nat) (ct : Nat → ClassId) (σ : Nat → Nat → Int32) (τ : Nat → Nat → Int64) (j : Nat) (v : Int32) : (wM ad ct σ τ).set 10 (ad 18, .inl (ct 0, 24, .inl (upd (σ 18) j v))) = wM ad ct (va_up σ 18 (upd (σ 18) j v)) τ := rfl
theorem ms_newLean (C : CallFix p m c cc nL s args (gWs y0 cc nL ret0) RX9) (h : gW D ct A s H ll (wM ad ct σ τ)) {j : Nat} {v : Int32} (hj : j < 24) (hdg : decode cc pc = .ok (.iastore, 1)) (kk : ∀ (H : Heap) (ll : List Loc), gW D ct A s H ll (wM ad ct (va_up σ 18 (upd (σ 18) j v)) τ) → W p l e R s m args below meth c H ll cells slots Q (F0 m (pc + 1) ls rest)) : W p l e R s m args below meth c H ll cells slots Q (F0 m pc ls (.int v :: .int (nI j) :: .ref (ad 18) :: rest)) := gist C h 10 (wM_a18 ad ct σ τ) hj (by decide) hdg (fun H ll h => kk H ll (h.to (wM_s18 ad ct σ τ j v)))
theorem wM_a19 (ad : Nat → Nat) (ct : Nat → ClassId) (σ : Nat → Nat → Int32) (τ : Nat → Nat → Int64) : (wM ad ct σ τ)[11]? = some (ad 19, .inl (ct 0, 24, .inl (σ 19))) := rfl
theorem ml_savedLean (C : CallFix p m c cc nL s args (gWs y0 cc nL ret0) RX9) (h : gW D ct A s H ll (wM ad ct σ τ)) {j : Nat} (hj : j < 24) (hdg : decode cc pc = .ok (.iaload, 1)) (kk : W p l e R s m args below meth c H ll cells slots Q (F0 m (pc + 1) ls (.int (σ 19 j) :: rest))) : W p l e R s m args below meth c H ll cells slots Q (F0 m pc ls (.int (nI j) :: .ref (ad 19) :: rest)) := gild C h 11 (wM_a19 ad ct σ τ) hj (by decide) hdg kk
theorem wM_s19 (ad : Nat → Nat) (ct : Nat → ClassId) (σ : Nat → Nat → Int32) (τ : Nat → Nat → Int64) (j : Nat) (v : Int32) : (wM ad ct σ τ).set 11 (ad 19, .inl (ct 0, 24, .inl (upd (σ 19) j v))) = wM ad ct (va_up σ 19 (upd (σ 19) j v)) τ := rfl
theorem ms_savedLean (C : CallFix p m c cc nL s args (gWs y0 cc nL ret0) RX9) (h : gW D ct A s H ll (wM ad ct σ τ)) {j : Nat} {v : Int32} (hj : j < 24) (hdg : decode cc pc = .ok (.iastore, 1)) (kk : ∀ (H : Heap) (ll : List Loc), gW D ct A s H ll (wM ad ct (va_up σ 19 (upd (σ 19) j v)) τ) → W p l e R s m args below meth c H ll cells slots Q (F0 m (pc + 1) ls rest)) : W p l e R s m args below meth c H ll cells slots Q (F0 m pc ls (.int v :: .int (nI j) :: .ref (ad 19) :: rest)) := gist C h 11 (wM_a19 ad ct σ τ) hj (by decide) hdg (fun H ll h => kk H ll (h.to (wM_s19 ad ct σ τ j v)))
theorem wM_a20 (ad : Nat → Nat) (ct : Nat → ClassId) (σ : Nat → Nat → Int32) (τ : Nat → Nat → Int64) : (wM ad ct σ τ)[12]? = some (ad 20, .inl (ct 1, 100, .inr (.inl (τ 20)))) := rfl
theorem ml_history (C : CallFix p m c cc nL s args (gWs y0 cc nL ret0) RX9) (h : gW D ct A s H ll (wM ad ct σ τ)) {j : Nat} (hj : j < 100) (hdg : decode cc pc = .ok (.laload, 1)) (kk : W p l e R s m args below meth c H ll cells slots Q (F0 m (pc + 1) ls (.long (τ 20 j) :: rest))) : W p l e R s m args below meth c H ll cells slots Q (F0 m pc ls (.int (nI j) :: .ref (ad 20) :: rest)) := glld C h 12 (wM_a20 ad ct σ τ) hj (by decide) hdg kk
theorem wM_s20 (ad : Nat → Nat) (ct : Nat → ClassId) (σ : Nat → Nat → Int32) (τ : Nat → Nat → Int64) (j : Nat) (v : Int64) : (wM ad ct σ τ).set 12 (ad 20, .inl (ct 1, 100, .inr (.inl (vp_updL (τ 20) j v)))) = wM ad ct σ (va_up τ 20 (vp_updL (τ 20) j v)) := rfl
theorem ms_history (C : CallFix p m c cc nL s args (gWs y0 cc nL ret0) RX9) (h : gW D ct A s H ll (wM ad ct σ τ)) {j : Nat} {v : Int64} (hj : j < 100) (hdg : decode cc pc = .ok (.lastore, 1)) (kk : ∀ (H : Heap) (ll : List Loc), gW D ct A s H ll (wM ad ct σ (va_up τ 20 (vp_updL (τ 20) j v))) → W p l e R s m args below meth c H ll cells slots Q (F0 m (pc + 1) ls rest)) : W p l e R s m args below meth c H ll cells slots Q (F0 m pc ls (.long v :: .int (nI j) :: .ref (ad 20) :: rest)) := glst C h 12 (wM_a20 ad ct σ τ) hj (by decide) hdg (fun H ll h => kk H ll (h.to (wM_s20 ad ct σ τ j v)))
theorem wM_a21 (ad : Nat → Nat) (ct : Nat → ClassId) (σ : Nat → Nat → Int32) (τ : Nat → Nat → Int64) : (wM ad ct σ τ)[13]? = some (ad 21, .inl (ct 0, 3, .inl (σ 21))) := rfl
theorem ml_sumBy (C : CallFix p m c cc nL s args (gWs y0 cc nL ret0) RX9) (h : gW D ct A s H ll (wM ad ct σ τ)) {j : Nat} (hj : j < 3) (hdg : decode cc pc = .ok (.iaload, 1)) (kk : W p l e R s m args below meth c H ll cells slots Q (F0 m (pc + 1) ls (.int (σ 21 j) :: rest))) : W p l e R s m args below meth c H ll cells slots Q (F0 m pc ls (.int (nI j) :: .ref (ad 21) :: rest)) := gild C h 13 (wM_a21 ad ct σ τ) hj (by decide) hdg kk
theorem wM_s21 (ad : Nat → Nat) (ct : Nat → ClassId) (σ : Nat → Nat → Int32) (τ : Nat → Nat → Int64) (j : Nat) (v : Int32) : (wM ad ct σ τ).set 13 (ad 21, .inl (ct 0, 3, .inl (upd (σ 21) j v))) = wM ad ct (va_up σ 21 (upd (σ 21) j v)) τ := rfl
theorem ms_sumBy (C : CallFix p m c cc nL s args (gWs y0 cc nL ret0) RX9) (h : gW D ct A s H ll (wM ad ct σ τ)) {j : Nat} {v : Int32} (hj : j < 3) (hdg : decode cc pc = .ok (.iastore, 1)) (kk : ∀ (H : Heap) (ll : List Loc), gW D ct A s H ll (wM ad ct (va_up σ 21 (upd (σ 21) j v)) τ) → W p l e R s m args below meth c H ll cells slots Q (F0 m (pc + 1) ls rest)) : W p l e R s m args below meth c H ll cells slots Q (F0 m pc ls (.int v :: .int (nI j) :: .ref (ad 21) :: rest)) := gist C h 13 (wM_a21 ad ct σ τ) hj (by decide) hdg (fun H ll h => kk H ll (h.to (wM_s21 ad ct σ τ j v)))
theorem wM_a23 (ad : Nat → Nat) (ct : Nat → ClassId) (σ : Nat → Nat → Int32) (τ : Nat → Nat → Int64) : (wM ad ct σ τ)[14]? = some (ad 23, .inl (ct 0, 24, .inl (σ 23))) := rfl
theorem ml_keptNow (C : CallFix p m c cc nL s args (gWs y0 cc nL ret0) RX9) (h : gW D ct A s H ll (wM ad ct σ τ)) {j : Nat} (hj : j < 24) (hdg : decode cc pc = .ok (.iaload, 1)) (kk : W p l e R s m args below meth c H ll cells slots Q (F0 m (pc + 1) ls (.int (σ 23 j) :: rest))) : W p l e R s m args below meth c H ll cells slots Q (F0 m pc ls (.int (nI j) :: .ref (ad 23) :: rest)) := gild C h 14 (wM_a23 ad ct σ τ) hj (by decide) hdg kk
theorem wM_s23 (ad : Nat → Nat) (ct : Nat → ClassId) (σ : Nat → Nat → Int32) (τ : Nat → Nat → Int64) (j : Nat) (v : Int32) : (wM ad ct σ τ).set 14 (ad 23, .inl (ct 0, 24, .inl (upd (σ 23) j v))) = wM ad ct (va_up σ 23 (upd (σ 23) j v)) τ := rfl
theorem ms_keptNow (C : CallFix p m c cc nL s args (gWs y0 cc nL ret0) RX9) (h : gW D ct A s H ll (wM ad ct σ τ)) {j : Nat} {v : Int32} (hj : j < 24) (hdg : decode cc pc = .ok (.iastore, 1)) (kk : ∀ (H : Heap) (ll : List Loc), gW D ct A s H ll (wM ad ct (va_up σ 23 (upd (σ 23) j v)) τ) → W p l e R s m args below meth c H ll cells slots Q (F0 m (pc + 1) ls rest)) : W p l e R s m args below meth c H ll cells slots Q (F0 m pc ls (.int v :: .int (nI j) :: .ref (ad 23) :: rest)) := gist C h 14 (wM_a23 ad ct σ τ) hj (by decide) hdg (fun H ll h => kk H ll (h.to (wM_s23 ad ct σ τ j v)))
theorem wM_a29 (ad : Nat → Nat) (ct : Nat → ClassId) (σ : Nat → Nat → Int32) (τ : Nat → Nat → Int64) : (wM ad ct σ τ)[15]? = some (ad 29, .inl (ct 0, 8, .inl (σ 29))) := rfl
theorem ml_keptWeight (C : CallFix p m c cc nL s args (gWs y0 cc nL ret0) RX9) (h : gW D ct A s H ll (wM ad ct σ τ)) {j : Nat} (hj : j < 8) (hdg : decode cc pc = .ok (.iaload, 1)) (kk : W p l e R s m args below meth c H ll cells slots Q (F0 m (pc + 1) ls (.int (σ 29 j) :: rest))) : W p l e R s m args below meth c H ll cells slots Q (F0 m pc ls (.int (nI j) :: .ref (ad 29) :: rest)) := gild C h 15 (wM_a29 ad ct σ τ) hj (by decide) hdg kk
theorem wM_s29 (ad : Nat → Nat) (ct : Nat → ClassId) (σ : Nat → Nat → Int32) (τ : Nat → Nat → Int64) (j : Nat) (v : Int32) : (wM ad ct σ τ).set 15 (ad 29, .inl (ct 0, 8, .inl (upd (σ 29) j v))) = wM ad ct (va_up σ 29 (upd (σ 29) j v)) τ := rfl
theorem ms_keptWeight (C : CallFix p m c cc nL s args (gWs y0 cc nL ret0) RX9) (h : gW D ct A s H ll (wM ad ct σ τ)) {j : Nat} {v : Int32} (hj : j < 8) (hdg : decode cc pc = .ok (.iastore, 1)) (kk : ∀ (H : Heap) (ll : List Loc), gW D ct A s H ll (wM ad ct (va_up σ 29 (upd (σ 29) j v)) τ) → W p l e R s m args below meth c H ll cells slots Q (F0 m (pc + 1) ls rest)) : W p l e R s m args below meth c H ll cells slots Q (F0 m pc ls (.int v :: .int (nI j) :: .ref (ad 29) :: rest)) := gist C h 15 (wM_a29 ad ct σ τ) hj (by decide) hdg (fun H ll h => kk H ll (h.to (wM_s29 ad ct σ τ j v)))
theorem wM_a30 (ad : Nat → Nat) (ct : Nat → ClassId) (σ : Nat → Nat → Int32) (τ : Nat → Nat → Int64) : (wM ad ct σ τ)[16]? = some (ad 30, .inl (ct 0, 24, .inl (σ 30))) := rfl
theorem ml_keptLean (C : CallFix p m c cc nL s args (gWs y0 cc nL ret0) RX9) (h : gW D ct A s H ll (wM ad ct σ τ)) {j : Nat} (hj : j < 24) (hdg : decode cc pc = .ok (.iaload, 1)) (kk : W p l e R s m args below meth c H ll cells slots Q (F0 m (pc + 1) ls (.int (σ 30 j) :: rest))) : W p l e R s m args below meth c H ll cells slots Q (F0 m pc ls (.int (nI j) :: .ref (ad 30) :: rest)) := gild C h 16 (wM_a30 ad ct σ τ) hj (by decide) hdg kk
theorem wM_s30 (ad : Nat → Nat) (ct : Nat → ClassId) (σ : Nat → Nat → Int32) (τ : Nat → Nat → Int64) (j : Nat) (v : Int32) : (wM ad ct σ τ).set 16 (ad 30, .inl (ct 0, 24, .inl (upd (σ 30) j v))) = wM ad ct (va_up σ 30 (upd (σ 30) j v)) τ := rfl
theorem ms_keptLean (C : CallFix p m c cc nL s args (gWs y0 cc nL ret0) RX9) (h : gW D ct A s H ll (wM ad ct σ τ)) {j : Nat} {v : Int32} (hj : j < 24) (hdg : decode cc pc = .ok (.iastore, 1)) (kk : ∀ (H : Heap) (ll : List Loc), gW D ct A s H ll (wM ad ct (va_up σ 30 (upd (σ 30) j v)) τ) → W p l e R s m args below meth c H ll cells slots Q (F0 m (pc + 1) ls rest)) : W p l e R s m args below meth c H ll cells slots Q (F0 m pc ls (.int v :: .int (nI j) :: .ref (ad 30) :: rest)) := gist C h 16 (wM_a30 ad ct σ τ) hj (by decide) hdg (fun H ll h => kk H ll (h.to (wM_s30 ad ct σ τ j v)))
theorem wM_a31 (ad : Nat → Nat) (ct : Nat → ClassId) (σ : Nat → Nat → Int32) (τ : Nat → Nat → Int64) : (wM ad ct σ τ)[17]? = some (ad 31, .inl (ct 0, 3, .inl (σ 31))) := rfl
theorem ml_keptAsked (C : CallFix p m c cc nL s args (gWs y0 cc nL ret0) RX9) (h : gW D ct A s H ll (wM ad ct σ τ)) {j : Nat} (hj : j < 3) (hdg : decode cc pc = .ok (.iaload, 1)) (kk : W p l e R s m args below meth c H ll cells slots Q (F0 m (pc + 1) ls (.int (σ 31 j) :: rest))) : W p l e R s m args below meth c H ll cells slots Q (F0 m pc ls (.int (nI j) :: .ref (ad 31) :: rest)) := gild C h 17 (wM_a31 ad ct σ τ) hj (by decide) hdg kk
theorem wM_s31 (ad : Nat → Nat) (ct : Nat → ClassId) (σ : Nat → Nat → Int32) (τ : Nat → Nat → Int64) (j : Nat) (v : Int32) : (wM ad ct σ τ).set 17 (ad 31, .inl (ct 0, 3, .inl (upd (σ 31) j v))) = wM ad ct (va_up σ 31 (upd (σ 31) j v)) τ := rfl
theorem ms_keptAsked (C : CallFix p m c cc nL s args (gWs y0 cc nL ret0) RX9) (h : gW D ct A s H ll (wM ad ct σ τ)) {j : Nat} {v : Int32} (hj : j < 3) (hdg : decode cc pc = .ok (.iastore, 1)) (kk : ∀ (H : Heap) (ll : List Loc), gW D ct A s H ll (wM ad ct (va_up σ 31 (upd (σ 31) j v)) τ) → W p l e R s m args below meth c H ll cells slots Q (F0 m (pc + 1) ls rest)) : W p l e R s m args below meth c H ll cells slots Q (F0 m pc ls (.int v :: .int (nI j) :: .ref (ad 31) :: rest)) := gist C h 17 (wM_a31 ad ct σ τ) hj (by decide) hdg (fun H ll h => kk H ll (h.to (wM_s31 ad ct σ τ j v)))
theorem wM_a32 (ad : Nat → Nat) (ct : Nat → ClassId) (σ : Nat → Nat → Int32) (τ : Nat → Nat → Int64) : (wM ad ct σ τ)[18]? = some (ad 32, .inl (ct 0, 3, .inl (σ 32))) := rfl
theorem ml_keptCarried (C : CallFix p m c cc nL s args (gWs y0 cc nL ret0) RX9) (h : gW D ct A s H ll (wM ad ct σ τ)) {j : Nat} (hj : j < 3) (hdg : decode cc pc = .ok (.iaload, 1)) (kk : W p l e R s m args below meth c H ll cells slots Q (F0 m (pc + 1) ls (.int (σ 32 j) :: rest))) : W p l e R s m args below meth c H ll cells slots Q (F0 m pc ls (.int (nI j) :: .ref (ad 32) :: rest)) := gild C h 18 (wM_a32 ad ct σ τ) hj (by decide) hdg kk
theorem wM_s32 (ad : Nat → Nat) (ct : Nat → ClassId) (σ : Nat → Nat → Int32) (τ : Nat → Nat → Int64) (j : Nat) (v : Int32) : (wM ad ct σ τ).set 18 (ad 32, .inl (ct 0, 3, .inl (upd (σ 32) j v))) = wM ad ct (va_up σ 32 (upd (σ 32) j v)) τ := rfl
theorem ms_keptCarried (C : CallFix p m c cc nL s args (gWs y0 cc nL ret0) RX9) (h : gW D ct A s H ll (wM ad ct σ τ)) {j : Nat} {v : Int32} (hj : j < 3) (hdg : decode cc pc = .ok (.iastore, 1)) (kk : ∀ (H : Heap) (ll : List Loc), gW D ct A s H ll (wM ad ct (va_up σ 32 (upd (σ 32) j v)) τ) → W p l e R s m args below meth c H ll cells slots Q (F0 m (pc + 1) ls rest)) : W p l e R s m args below meth c H ll cells slots Q (F0 m pc ls (.int v :: .int (nI j) :: .ref (ad 32) :: rest)) := gist C h 18 (wM_a32 ad ct σ τ) hj (by decide) hdg (fun H ll h => kk H ll (h.to (wM_s32 ad ct σ τ j v)))
theorem wM_a33 (ad : Nat → Nat) (ct : Nat → ClassId) (σ : Nat → Nat → Int32) (τ : Nat → Nat → Int64) : (wM ad ct σ τ)[19]? = some (ad 33, .inl (ct 0, 6, .inl (σ 33))) := rfl
theorem ml_keptMussel (C : CallFix p m c cc nL s args (gWs y0 cc nL ret0) RX9) (h : gW D ct A s H ll (wM ad ct σ τ)) {j : Nat} (hj : j < 6) (hdg : decode cc pc = .ok (.iaload, 1)) (kk : W p l e R s m args below meth c H ll cells slots Q (F0 m (pc + 1) ls (.int (σ 33 j) :: rest))) : W p l e R s m args below meth c H ll cells slots Q (F0 m pc ls (.int (nI j) :: .ref (ad 33) :: rest)) := gild C h 19 (wM_a33 ad ct σ τ) hj (by decide) hdg kk
theorem wM_s33 (ad : Nat → Nat) (ct : Nat → ClassId) (σ : Nat → Nat → Int32) (τ : Nat → Nat → Int64) (j : Nat) (v : Int32) : (wM ad ct σ τ).set 19 (ad 33, .inl (ct 0, 6, .inl (upd (σ 33) j v))) = wM ad ct (va_up σ 33 (upd (σ 33) j v)) τ := rfl
theorem ms_keptMussel (C : CallFix p m c cc nL s args (gWs y0 cc nL ret0) RX9) (h : gW D ct A s H ll (wM ad ct σ τ)) {j : Nat} {v : Int32} (hj : j < 6) (hdg : decode cc pc = .ok (.iastore, 1)) (kk : ∀ (H : Heap) (ll : List Loc), gW D ct A s H ll (wM ad ct (va_up σ 33 (upd (σ 33) j v)) τ) → W p l e R s m args below meth c H ll cells slots Q (F0 m (pc + 1) ls rest)) : W p l e R s m args below meth c H ll cells slots Q (F0 m pc ls (.int v :: .int (nI j) :: .ref (ad 33) :: rest)) := gist C h 19 (wM_a33 ad ct σ τ) hj (by decide) hdg (fun H ll h => kk H ll (h.to (wM_s33 ad ct σ τ j v)))
theorem wM_a34 (ad : Nat → Nat) (ct : Nat → ClassId) (σ : Nat → Nat → Int32) (τ : Nat → Nat → Int64) : (wM ad ct σ τ)[20]? = some (ad 34, .inl (ct 0, 6, .inl (σ 34))) := rfl
theorem ml_keptQuestion (C : CallFix p m c cc nL s args (gWs y0 cc nL ret0) RX9) (h : gW D ct A s H ll (wM ad ct σ τ)) {j : Nat} (hj : j < 6) (hdg : decode cc pc = .ok (.iaload, 1)) (kk : W p l e R s m args below meth c H ll cells slots Q (F0 m (pc + 1) ls (.int (σ 34 j) :: rest))) : W p l e R s m args below meth c H ll cells slots Q (F0 m pc ls (.int (nI j) :: .ref (ad 34) :: rest)) := gild C h 20 (wM_a34 ad ct σ τ) hj (by decide) hdg kk
theorem wM_s34 (ad : Nat → Nat) (ct : Nat → ClassId) (σ : Nat → Nat → Int32) (τ : Nat → Nat → Int64) (j : Nat) (v : Int32) : (wM ad ct σ τ).set 20 (ad 34, .inl (ct 0, 6, .inl (upd (σ 34) j v))) = wM ad ct (va_up σ 34 (upd (σ 34) j v)) τ := rfl
theorem ms_keptQuestion (C : CallFix p m c cc nL s args (gWs y0 cc nL ret0) RX9) (h : gW D ct A s H ll (wM ad ct σ τ)) {j : Nat} {v : Int32} (hj : j < 6) (hdg : decode cc pc = .ok (.iastore, 1)) (kk : ∀ (H : Heap) (ll : List Loc), gW D ct A s H ll (wM ad ct (va_up σ 34 (upd (σ 34) j v)) τ) → W p l e R s m args below meth c H ll cells slots Q (F0 m (pc + 1) ls rest)) : W p l e R s m args below meth c H ll cells slots Q (F0 m pc ls (.int v :: .int (nI j) :: .ref (ad 34) :: rest)) := gist C h 20 (wM_a34 ad ct σ τ) hj (by decide) hdg (fun H ll h => kk H ll (h.to (wM_s34 ad ct σ τ j v)))
theorem wM_a35 (ad : Nat → Nat) (ct : Nat → ClassId) (σ : Nat → Nat → Int32) (τ : Nat → Nat → Int64) : (wM ad ct σ τ)[21]? = some (ad 35, .inl (ct 0, 6, .inl (σ 35))) := rfl
theorem ml_keptSum (C : CallFix p m c cc nL s args (gWs y0 cc nL ret0) RX9) (h : gW D ct A s H ll (wM ad ct σ τ)) {j : Nat} (hj : j < 6) (hdg : decode cc pc = .ok (.iaload, 1)) (kk : W p l e R s m args below meth c H ll cells slots Q (F0 m (pc + 1) ls (.int (σ 35 j) :: rest))) : W p l e R s m args below meth c H ll cells slots Q (F0 m pc ls (.int (nI j) :: .ref (ad 35) :: rest)) := gild C h 21 (wM_a35 ad ct σ τ) hj (by decide) hdg kk
theorem wM_s35 (ad : Nat → Nat) (ct : Nat → ClassId) (σ : Nat → Nat → Int32) (τ : Nat → Nat → Int64) (j : Nat) (v : Int32) : (wM ad ct σ τ).set 21 (ad 35, .inl (ct 0, 6, .inl (upd (σ 35) j v))) = wM ad ct (va_up σ 35 (upd (σ 35) j v)) τ := rfl
theorem ms_keptSum (C : CallFix p m c cc nL s args (gWs y0 cc nL ret0) RX9) (h : gW D ct A s H ll (wM ad ct σ τ)) {j : Nat} {v : Int32} (hj : j < 6) (hdg : decode cc pc = .ok (.iastore, 1)) (kk : ∀ (H : Heap) (ll : List Loc), gW D ct A s H ll (wM ad ct (va_up σ 35 (upd (σ 35) j v)) τ) → W p l e R s m args below meth c H ll cells slots Q (F0 m (pc + 1) ls rest)) : W p l e R s m args below meth c H ll cells slots Q (F0 m pc ls (.int v :: .int (nI j) :: .ref (ad 35) :: rest)) := gist C h 21 (wM_a35 ad ct σ τ) hj (by decide) hdg (fun H ll h => kk H ll (h.to (wM_s35 ad ct σ τ j v)))
end MRows
end
section
/-! ===== numbers ===== -/
/-- how many of the first k bits of b are 1 -/
def pcn (b : Nat) : Nat → Nat
  | 0 => 0
  | k + 1 => pcn b k + b / 2 ^ k % 2
theorem pcn_le (b : Nat) : ∀ k, pcn b k ≤ k
  | 0 => Nat.le_refl 0
  | k + 1 => by have h := pcn_le b k; have h2 := Nat.mod_lt (b / 2 ^ k) (show 2 > 0 by decide); simp only [pcn]; omega
theorem tb_div (x k : Nat) : x.testBit k = true ↔ x / 2 ^ k % 2 = 1 := by
  rw [Nat.testBit_eq_decide_div_mod_eq]; simp
theorem and1 (x : Nat) : x &&& 1 = x % 2 := Nat.and_one_is_mod x
theorem shr_lt {x z : Nat} (h : x < 2 ^ 31) : x / 2 ^ z < 2 ^ 31 := Nat.lt_of_le_of_lt (Nat.div_le_self _ _) h
theorem pow_lt8 : ∀ m, m < 9 → 2 ^ m ≤ 256 := by decide
theorem pow_pos2 (m : Nat) : 0 < 2 ^ m := Nat.two_pow_pos m
/-! ===== what a rope is, and what is felt (n mussels; kd kinds; w weights; le leans: mussel, question; cu: its thread is cut) ===== -/
def lnA (le : Nat → Nat → Int32) (cu : Nat → Bool) (m q : Nat) : Int32 := if 0 < m ∧ cu m = false then le (m - 1) q else 0
def lnB (n : Nat) (le : Nat → Nat → Int32) (cu : Nat → Bool) (m q : Nat) : Int32 := if m + 1 < n ∧ cu (m + 1) = false then le (m + 1) q else 0
/-- what a mussel pulls, by its kind, weight, lean, and the two leans beside it -/
def pullK (k : Nat) (w x a b : Int32) : Int32 := if k = 1 then 2 * (w * x) else if k = 2 then -(w * x) else if k = 3 then (if a + b = 2 then w else if a + b = -2 then -w else 0) else if k = 4 then (if a + b = 2 then w else if a + b = -2 then -w else w * x) else w * x
def pl (n : Nat) (kd : Nat → Nat) (w : Nat → Int32) (le : Nat → Nat → Int32) (cu : Nat → Bool) (q m : Nat) : Int32 := pullK (kd m) (w m) (le m q) (lnA le cu m q) (lnB n le cu m q)
def sgn (x : Int32) : Int32 := if 0 < x then 1 else if x < 0 then -1 else 0
def leM (σ : Nat → Nat → Int32) (m q : Nat) : Int32 := σ 4 (3 * m + q)
def cuM (c m : Nat) : Bool := c.testBit m
/-- what is known of the reference's rope: n mussels, cut threads c as bits, kinds kd -/
def MOK (σ : Nat → Nat → Int32) (n c : Nat) (kd : Nat → Nat) : Prop := σ 1 0 = nI n ∧ n ≤ 8 ∧ σ 5 0 = nI c ∧ c < 256 ∧ ∀ m, m < 8 → σ 2 m = nI (kd m) ∧ kd m ≤ 4
def fbits (c : Nat) : Nat → Nat
  | 0 => 0
  | m + 1 => fbits c m ||| (if c % 2 ^ (m + 1) = 0 then 1 * 2 ^ m else 0)
def plM (σ : Nat → Nat → Int32) (n c : Nat) (kd : Nat → Nat) (q m : Nat) : Int32 := pl n kd (σ 3) (leM σ) (cuM c) q m
/-- the sum of a question, as the reference adds it -/
def smM (σ : Nat → Nat → Int32) (n c : Nat) (kd : Nat → Nat) (q : Nat) : Int32 := bx_sum (fun m => if c % 2 ^ (m + 1) = 0 then plM σ n c kd q m else 0) n
theorem pw2 (m : Nat) : 2 * 2 ^ m = 2 ^ (m + 1) := by rw [Nat.pow_succ, Nat.mul_comm]
theorem feltN (c m : Nat) : c &&& (2 * 2 ^ m - 1) = c % 2 ^ (m + 1) := by rw [pw2, Nat.and_two_pow_sub_one_eq_mod]
theorem isM_nat {n : Nat} {x : Int32} (hn : n ≤ 8) (h : 0 ≤ x ∧ x ≤ nI n - 1) : ∃ j, j < n ∧ x = nI j := by
  obtain ⟨h1, h2⟩ := h
  have h3 : (nI n - 1).toInt = (n : Int) - 1 := by
    rw [show (nI n - 1 : Int32) = nI n - nI 1 from rfl, pk_sub_toInt (by omega) (by decide)]; rfl
  rw [Int32.le_iff_toInt_le] at h1 h2
  rw [h3] at h2
  have h1 : 0 ≤ x.toInt := h1
  refine ⟨x.toInt.toNat, by omega, ?_⟩
  apply Int32.toInt_inj.mp
  rw [nI_toInt (by omega)]; omega
theorem isM_of {n j : Nat} (hn : n ≤ 8) (h : j < n) : 0 ≤ nI j ∧ nI j ≤ nI n - 1 := by
  refine ⟨nI_pos' (by omega), ?_⟩
  rw [Int32.le_iff_toInt_le, show (nI n - 1 : Int32) = nI n - nI 1 from rfl, pk_sub_toInt (by omega) (by decide), nI_toInt (by omega)]
  omega
end
section
abbrev rmX9_within : Room := { frames := 0, cells := 0, slots := 0, locals := 0 }
theorem hdX9_within : yX9_within.cls ≠ "java/lang/invoke/MethodHandle" ∧ yX9_within.cls ≠ "java/lang/invoke/VarHandle" ∧ (parseMethodDescriptor yX9_within.desc).map (fun d => d.parameters.length) = some 3 := by decide +kernel
theorem hvX9_within : yX9_within.cls = RX9 ∧ yX9_within.cls ≠ "java/lang/invoke/MethodHandle" ∧ yX9_within.cls ≠ "java/lang/invoke/VarHandle" ∧ (parseMethodDescriptor yX9_within.desc).map (fun d => d.parameters.length) = some 3 := by decide +kernel
abbrev rmX9_isIn : Room := { frames := 0, cells := 0, slots := 0, locals := 0 }
theorem hdX9_isIn : yX9_isIn.cls ≠ "java/lang/invoke/MethodHandle" ∧ yX9_isIn.cls ≠ "java/lang/invoke/VarHandle" ∧ (parseMethodDescriptor yX9_isIn.desc).map (fun d => d.parameters.length) = some 2 := by decide +kernel
theorem hvX9_isIn : yX9_isIn.cls = RX9 ∧ yX9_isIn.cls ≠ "java/lang/invoke/MethodHandle" ∧ yX9_isIn.cls ≠ "java/lang/invoke/VarHandle" ∧ (parseMethodDescriptor yX9_isIn.desc).map (fun d => d.parameters.length) = some 2 := by decide +kernel
abbrev rmX9_size : Room := { frames := 0, cells := 0, slots := 0, locals := 0 }
theorem hdX9_size : yX9_size.cls ≠ "java/lang/invoke/MethodHandle" ∧ yX9_size.cls ≠ "java/lang/invoke/VarHandle" ∧ (parseMethodDescriptor yX9_size.desc).map (fun d => d.parameters.length) = some 1 := by decide +kernel
theorem hvX9_size : yX9_size.cls = RX9 ∧ yX9_size.cls ≠ "java/lang/invoke/MethodHandle" ∧ yX9_size.cls ≠ "java/lang/invoke/VarHandle" ∧ (parseMethodDescriptor yX9_size.desc).map (fun d => d.parameters.length) = some 1 := by decide +kernel
abbrev rmX9_divisor : Room := { frames := 0, cells := 0, slots := 0, locals := 0 }
theorem hdX9_divisor : yX9_divisor.cls ≠ "java/lang/invoke/MethodHandle" ∧ yX9_divisor.cls ≠ "java/lang/invoke/VarHandle" ∧ (parseMethodDescriptor yX9_divisor.desc).map (fun d => d.parameters.length) = some 2 := by decide +kernel
theorem hvX9_divisor : yX9_divisor.cls = RX9 ∧ yX9_divisor.cls ≠ "java/lang/invoke/MethodHandle" ∧ yX9_divisor.cls ≠ "java/lang/invoke/VarHandle" ∧ (parseMethodDescriptor yX9_divisor.desc).map (fun d => d.parameters.length) = some 2 := by decide +kernel
abbrev rmX9_part : Room := { frames := 1, cells := 0, slots := 0, locals := 24 }
theorem hdX9_part : yX9_part.cls ≠ "java/lang/invoke/MethodHandle" ∧ yX9_part.cls ≠ "java/lang/invoke/VarHandle" ∧ (parseMethodDescriptor yX9_part.desc).map (fun d => d.parameters.length) = some 3 := by decide +kernel
theorem hvX9_part : yX9_part.cls = RX9 ∧ yX9_part.cls ≠ "java/lang/invoke/MethodHandle" ∧ yX9_part.cls ≠ "java/lang/invoke/VarHandle" ∧ (parseMethodDescriptor yX9_part.desc).map (fun d => d.parameters.length) = some 3 := by decide +kernel
abbrev rmX9_letter : Room := { frames := 1, cells := 0, slots := 0, locals := 22 }
theorem hdX9_letter : yX9_letter.cls ≠ "java/lang/invoke/MethodHandle" ∧ yX9_letter.cls ≠ "java/lang/invoke/VarHandle" ∧ (parseMethodDescriptor yX9_letter.desc).map (fun d => d.parameters.length) = some 1 := by decide +kernel
theorem hvX9_letter : yX9_letter.cls = RX9 ∧ yX9_letter.cls ≠ "java/lang/invoke/MethodHandle" ∧ yX9_letter.cls ≠ "java/lang/invoke/VarHandle" ∧ (parseMethodDescriptor yX9_letter.desc).map (fun d => d.parameters.length) = some 1 := by decide +kernel
abbrev rmX9_blank : Room := { frames := 0, cells := 0, slots := 0, locals := 0 }
theorem hdX9_blank : yX9_blank.cls ≠ "java/lang/invoke/MethodHandle" ∧ yX9_blank.cls ≠ "java/lang/invoke/VarHandle" ∧ (parseMethodDescriptor yX9_blank.desc).map (fun d => d.parameters.length) = some 0 := by decide +kernel
theorem hvX9_blank : yX9_blank.cls = RX9 ∧ yX9_blank.cls ≠ "java/lang/invoke/MethodHandle" ∧ yX9_blank.cls ≠ "java/lang/invoke/VarHandle" ∧ (parseMethodDescriptor yX9_blank.desc).map (fun d => d.parameters.length) = some 0 := by decide +kernel
abbrev rmX9_kindBy : Room := { frames := 0, cells := 0, slots := 0, locals := 0 }
theorem hdX9_kindBy : yX9_kindBy.cls ≠ "java/lang/invoke/MethodHandle" ∧ yX9_kindBy.cls ≠ "java/lang/invoke/VarHandle" ∧ (parseMethodDescriptor yX9_kindBy.desc).map (fun d => d.parameters.length) = some 1 := by decide +kernel
theorem hvX9_kindBy : yX9_kindBy.cls = RX9 ∧ yX9_kindBy.cls ≠ "java/lang/invoke/MethodHandle" ∧ yX9_kindBy.cls ≠ "java/lang/invoke/VarHandle" ∧ (parseMethodDescriptor yX9_kindBy.desc).map (fun d => d.parameters.length) = some 1 := by decide +kernel
abbrev rmX9_at : Room := { frames := 0, cells := 0, slots := 0, locals := 0 }
theorem hdX9_at : yX9_at.cls ≠ "java/lang/invoke/MethodHandle" ∧ yX9_at.cls ≠ "java/lang/invoke/VarHandle" ∧ (parseMethodDescriptor yX9_at.desc).map (fun d => d.parameters.length) = some 1 := by decide +kernel
theorem hvX9_at : yX9_at.cls = RX9 ∧ yX9_at.cls ≠ "java/lang/invoke/MethodHandle" ∧ yX9_at.cls ≠ "java/lang/invoke/VarHandle" ∧ (parseMethodDescriptor yX9_at.desc).map (fun d => d.parameters.length) = some 1 := by decide +kernel
abbrev rmX9_isLean : Room := { frames := 0, cells := 0, slots := 0, locals := 0 }
theorem hdX9_isLean : yX9_isLean.cls ≠ "java/lang/invoke/MethodHandle" ∧ yX9_isLean.cls ≠ "java/lang/invoke/VarHandle" ∧ (parseMethodDescriptor yX9_isLean.desc).map (fun d => d.parameters.length) = some 1 := by decide +kernel
theorem hvX9_isLean : yX9_isLean.cls = RX9 ∧ yX9_isLean.cls ≠ "java/lang/invoke/MethodHandle" ∧ yX9_isLean.cls ≠ "java/lang/invoke/VarHandle" ∧ (parseMethodDescriptor yX9_isLean.desc).map (fun d => d.parameters.length) = some 1 := by decide +kernel
abbrev rmX9_readOne : Room := { frames := 1, cells := 0, slots := 0, locals := 22 }
theorem hdX9_readOne : yX9_readOne.cls ≠ "java/lang/invoke/MethodHandle" ∧ yX9_readOne.cls ≠ "java/lang/invoke/VarHandle" ∧ (parseMethodDescriptor yX9_readOne.desc).map (fun d => d.parameters.length) = some 1 := by decide +kernel
theorem hvX9_readOne : yX9_readOne.cls = RX9 ∧ yX9_readOne.cls ≠ "java/lang/invoke/MethodHandle" ∧ yX9_readOne.cls ≠ "java/lang/invoke/VarHandle" ∧ (parseMethodDescriptor yX9_readOne.desc).map (fun d => d.parameters.length) = some 1 := by decide +kernel
abbrev rmX9_read : Room := { frames := 2, cells := 0, slots := 0, locals := 44 }
theorem hdX9_read : yX9_read.cls ≠ "java/lang/invoke/MethodHandle" ∧ yX9_read.cls ≠ "java/lang/invoke/VarHandle" ∧ (parseMethodDescriptor yX9_read.desc).map (fun d => d.parameters.length) = some 0 := by decide +kernel
theorem hvX9_read : yX9_read.cls = RX9 ∧ yX9_read.cls ≠ "java/lang/invoke/MethodHandle" ∧ yX9_read.cls ≠ "java/lang/invoke/VarHandle" ∧ (parseMethodDescriptor yX9_read.desc).map (fun d => d.parameters.length) = some 0 := by decide +kernel
abbrev rmX9_fault : Room := { frames := 3, cells := 0, slots := 0, locals := 66 }
theorem hdX9_fault : yX9_fault.cls ≠ "java/lang/invoke/MethodHandle" ∧ yX9_fault.cls ≠ "java/lang/invoke/VarHandle" ∧ (parseMethodDescriptor yX9_fault.desc).map (fun d => d.parameters.length) = some 0 := by decide +kernel
theorem hvX9_fault : yX9_fault.cls = RX9 ∧ yX9_fault.cls ≠ "java/lang/invoke/MethodHandle" ∧ yX9_fault.cls ≠ "java/lang/invoke/VarHandle" ∧ (parseMethodDescriptor yX9_fault.desc).map (fun d => d.parameters.length) = some 0 := by decide +kernel
abbrev rmX9_rope : Room := { frames := 3, cells := 0, slots := 0, locals := 66 }
theorem hdX9_rope : yX9_rope.cls ≠ "java/lang/invoke/MethodHandle" ∧ yX9_rope.cls ≠ "java/lang/invoke/VarHandle" ∧ (parseMethodDescriptor yX9_rope.desc).map (fun d => d.parameters.length) = some 0 := by decide +kernel
theorem hvX9_rope : yX9_rope.cls = RX9 ∧ yX9_rope.cls ≠ "java/lang/invoke/MethodHandle" ∧ yX9_rope.cls ≠ "java/lang/invoke/VarHandle" ∧ (parseMethodDescriptor yX9_rope.desc).map (fun d => d.parameters.length) = some 0 := by decide +kernel
abbrev rmX9_isMussel : Room := { frames := 1, cells := 0, slots := 0, locals := 22 }
theorem hdX9_isMussel : yX9_isMussel.cls ≠ "java/lang/invoke/MethodHandle" ∧ yX9_isMussel.cls ≠ "java/lang/invoke/VarHandle" ∧ (parseMethodDescriptor yX9_isMussel.desc).map (fun d => d.parameters.length) = some 1 := by decide +kernel
theorem hvX9_isMussel : yX9_isMussel.cls = RX9 ∧ yX9_isMussel.cls ≠ "java/lang/invoke/MethodHandle" ∧ yX9_isMussel.cls ≠ "java/lang/invoke/VarHandle" ∧ (parseMethodDescriptor yX9_isMussel.desc).map (fun d => d.parameters.length) = some 1 := by decide +kernel
abbrev rmX9_isQuestion : Room := { frames := 1, cells := 0, slots := 0, locals := 22 }
theorem hdX9_isQuestion : yX9_isQuestion.cls ≠ "java/lang/invoke/MethodHandle" ∧ yX9_isQuestion.cls ≠ "java/lang/invoke/VarHandle" ∧ (parseMethodDescriptor yX9_isQuestion.desc).map (fun d => d.parameters.length) = some 1 := by decide +kernel
theorem hvX9_isQuestion : yX9_isQuestion.cls = RX9 ∧ yX9_isQuestion.cls ≠ "java/lang/invoke/MethodHandle" ∧ yX9_isQuestion.cls ≠ "java/lang/invoke/VarHandle" ∧ (parseMethodDescriptor yX9_isQuestion.desc).map (fun d => d.parameters.length) = some 1 := by decide +kernel
abbrev rmX9_isFelt : Room := { frames := 0, cells := 0, slots := 0, locals := 0 }
theorem hdX9_isFelt : yX9_isFelt.cls ≠ "java/lang/invoke/MethodHandle" ∧ yX9_isFelt.cls ≠ "java/lang/invoke/VarHandle" ∧ (parseMethodDescriptor yX9_isFelt.desc).map (fun d => d.parameters.length) = some 1 := by decide +kernel
theorem hvX9_isFelt : yX9_isFelt.cls = RX9 ∧ yX9_isFelt.cls ≠ "java/lang/invoke/MethodHandle" ∧ yX9_isFelt.cls ≠ "java/lang/invoke/VarHandle" ∧ (parseMethodDescriptor yX9_isFelt.desc).map (fun d => d.parameters.length) = some 1 := by decide +kernel
abbrev rmX9_felt : Room := { frames := 1, cells := 0, slots := 0, locals := 21 }
theorem hdX9_felt : yX9_felt.cls ≠ "java/lang/invoke/MethodHandle" ∧ yX9_felt.cls ≠ "java/lang/invoke/VarHandle" ∧ (parseMethodDescriptor yX9_felt.desc).map (fun d => d.parameters.length) = some 0 := by decide +kernel
theorem hvX9_felt : yX9_felt.cls = RX9 ∧ yX9_felt.cls ≠ "java/lang/invoke/MethodHandle" ∧ yX9_felt.cls ≠ "java/lang/invoke/VarHandle" ∧ (parseMethodDescriptor yX9_felt.desc).map (fun d => d.parameters.length) = some 0 := by decide +kernel
abbrev rmX9_leanAhead : Room := { frames := 1, cells := 0, slots := 0, locals := 21 }
theorem hdX9_leanAhead : yX9_leanAhead.cls ≠ "java/lang/invoke/MethodHandle" ∧ yX9_leanAhead.cls ≠ "java/lang/invoke/VarHandle" ∧ (parseMethodDescriptor yX9_leanAhead.desc).map (fun d => d.parameters.length) = some 2 := by decide +kernel
theorem hvX9_leanAhead : yX9_leanAhead.cls = RX9 ∧ yX9_leanAhead.cls ≠ "java/lang/invoke/MethodHandle" ∧ yX9_leanAhead.cls ≠ "java/lang/invoke/VarHandle" ∧ (parseMethodDescriptor yX9_leanAhead.desc).map (fun d => d.parameters.length) = some 2 := by decide +kernel
abbrev rmX9_leanBehind : Room := { frames := 1, cells := 0, slots := 0, locals := 21 }
theorem hdX9_leanBehind : yX9_leanBehind.cls ≠ "java/lang/invoke/MethodHandle" ∧ yX9_leanBehind.cls ≠ "java/lang/invoke/VarHandle" ∧ (parseMethodDescriptor yX9_leanBehind.desc).map (fun d => d.parameters.length) = some 2 := by decide +kernel
theorem hvX9_leanBehind : yX9_leanBehind.cls = RX9 ∧ yX9_leanBehind.cls ≠ "java/lang/invoke/MethodHandle" ∧ yX9_leanBehind.cls ≠ "java/lang/invoke/VarHandle" ∧ (parseMethodDescriptor yX9_leanBehind.desc).map (fun d => d.parameters.length) = some 2 := by decide +kernel
abbrev rmX9_pulls : Room := { frames := 2, cells := 0, slots := 0, locals := 43 }
theorem hdX9_pulls : yX9_pulls.cls ≠ "java/lang/invoke/MethodHandle" ∧ yX9_pulls.cls ≠ "java/lang/invoke/VarHandle" ∧ (parseMethodDescriptor yX9_pulls.desc).map (fun d => d.parameters.length) = some 2 := by decide +kernel
theorem hvX9_pulls : yX9_pulls.cls = RX9 ∧ yX9_pulls.cls ≠ "java/lang/invoke/MethodHandle" ∧ yX9_pulls.cls ≠ "java/lang/invoke/VarHandle" ∧ (parseMethodDescriptor yX9_pulls.desc).map (fun d => d.parameters.length) = some 2 := by decide +kernel
abbrev rmX9_sumOf : Room := { frames := 3, cells := 0, slots := 0, locals := 68 }
theorem hdX9_sumOf : yX9_sumOf.cls ≠ "java/lang/invoke/MethodHandle" ∧ yX9_sumOf.cls ≠ "java/lang/invoke/VarHandle" ∧ (parseMethodDescriptor yX9_sumOf.desc).map (fun d => d.parameters.length) = some 1 := by decide +kernel
theorem hvX9_sumOf : yX9_sumOf.cls = RX9 ∧ yX9_sumOf.cls ≠ "java/lang/invoke/MethodHandle" ∧ yX9_sumOf.cls ≠ "java/lang/invoke/VarHandle" ∧ (parseMethodDescriptor yX9_sumOf.desc).map (fun d => d.parameters.length) = some 1 := by decide +kernel
abbrev rmX9_outOf : Room := { frames := 4, cells := 0, slots := 0, locals := 91 }
theorem hdX9_outOf : yX9_outOf.cls ≠ "java/lang/invoke/MethodHandle" ∧ yX9_outOf.cls ≠ "java/lang/invoke/VarHandle" ∧ (parseMethodDescriptor yX9_outOf.desc).map (fun d => d.parameters.length) = some 1 := by decide +kernel
theorem hvX9_outOf : yX9_outOf.cls = RX9 ∧ yX9_outOf.cls ≠ "java/lang/invoke/MethodHandle" ∧ yX9_outOf.cls ≠ "java/lang/invoke/VarHandle" ∧ (parseMethodDescriptor yX9_outOf.desc).map (fun d => d.parameters.length) = some 1 := by decide +kernel
abbrev rmX9_leaning : Room := { frames := 0, cells := 0, slots := 0, locals := 0 }
theorem hdX9_leaning : yX9_leaning.cls ≠ "java/lang/invoke/MethodHandle" ∧ yX9_leaning.cls ≠ "java/lang/invoke/VarHandle" ∧ (parseMethodDescriptor yX9_leaning.desc).map (fun d => d.parameters.length) = some 2 := by decide +kernel
theorem hvX9_leaning : yX9_leaning.cls = RX9 ∧ yX9_leaning.cls ≠ "java/lang/invoke/MethodHandle" ∧ yX9_leaning.cls ≠ "java/lang/invoke/VarHandle" ∧ (parseMethodDescriptor yX9_leaning.desc).map (fun d => d.parameters.length) = some 2 := by decide +kernel
abbrev rmX9_musselNow : Room := { frames := 7, cells := 0, slots := 0, locals := 168 }
theorem hdX9_musselNow : yX9_musselNow.cls ≠ "java/lang/invoke/MethodHandle" ∧ yX9_musselNow.cls ≠ "java/lang/invoke/VarHandle" ∧ (parseMethodDescriptor yX9_musselNow.desc).map (fun d => d.parameters.length) = some 2 := by decide +kernel
theorem hvX9_musselNow : yX9_musselNow.cls = RX9 ∧ yX9_musselNow.cls ≠ "java/lang/invoke/MethodHandle" ∧ yX9_musselNow.cls ≠ "java/lang/invoke/VarHandle" ∧ (parseMethodDescriptor yX9_musselNow.desc).map (fun d => d.parameters.length) = some 2 := by decide +kernel
abbrev rmX9_isTold : Room := { frames := 1, cells := 0, slots := 0, locals := 22 }
theorem hdX9_isTold : yX9_isTold.cls ≠ "java/lang/invoke/MethodHandle" ∧ yX9_isTold.cls ≠ "java/lang/invoke/VarHandle" ∧ (parseMethodDescriptor yX9_isTold.desc).map (fun d => d.parameters.length) = some 1 := by decide +kernel
theorem hvX9_isTold : yX9_isTold.cls = RX9 ∧ yX9_isTold.cls ≠ "java/lang/invoke/MethodHandle" ∧ yX9_isTold.cls ≠ "java/lang/invoke/VarHandle" ∧ (parseMethodDescriptor yX9_isTold.desc).map (fun d => d.parameters.length) = some 1 := by decide +kernel
abbrev rmX9_mussel : Room := { frames := 8, cells := 0, slots := 0, locals := 190 }
theorem hdX9_mussel : yX9_mussel.cls ≠ "java/lang/invoke/MethodHandle" ∧ yX9_mussel.cls ≠ "java/lang/invoke/VarHandle" ∧ (parseMethodDescriptor yX9_mussel.desc).map (fun d => d.parameters.length) = some 2 := by decide +kernel
theorem hvX9_mussel : yX9_mussel.cls = RX9 ∧ yX9_mussel.cls ≠ "java/lang/invoke/MethodHandle" ∧ yX9_mussel.cls ≠ "java/lang/invoke/VarHandle" ∧ (parseMethodDescriptor yX9_mussel.desc).map (fun d => d.parameters.length) = some 2 := by decide +kernel
abbrev rmX9_as : Room := { frames := 2, cells := 0, slots := 0, locals := 43 }
theorem hdX9_as : yX9_as.cls ≠ "java/lang/invoke/MethodHandle" ∧ yX9_as.cls ≠ "java/lang/invoke/VarHandle" ∧ (parseMethodDescriptor yX9_as.desc).map (fun d => d.parameters.length) = some 2 := by decide +kernel
theorem hvX9_as : yX9_as.cls = RX9 ∧ yX9_as.cls ≠ "java/lang/invoke/MethodHandle" ∧ yX9_as.cls ≠ "java/lang/invoke/VarHandle" ∧ (parseMethodDescriptor yX9_as.desc).map (fun d => d.parameters.length) = some 2 := by decide +kernel
abbrev rmX9_questionNow : Room := { frames := 5, cells := 0, slots := 0, locals := 113 }
theorem hdX9_questionNow : yX9_questionNow.cls ≠ "java/lang/invoke/MethodHandle" ∧ yX9_questionNow.cls ≠ "java/lang/invoke/VarHandle" ∧ (parseMethodDescriptor yX9_questionNow.desc).map (fun d => d.parameters.length) = some 2 := by decide +kernel
theorem hvX9_questionNow : yX9_questionNow.cls = RX9 ∧ yX9_questionNow.cls ≠ "java/lang/invoke/MethodHandle" ∧ yX9_questionNow.cls ≠ "java/lang/invoke/VarHandle" ∧ (parseMethodDescriptor yX9_questionNow.desc).map (fun d => d.parameters.length) = some 2 := by decide +kernel
abbrev rmX9_question : Room := { frames := 6, cells := 0, slots := 0, locals := 135 }
theorem hdX9_question : yX9_question.cls ≠ "java/lang/invoke/MethodHandle" ∧ yX9_question.cls ≠ "java/lang/invoke/VarHandle" ∧ (parseMethodDescriptor yX9_question.desc).map (fun d => d.parameters.length) = some 2 := by decide +kernel
theorem hvX9_question : yX9_question.cls = RX9 ∧ yX9_question.cls ≠ "java/lang/invoke/MethodHandle" ∧ yX9_question.cls ≠ "java/lang/invoke/VarHandle" ∧ (parseMethodDescriptor yX9_question.desc).map (fun d => d.parameters.length) = some 2 := by decide +kernel
abbrev rmX9_ask : Room := { frames := 5, cells := 0, slots := 0, locals := 113 }
theorem hdX9_ask : yX9_ask.cls ≠ "java/lang/invoke/MethodHandle" ∧ yX9_ask.cls ≠ "java/lang/invoke/VarHandle" ∧ (parseMethodDescriptor yX9_ask.desc).map (fun d => d.parameters.length) = some 1 := by decide +kernel
theorem hvX9_ask : yX9_ask.cls = RX9 ∧ yX9_ask.cls ≠ "java/lang/invoke/MethodHandle" ∧ yX9_ask.cls ≠ "java/lang/invoke/VarHandle" ∧ (parseMethodDescriptor yX9_ask.desc).map (fun d => d.parameters.length) = some 1 := by decide +kernel
abbrev rmX9_turnTide : Room := { frames := 2, cells := 0, slots := 0, locals := 43 }
theorem hdX9_turnTide : yX9_turnTide.cls ≠ "java/lang/invoke/MethodHandle" ∧ yX9_turnTide.cls ≠ "java/lang/invoke/VarHandle" ∧ (parseMethodDescriptor yX9_turnTide.desc).map (fun d => d.parameters.length) = some 0 := by decide +kernel
theorem hvX9_turnTide : yX9_turnTide.cls = RX9 ∧ yX9_turnTide.cls ≠ "java/lang/invoke/MethodHandle" ∧ yX9_turnTide.cls ≠ "java/lang/invoke/VarHandle" ∧ (parseMethodDescriptor yX9_turnTide.desc).map (fun d => d.parameters.length) = some 0 := by decide +kernel
abbrev rmX9_tide : Room := { frames := 3, cells := 0, slots := 0, locals := 67 }
theorem hdX9_tide : yX9_tide.cls ≠ "java/lang/invoke/MethodHandle" ∧ yX9_tide.cls ≠ "java/lang/invoke/VarHandle" ∧ (parseMethodDescriptor yX9_tide.desc).map (fun d => d.parameters.length) = some 0 := by decide +kernel
theorem hvX9_tide : yX9_tide.cls = RX9 ∧ yX9_tide.cls ≠ "java/lang/invoke/MethodHandle" ∧ yX9_tide.cls ≠ "java/lang/invoke/VarHandle" ∧ (parseMethodDescriptor yX9_tide.desc).map (fun d => d.parameters.length) = some 0 := by decide +kernel
abbrev rmX9_cut : Room := { frames := 2, cells := 0, slots := 0, locals := 43 }
theorem hdX9_cut : yX9_cut.cls ≠ "java/lang/invoke/MethodHandle" ∧ yX9_cut.cls ≠ "java/lang/invoke/VarHandle" ∧ (parseMethodDescriptor yX9_cut.desc).map (fun d => d.parameters.length) = some 1 := by decide +kernel
theorem hvX9_cut : yX9_cut.cls = RX9 ∧ yX9_cut.cls ≠ "java/lang/invoke/MethodHandle" ∧ yX9_cut.cls ≠ "java/lang/invoke/VarHandle" ∧ (parseMethodDescriptor yX9_cut.desc).map (fun d => d.parameters.length) = some 1 := by decide +kernel
abbrev rmX9_tie : Room := { frames := 2, cells := 0, slots := 0, locals := 43 }
theorem hdX9_tie : yX9_tie.cls ≠ "java/lang/invoke/MethodHandle" ∧ yX9_tie.cls ≠ "java/lang/invoke/VarHandle" ∧ (parseMethodDescriptor yX9_tie.desc).map (fun d => d.parameters.length) = some 1 := by decide +kernel
theorem hvX9_tie : yX9_tie.cls = RX9 ∧ yX9_tie.cls ≠ "java/lang/invoke/MethodHandle" ∧ yX9_tie.cls ≠ "java/lang/invoke/VarHandle" ∧ (parseMethodDescriptor yX9_tie.desc).map (fun d => d.parameters.length) = some 1 := by decide +kernel
abbrev rmX9_turn : Room := { frames := 2, cells := 0, slots := 0, locals := 43 }
theorem hdX9_turn : yX9_turn.cls ≠ "java/lang/invoke/MethodHandle" ∧ yX9_turn.cls ≠ "java/lang/invoke/VarHandle" ∧ (parseMethodDescriptor yX9_turn.desc).map (fun d => d.parameters.length) = some 3 := by decide +kernel
theorem hvX9_turn : yX9_turn.cls = RX9 ∧ yX9_turn.cls ≠ "java/lang/invoke/MethodHandle" ∧ yX9_turn.cls ≠ "java/lang/invoke/VarHandle" ∧ (parseMethodDescriptor yX9_turn.desc).map (fun d => d.parameters.length) = some 3 := by decide +kernel
abbrev rmX9_grow : Room := { frames := 2, cells := 0, slots := 0, locals := 43 }
theorem hdX9_grow : yX9_grow.cls ≠ "java/lang/invoke/MethodHandle" ∧ yX9_grow.cls ≠ "java/lang/invoke/VarHandle" ∧ (parseMethodDescriptor yX9_grow.desc).map (fun d => d.parameters.length) = some 2 := by decide +kernel
theorem hvX9_grow : yX9_grow.cls = RX9 ∧ yX9_grow.cls ≠ "java/lang/invoke/MethodHandle" ∧ yX9_grow.cls ≠ "java/lang/invoke/VarHandle" ∧ (parseMethodDescriptor yX9_grow.desc).map (fun d => d.parameters.length) = some 2 := by decide +kernel
abbrev rmX9_orders : Room := { frames := 0, cells := 0, slots := 0, locals := 0 }
theorem hdX9_orders : yX9_orders.cls ≠ "java/lang/invoke/MethodHandle" ∧ yX9_orders.cls ≠ "java/lang/invoke/VarHandle" ∧ (parseMethodDescriptor yX9_orders.desc).map (fun d => d.parameters.length) = some 1 := by decide +kernel
theorem hvX9_orders : yX9_orders.cls = RX9 ∧ yX9_orders.cls ≠ "java/lang/invoke/MethodHandle" ∧ yX9_orders.cls ≠ "java/lang/invoke/VarHandle" ∧ (parseMethodDescriptor yX9_orders.desc).map (fun d => d.parameters.length) = some 1 := by decide +kernel
abbrev rmX9_forBy : Room := { frames := 3, cells := 0, slots := 0, locals := 68 }
theorem hdX9_forBy : yX9_forBy.cls ≠ "java/lang/invoke/MethodHandle" ∧ yX9_forBy.cls ≠ "java/lang/invoke/VarHandle" ∧ (parseMethodDescriptor yX9_forBy.desc).map (fun d => d.parameters.length) = some 2 := by decide +kernel
theorem hvX9_forBy : yX9_forBy.cls = RX9 ∧ yX9_forBy.cls ≠ "java/lang/invoke/MethodHandle" ∧ yX9_forBy.cls ≠ "java/lang/invoke/VarHandle" ∧ (parseMethodDescriptor yX9_forBy.desc).map (fun d => d.parameters.length) = some 2 := by decide +kernel
abbrev rmX9_sayNow : Room := { frames := 4, cells := 0, slots := 0, locals := 93 }
theorem hdX9_sayNow : yX9_sayNow.cls ≠ "java/lang/invoke/MethodHandle" ∧ yX9_sayNow.cls ≠ "java/lang/invoke/VarHandle" ∧ (parseMethodDescriptor yX9_sayNow.desc).map (fun d => d.parameters.length) = some 3 := by decide +kernel
theorem hvX9_sayNow : yX9_sayNow.cls = RX9 ∧ yX9_sayNow.cls ≠ "java/lang/invoke/MethodHandle" ∧ yX9_sayNow.cls ≠ "java/lang/invoke/VarHandle" ∧ (parseMethodDescriptor yX9_sayNow.desc).map (fun d => d.parameters.length) = some 3 := by decide +kernel
abbrev rmX9_say : Room := { frames := 5, cells := 0, slots := 0, locals := 125 }
theorem hdX9_say : yX9_say.cls ≠ "java/lang/invoke/MethodHandle" ∧ yX9_say.cls ≠ "java/lang/invoke/VarHandle" ∧ (parseMethodDescriptor yX9_say.desc).map (fun d => d.parameters.length) = some 3 := by decide +kernel
theorem hvX9_say : yX9_say.cls = RX9 ∧ yX9_say.cls ≠ "java/lang/invoke/MethodHandle" ∧ yX9_say.cls ≠ "java/lang/invoke/VarHandle" ∧ (parseMethodDescriptor yX9_say.desc).map (fun d => d.parameters.length) = some 3 := by decide +kernel
abbrev rmX9_chanceNow : Room := { frames := 3, cells := 0, slots := 0, locals := 68 }
theorem hdX9_chanceNow : yX9_chanceNow.cls ≠ "java/lang/invoke/MethodHandle" ∧ yX9_chanceNow.cls ≠ "java/lang/invoke/VarHandle" ∧ (parseMethodDescriptor yX9_chanceNow.desc).map (fun d => d.parameters.length) = some 3 := by decide +kernel
theorem hvX9_chanceNow : yX9_chanceNow.cls = RX9 ∧ yX9_chanceNow.cls ≠ "java/lang/invoke/MethodHandle" ∧ yX9_chanceNow.cls ≠ "java/lang/invoke/VarHandle" ∧ (parseMethodDescriptor yX9_chanceNow.desc).map (fun d => d.parameters.length) = some 3 := by decide +kernel
abbrev rmX9_chance : Room := { frames := 4, cells := 0, slots := 0, locals := 98 }
theorem hdX9_chance : yX9_chance.cls ≠ "java/lang/invoke/MethodHandle" ∧ yX9_chance.cls ≠ "java/lang/invoke/VarHandle" ∧ (parseMethodDescriptor yX9_chance.desc).map (fun d => d.parameters.length) = some 3 := by decide +kernel
theorem hvX9_chance : yX9_chance.cls = RX9 ∧ yX9_chance.cls ≠ "java/lang/invoke/MethodHandle" ∧ yX9_chance.cls ≠ "java/lang/invoke/VarHandle" ∧ (parseMethodDescriptor yX9_chance.desc).map (fun d => d.parameters.length) = some 3 := by decide +kernel
abbrev rmX9_cutsNow : Room := { frames := 5, cells := 0, slots := 0, locals := 113 }
theorem hdX9_cutsNow : yX9_cutsNow.cls ≠ "java/lang/invoke/MethodHandle" ∧ yX9_cutsNow.cls ≠ "java/lang/invoke/VarHandle" ∧ (parseMethodDescriptor yX9_cutsNow.desc).map (fun d => d.parameters.length) = some 3 := by decide +kernel
theorem hvX9_cutsNow : yX9_cutsNow.cls = RX9 ∧ yX9_cutsNow.cls ≠ "java/lang/invoke/MethodHandle" ∧ yX9_cutsNow.cls ≠ "java/lang/invoke/VarHandle" ∧ (parseMethodDescriptor yX9_cutsNow.desc).map (fun d => d.parameters.length) = some 3 := by decide +kernel
abbrev rmX9_cuts : Room := { frames := 6, cells := 0, slots := 0, locals := 139 }
theorem hdX9_cuts : yX9_cuts.cls ≠ "java/lang/invoke/MethodHandle" ∧ yX9_cuts.cls ≠ "java/lang/invoke/VarHandle" ∧ (parseMethodDescriptor yX9_cuts.desc).map (fun d => d.parameters.length) = some 3 := by decide +kernel
theorem hvX9_cuts : yX9_cuts.cls = RX9 ∧ yX9_cuts.cls ≠ "java/lang/invoke/MethodHandle" ∧ yX9_cuts.cls ≠ "java/lang/invoke/VarHandle" ∧ (parseMethodDescriptor yX9_cuts.desc).map (fun d => d.parameters.length) = some 3 := by decide +kernel
abbrev rmX9_saveLeans : Room := { frames := 0, cells := 0, slots := 0, locals := 0 }
theorem hdX9_saveLeans : yX9_saveLeans.cls ≠ "java/lang/invoke/MethodHandle" ∧ yX9_saveLeans.cls ≠ "java/lang/invoke/VarHandle" ∧ (parseMethodDescriptor yX9_saveLeans.desc).map (fun d => d.parameters.length) = some 0 := by decide +kernel
theorem hvX9_saveLeans : yX9_saveLeans.cls = RX9 ∧ yX9_saveLeans.cls ≠ "java/lang/invoke/MethodHandle" ∧ yX9_saveLeans.cls ≠ "java/lang/invoke/VarHandle" ∧ (parseMethodDescriptor yX9_saveLeans.desc).map (fun d => d.parameters.length) = some 0 := by decide +kernel
abbrev rmX9_loadLeans : Room := { frames := 0, cells := 0, slots := 0, locals := 0 }
theorem hdX9_loadLeans : yX9_loadLeans.cls ≠ "java/lang/invoke/MethodHandle" ∧ yX9_loadLeans.cls ≠ "java/lang/invoke/VarHandle" ∧ (parseMethodDescriptor yX9_loadLeans.desc).map (fun d => d.parameters.length) = some 0 := by decide +kernel
theorem hvX9_loadLeans : yX9_loadLeans.cls = RX9 ∧ yX9_loadLeans.cls ≠ "java/lang/invoke/MethodHandle" ∧ yX9_loadLeans.cls ≠ "java/lang/invoke/VarHandle" ∧ (parseMethodDescriptor yX9_loadLeans.desc).map (fun d => d.parameters.length) = some 0 := by decide +kernel
abbrev rmX9_otherwise : Room := { frames := 0, cells := 0, slots := 0, locals := 0 }
theorem hdX9_otherwise : yX9_otherwise.cls ≠ "java/lang/invoke/MethodHandle" ∧ yX9_otherwise.cls ≠ "java/lang/invoke/VarHandle" ∧ (parseMethodDescriptor yX9_otherwise.desc).map (fun d => d.parameters.length) = some 1 := by decide +kernel
theorem hvX9_otherwise : yX9_otherwise.cls = RX9 ∧ yX9_otherwise.cls ≠ "java/lang/invoke/MethodHandle" ∧ yX9_otherwise.cls ≠ "java/lang/invoke/VarHandle" ∧ (parseMethodDescriptor yX9_otherwise.desc).map (fun d => d.parameters.length) = some 1 := by decide +kernel
abbrev rmX9_turnsNow : Room := { frames := 5, cells := 0, slots := 0, locals := 113 }
theorem hdX9_turnsNow : yX9_turnsNow.cls ≠ "java/lang/invoke/MethodHandle" ∧ yX9_turnsNow.cls ≠ "java/lang/invoke/VarHandle" ∧ (parseMethodDescriptor yX9_turnsNow.desc).map (fun d => d.parameters.length) = some 3 := by decide +kernel
theorem hvX9_turnsNow : yX9_turnsNow.cls = RX9 ∧ yX9_turnsNow.cls ≠ "java/lang/invoke/MethodHandle" ∧ yX9_turnsNow.cls ≠ "java/lang/invoke/VarHandle" ∧ (parseMethodDescriptor yX9_turnsNow.desc).map (fun d => d.parameters.length) = some 3 := by decide +kernel
abbrev rmX9_fewTurns : Room := { frames := 6, cells := 0, slots := 0, locals := 142 }
theorem hdX9_fewTurns : yX9_fewTurns.cls ≠ "java/lang/invoke/MethodHandle" ∧ yX9_fewTurns.cls ≠ "java/lang/invoke/VarHandle" ∧ (parseMethodDescriptor yX9_fewTurns.desc).map (fun d => d.parameters.length) = some 3 := by decide +kernel
theorem hvX9_fewTurns : yX9_fewTurns.cls = RX9 ∧ yX9_fewTurns.cls ≠ "java/lang/invoke/MethodHandle" ∧ yX9_fewTurns.cls ≠ "java/lang/invoke/VarHandle" ∧ (parseMethodDescriptor yX9_fewTurns.desc).map (fun d => d.parameters.length) = some 3 := by decide +kernel
abbrev rmX9_leansTold : Room := { frames := 0, cells := 0, slots := 0, locals := 0 }
theorem hdX9_leansTold : yX9_leansTold.cls ≠ "java/lang/invoke/MethodHandle" ∧ yX9_leansTold.cls ≠ "java/lang/invoke/VarHandle" ∧ (parseMethodDescriptor yX9_leansTold.desc).map (fun d => d.parameters.length) = some 0 := by decide +kernel
theorem hvX9_leansTold : yX9_leansTold.cls = RX9 ∧ yX9_leansTold.cls ≠ "java/lang/invoke/MethodHandle" ∧ yX9_leansTold.cls ≠ "java/lang/invoke/VarHandle" ∧ (parseMethodDescriptor yX9_leansTold.desc).map (fun d => d.parameters.length) = some 0 := by decide +kernel
abbrev rmX9_settleNow : Room := { frames := 3, cells := 0, slots := 0, locals := 67 }
theorem hdX9_settleNow : yX9_settleNow.cls ≠ "java/lang/invoke/MethodHandle" ∧ yX9_settleNow.cls ≠ "java/lang/invoke/VarHandle" ∧ (parseMethodDescriptor yX9_settleNow.desc).map (fun d => d.parameters.length) = some 1 := by decide +kernel
theorem hvX9_settleNow : yX9_settleNow.cls = RX9 ∧ yX9_settleNow.cls ≠ "java/lang/invoke/MethodHandle" ∧ yX9_settleNow.cls ≠ "java/lang/invoke/VarHandle" ∧ (parseMethodDescriptor yX9_settleNow.desc).map (fun d => d.parameters.length) = some 1 := by decide +kernel
abbrev rmX9_settle : Room := { frames := 4, cells := 0, slots := 0, locals := 91 }
theorem hdX9_settle : yX9_settle.cls ≠ "java/lang/invoke/MethodHandle" ∧ yX9_settle.cls ≠ "java/lang/invoke/VarHandle" ∧ (parseMethodDescriptor yX9_settle.desc).map (fun d => d.parameters.length) = some 1 := by decide +kernel
theorem hvX9_settle : yX9_settle.cls = RX9 ∧ yX9_settle.cls ≠ "java/lang/invoke/MethodHandle" ∧ yX9_settle.cls ≠ "java/lang/invoke/VarHandle" ∧ (parseMethodDescriptor yX9_settle.desc).map (fun d => d.parameters.length) = some 1 := by decide +kernel
abbrev rmX9_see : Room := { frames := 2, cells := 0, slots := 0, locals := 43 }
theorem hdX9_see : yX9_see.cls ≠ "java/lang/invoke/MethodHandle" ∧ yX9_see.cls ≠ "java/lang/invoke/VarHandle" ∧ (parseMethodDescriptor yX9_see.desc).map (fun d => d.parameters.length) = some 3 := by decide +kernel
theorem hvX9_see : yX9_see.cls = RX9 ∧ yX9_see.cls ≠ "java/lang/invoke/MethodHandle" ∧ yX9_see.cls ≠ "java/lang/invoke/VarHandle" ∧ (parseMethodDescriptor yX9_see.desc).map (fun d => d.parameters.length) = some 3 := by decide +kernel
abbrev rmX9_forget : Room := { frames := 0, cells := 0, slots := 0, locals := 0 }
theorem hdX9_forget : yX9_forget.cls ≠ "java/lang/invoke/MethodHandle" ∧ yX9_forget.cls ≠ "java/lang/invoke/VarHandle" ∧ (parseMethodDescriptor yX9_forget.desc).map (fun d => d.parameters.length) = some 0 := by decide +kernel
theorem hvX9_forget : yX9_forget.cls = RX9 ∧ yX9_forget.cls ≠ "java/lang/invoke/MethodHandle" ∧ yX9_forget.cls ≠ "java/lang/invoke/VarHandle" ∧ (parseMethodDescriptor yX9_forget.desc).map (fun d => d.parameters.length) = some 0 := by decide +kernel
abbrev rmX9_laySums : Room := { frames := 4, cells := 0, slots := 0, locals := 91 }
theorem hdX9_laySums : yX9_laySums.cls ≠ "java/lang/invoke/MethodHandle" ∧ yX9_laySums.cls ≠ "java/lang/invoke/VarHandle" ∧ (parseMethodDescriptor yX9_laySums.desc).map (fun d => d.parameters.length) = some 2 := by decide +kernel
theorem hvX9_laySums : yX9_laySums.cls = RX9 ∧ yX9_laySums.cls ≠ "java/lang/invoke/MethodHandle" ∧ yX9_laySums.cls ≠ "java/lang/invoke/VarHandle" ∧ (parseMethodDescriptor yX9_laySums.desc).map (fun d => d.parameters.length) = some 2 := by decide +kernel
abbrev rmX9_leansOf : Room := { frames := 5, cells := 0, slots := 0, locals := 115 }
theorem hdX9_leansOf : yX9_leansOf.cls ≠ "java/lang/invoke/MethodHandle" ∧ yX9_leansOf.cls ≠ "java/lang/invoke/VarHandle" ∧ (parseMethodDescriptor yX9_leansOf.desc).map (fun d => d.parameters.length) = some 2 := by decide +kernel
theorem hvX9_leansOf : yX9_leansOf.cls = RX9 ∧ yX9_leansOf.cls ≠ "java/lang/invoke/MethodHandle" ∧ yX9_leansOf.cls ≠ "java/lang/invoke/VarHandle" ∧ (parseMethodDescriptor yX9_leansOf.desc).map (fun d => d.parameters.length) = some 2 := by decide +kernel
abbrev rmX9_worstOn : Room := { frames := 1, cells := 0, slots := 0, locals := 21 }
theorem hdX9_worstOn : yX9_worstOn.cls ≠ "java/lang/invoke/MethodHandle" ∧ yX9_worstOn.cls ≠ "java/lang/invoke/VarHandle" ∧ (parseMethodDescriptor yX9_worstOn.desc).map (fun d => d.parameters.length) = some 1 := by decide +kernel
theorem hvX9_worstOn : yX9_worstOn.cls = RX9 ∧ yX9_worstOn.cls ≠ "java/lang/invoke/MethodHandle" ∧ yX9_worstOn.cls ≠ "java/lang/invoke/VarHandle" ∧ (parseMethodDescriptor yX9_worstOn.desc).map (fun d => d.parameters.length) = some 1 := by decide +kernel
abbrev rmX9_askOf : Room := { frames := 6, cells := 0, slots := 0, locals := 141 }
theorem hdX9_askOf : yX9_askOf.cls ≠ "java/lang/invoke/MethodHandle" ∧ yX9_askOf.cls ≠ "java/lang/invoke/VarHandle" ∧ (parseMethodDescriptor yX9_askOf.desc).map (fun d => d.parameters.length) = some 1 := by decide +kernel
theorem hvX9_askOf : yX9_askOf.cls = RX9 ∧ yX9_askOf.cls ≠ "java/lang/invoke/MethodHandle" ∧ yX9_askOf.cls ≠ "java/lang/invoke/VarHandle" ∧ (parseMethodDescriptor yX9_askOf.desc).map (fun d => d.parameters.length) = some 1 := by decide +kernel
abbrev rmX9_draw : Room := { frames := 0, cells := 0, slots := 0, locals := 0 }
theorem hdX9_draw : yX9_draw.cls ≠ "java/lang/invoke/MethodHandle" ∧ yX9_draw.cls ≠ "java/lang/invoke/VarHandle" ∧ (parseMethodDescriptor yX9_draw.desc).map (fun d => d.parameters.length) = some 1 := by decide +kernel
theorem hvX9_draw : yX9_draw.cls = RX9 ∧ yX9_draw.cls ≠ "java/lang/invoke/MethodHandle" ∧ yX9_draw.cls ≠ "java/lang/invoke/VarHandle" ∧ (parseMethodDescriptor yX9_draw.desc).map (fun d => d.parameters.length) = some 1 := by decide +kernel
abbrev rmX9_tidesNow : Room := { frames := 5, cells := 0, slots := 0, locals := 113 }
theorem hdX9_tidesNow : yX9_tidesNow.cls ≠ "java/lang/invoke/MethodHandle" ∧ yX9_tidesNow.cls ≠ "java/lang/invoke/VarHandle" ∧ (parseMethodDescriptor yX9_tidesNow.desc).map (fun d => d.parameters.length) = some 3 := by decide +kernel
theorem hvX9_tidesNow : yX9_tidesNow.cls = RX9 ∧ yX9_tidesNow.cls ≠ "java/lang/invoke/MethodHandle" ∧ yX9_tidesNow.cls ≠ "java/lang/invoke/VarHandle" ∧ (parseMethodDescriptor yX9_tidesNow.desc).map (fun d => d.parameters.length) = some 3 := by decide +kernel
abbrev rmX9_tides : Room := { frames := 6, cells := 0, slots := 0, locals := 142 }
theorem hdX9_tides : yX9_tides.cls ≠ "java/lang/invoke/MethodHandle" ∧ yX9_tides.cls ≠ "java/lang/invoke/VarHandle" ∧ (parseMethodDescriptor yX9_tides.desc).map (fun d => d.parameters.length) = some 3 := by decide +kernel
theorem hvX9_tides : yX9_tides.cls = RX9 ∧ yX9_tides.cls ≠ "java/lang/invoke/MethodHandle" ∧ yX9_tides.cls ≠ "java/lang/invoke/VarHandle" ∧ (parseMethodDescriptor yX9_tides.desc).map (fun d => d.parameters.length) = some 3 := by decide +kernel
abbrev rmX9_image : Room := { frames := 0, cells := 0, slots := 0, locals := 0 }
theorem hdX9_image : yX9_image.cls ≠ "java/lang/invoke/MethodHandle" ∧ yX9_image.cls ≠ "java/lang/invoke/VarHandle" ∧ (parseMethodDescriptor yX9_image.desc).map (fun d => d.parameters.length) = some 0 := by decide +kernel
theorem hvX9_image : yX9_image.cls = RX9 ∧ yX9_image.cls ≠ "java/lang/invoke/MethodHandle" ∧ yX9_image.cls ≠ "java/lang/invoke/VarHandle" ∧ (parseMethodDescriptor yX9_image.desc).map (fun d => d.parameters.length) = some 0 := by decide +kernel
abbrev rmX9_restore : Room := { frames := 0, cells := 0, slots := 0, locals := 0 }
theorem hdX9_restore : yX9_restore.cls ≠ "java/lang/invoke/MethodHandle" ∧ yX9_restore.cls ≠ "java/lang/invoke/VarHandle" ∧ (parseMethodDescriptor yX9_restore.desc).map (fun d => d.parameters.length) = some 0 := by decide +kernel
theorem hvX9_restore : yX9_restore.cls = RX9 ∧ yX9_restore.cls ≠ "java/lang/invoke/MethodHandle" ∧ yX9_restore.cls ≠ "java/lang/invoke/VarHandle" ∧ (parseMethodDescriptor yX9_restore.desc).map (fun d => d.parameters.length) = some 0 := by decide +kernel
abbrev rmX9_weights : Room := { frames := 0, cells := 0, slots := 0, locals := 0 }
theorem hdX9_weights : yX9_weights.cls ≠ "java/lang/invoke/MethodHandle" ∧ yX9_weights.cls ≠ "java/lang/invoke/VarHandle" ∧ (parseMethodDescriptor yX9_weights.desc).map (fun d => d.parameters.length) = some 0 := by decide +kernel
theorem hvX9_weights : yX9_weights.cls = RX9 ∧ yX9_weights.cls ≠ "java/lang/invoke/MethodHandle" ∧ yX9_weights.cls ≠ "java/lang/invoke/VarHandle" ∧ (parseMethodDescriptor yX9_weights.desc).map (fun d => d.parameters.length) = some 0 := by decide +kernel
abbrev rmX9_carriedNow : Room := { frames := 5, cells := 0, slots := 0, locals := 113 }
theorem hdX9_carriedNow : yX9_carriedNow.cls ≠ "java/lang/invoke/MethodHandle" ∧ yX9_carriedNow.cls ≠ "java/lang/invoke/VarHandle" ∧ (parseMethodDescriptor yX9_carriedNow.desc).map (fun d => d.parameters.length) = some 0 := by decide +kernel
theorem hvX9_carriedNow : yX9_carriedNow.cls = RX9 ∧ yX9_carriedNow.cls ≠ "java/lang/invoke/MethodHandle" ∧ yX9_carriedNow.cls ≠ "java/lang/invoke/VarHandle" ∧ (parseMethodDescriptor yX9_carriedNow.desc).map (fun d => d.parameters.length) = some 0 := by decide +kernel
abbrev rmX9_howMany : Room := { frames := 6, cells := 0, slots := 0, locals := 135 }
theorem hdX9_howMany : yX9_howMany.cls ≠ "java/lang/invoke/MethodHandle" ∧ yX9_howMany.cls ≠ "java/lang/invoke/VarHandle" ∧ (parseMethodDescriptor yX9_howMany.desc).map (fun d => d.parameters.length) = some 1 := by decide +kernel
theorem hvX9_howMany : yX9_howMany.cls = RX9 ∧ yX9_howMany.cls ≠ "java/lang/invoke/MethodHandle" ∧ yX9_howMany.cls ≠ "java/lang/invoke/VarHandle" ∧ (parseMethodDescriptor yX9_howMany.desc).map (fun d => d.parameters.length) = some 1 := by decide +kernel
abbrev rmX9_count : Room := { frames := 7, cells := 0, slots := 0, locals := 156 }
theorem hdX9_count : yX9_count.cls ≠ "java/lang/invoke/MethodHandle" ∧ yX9_count.cls ≠ "java/lang/invoke/VarHandle" ∧ (parseMethodDescriptor yX9_count.desc).map (fun d => d.parameters.length) = some 1 := by decide +kernel
theorem hvX9_count : yX9_count.cls = RX9 ∧ yX9_count.cls ≠ "java/lang/invoke/MethodHandle" ∧ yX9_count.cls ≠ "java/lang/invoke/VarHandle" ∧ (parseMethodDescriptor yX9_count.desc).map (fun d => d.parameters.length) = some 1 := by decide +kernel
abbrev rmX9_mix : Room := { frames := 0, cells := 0, slots := 0, locals := 0 }
theorem hdX9_mix : yX9_mix.cls ≠ "java/lang/invoke/MethodHandle" ∧ yX9_mix.cls ≠ "java/lang/invoke/VarHandle" ∧ (parseMethodDescriptor yX9_mix.desc).map (fun d => d.parameters.length) = some 1 := by decide +kernel
theorem hvX9_mix : yX9_mix.cls = RX9 ∧ yX9_mix.cls ≠ "java/lang/invoke/MethodHandle" ∧ yX9_mix.cls ≠ "java/lang/invoke/VarHandle" ∧ (parseMethodDescriptor yX9_mix.desc).map (fun d => d.parameters.length) = some 1 := by decide +kernel
abbrev rmX9_mixQuestion : Room := { frames := 6, cells := 0, slots := 0, locals := 139 }
theorem hdX9_mixQuestion : yX9_mixQuestion.cls ≠ "java/lang/invoke/MethodHandle" ∧ yX9_mixQuestion.cls ≠ "java/lang/invoke/VarHandle" ∧ (parseMethodDescriptor yX9_mixQuestion.desc).map (fun d => d.parameters.length) = some 1 := by decide +kernel
theorem hvX9_mixQuestion : yX9_mixQuestion.cls = RX9 ∧ yX9_mixQuestion.cls ≠ "java/lang/invoke/MethodHandle" ∧ yX9_mixQuestion.cls ≠ "java/lang/invoke/VarHandle" ∧ (parseMethodDescriptor yX9_mixQuestion.desc).map (fun d => d.parameters.length) = some 1 := by decide +kernel
abbrev rmX9_digest : Room := { frames := 8, cells := 0, slots := 0, locals := 190 }
theorem hdX9_digest : yX9_digest.cls ≠ "java/lang/invoke/MethodHandle" ∧ yX9_digest.cls ≠ "java/lang/invoke/VarHandle" ∧ (parseMethodDescriptor yX9_digest.desc).map (fun d => d.parameters.length) = some 0 := by decide +kernel
theorem hvX9_digest : yX9_digest.cls = RX9 ∧ yX9_digest.cls ≠ "java/lang/invoke/MethodHandle" ∧ yX9_digest.cls ≠ "java/lang/invoke/VarHandle" ∧ (parseMethodDescriptor yX9_digest.desc).map (fun d => d.parameters.length) = some 0 := by decide +kernel
end
section
theorem isin_lt {x k : Nat} (h : x < 2 ^ 31) : x / 2 ^ k &&& 1 < 2 ^ 31 := by rw [and1]; omega
theorem isin_1 {x k : Nat} (h : x / 2 ^ k &&& 1 = 1) : (1 : Int32) = if x.testBit k = true then 1 else 0 := by rw [if_pos ((tb_div x k).mpr (by rw [← and1]; exact h))]
theorem isin_0 {x k : Nat} (h : ¬ x / 2 ^ k &&& 1 = 1) : (0 : Int32) = if x.testBit k = true then 1 else 0 := by rw [if_neg (fun q => h (by rw [and1]; exact (tb_div x k).mp q))]
def fac : Nat → Nat
  | 0 => 1
  | n + 1 => fac n * (n + 1)
set_option maxHeartbeats 4000000 in
set_option maxRecDepth 100000 in
theorem kX9_within (l : Launch) (D : va_G) (ct : Nat → ClassId) (v lo hi : Int32) : MI l yX9_within (gWs yX9_within cX9_within 3 (some .boolean)) rmX9_within D ct gNo [.int v, .int lo, .int hi] [] (fun _ : Unit => []) (fun r _ => r = (if lo ≤ v ∧ v ≤ hi then 1 else 0)) := by
  refine MI.ofZ RX9 rfl (by decide) (Nat.le_of_ble_eq_true rfl) ?_
  intro zp ze zs zm za zb zt zc zA ls zQ C h hX hl hret
  have hx := C.1
  have hb := C.2.1
  have hl : lv_has ls 3 [(0, .int v), (1, .int lo), (2, .int hi)] := hl
  refine lv_iload_n hx hb dX9_within_0 rfl (lv_at hl 0 rfl) ?_
  refine lv_iload_n hx hb dX9_within_1 rfl (lv_at hl 1 rfl) ?_
  refine lv_icmp_lt (tgt := 14) hx hb dX9_within_2 (by decide) (fun c_2 => ?_) (fun c_2 => ?_)
  · refine lv_iconst (v := 0) hx hb dX9_within_14 (by decide) ?_
    exact hret _ () _ _ _ _ h (by first | exact (if_pos ⟨Int32.not_lt.mp c_2, Int32.not_lt.mp c_7⟩).symm | exact (if_neg (fun q => Int32.not_lt.mpr q.1 c_2)).symm | exact (if_neg (fun q => Int32.not_lt.mpr q.2 c_7)).symm) dX9_within_15 (by decide)
  · refine lv_iload_n hx hb dX9_within_5 rfl (lv_at hl 0 rfl) ?_
    refine lv_iload_n hx hb dX9_within_6 rfl (lv_at hl 2 rfl) ?_
    refine lv_icmp_gt (tgt := 14) hx hb dX9_within_7 (by decide) (fun c_7 => ?_) (fun c_7 => ?_)
    · refine lv_iconst (v := 0) hx hb dX9_within_14 (by decide) ?_
      exact hret _ () _ _ _ _ h (by first | exact (if_pos ⟨Int32.not_lt.mp c_2, Int32.not_lt.mp c_7⟩).symm | exact (if_neg (fun q => Int32.not_lt.mpr q.1 c_2)).symm | exact (if_neg (fun q => Int32.not_lt.mpr q.2 c_7)).symm) dX9_within_15 (by decide)
    · refine lv_iconst (v := 1) hx hb dX9_within_10 (by decide) ?_
      refine lv_goto (tgt := 15) hx hb dX9_within_11 (by decide) ?_
      exact hret _ () _ _ _ _ h (by first | exact (if_pos ⟨Int32.not_lt.mp c_2, Int32.not_lt.mp c_7⟩).symm | exact (if_neg (fun q => Int32.not_lt.mpr q.1 c_2)).symm | exact (if_neg (fun q => Int32.not_lt.mpr q.2 c_7)).symm) dX9_within_15 (by decide)
set_option maxHeartbeats 4000000 in
set_option maxRecDepth 100000 in
theorem kX9_isIn (l : Launch) (D : va_G) (ct : Nat → ClassId) (x k : Nat) (hx1 : x < 2 ^ 31) (hk1 : k < 32) : MI l yX9_isIn (gWs yX9_isIn cX9_isIn 2 (some .boolean)) rmX9_isIn D ct gNo [.int (nI x), .int (nI k)] [] (fun _ : Unit => []) (fun r _ => r = (if x.testBit k = true then 1 else 0)) := by
  refine MI.ofZ RX9 rfl (by decide) (Nat.le_of_ble_eq_true rfl) ?_
  intro zp ze zs zm za zb zt zc zA ls zQ C h hX hl hret
  have hx := C.1
  have hb := C.2.1
  have hl : lv_has ls 2 [(0, .int (nI x)), (1, .int (nI k))] := hl
  refine lv_iload_n hx hb dX9_isIn_0 rfl (lv_at hl 0 rfl) ?_
  refine lv_iload_n hx hb dX9_isIn_1 rfl (lv_at hl 1 rfl) ?_
  refine nshr hx hb x k (by omega) (by omega) dX9_isIn_2 ?_
  refine lv_iconst (v := 1) hx hb dX9_isIn_3 (by decide) ?_
  refine nand hx hb (x / 2 ^ k) 1 dX9_isIn_4 ?_
  refine lv_iconst (v := 1) hx hb dX9_isIn_5 (by decide) ?_
  refine nb_ne hx hb ((x / 2 ^ k) &&& 1) 1 (isin_lt hx1) (by omega) (tgt := 13) dX9_isIn_6 (by decide) (fun c_6 => ?_) (fun c_6 => ?_)
  · refine lv_iconst (v := 0) hx hb dX9_isIn_13 (by decide) ?_
    exact hret _ () _ _ _ _ h (isin_0 c_6) dX9_isIn_14 (by decide)
  · refine lv_iconst (v := 1) hx hb dX9_isIn_9 (by decide) ?_
    refine lv_goto (tgt := 14) hx hb dX9_isIn_10 (by decide) ?_
    exact hret _ () _ _ _ _ h (isin_1 c_6) dX9_isIn_14 (by decide)
set_option maxHeartbeats 4000000 in
set_option maxRecDepth 100000 in
theorem kX9_size (l : Launch) (D : va_G) (ct : Nat → ClassId) (b : Nat) (hb1 : b < 2 ^ 31) : MI l yX9_size (gWs yX9_size cX9_size 3 (some .int)) rmX9_size D ct gNo [.int (nI b)] [] (fun _ : Unit => []) (fun r _ => r = nI (pcn b 8)) := by
  refine MI.ofI RX9 rfl (by decide) (Nat.le_of_ble_eq_true rfl) ?_
  intro zp ze zs zm za zb zt zc zA ls zQ C h hX hl hret
  have hx := C.1
  have hb := C.2.1
  have hl : lv_has ls 3 [(0, .int (nI b))] := hl
  refine lv_iconst (v := 0) hx hb dX9_size_0 (by decide) ?_
  refine lv_istore_n (lv' := [(1, .int 0), (0, .int (nI b))]) hx hb dX9_size_1 rfl hl (by decide) rfl (fun ls hl => ?_)
  refine lv_iconst (v := 0) hx hb dX9_size_2 (by decide) ?_
  refine lv_istore_n (lv' := [(2, .int 0), (1, .int 0), (0, .int (nI b))]) hx hb dX9_size_3 rfl hl (by decide) rfl (fun ls hl => ?_)
  have L4_0 : ∀ (k : Nat) (i : Nat) (H : Heap) (ll : List Loc) (ls : Array Slot), 8 - i = k → (i ≤ 8) → gW D ct zA zs H ll ([]) → lv_has ls 3 [(2, .int (nI i)), (1, .int (nI (pcn b i))), (0, .int (nI b))] → W zp l ze rmX9_size zs zm za zb zt zc H ll 0 0 zQ (F0 zm 4 ls []) := by
    intro k
    induction k using Nat.strongRecOn with
    | _ k ih =>
    intro i H ll ls hk hi h hl
    refine lv_iload_n hx hb dX9_size_4 rfl (lv_at hl 0 rfl) ?_
    refine lv_bipush (v := 8) hx hb dX9_size_5 (by decide) ?_
    refine nb_ge hx hb i 8 (by omega) (by omega) (tgt := 24) dX9_size_7 (by decide) (fun c_7 => ?_) (fun c_7 => ?_)
    · refine lv_iload_n hx hb dX9_size_24 rfl (lv_at hl 1 rfl) ?_
      exact hret _ () _ _ _ _ h (by rw [show i = 8 by omega]) dX9_size_25
    · refine lv_iload_n hx hb dX9_size_10 rfl (lv_at hl 1 rfl) ?_
      refine lv_iload_n hx hb dX9_size_11 rfl (lv_at hl 2 rfl) ?_
      refine lv_iload_n hx hb dX9_size_12 rfl (lv_at hl 0 rfl) ?_
      refine nshr hx hb b i (by omega) (by omega) dX9_size_13 ?_
      refine lv_iconst (v := 1) hx hb dX9_size_14 (by decide) ?_
      refine nand hx hb (b / 2 ^ i) 1 dX9_size_15 ?_
      refine nadd hx hb (pcn b i) ((b / 2 ^ i) &&& 1) dX9_size_16 ?_
      refine lv_istore_n (lv' := [(1, .int (nI ((pcn b i) + ((b / 2 ^ i) &&& 1)))), (2, .int (nI i)), (0, .int (nI b))]) hx hb dX9_size_17 rfl hl (by decide) rfl (fun ls hl => ?_)
      refine ninc (lv' := [(2, .int (nI (i + 1))), (1, .int (nI ((pcn b i) + ((b / 2 ^ i) &&& 1)))), (0, .int (nI b))]) hx hb i 1 dX9_size_18 hl (k := 1) rfl (by decide) rfl (fun ls hl => ?_)
      refine lv_goto (tgt := 4) hx hb dX9_size_21 (by decide) ?_
      have hl : lv_has ls 3 [(2, .int (nI (i + 1))), (1, .int (nI (pcn b (i + 1)))), (0, .int (nI b))] := by rw [and1] at hl; exact hl
      exact ih _ (by omega) (i + 1) _ _ _ rfl (by omega) h (lv_sub hl [0, 1, 2] rfl)
  exact L4_0 _ 0 _ _ _ rfl (by omega) h (lv_sub hl [0, 1, 2] rfl)
set_option maxHeartbeats 4000000 in
set_option maxRecDepth 100000 in
theorem kX9_orders (l : Launch) (D : va_G) (ct : Nat → ClassId) (n : Nat) (hn1 : n < 100) : MI l yX9_orders (gWs yX9_orders cX9_orders 3 (some .int)) rmX9_orders D ct gNo [.int (nI n)] [] (fun _ : Unit => []) (fun r _ => r = nI (fac n)) := by
  refine MI.ofI RX9 rfl (by decide) (Nat.le_of_ble_eq_true rfl) ?_
  intro zp ze zs zm za zb zt zc zA ls zQ C h hX hl hret
  have hx := C.1
  have hb := C.2.1
  have hl : lv_has ls 3 [(0, .int (nI n))] := hl
  refine lv_iconst (v := 1) hx hb dX9_orders_0 (by decide) ?_
  refine lv_istore_n (lv' := [(1, .int 1), (0, .int (nI n))]) hx hb dX9_orders_1 rfl hl (by decide) rfl (fun ls hl => ?_)
  refine lv_iconst (v := 2) hx hb dX9_orders_2 (by decide) ?_
  refine lv_istore_n (lv' := [(2, .int 2), (1, .int 1), (0, .int (nI n))]) hx hb dX9_orders_3 rfl hl (by decide) rfl (fun ls hl => ?_)
  have L4_0 : ∀ (k : Nat) (i : Nat) (H : Heap) (ll : List Loc) (ls : Array Slot), n - i = k → (i + 1 ≤ n ∨ i = 0) → gW D ct zA zs H ll ([]) → lv_has ls 3 [(2, .int (nI (i + 2))), (1, .int (nI (fac (i + 1)))), (0, .int (nI n))] → W zp l ze rmX9_orders zs zm za zb zt zc H ll 0 0 zQ (F0 zm 4 ls []) := by
    intro k
    induction k using Nat.strongRecOn with
    | _ k ih =>
    intro i H ll ls hk hi h hl
    refine lv_iload_n hx hb dX9_orders_4 rfl (lv_at hl 0 rfl) ?_
    refine lv_iload_n hx hb dX9_orders_5 rfl (lv_at hl 2 rfl) ?_
    refine nb_gt hx hb (i + 2) n (by omega) (by omega) (tgt := 19) dX9_orders_6 (by decide) (fun c_6 => ?_) (fun c_6 => ?_)
    · refine lv_iload_n hx hb dX9_orders_19 rfl (lv_at hl 1 rfl) ?_
      exact hret _ () _ _ _ _ h (by rcases hi with hi | hi; (rw [show i + 1 = n by omega]); (subst hi; rcases (show n = 0 ∨ n = 1 by omega) with q | q <;> rw [q] <;> rfl)) dX9_orders_20
    · refine lv_iload_n hx hb dX9_orders_9 rfl (lv_at hl 1 rfl) ?_
      refine lv_iload_n hx hb dX9_orders_10 rfl (lv_at hl 0 rfl) ?_
      refine nmul hx hb (fac (i + 1)) (i + 2) dX9_orders_11 ?_
      refine lv_istore_n (lv' := [(1, .int (nI ((fac (i + 1)) * (i + 2)))), (2, .int (nI (i + 2))), (0, .int (nI n))]) hx hb dX9_orders_12 rfl hl (by decide) rfl (fun ls hl => ?_)
      refine ninc (lv' := [(2, .int (nI (i + 2 + 1))), (1, .int (nI ((fac (i + 1)) * (i + 2)))), (0, .int (nI n))]) hx hb (i + 2) 1 dX9_orders_13 hl (k := 1) rfl (by decide) rfl (fun ls hl => ?_)
      refine lv_goto (tgt := 4) hx hb dX9_orders_16 (by decide) ?_
      exact ih _ (by omega) (i + 1) _ _ _ rfl (by omega) h (lv_sub hl [0, 1, 2] rfl)
  exact L4_0 _ 0 _ _ _ rfl (by omega) h (lv_sub hl [0, 1, 2] rfl)
end
section
theorem sgP {x : Int32} (h : ¬ x ≤ 0) : (1 : Int32) = sgn x := by rw [sgn, if_pos (Int32.not_le.mp h)]
theorem sgN {x : Int32} (h : x ≤ 0) (h2 : ¬ 0 ≤ x) : (-1 : Int32) = sgn x := by rw [sgn, if_neg (Int32.not_lt.mpr h), if_pos (Int32.not_le.mp h2)]
theorem sgZ {x : Int32} (h : x ≤ 0) (h2 : 0 ≤ x) : (0 : Int32) = sgn x := by rw [sgn, if_neg (Int32.not_lt.mpr h), if_neg (Int32.not_lt.mpr h2)]
def cntTo (P : Nat → Prop) [DecidablePred P] : Nat → Nat
  | 0 => 0
  | n + 1 => cntTo P n + (if P n then 1 else 0)
set_option maxHeartbeats 4000000 in
set_option maxRecDepth 100000 in
theorem kX9_isMussel (l : Launch) (D : va_G) (ct : Nat → ClassId) (ad : Nat → Nat) (σ : Nat → Nat → Int32) (τ : Nat → Nat → Int64) (n : Nat) (hn : σ 1 0 = nI n) (hn8 : n ≤ 8) (mu : Int32) : MI l yX9_isMussel (gWs yX9_isMussel cX9_isMussel 2 (some .boolean)) rmX9_isMussel D ct gNo [.ref (ad 0), .int mu] (wM ad ct σ τ) (fun _ : Unit => (wM ad ct σ τ)) (fun r _ => r = (if 0 ≤ mu ∧ mu ≤ nI n - 1 then 1 else 0)) := by
  refine MI.ofZ RX9 rfl (by decide) (Nat.le_of_ble_eq_true rfl) ?_
  intro zp ze zs zm za zb zt zc zA ls zQ C h hX hl hret
  have hx := C.1
  have hb := C.2.1
  have hl : lv_has ls 2 [(0, .ref (ad 0)), (1, .int mu)] := hl
  refine lv_iload_n hx hb dX9_isMussel_0 rfl (lv_at hl 1 rfl) ?_
  refine lv_iconst (v := 0) hx hb dX9_isMussel_1 (by decide) ?_
  refine lv_aload_n hx hb dX9_isMussel_2 rfl (lv_at hl 0 rfl) ?_
  refine mg_mussels C h dX9_isMussel_3 ?_
  refine gas hn ?_
  refine lv_iconst (v := 1) hx hb dX9_isMussel_6 (by decide) ?_
  refine lv_isub hx hb dX9_isMussel_7 ?_
  refine gcallSi C h (kX9_within l D ct mu 0 ((nI n) - 1)) (va_cwS 3 C.2.2.2.2 (gInS q817 q818 q66 q819) rfl rfl rfl hdX9_within ⟨Nat.le_of_ble_eq_true rfl, Nat.le_of_ble_eq_true rfl⟩) rfl hl.1 rfl (Nat.le_of_ble_eq_true rfl) dX9_isMussel_8 ⟨Nat.zero_le _, Nat.zero_le _⟩ (fun H ll h => ?_)
  exact hret _ () _ _ _ _ h rfl dX9_isMussel_11 (gnz _)
set_option maxHeartbeats 4000000 in
set_option maxRecDepth 100000 in
theorem kX9_isQuestion (l : Launch) (D : va_G) (ct : Nat → ClassId) (ad : Nat → Nat) (σ : Nat → Nat → Int32) (τ : Nat → Nat → Int64) (n : Nat) (hn : σ 1 0 = nI n) (hn8 : n ≤ 8) (qu : Int32) : MI l yX9_isQuestion (gWs yX9_isQuestion cX9_isQuestion 2 (some .boolean)) rmX9_isQuestion D ct gNo [.ref (ad 0), .int qu] (wM ad ct σ τ) (fun _ : Unit => (wM ad ct σ τ)) (fun r _ => r = (if 0 < n ∧ 0 ≤ qu ∧ qu ≤ 2 then 1 else 0)) := by
  refine MI.ofZ RX9 rfl (by decide) (Nat.le_of_ble_eq_true rfl) ?_
  intro zp ze zs zm za zb zt zc zA ls zQ C h hX hl hret
  have hx := C.1
  have hb := C.2.1
  have hl : lv_has ls 2 [(0, .ref (ad 0)), (1, .int qu)] := hl
  refine lv_aload_n hx hb dX9_isQuestion_0 rfl (lv_at hl 0 rfl) ?_
  refine mg_mussels C h dX9_isQuestion_1 ?_
  refine gas hn ?_
  refine nz_le hx hb n (by omega) (tgt := 20) dX9_isQuestion_4 (by decide) (fun c_4 => ?_) (fun c_4 => ?_)
  · refine lv_iconst (v := 0) hx hb dX9_isQuestion_20 (by decide) ?_
    exact hret _ () _ _ _ _ h (by first | exact (if_pos ⟨c_4, c_13⟩).symm | exact (if_neg (fun q => absurd q.1 (by omega))).symm | exact (if_neg (fun q => c_13 q.2)).symm) dX9_isQuestion_21 (by decide)
  · refine lv_iload_n hx hb dX9_isQuestion_7 rfl (lv_at hl 1 rfl) ?_
    refine lv_iconst (v := 0) hx hb dX9_isQuestion_8 (by decide) ?_
    refine lv_iconst (v := 2) hx hb dX9_isQuestion_9 (by decide) ?_
    refine gcallSi C h (kX9_within l D ct qu 0 2) (va_cwS 3 C.2.2.2.2 (gInS q817 q818 q66 q819) rfl rfl rfl hdX9_within ⟨Nat.le_of_ble_eq_true rfl, Nat.le_of_ble_eq_true rfl⟩) rfl hl.1 rfl (Nat.le_of_ble_eq_true rfl) dX9_isQuestion_10 ⟨Nat.zero_le _, Nat.zero_le _⟩ (fun H ll h => ?_)
    refine bz_eq hx hb (0 ≤ qu ∧ qu ≤ 2) (tgt := 20) dX9_isQuestion_13 (by decide) (fun c_13 => ?_) (fun c_13 => ?_)
    · refine lv_iconst (v := 0) hx hb dX9_isQuestion_20 (by decide) ?_
      exact hret _ () _ _ _ _ h (by first | exact (if_pos ⟨c_4, c_13⟩).symm | exact (if_neg (fun q => absurd q.1 (by omega))).symm | exact (if_neg (fun q => c_13 q.2)).symm) dX9_isQuestion_21 (by decide)
    · refine lv_iconst (v := 1) hx hb dX9_isQuestion_16 (by decide) ?_
      refine lv_goto (tgt := 21) hx hb dX9_isQuestion_17 (by decide) ?_
      exact hret _ () _ _ _ _ h (by first | exact (if_pos ⟨c_4, c_13⟩).symm | exact (if_neg (fun q => absurd q.1 (by omega))).symm | exact (if_neg (fun q => c_13 q.2)).symm) dX9_isQuestion_21 (by decide)
set_option maxHeartbeats 4000000 in
set_option maxRecDepth 100000 in
theorem kX9_isFelt (l : Launch) (D : va_G) (ct : Nat → ClassId) (ad : Nat → Nat) (σ : Nat → Nat → Int32) (τ : Nat → Nat → Int64) (n c : Nat) (kd : Nat → Nat) (hok : MOK σ n c kd) (m : Nat) (hm : m < 8) : MI l yX9_isFelt (gWs yX9_isFelt cX9_isFelt 2 (some .boolean)) rmX9_isFelt D ct gNo [.ref (ad 0), .int (nI m)] (wM ad ct σ τ) (fun _ : Unit => (wM ad ct σ τ)) (fun r _ => r = (if c % 2 ^ (m + 1) = 0 then 1 else 0)) := by
  refine MI.ofZ RX9 rfl (by decide) (Nat.le_of_ble_eq_true rfl) ?_
  intro zp ze zs zm za zb zt zc zA ls zQ C h hX hl hret
  have hx := C.1
  have hb := C.2.1
  have hl : lv_has ls 2 [(0, .ref (ad 0)), (1, .int (nI m))] := hl
  have hok0 := hok
  obtain ⟨hn, hn8, hc, hc8, hkd⟩ := hok0
  refine lv_aload_n hx hb dX9_isFelt_0 rfl (lv_at hl 0 rfl) ?_
  refine mg_cutThreads C h dX9_isFelt_1 ?_
  refine gas hc ?_
  refine lv_iconst (v := 2) hx hb dX9_isFelt_4 (by decide) ?_
  refine lv_iload_n hx hb dX9_isFelt_5 rfl (lv_at hl 1 rfl) ?_
  refine nshl hx hb 2 m (by omega) (by have := pow_lt8 m (by omega); omega) dX9_isFelt_6 ?_
  refine lv_iconst (v := 1) hx hb dX9_isFelt_7 (by decide) ?_
  refine nsub hx hb (2 * 2 ^ m) 1 (by have := pow_pos2 m; omega) dX9_isFelt_8 ?_
  refine nand hx hb c ((2 * 2 ^ m) - 1) dX9_isFelt_9 ?_
  refine nz_ne hx hb (c &&& ((2 * 2 ^ m) - 1)) (Nat.lt_of_le_of_lt Nat.and_le_left (by omega)) (tgt := 17) dX9_isFelt_10 (by decide) (fun c_10 => ?_) (fun c_10 => ?_)
  · refine lv_iconst (v := 0) hx hb dX9_isFelt_17 (by decide) ?_
    exact hret _ () _ _ _ _ h (by rw [feltN] at c_10; first | exact (if_pos c_10).symm | exact (if_neg c_10).symm) dX9_isFelt_18 (by decide)
  · refine lv_iconst (v := 1) hx hb dX9_isFelt_13 (by decide) ?_
    refine lv_goto (tgt := 18) hx hb dX9_isFelt_14 (by decide) ?_
    exact hret _ () _ _ _ _ h (by rw [feltN] at c_10; first | exact (if_pos c_10).symm | exact (if_neg c_10).symm) dX9_isFelt_18 (by decide)
set_option maxHeartbeats 4000000 in
set_option maxRecDepth 100000 in
theorem kX9_felt (l : Launch) (D : va_G) (ct : Nat → ClassId) (ad : Nat → Nat) (σ : Nat → Nat → Int32) (τ : Nat → Nat → Int64) (n c : Nat) (kd : Nat → Nat) (hok : MOK σ n c kd)  : MI l yX9_felt (gWs yX9_felt cX9_felt 3 (some .int)) rmX9_felt D ct gNo [.ref (ad 0)] (wM ad ct σ τ) (fun _ : Unit => (wM ad ct σ τ)) (fun r _ => r = nI (fbits c n)) := by
  refine MI.ofI RX9 rfl (by decide) (Nat.le_of_ble_eq_true rfl) ?_
  intro zp ze zs zm za zb zt zc zA ls zQ C h hX hl hret
  have hx := C.1
  have hb := C.2.1
  have hl : lv_has ls 3 [(0, .ref (ad 0))] := hl
  have hok0 := hok
  obtain ⟨hn, hn8, hc, hc8, hkd⟩ := hok0
  refine lv_iconst (v := 0) hx hb dX9_felt_0 (by decide) ?_
  refine lv_istore_n (lv' := [(1, .int 0), (0, .ref (ad 0))]) hx hb dX9_felt_1 rfl hl (by decide) rfl (fun ls hl => ?_)
  refine lv_iconst (v := 0) hx hb dX9_felt_2 (by decide) ?_
  refine lv_istore_n (lv' := [(2, .int 0), (1, .int 0), (0, .ref (ad 0))]) hx hb dX9_felt_3 rfl hl (by decide) rfl (fun ls hl => ?_)
  have L4_0 : ∀ (k : Nat) (i : Nat) (H : Heap) (ll : List Loc) (ls : Array Slot), n - i = k → (i ≤ n) → gW D ct zA zs H ll (wM ad ct σ τ) → lv_has ls 3 [(2, .int (nI i)), (1, .int (nI (fbits c i))), (0, .ref (ad 0))] → W zp l ze rmX9_felt zs zm za zb zt zc H ll 0 0 zQ (F0 zm 4 ls []) := by
    intro k
    induction k using Nat.strongRecOn with
    | _ k ih =>
    intro i H ll ls hk hi h hl
    refine lv_iload_n hx hb dX9_felt_4 rfl (lv_at hl 0 rfl) ?_
    refine lv_aload_n hx hb dX9_felt_5 rfl (lv_at hl 2 rfl) ?_
    refine mg_mussels C h dX9_felt_6 ?_
    refine gas hn ?_
    refine nb_ge hx hb i n (by omega) (by omega) (tgt := 36) dX9_felt_9 (by decide) (fun c_9 => ?_) (fun c_9 => ?_)
    · refine lv_iload_n hx hb dX9_felt_36 rfl (lv_at hl 1 rfl) ?_
      exact hret _ () _ _ _ _ h (by rw [show i = n by omega]) dX9_felt_37
    · refine lv_iload_n hx hb dX9_felt_12 rfl (lv_at hl 1 rfl) ?_
      refine lv_aload_n hx hb dX9_felt_13 rfl (lv_at hl 2 rfl) ?_
      refine lv_iload_n hx hb dX9_felt_14 rfl (lv_at hl 0 rfl) ?_
      refine gcallVi C h trivial gNo_ok (kX9_isFelt l D ct ad σ τ n c kd hok i (by omega)) (cwV 1 C.2.2.2.2 (gInV q877 q879 q27 q66 q880) rfl rfl rfl hvX9_isFelt ⟨Nat.le_of_ble_eq_true rfl, Nat.le_of_ble_eq_true rfl⟩) 0 (wM_o ad ct σ τ) rfl rfl rfl hl.1 rfl (Nat.le_of_ble_eq_true rfl) dX9_felt_15 ⟨Nat.zero_le _, Nat.zero_le _⟩ (fun r u H ll hw h => ?_)
      have hw : r = (if c % 2 ^ (i + 1) = 0 then 1 else 0) := hw
      subst hw
      have h : gW D ct zA zs H ll (wM ad ct σ τ) := h
      refine bz_eq hx hb (c % 2 ^ (i + 1) = 0) (tgt := 27) dX9_felt_18 (by decide) (fun c_18 => ?_) (fun c_18 => ?_)
      · refine lv_iconst (v := 0) hx hb dX9_felt_27 (by decide) ?_
        refine nor hx hb (fbits c i) 0 dX9_felt_28 ?_
        refine lv_istore_n (lv' := [(1, .int (nI ((fbits c i) ||| 0))), (2, .int (nI i)), (0, .ref (ad 0))]) hx hb dX9_felt_29 rfl hl (by decide) rfl (fun ls hl => ?_)
        refine ninc (lv' := [(2, .int (nI (i + 1))), (1, .int (nI ((fbits c i) ||| 0))), (0, .ref (ad 0))]) hx hb i 1 dX9_felt_30 hl (k := 1) rfl (by decide) rfl (fun ls hl => ?_)
        refine lv_goto (tgt := 4) hx hb dX9_felt_33 (by decide) ?_
        have e9 : fbits c (i + 1) = (fbits c i) ||| 0 := by simp [fbits, c_18]
        rw [← e9] at hl
        exact ih _ (by omega) (i + 1) _ _ _ rfl (by omega) h (lv_sub hl [0, 1, 2] rfl)
      · refine lv_iconst (v := 1) hx hb dX9_felt_21 (by decide) ?_
        refine lv_iload_n hx hb dX9_felt_22 rfl (lv_at hl 0 rfl) ?_
        refine nshl hx hb 1 i (by omega) (by have := pow_lt8 i (by omega); omega) dX9_felt_23 ?_
        refine lv_goto (tgt := 28) hx hb dX9_felt_24 (by decide) ?_
        refine nor hx hb (fbits c i) (1 * 2 ^ i) dX9_felt_28 ?_
        refine lv_istore_n (lv' := [(1, .int (nI ((fbits c i) ||| (1 * 2 ^ i)))), (2, .int (nI i)), (0, .ref (ad 0))]) hx hb dX9_felt_29 rfl hl (by decide) rfl (fun ls hl => ?_)
        refine ninc (lv' := [(2, .int (nI (i + 1))), (1, .int (nI ((fbits c i) ||| (1 * 2 ^ i)))), (0, .ref (ad 0))]) hx hb i 1 dX9_felt_30 hl (k := 1) rfl (by decide) rfl (fun ls hl => ?_)
        refine lv_goto (tgt := 4) hx hb dX9_felt_33 (by decide) ?_
        have e9 : fbits c (i + 1) = (fbits c i) ||| (1 * 2 ^ i) := by simp [fbits, c_18]
        rw [← e9] at hl
        exact ih _ (by omega) (i + 1) _ _ _ rfl (by omega) h (lv_sub hl [0, 1, 2] rfl)
  exact L4_0 _ 0 _ _ _ rfl (by omega) h (lv_sub hl [0, 1, 2] rfl)
set_option maxHeartbeats 4000000 in
set_option maxRecDepth 100000 in
theorem kX9_leanAhead (l : Launch) (D : va_G) (ct : Nat → ClassId) (ad : Nat → Nat) (σ : Nat → Nat → Int32) (τ : Nat → Nat → Int64) (n c : Nat) (kd : Nat → Nat) (hok : MOK σ n c kd) (m q : Nat) (hm : m < n) (hq : q < 3) : MI l yX9_leanAhead (gWs yX9_leanAhead cX9_leanAhead 3 (some .int)) rmX9_leanAhead D ct gNo [.ref (ad 0), .int (nI m), .int (nI q)] (wM ad ct σ τ) (fun _ : Unit => (wM ad ct σ τ)) (fun r _ => r = lnA (leM σ) (cuM c) m q) := by
  refine MI.ofI RX9 rfl (by decide) (Nat.le_of_ble_eq_true rfl) ?_
  intro zp ze zs zm za zb zt zc zA ls zQ C h hX hl hret
  have hx := C.1
  have hb := C.2.1
  have hl : lv_has ls 3 [(0, .ref (ad 0)), (1, .int (nI m)), (2, .int (nI q))] := hl
  have hok0 := hok
  obtain ⟨hn, hn8, hc, hc8, hkd⟩ := hok0
  refine lv_iload_n hx hb dX9_leanAhead_0 rfl (lv_at hl 1 rfl) ?_
  refine nz_le hx hb m (by omega) (tgt := 30) dX9_leanAhead_1 (by decide) (fun c_1 => ?_) (fun c_1 => ?_)
  · refine lv_iconst (v := 0) hx hb dX9_leanAhead_30 (by decide) ?_
    exact hret _ () _ _ _ _ h (by unfold lnA; first | rw [if_pos ⟨by omega, by simpa [cuM] using c_12⟩, leM, show 3 * (m - 1) + q = 3 * m - 3 + q by omega] | rw [if_neg (fun h => absurd h.1 (by omega))] | rw [if_neg (fun h => by simp [cuM, c_12] at h)]) dX9_leanAhead_31
  · refine lv_aload_n hx hb dX9_leanAhead_4 rfl (lv_at hl 0 rfl) ?_
    refine mg_cutThreads C h dX9_leanAhead_5 ?_
    refine gas hc ?_
    refine lv_iload_n hx hb dX9_leanAhead_8 rfl (lv_at hl 1 rfl) ?_
    refine gcallSi C h (kX9_isIn l D ct c m (by omega) (by omega)) (va_cwS 2 C.2.2.2.2 (gInS q889 q890 q66 q891) rfl rfl rfl hdX9_isIn ⟨Nat.le_of_ble_eq_true rfl, Nat.le_of_ble_eq_true rfl⟩) rfl hl.1 rfl (Nat.le_of_ble_eq_true rfl) dX9_leanAhead_9 ⟨Nat.zero_le _, Nat.zero_le _⟩ (fun H ll h => ?_)
    refine bz_ne hx hb (c.testBit m = true) (tgt := 30) dX9_leanAhead_12 (by decide) (fun c_12 => ?_) (fun c_12 => ?_)
    · refine lv_iconst (v := 0) hx hb dX9_leanAhead_30 (by decide) ?_
      exact hret _ () _ _ _ _ h (by unfold lnA; first | rw [if_pos ⟨by omega, by simpa [cuM] using c_12⟩, leM, show 3 * (m - 1) + q = 3 * m - 3 + q by omega] | rw [if_neg (fun h => absurd h.1 (by omega))] | rw [if_neg (fun h => by simp [cuM, c_12] at h)]) dX9_leanAhead_31
    · refine lv_aload_n hx hb dX9_leanAhead_15 rfl (lv_at hl 0 rfl) ?_
      refine mg_leanOf C h dX9_leanAhead_16 ?_
      refine lv_iconst (v := 3) hx hb dX9_leanAhead_19 (by decide) ?_
      refine lv_iload_n hx hb dX9_leanAhead_20 rfl (lv_at hl 1 rfl) ?_
      refine nmul hx hb 3 m dX9_leanAhead_21 ?_
      refine lv_iconst (v := 3) hx hb dX9_leanAhead_22 (by decide) ?_
      refine nsub hx hb (3 * m) 3 (by omega) dX9_leanAhead_23 ?_
      refine lv_iload_n hx hb dX9_leanAhead_24 rfl (lv_at hl 2 rfl) ?_
      refine nadd hx hb ((3 * m) - 3) q dX9_leanAhead_25 ?_
      refine ml_leanOf C h (j := ((3 * m) - 3) + q) (by omega) dX9_leanAhead_26 ?_
      refine lv_goto (tgt := 31) hx hb dX9_leanAhead_27 (by decide) ?_
      exact hret _ () _ _ _ _ h (by unfold lnA; first | rw [if_pos ⟨by omega, by simpa [cuM] using c_12⟩, leM, show 3 * (m - 1) + q = 3 * m - 3 + q by omega] | rw [if_neg (fun h => absurd h.1 (by omega))] | rw [if_neg (fun h => by simp [cuM, c_12] at h)]) dX9_leanAhead_31
set_option maxHeartbeats 4000000 in
set_option maxRecDepth 100000 in
theorem kX9_leanBehind (l : Launch) (D : va_G) (ct : Nat → ClassId) (ad : Nat → Nat) (σ : Nat → Nat → Int32) (τ : Nat → Nat → Int64) (n c : Nat) (kd : Nat → Nat) (hok : MOK σ n c kd) (m q : Nat) (hm : m < n) (hq : q < 3) : MI l yX9_leanBehind (gWs yX9_leanBehind cX9_leanBehind 3 (some .int)) rmX9_leanBehind D ct gNo [.ref (ad 0), .int (nI m), .int (nI q)] (wM ad ct σ τ) (fun _ : Unit => (wM ad ct σ τ)) (fun r _ => r = lnB n (leM σ) (cuM c) m q) := by
  refine MI.ofI RX9 rfl (by decide) (Nat.le_of_ble_eq_true rfl) ?_
  intro zp ze zs zm za zb zt zc zA ls zQ C h hX hl hret
  have hx := C.1
  have hb := C.2.1
  have hl : lv_has ls 3 [(0, .ref (ad 0)), (1, .int (nI m)), (2, .int (nI q))] := hl
  have hok0 := hok
  obtain ⟨hn, hn8, hc, hc8, hkd⟩ := hok0
  refine lv_iload_n hx hb dX9_leanBehind_0 rfl (lv_at hl 1 rfl) ?_
  refine lv_iconst (v := 1) hx hb dX9_leanBehind_1 (by decide) ?_
  refine nadd hx hb m 1 dX9_leanBehind_2 ?_
  refine lv_aload_n hx hb dX9_leanBehind_3 rfl (lv_at hl 0 rfl) ?_
  refine mg_mussels C h dX9_leanBehind_4 ?_
  refine gas hn ?_
  refine nb_ge hx hb (m + 1) n (by omega) (by omega) (tgt := 38) dX9_leanBehind_7 (by decide) (fun c_7 => ?_) (fun c_7 => ?_)
  · refine lv_iconst (v := 0) hx hb dX9_leanBehind_38 (by decide) ?_
    exact hret _ () _ _ _ _ h (by unfold lnB; first | rw [if_pos ⟨by omega, by simpa [cuM] using c_20⟩, leM, show 3 * (m + 1) + q = 3 * m + 3 + q by omega] | rw [if_neg (fun h => absurd h.1 (by omega))] | rw [if_neg (fun h => by simp [cuM, c_20] at h)]) dX9_leanBehind_39
  · refine lv_aload_n hx hb dX9_leanBehind_10 rfl (lv_at hl 0 rfl) ?_
    refine mg_cutThreads C h dX9_leanBehind_11 ?_
    refine gas hc ?_
    refine lv_iload_n hx hb dX9_leanBehind_14 rfl (lv_at hl 1 rfl) ?_
    refine lv_iconst (v := 1) hx hb dX9_leanBehind_15 (by decide) ?_
    refine nadd hx hb m 1 dX9_leanBehind_16 ?_
    refine gcallSi C h (kX9_isIn l D ct c (m + 1) (by omega) (by omega)) (va_cwS 2 C.2.2.2.2 (gInS q889 q890 q66 q891) rfl rfl rfl hdX9_isIn ⟨Nat.le_of_ble_eq_true rfl, Nat.le_of_ble_eq_true rfl⟩) rfl hl.1 rfl (Nat.le_of_ble_eq_true rfl) dX9_leanBehind_17 ⟨Nat.zero_le _, Nat.zero_le _⟩ (fun H ll h => ?_)
    refine bz_ne hx hb (c.testBit (m + 1) = true) (tgt := 38) dX9_leanBehind_20 (by decide) (fun c_20 => ?_) (fun c_20 => ?_)
    · refine lv_iconst (v := 0) hx hb dX9_leanBehind_38 (by decide) ?_
      exact hret _ () _ _ _ _ h (by unfold lnB; first | rw [if_pos ⟨by omega, by simpa [cuM] using c_20⟩, leM, show 3 * (m + 1) + q = 3 * m + 3 + q by omega] | rw [if_neg (fun h => absurd h.1 (by omega))] | rw [if_neg (fun h => by simp [cuM, c_20] at h)]) dX9_leanBehind_39
    · refine lv_aload_n hx hb dX9_leanBehind_23 rfl (lv_at hl 0 rfl) ?_
      refine mg_leanOf C h dX9_leanBehind_24 ?_
      refine lv_iconst (v := 3) hx hb dX9_leanBehind_27 (by decide) ?_
      refine lv_iload_n hx hb dX9_leanBehind_28 rfl (lv_at hl 1 rfl) ?_
      refine nmul hx hb 3 m dX9_leanBehind_29 ?_
      refine lv_iconst (v := 3) hx hb dX9_leanBehind_30 (by decide) ?_
      refine nadd hx hb (3 * m) 3 dX9_leanBehind_31 ?_
      refine lv_iload_n hx hb dX9_leanBehind_32 rfl (lv_at hl 2 rfl) ?_
      refine nadd hx hb ((3 * m) + 3) q dX9_leanBehind_33 ?_
      refine ml_leanOf C h (j := ((3 * m) + 3) + q) (by omega) dX9_leanBehind_34 ?_
      refine lv_goto (tgt := 39) hx hb dX9_leanBehind_35 (by decide) ?_
      exact hret _ () _ _ _ _ h (by unfold lnB; first | rw [if_pos ⟨by omega, by simpa [cuM] using c_20⟩, leM, show 3 * (m + 1) + q = 3 * m + 3 + q by omega] | rw [if_neg (fun h => absurd h.1 (by omega))] | rw [if_neg (fun h => by simp [cuM, c_20] at h)]) dX9_leanBehind_39
set_option maxHeartbeats 4000000 in
set_option maxRecDepth 100000 in
theorem kX9_pulls (l : Launch) (D : va_G) (ct : Nat → ClassId) (ad : Nat → Nat) (σ : Nat → Nat → Int32) (τ : Nat → Nat → Int64) (n c : Nat) (kd : Nat → Nat) (hok : MOK σ n c kd) (m q : Nat) (hm : m < n) (hq : q < 3) : MI l yX9_pulls (gWs yX9_pulls cX9_pulls 6 (some .int)) rmX9_pulls D ct gNo [.ref (ad 0), .int (nI m), .int (nI q)] (wM ad ct σ τ) (fun _ : Unit => (wM ad ct σ τ)) (fun r _ => r = plM σ n c kd q m) := by
  refine MI.ofI RX9 rfl (by decide) (Nat.le_of_ble_eq_true rfl) ?_
  intro zp ze zs zm za zb zt zc zA ls zQ C h hX hl hret
  have hx := C.1
  have hb := C.2.1
  have hl : lv_has ls 6 [(0, .ref (ad 0)), (1, .int (nI m)), (2, .int (nI q))] := hl
  have hok0 := hok
  obtain ⟨hn, hn8, hc, hc8, hkd⟩ := hok0
  refine lv_aload_n hx hb dX9_pulls_0 rfl (lv_at hl 0 rfl) ?_
  refine mg_weightOf C h dX9_pulls_1 ?_
  refine lv_iload_n hx hb dX9_pulls_4 rfl (lv_at hl 1 rfl) ?_
  refine ml_weightOf C h (j := m) (by omega) dX9_pulls_5 ?_
  refine lv_istore_n (lv' := [(3, .int (σ 3 m)), (0, .ref (ad 0)), (1, .int (nI m)), (2, .int (nI q))]) hx hb dX9_pulls_6 rfl hl (by decide) rfl (fun ls hl => ?_)
  refine lv_iload_n hx hb dX9_pulls_7 rfl (lv_at hl 0 rfl) ?_
  refine lv_aload_n hx hb dX9_pulls_8 rfl (lv_at hl 1 rfl) ?_
  refine mg_leanOf C h dX9_pulls_9 ?_
  refine lv_iconst (v := 3) hx hb dX9_pulls_12 (by decide) ?_
  refine lv_iload_n hx hb dX9_pulls_13 rfl (lv_at hl 2 rfl) ?_
  refine nmul hx hb 3 m dX9_pulls_14 ?_
  refine lv_iload_n hx hb dX9_pulls_15 rfl (lv_at hl 3 rfl) ?_
  refine nadd hx hb (3 * m) q dX9_pulls_16 ?_
  refine ml_leanOf C h (j := (3 * m) + q) (by omega) dX9_pulls_17 ?_
  refine lv_imul hx hb dX9_pulls_18 ?_
  refine lv_istore (lv' := [(4, .int ((σ 3 m) * (σ 4 ((3 * m) + q)))), (3, .int (σ 3 m)), (0, .ref (ad 0)), (1, .int (nI m)), (2, .int (nI q))]) hx hb dX9_pulls_19 hl (by decide) rfl (fun ls hl => ?_)
  refine lv_aload_n hx hb dX9_pulls_21 rfl (lv_at hl 2 rfl) ?_
  refine lv_iload_n hx hb dX9_pulls_22 rfl (lv_at hl 3 rfl) ?_
  refine lv_iload_n hx hb dX9_pulls_23 rfl (lv_at hl 4 rfl) ?_
  refine gcallVi C h trivial gNo_ok (kX9_leanAhead l D ct ad σ τ n c kd hok m q (by omega) (by omega)) (cwV 2 C.2.2.2.2 (gInV q885 q887 q29 q66 q888) rfl rfl rfl hvX9_leanAhead ⟨Nat.le_of_ble_eq_true rfl, Nat.le_of_ble_eq_true rfl⟩) 0 (wM_o ad ct σ τ) rfl rfl rfl hl.1 rfl (Nat.le_of_ble_eq_true rfl) dX9_pulls_24 ⟨Nat.zero_le _, Nat.zero_le _⟩ (fun r u H ll hw h => ?_)
  have hw : r = lnA (leM σ) (cuM c) m q := hw
  subst hw
  have h : gW D ct zA zs H ll (wM ad ct σ τ) := h
  refine lv_aload_n hx hb dX9_pulls_27 rfl (lv_at hl 2 rfl) ?_
  refine lv_iload_n hx hb dX9_pulls_28 rfl (lv_at hl 3 rfl) ?_
  refine lv_iload_n hx hb dX9_pulls_29 rfl (lv_at hl 4 rfl) ?_
  refine gcallVi C h trivial gNo_ok (kX9_leanBehind l D ct ad σ τ n c kd hok m q (by omega) (by omega)) (cwV 2 C.2.2.2.2 (gInV q892 q894 q30 q66 q895) rfl rfl rfl hvX9_leanBehind ⟨Nat.le_of_ble_eq_true rfl, Nat.le_of_ble_eq_true rfl⟩) 0 (wM_o ad ct σ τ) rfl rfl rfl hl.1 rfl (Nat.le_of_ble_eq_true rfl) dX9_pulls_30 ⟨Nat.zero_le _, Nat.zero_le _⟩ (fun r u H ll hw h => ?_)
  have hw : r = lnB n (leM σ) (cuM c) m q := hw
  subst hw
  have h : gW D ct zA zs H ll (wM ad ct σ τ) := h
  refine lv_iadd hx hb dX9_pulls_33 ?_
  refine lv_istore (lv' := [(5, .int ((lnA (leM σ) (cuM c) m q) + (lnB n (leM σ) (cuM c) m q))), (4, .int ((σ 3 m) * (σ 4 ((3 * m) + q)))), (3, .int (σ 3 m)), (0, .ref (ad 0)), (1, .int (nI m)), (2, .int (nI q))]) hx hb dX9_pulls_34 hl (by decide) rfl (fun ls hl => ?_)
  refine lv_aload_n hx hb dX9_pulls_36 rfl (lv_at hl 3 rfl) ?_
  refine mg_kindOf C h dX9_pulls_37 ?_
  refine lv_iload_n hx hb dX9_pulls_40 rfl (lv_at hl 4 rfl) ?_
  refine ml_kindOf C h (j := m) (by omega) dX9_pulls_41 ?_
  refine gas (hkd m (by omega)).1 ?_
  rcases (show kd m = 0 ∨ kd m = 1 ∨ kd m = 2 ∨ kd m = 3 ∨ kd m = 4 by have := (hkd m (by omega)).2; omega) with hk_42 | hk_42 | hk_42 | hk_42 | hk_42
  · refine gas (show nI (kd m) = nI 0 by rw [hk_42]) ?_
    refine lv_tableOut (tgt := 130) hx hb dX9_pulls_42 (by decide) (by decide) ?_
    refine lv_iload hx hb dX9_pulls_130 (lv_at hl 1 rfl) ?_
    exact hret _ () _ _ _ _ h (by simp [plM, pl, pullK, leM, hk_42]) dX9_pulls_132
  · refine gas (show nI (kd m) = nI 1 by rw [hk_42]) ?_
    refine lv_tableIn (tgt := 72) (off := 30) hx hb dX9_pulls_42 (by decide) (by decide) (by decide) (by decide) ?_
    refine lv_iconst (v := 2) hx hb dX9_pulls_72 (by decide) ?_
    refine lv_iload hx hb dX9_pulls_73 (lv_at hl 1 rfl) ?_
    refine lv_imul hx hb dX9_pulls_75 ?_
    exact hret _ () _ _ _ _ h (by simp [plM, pl, pullK, leM, hk_42]) dX9_pulls_76
  · refine gas (show nI (kd m) = nI 2 by rw [hk_42]) ?_
    refine lv_tableIn (tgt := 77) (off := 35) hx hb dX9_pulls_42 (by decide) (by decide) (by decide) (by decide) ?_
    refine lv_iload hx hb dX9_pulls_77 (lv_at hl 1 rfl) ?_
    refine lv_ineg hx hb dX9_pulls_79 ?_
    exact hret _ () _ _ _ _ h (by simp [plM, pl, pullK, leM, hk_42]) dX9_pulls_80
  · refine gas (show nI (kd m) = nI 3 by rw [hk_42]) ?_
    refine lv_tableIn (tgt := 81) (off := 39) hx hb dX9_pulls_42 (by decide) (by decide) (by decide) (by decide) ?_
    refine lv_iload hx hb dX9_pulls_81 (lv_at hl 0 rfl) ?_
    refine lv_iconst (v := 2) hx hb dX9_pulls_83 (by decide) ?_
    refine lv_icmp_ne (tgt := 91) hx hb dX9_pulls_84 (by decide) (fun c_84 => ?_) (fun c_84 => ?_)
    · refine lv_iload hx hb dX9_pulls_91 (lv_at hl 0 rfl) ?_
      refine lv_bipush (v := -2) hx hb dX9_pulls_93 (by decide) ?_
      refine lv_icmp_ne (tgt := 103) hx hb dX9_pulls_95 (by decide) (fun c_95 => ?_) (fun c_95 => ?_)
      · refine lv_iconst (v := 0) hx hb dX9_pulls_103 (by decide) ?_
        exact hret _ () _ _ _ _ h (by simp [plM, pl, pullK, leM, hk_42, c_84, c_95]) dX9_pulls_104
      · refine lv_iload_n hx hb dX9_pulls_98 rfl (lv_at hl 2 rfl) ?_
        refine lv_ineg hx hb dX9_pulls_99 ?_
        refine lv_goto (tgt := 104) hx hb dX9_pulls_100 (by decide) ?_
        exact hret _ () _ _ _ _ h (by simp [plM, pl, pullK, leM, hk_42, c_84, c_95]) dX9_pulls_104
    · refine lv_iload_n hx hb dX9_pulls_87 rfl (lv_at hl 2 rfl) ?_
      refine lv_goto (tgt := 104) hx hb dX9_pulls_88 (by decide) ?_
      exact hret _ () _ _ _ _ h (by simp [plM, pl, pullK, leM, hk_42, c_84]) dX9_pulls_104
  · refine gas (show nI (kd m) = nI 4 by rw [hk_42]) ?_
    refine lv_tableIn (tgt := 105) (off := 63) hx hb dX9_pulls_42 (by decide) (by decide) (by decide) (by decide) ?_
    refine lv_iload hx hb dX9_pulls_105 (lv_at hl 0 rfl) ?_
    refine lv_iconst (v := 2) hx hb dX9_pulls_107 (by decide) ?_
    refine lv_icmp_ne (tgt := 115) hx hb dX9_pulls_108 (by decide) (fun c_108 => ?_) (fun c_108 => ?_)
    · refine lv_iload hx hb dX9_pulls_115 (lv_at hl 0 rfl) ?_
      refine lv_bipush (v := -2) hx hb dX9_pulls_117 (by decide) ?_
      refine lv_icmp_ne (tgt := 127) hx hb dX9_pulls_119 (by decide) (fun c_119 => ?_) (fun c_119 => ?_)
      · refine lv_iload hx hb dX9_pulls_127 (lv_at hl 1 rfl) ?_
        exact hret _ () _ _ _ _ h (by simp [plM, pl, pullK, leM, hk_42, c_108, c_119]) dX9_pulls_129
      · refine lv_iload_n hx hb dX9_pulls_122 rfl (lv_at hl 2 rfl) ?_
        refine lv_ineg hx hb dX9_pulls_123 ?_
        refine lv_goto (tgt := 129) hx hb dX9_pulls_124 (by decide) ?_
        exact hret _ () _ _ _ _ h (by simp [plM, pl, pullK, leM, hk_42, c_108, c_119]) dX9_pulls_129
    · refine lv_iload_n hx hb dX9_pulls_111 rfl (lv_at hl 2 rfl) ?_
      refine lv_goto (tgt := 129) hx hb dX9_pulls_112 (by decide) ?_
      exact hret _ () _ _ _ _ h (by simp [plM, pl, pullK, leM, hk_42, c_108]) dX9_pulls_129
set_option maxHeartbeats 4000000 in
set_option maxRecDepth 100000 in
theorem kX9_sumOf (l : Launch) (D : va_G) (ct : Nat → ClassId) (ad : Nat → Nat) (σ : Nat → Nat → Int32) (τ : Nat → Nat → Int64) (n c : Nat) (kd : Nat → Nat) (hok : MOK σ n c kd) (q : Nat) (hq : q < 3) : MI l yX9_sumOf (gWs yX9_sumOf cX9_sumOf 4 (some .int)) rmX9_sumOf D ct gNo [.ref (ad 0), .int (nI q)] (wM ad ct σ τ) (fun _ : Unit => (wM ad ct σ τ)) (fun r _ => r = smM σ n c kd q) := by
  refine MI.ofI RX9 rfl (by decide) (Nat.le_of_ble_eq_true rfl) ?_
  intro zp ze zs zm za zb zt zc zA ls zQ C h hX hl hret
  have hx := C.1
  have hb := C.2.1
  have hl : lv_has ls 4 [(0, .ref (ad 0)), (1, .int (nI q))] := hl
  have hok0 := hok
  obtain ⟨hn, hn8, hc, hc8, hkd⟩ := hok0
  refine lv_iconst (v := 0) hx hb dX9_sumOf_0 (by decide) ?_
  refine lv_istore_n (lv' := [(2, .int 0), (0, .ref (ad 0)), (1, .int (nI q))]) hx hb dX9_sumOf_1 rfl hl (by decide) rfl (fun ls hl => ?_)
  refine lv_iconst (v := 0) hx hb dX9_sumOf_2 (by decide) ?_
  refine lv_istore_n (lv' := [(3, .int 0), (2, .int 0), (0, .ref (ad 0)), (1, .int (nI q))]) hx hb dX9_sumOf_3 rfl hl (by decide) rfl (fun ls hl => ?_)
  have L4_0 : ∀ (k : Nat) (i : Nat) (H : Heap) (ll : List Loc) (ls : Array Slot), n - i = k → (i ≤ n) → gW D ct zA zs H ll (wM ad ct σ τ) → lv_has ls 4 [(3, .int (nI i)), (2, .int (bx_sum (fun m => if c % 2 ^ (m + 1) = 0 then plM σ n c kd q m else 0) i)), (0, .ref (ad 0)), (1, .int (nI q))] → W zp l ze rmX9_sumOf zs zm za zb zt zc H ll 0 0 zQ (F0 zm 4 ls []) := by
    intro k
    induction k using Nat.strongRecOn with
    | _ k ih =>
    intro i H ll ls hk hi h hl
    refine lv_iload_n hx hb dX9_sumOf_4 rfl (lv_at hl 0 rfl) ?_
    refine lv_aload_n hx hb dX9_sumOf_5 rfl (lv_at hl 2 rfl) ?_
    refine mg_mussels C h dX9_sumOf_6 ?_
    refine gas hn ?_
    refine nb_ge hx hb i n (by omega) (by omega) (tgt := 39) dX9_sumOf_9 (by decide) (fun c_9 => ?_) (fun c_9 => ?_)
    · refine lv_iload_n hx hb dX9_sumOf_39 rfl (lv_at hl 1 rfl) ?_
      exact hret _ () _ _ _ _ h (by rw [show i = n by omega]; rfl) dX9_sumOf_40
    · refine lv_iload_n hx hb dX9_sumOf_12 rfl (lv_at hl 1 rfl) ?_
      refine lv_aload_n hx hb dX9_sumOf_13 rfl (lv_at hl 2 rfl) ?_
      refine lv_iload_n hx hb dX9_sumOf_14 rfl (lv_at hl 0 rfl) ?_
      refine gcallVi C h trivial gNo_ok (kX9_isFelt l D ct ad σ τ n c kd hok i (by omega)) (cwV 1 C.2.2.2.2 (gInV q877 q879 q27 q66 q880) rfl rfl rfl hvX9_isFelt ⟨Nat.le_of_ble_eq_true rfl, Nat.le_of_ble_eq_true rfl⟩) 0 (wM_o ad ct σ τ) rfl rfl rfl hl.1 rfl (Nat.le_of_ble_eq_true rfl) dX9_sumOf_15 ⟨Nat.zero_le _, Nat.zero_le _⟩ (fun r u H ll hw h => ?_)
      have hw : r = (if c % 2 ^ (i + 1) = 0 then 1 else 0) := hw
      subst hw
      have h : gW D ct zA zs H ll (wM ad ct σ τ) := h
      refine bz_eq hx hb (c % 2 ^ (i + 1) = 0) (tgt := 30) dX9_sumOf_18 (by decide) (fun c_18 => ?_) (fun c_18 => ?_)
      · refine lv_iconst (v := 0) hx hb dX9_sumOf_30 (by decide) ?_
        refine lv_iadd hx hb dX9_sumOf_31 ?_
        refine lv_istore_n (lv' := [(2, .int ((bx_sum (fun m => if c % 2 ^ (m + 1) = 0 then plM σ n c kd q m else 0) i) + 0)), (3, .int (nI i)), (0, .ref (ad 0)), (1, .int (nI q))]) hx hb dX9_sumOf_32 rfl hl (by decide) rfl (fun ls hl => ?_)
        refine ninc (lv' := [(3, .int (nI (i + 1))), (2, .int ((bx_sum (fun m => if c % 2 ^ (m + 1) = 0 then plM σ n c kd q m else 0) i) + 0)), (0, .ref (ad 0)), (1, .int (nI q))]) hx hb i 1 dX9_sumOf_33 hl (k := 1) rfl (by decide) rfl (fun ls hl => ?_)
        refine lv_goto (tgt := 4) hx hb dX9_sumOf_36 (by decide) ?_
        have e9 : bx_sum (fun m => if c % 2 ^ (m + 1) = 0 then plM σ n c kd q m else 0) (i + 1) = (bx_sum (fun m => if c % 2 ^ (m + 1) = 0 then plM σ n c kd q m else 0) i) + 0 := by simp [bx_sum, c_18]
        rw [← e9] at hl
        exact ih _ (by omega) (i + 1) _ _ _ rfl (by omega) h (lv_sub hl [0, 1, 2, 3] rfl)
      · refine lv_aload_n hx hb dX9_sumOf_21 rfl (lv_at hl 2 rfl) ?_
        refine lv_iload_n hx hb dX9_sumOf_22 rfl (lv_at hl 0 rfl) ?_
        refine lv_iload_n hx hb dX9_sumOf_23 rfl (lv_at hl 3 rfl) ?_
        refine gcallVi C h trivial gNo_ok (kX9_pulls l D ct ad σ τ n c kd hok i q (by omega) (by omega)) (cwV 2 C.2.2.2.2 (gInV q881 q883 q28 q66 q884) rfl rfl rfl hvX9_pulls ⟨Nat.le_of_ble_eq_true rfl, Nat.le_of_ble_eq_true rfl⟩) 0 (wM_o ad ct σ τ) rfl rfl rfl hl.1 rfl (Nat.le_of_ble_eq_true rfl) dX9_sumOf_24 ⟨Nat.zero_le _, Nat.zero_le _⟩ (fun r u H ll hw h => ?_)
        have hw : r = plM σ n c kd q i := hw
        subst hw
        have h : gW D ct zA zs H ll (wM ad ct σ τ) := h
        refine lv_goto (tgt := 31) hx hb dX9_sumOf_27 (by decide) ?_
        refine lv_iadd hx hb dX9_sumOf_31 ?_
        refine lv_istore_n (lv' := [(2, .int ((bx_sum (fun m => if c % 2 ^ (m + 1) = 0 then plM σ n c kd q m else 0) i) + (plM σ n c kd q i))), (3, .int (nI i)), (0, .ref (ad 0)), (1, .int (nI q))]) hx hb dX9_sumOf_32 rfl hl (by decide) rfl (fun ls hl => ?_)
        refine ninc (lv' := [(3, .int (nI (i + 1))), (2, .int ((bx_sum (fun m => if c % 2 ^ (m + 1) = 0 then plM σ n c kd q m else 0) i) + (plM σ n c kd q i))), (0, .ref (ad 0)), (1, .int (nI q))]) hx hb i 1 dX9_sumOf_33 hl (k := 1) rfl (by decide) rfl (fun ls hl => ?_)
        refine lv_goto (tgt := 4) hx hb dX9_sumOf_36 (by decide) ?_
        have e9 : bx_sum (fun m => if c % 2 ^ (m + 1) = 0 then plM σ n c kd q m else 0) (i + 1) = (bx_sum (fun m => if c % 2 ^ (m + 1) = 0 then plM σ n c kd q m else 0) i) + (plM σ n c kd q i) := by simp [bx_sum, c_18]
        rw [← e9] at hl
        exact ih _ (by omega) (i + 1) _ _ _ rfl (by omega) h (lv_sub hl [0, 1, 2, 3] rfl)
  exact L4_0 _ 0 _ _ _ rfl (by omega) h (lv_sub hl [0, 1, 2, 3] rfl)
set_option maxHeartbeats 4000000 in
set_option maxRecDepth 100000 in
theorem kX9_outOf (l : Launch) (D : va_G) (ct : Nat → ClassId) (ad : Nat → Nat) (σ : Nat → Nat → Int32) (τ : Nat → Nat → Int64) (n c : Nat) (kd : Nat → Nat) (hok : MOK σ n c kd) (q : Nat) (hq : q < 3) : MI l yX9_outOf (gWs yX9_outOf cX9_outOf 3 (some .int)) rmX9_outOf D ct gNo [.ref (ad 0), .int (nI q)] (wM ad ct σ τ) (fun _ : Unit => (wM ad ct σ τ)) (fun r _ => r = sgn (smM σ n c kd q)) := by
  refine MI.ofI RX9 rfl (by decide) (Nat.le_of_ble_eq_true rfl) ?_
  intro zp ze zs zm za zb zt zc zA ls zQ C h hX hl hret
  have hx := C.1
  have hb := C.2.1
  have hl : lv_has ls 3 [(0, .ref (ad 0)), (1, .int (nI q))] := hl
  have hok0 := hok
  obtain ⟨hn, hn8, hc, hc8, hkd⟩ := hok0
  refine lv_aload_n hx hb dX9_outOf_0 rfl (lv_at hl 0 rfl) ?_
  refine lv_iload_n hx hb dX9_outOf_1 rfl (lv_at hl 1 rfl) ?_
  refine gcallVi C h trivial gNo_ok (kX9_sumOf l D ct ad σ τ n c kd hok q (by omega)) (cwV 1 C.2.2.2.2 (gInV q873 q875 q26 q66 q876) rfl rfl rfl hvX9_sumOf ⟨Nat.le_of_ble_eq_true rfl, Nat.le_of_ble_eq_true rfl⟩) 0 (wM_o ad ct σ τ) rfl rfl rfl hl.1 rfl (Nat.le_of_ble_eq_true rfl) dX9_outOf_2 ⟨Nat.zero_le _, Nat.zero_le _⟩ (fun r u H ll hw h => ?_)
  have hw : r = smM σ n c kd q := hw
  subst hw
  have h : gW D ct zA zs H ll (wM ad ct σ τ) := h
  refine lv_istore_n (lv' := [(2, .int (smM σ n c kd q)), (0, .ref (ad 0)), (1, .int (nI q))]) hx hb dX9_outOf_5 rfl hl (by decide) rfl (fun ls hl => ?_)
  refine lv_iload_n hx hb dX9_outOf_6 rfl (lv_at hl 0 rfl) ?_
  refine lv_if_le (tgt := 14) hx hb dX9_outOf_7 (by decide) (fun c_7 => ?_) (fun c_7 => ?_)
  · refine lv_iload_n hx hb dX9_outOf_14 rfl (lv_at hl 0 rfl) ?_
    refine lv_if_ge (tgt := 22) hx hb dX9_outOf_15 (by decide) (fun c_15 => ?_) (fun c_15 => ?_)
    · refine lv_iconst (v := 0) hx hb dX9_outOf_22 (by decide) ?_
      exact hret _ () _ _ _ _ h (sgZ c_7 c_15) dX9_outOf_23
    · refine lv_iconst (v := -1) hx hb dX9_outOf_18 (by decide) ?_
      refine lv_goto (tgt := 23) hx hb dX9_outOf_19 (by decide) ?_
      exact hret _ () _ _ _ _ h (sgN c_7 c_15) dX9_outOf_23
  · refine lv_iconst (v := 1) hx hb dX9_outOf_10 (by decide) ?_
    refine lv_goto (tgt := 23) hx hb dX9_outOf_11 (by decide) ?_
    exact hret _ () _ _ _ _ h (sgP c_7) dX9_outOf_23
set_option maxHeartbeats 4000000 in
set_option maxRecDepth 100000 in
theorem kX9_leaning (l : Launch) (D : va_G) (ct : Nat → ClassId) (ad : Nat → Nat) (σ : Nat → Nat → Int32) (τ : Nat → Nat → Int64) (n c : Nat) (kd : Nat → Nat) (hok : MOK σ n c kd) (q : Nat) (x : Int32) (hq : q < 3) : MI l yX9_leaning (gWs yX9_leaning cX9_leaning 5 (some .int)) rmX9_leaning D ct gNo [.ref (ad 0), .int (nI q), .int x] (wM ad ct σ τ) (fun _ : Unit => (wM ad ct σ τ)) (fun r _ => r = nI (cntTo (fun m => leM σ m q = x) n)) := by
  refine MI.ofI RX9 rfl (by decide) (Nat.le_of_ble_eq_true rfl) ?_
  intro zp ze zs zm za zb zt zc zA ls zQ C h hX hl hret
  have hx := C.1
  have hb := C.2.1
  have hl : lv_has ls 5 [(0, .ref (ad 0)), (1, .int (nI q)), (2, .int x)] := hl
  have hok0 := hok
  obtain ⟨hn, hn8, hc, hc8, hkd⟩ := hok0
  refine lv_iconst (v := 0) hx hb dX9_leaning_0 (by decide) ?_
  refine lv_istore_n (lv' := [(3, .int 0), (0, .ref (ad 0)), (1, .int (nI q)), (2, .int x)]) hx hb dX9_leaning_1 rfl hl (by decide) rfl (fun ls hl => ?_)
  refine lv_iconst (v := 0) hx hb dX9_leaning_2 (by decide) ?_
  refine lv_istore (lv' := [(4, .int 0), (3, .int 0), (0, .ref (ad 0)), (1, .int (nI q)), (2, .int x)]) hx hb dX9_leaning_3 hl (by decide) rfl (fun ls hl => ?_)
  have L5_0 : ∀ (k : Nat) (i : Nat) (H : Heap) (ll : List Loc) (ls : Array Slot), n - i = k → (i ≤ n) → gW D ct zA zs H ll (wM ad ct σ τ) → lv_has ls 5 [(4, .int (nI i)), (3, .int (nI (cntTo (fun m => leM σ m q = x) i))), (0, .ref (ad 0)), (1, .int (nI q)), (2, .int x)] → W zp l ze rmX9_leaning zs zm za zb zt zc H ll 0 0 zQ (F0 zm 5 ls []) := by
    intro k
    induction k using Nat.strongRecOn with
    | _ k ih =>
    intro i H ll ls hk hi h hl
    refine lv_iload hx hb dX9_leaning_5 (lv_at hl 0 rfl) ?_
    refine lv_aload_n hx hb dX9_leaning_7 rfl (lv_at hl 2 rfl) ?_
    refine mg_mussels C h dX9_leaning_8 ?_
    refine gas hn ?_
    refine nb_ge hx hb i n (by omega) (by omega) (tgt := 43) dX9_leaning_11 (by decide) (fun c_11 => ?_) (fun c_11 => ?_)
    · refine lv_iload_n hx hb dX9_leaning_43 rfl (lv_at hl 1 rfl) ?_
      exact hret _ () _ _ _ _ h (by rw [show i = n by omega]) dX9_leaning_44
    · refine lv_iload_n hx hb dX9_leaning_14 rfl (lv_at hl 1 rfl) ?_
      refine lv_aload_n hx hb dX9_leaning_15 rfl (lv_at hl 2 rfl) ?_
      refine mg_leanOf C h dX9_leaning_16 ?_
      refine lv_iconst (v := 3) hx hb dX9_leaning_19 (by decide) ?_
      refine lv_iload hx hb dX9_leaning_20 (lv_at hl 0 rfl) ?_
      refine nmul hx hb 3 i dX9_leaning_22 ?_
      refine lv_iload_n hx hb dX9_leaning_23 rfl (lv_at hl 3 rfl) ?_
      refine nadd hx hb (3 * i) q dX9_leaning_24 ?_
      refine ml_leanOf C h (j := (3 * i) + q) (by omega) dX9_leaning_25 ?_
      refine lv_iload_n hx hb dX9_leaning_26 rfl (lv_at hl 4 rfl) ?_
      refine lv_icmp_ne (tgt := 34) hx hb dX9_leaning_27 (by decide) (fun c_27 => ?_) (fun c_27 => ?_)
      · refine lv_iconst (v := 0) hx hb dX9_leaning_34 (by decide) ?_
        refine nadd hx hb (cntTo (fun m => leM σ m q = x) i) 0 dX9_leaning_35 ?_
        refine lv_istore_n (lv' := [(3, .int (nI ((cntTo (fun m => leM σ m q = x) i) + 0))), (4, .int (nI i)), (0, .ref (ad 0)), (1, .int (nI q)), (2, .int x)]) hx hb dX9_leaning_36 rfl hl (by decide) rfl (fun ls hl => ?_)
        refine ninc (lv' := [(4, .int (nI (i + 1))), (3, .int (nI ((cntTo (fun m => leM σ m q = x) i) + 0))), (0, .ref (ad 0)), (1, .int (nI q)), (2, .int x)]) hx hb i 1 dX9_leaning_37 hl (k := 1) rfl (by decide) rfl (fun ls hl => ?_)
        refine lv_goto (tgt := 5) hx hb dX9_leaning_40 (by decide) ?_
        have e9 : cntTo (fun m => leM σ m q = x) (i + 1) = (cntTo (fun m => leM σ m q = x) i) + 0 := by simp [cntTo, leM, c_27]
        rw [← e9] at hl
        exact ih _ (by omega) (i + 1) _ _ _ rfl (by omega) h (lv_sub hl [0, 1, 2, 3, 4] rfl)
      · refine lv_iconst (v := 1) hx hb dX9_leaning_30 (by decide) ?_
        refine lv_goto (tgt := 35) hx hb dX9_leaning_31 (by decide) ?_
        refine nadd hx hb (cntTo (fun m => leM σ m q = x) i) 1 dX9_leaning_35 ?_
        refine lv_istore_n (lv' := [(3, .int (nI ((cntTo (fun m => leM σ m q = x) i) + 1))), (4, .int (nI i)), (0, .ref (ad 0)), (1, .int (nI q)), (2, .int x)]) hx hb dX9_leaning_36 rfl hl (by decide) rfl (fun ls hl => ?_)
        refine ninc (lv' := [(4, .int (nI (i + 1))), (3, .int (nI ((cntTo (fun m => leM σ m q = x) i) + 1))), (0, .ref (ad 0)), (1, .int (nI q)), (2, .int x)]) hx hb i 1 dX9_leaning_37 hl (k := 1) rfl (by decide) rfl (fun ls hl => ?_)
        refine lv_goto (tgt := 5) hx hb dX9_leaning_40 (by decide) ?_
        have e9 : cntTo (fun m => leM σ m q = x) (i + 1) = (cntTo (fun m => leM σ m q = x) i) + 1 := by simp [cntTo, leM, c_27]
        rw [← e9] at hl
        exact ih _ (by omega) (i + 1) _ _ _ rfl (by omega) h (lv_sub hl [0, 1, 2, 3, 4] rfl)
  exact L5_0 _ 0 _ _ _ rfl (by omega) h (lv_sub hl [0, 1, 2, 3, 4] rfl)
end
