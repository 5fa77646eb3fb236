-- the tables' words and the law's frame: begun from the kit's skeleton; then this claim's names, fields, cells
-- ===== PART A: goes FIRST, ahead of the names: the tables' words, and 'selects' of the private methods out of them =====
/-- a private method of a class that the tables say can be made, by its rows of tables_1 -/
def lw_okq (q : MethodName × Nat) : Prop := (q.1.cls ≠ "java/lang/invoke/MethodHandle" ∧ q.1.cls ≠ "java/lang/invoke/VarHandle") ∧ Cond.instantiable q.1.cls q.2 ∈ tables_1 ∧ Cond.privateMethod q.1 ∈ tables_1 ∧ Cond.instanceMethod q.1 ∈ tables_1
theorem lw_p0 : lw_okq (⟨"CorkageOnRemarks", "refuse", "(I)I"⟩, 9) := ⟨⟨by decide +kernel, by decide +kernel⟩, List.mem_of_getElem? (i := 12) (by decide +kernel), List.mem_of_getElem? (i := 196) (by decide +kernel), List.mem_of_getElem? (i := 197) (by decide +kernel)⟩
theorem lw_p1 : lw_okq (⟨"CorkageOnRemarks", "become", "()I"⟩, 9) := ⟨⟨by decide +kernel, by decide +kernel⟩, List.mem_of_getElem? (i := 12) (by decide +kernel), List.mem_of_getElem? (i := 208) (by decide +kernel), List.mem_of_getElem? (i := 209) (by decide +kernel)⟩
theorem lw_p2 : lw_okq (⟨"CorkageOnRemarks$Letters", "strayFrom", "(I)I"⟩, 2) := ⟨⟨by decide +kernel, by decide +kernel⟩, List.mem_of_getElem? (i := 86) (by decide +kernel), List.mem_of_getElem? (i := 216) (by decide +kernel), List.mem_of_getElem? (i := 217) (by decide +kernel)⟩
theorem lw_p3 : lw_okq (⟨"CorkageOnRemarks$Letters", "numbe\x72", "(II)I"⟩, 2) := ⟨⟨by decide +kernel, by decide +kernel⟩, List.mem_of_getElem? (i := 86) (by decide +kernel), List.mem_of_getElem? (i := 241) (by decide +kernel), List.mem_of_getElem? (i := 242) (by decide +kernel)⟩
theorem lw_p4 : lw_okq (⟨"CorkageOnRemarks", "eveningNow", "()LCorkageOnRemarks$Evening;"⟩, 9) := ⟨⟨by decide +kernel, by decide +kernel⟩, List.mem_of_getElem? (i := 12) (by decide +kernel), List.mem_of_getElem? (i := 332) (by decide +kernel), List.mem_of_getElem? (i := 333) (by decide +kernel)⟩
theorem lw_p5 : lw_okq (⟨"CorkageOnRemarks$Evening", "open", "(II)V"⟩, 7) := ⟨⟨by decide +kernel, by decide +kernel⟩, List.mem_of_getElem? (i := 106) (by decide +kernel), List.mem_of_getElem? (i := 348) (by decide +kernel), List.mem_of_getElem? (i := 349) (by decide +kernel)⟩
theorem lw_p6 : lw_okq (⟨"CorkageOnRemarks$Evening", "changeMoods", "(II)V"⟩, 7) := ⟨⟨by decide +kernel, by decide +kernel⟩, List.mem_of_getElem? (i := 106) (by decide +kernel), List.mem_of_getElem? (i := 367) (by decide +kernel), List.mem_of_getElem? (i := 368) (by decide +kernel)⟩
theorem lw_p7 : lw_okq (⟨"CorkageOnRemarks$Evening", "takeWhatIsReady", "(I)V"⟩, 7) := ⟨⟨by decide +kernel, by decide +kernel⟩, List.mem_of_getElem? (i := 106) (by decide +kernel), List.mem_of_getElem? (i := 380) (by decide +kernel), List.mem_of_getElem? (i := 381) (by decide +kernel)⟩
theorem lw_p8 : lw_okq (⟨"CorkageOnRemarks$Evening", "busyAt", "(I)I"⟩, 7) := ⟨⟨by decide +kernel, by decide +kernel⟩, List.mem_of_getElem? (i := 106) (by decide +kernel), List.mem_of_getElem? (i := 384) (by decide +kernel), List.mem_of_getElem? (i := 385) (by decide +kernel)⟩
theorem lw_p9 : lw_okq (⟨"CorkageOnRemarks$Evening", "nextToTake", "(I)I"⟩, 7) := ⟨⟨by decide +kernel, by decide +kernel⟩, List.mem_of_getElem? (i := 106) (by decide +kernel), List.mem_of_getElem? (i := 388) (by decide +kernel), List.mem_of_getElem? (i := 389) (by decide +kernel)⟩
theorem lw_p10 : lw_okq (⟨"CorkageOnRemarks$Trials", "moodsLeaving", "(I)I"⟩, 2) := ⟨⟨by decide +kernel, by decide +kernel⟩, List.mem_of_getElem? (i := 100) (by decide +kernel), List.mem_of_getElem? (i := 448) (by decide +kernel), List.mem_of_getElem? (i := 449) (by decide +kernel)⟩
theorem lw_p11 : lw_okq (⟨"CorkageOnRemarks$Evening", "isSilent", "(I)Z"⟩, 7) := ⟨⟨by decide +kernel, by decide +kernel⟩, List.mem_of_getElem? (i := 106) (by decide +kernel), List.mem_of_getElem? (i := 540) (by decide +kernel), List.mem_of_getElem? (i := 541) (by decide +kernel)⟩
theorem lw_p12 : lw_okq (⟨"CorkageOnRemarks", "kindsAsTold", "(II)I"⟩, 9) := ⟨⟨by decide +kernel, by decide +kernel⟩, List.mem_of_getElem? (i := 12) (by decide +kernel), List.mem_of_getElem? (i := 560) (by decide +kernel), List.mem_of_getElem? (i := 561) (by decide +kernel)⟩
theorem lw_p13 : lw_okq (⟨"CorkageOnRemarks", "topicsAsTold", "(II)I"⟩, 9) := ⟨⟨by decide +kernel, by decide +kernel⟩, List.mem_of_getElem? (i := 12) (by decide +kernel), List.mem_of_getElem? (i := 568) (by decide +kernel), List.mem_of_getElem? (i := 569) (by decide +kernel)⟩
theorem lw_p14 : lw_okq (⟨"CorkageOnRemarks$Trials", "worthOf", "(II)I"⟩, 2) := ⟨⟨by decide +kernel, by decide +kernel⟩, List.mem_of_getElem? (i := 100) (by decide +kernel), List.mem_of_getElem? (i := 585) (by decide +kernel), List.mem_of_getElem? (i := 586) (by decide +kernel)⟩
theorem lw_p15 : lw_okq (⟨"CorkageOnRemarks$Shares", "findWhoIsOve\x72", "(ILCorkageOnRemarks$Evening;)V"⟩, 2) := ⟨⟨by decide +kernel, by decide +kernel⟩, List.mem_of_getElem? (i := 151) (by decide +kernel), List.mem_of_getElem? (i := 598) (by decide +kernel), List.mem_of_getElem? (i := 599) (by decide +kernel)⟩
def lw_privs_1 : List (MethodName × Nat) := [(⟨"CorkageOnRemarks", "refuse", "(I)I"⟩, 9), (⟨"CorkageOnRemarks", "become", "()I"⟩, 9), (⟨"CorkageOnRemarks$Letters", "strayFrom", "(I)I"⟩, 2), (⟨"CorkageOnRemarks$Letters", "numbe\x72", "(II)I"⟩, 2), (⟨"CorkageOnRemarks", "eveningNow", "()LCorkageOnRemarks$Evening;"⟩, 9), (⟨"CorkageOnRemarks$Evening", "open", "(II)V"⟩, 7), (⟨"CorkageOnRemarks$Evening", "changeMoods", "(II)V"⟩, 7), (⟨"CorkageOnRemarks$Evening", "takeWhatIsReady", "(I)V"⟩, 7), (⟨"CorkageOnRemarks$Evening", "busyAt", "(I)I"⟩, 7), (⟨"CorkageOnRemarks$Evening", "nextToTake", "(I)I"⟩, 7), (⟨"CorkageOnRemarks$Trials", "moodsLeaving", "(I)I"⟩, 2), (⟨"CorkageOnRemarks$Evening", "isSilent", "(I)Z"⟩, 7), (⟨"CorkageOnRemarks", "kindsAsTold", "(II)I"⟩, 9), (⟨"CorkageOnRemarks", "topicsAsTold", "(II)I"⟩, 9), (⟨"CorkageOnRemarks$Trials", "worthOf", "(II)I"⟩, 2), (⟨"CorkageOnRemarks$Shares", "findWhoIsOve\x72", "(ILCorkageOnRemarks$Evening;)V"⟩, 2)]
theorem lw_r1 : ∀ q ∈ lw_privs_1, lw_okq q := List.forall_mem_cons.mpr ⟨lw_p0, List.forall_mem_cons.mpr ⟨lw_p1, List.forall_mem_cons.mpr ⟨lw_p2, List.forall_mem_cons.mpr ⟨lw_p3, List.forall_mem_cons.mpr ⟨lw_p4, List.forall_mem_cons.mpr ⟨lw_p5, List.forall_mem_cons.mpr ⟨lw_p6, List.forall_mem_cons.mpr ⟨lw_p7, List.forall_mem_cons.mpr ⟨lw_p8, List.forall_mem_cons.mpr ⟨lw_p9, List.forall_mem_cons.mpr ⟨lw_p10, List.forall_mem_cons.mpr ⟨lw_p11, List.forall_mem_cons.mpr ⟨lw_p12, List.forall_mem_cons.mpr ⟨lw_p13, List.forall_mem_cons.mpr ⟨lw_p14, List.forall_mem_cons.mpr ⟨lw_p15, fun _ h => absurd h List.not_mem_nil⟩⟩⟩⟩⟩⟩⟩⟩⟩⟩⟩⟩⟩⟩⟩⟩
theorem lw_p16 : lw_okq (⟨"CorkageOnRemarks$Shares", "mostGroups", "(II)I"⟩, 2) := ⟨⟨by decide +kernel, by decide +kernel⟩, List.mem_of_getElem? (i := 151) (by decide +kernel), List.mem_of_getElem? (i := 604) (by decide +kernel), List.mem_of_getElem? (i := 605) (by decide +kernel)⟩
theorem lw_p17 : lw_okq (⟨"CorkageOnRemarks", "refuseLong", "(I)J"⟩, 9) := ⟨⟨by decide +kernel, by decide +kernel⟩, List.mem_of_getElem? (i := 12) (by decide +kernel), List.mem_of_getElem? (i := 613) (by decide +kernel), List.mem_of_getElem? (i := 614) (by decide +kernel)⟩
theorem lw_p18 : lw_okq (⟨"CorkageOnRemarks", "firstUntrue", "(LCorkageOnRemarks$Evening;)I"⟩, 9) := ⟨⟨by decide +kernel, by decide +kernel⟩, List.mem_of_getElem? (i := 12) (by decide +kernel), List.mem_of_getElem? (i := 640) (by decide +kernel), List.mem_of_getElem? (i := 641) (by decide +kernel)⟩
theorem lw_p19 : lw_okq (⟨"CorkageOnRemarksModel", "no", "(I)I"⟩, 38) := ⟨⟨by decide +kernel, by decide +kernel⟩, List.mem_of_getElem? (i := 679) (by decide +kernel), List.mem_of_getElem? (i := 807) (by decide +kernel), List.mem_of_getElem? (i := 808) (by decide +kernel)⟩
theorem lw_p20 : lw_okq (⟨"CorkageOnRemarksModel", "statement", "()Z"⟩, 38) := ⟨⟨by decide +kernel, by decide +kernel⟩, List.mem_of_getElem? (i := 679) (by decide +kernel), List.mem_of_getElem? (i := 815) (by decide +kernel), List.mem_of_getElem? (i := 816) (by decide +kernel)⟩
theorem lw_p21 : lw_okq (⟨"CorkageOnRemarksModel", "next", "()I"⟩, 38) := ⟨⟨by decide +kernel, by decide +kernel⟩, List.mem_of_getElem? (i := 679) (by decide +kernel), List.mem_of_getElem? (i := 819) (by decide +kernel), List.mem_of_getElem? (i := 820) (by decide +kernel)⟩
theorem lw_p22 : lw_okq (⟨"CorkageOnRemarksModel", "readsAll", "(II)Z"⟩, 38) := ⟨⟨by decide +kernel, by decide +kernel⟩, List.mem_of_getElem? (i := 679) (by decide +kernel), List.mem_of_getElem? (i := 823) (by decide +kernel), List.mem_of_getElem? (i := 824) (by decide +kernel)⟩
theorem lw_p23 : lw_okq (⟨"CorkageOnRemarksModel", "readsDigits", "(II)Z"⟩, 38) := ⟨⟨by decide +kernel, by decide +kernel⟩, List.mem_of_getElem? (i := 679) (by decide +kernel), List.mem_of_getElem? (i := 827) (by decide +kernel), List.mem_of_getElem? (i := 828) (by decide +kernel)⟩
theorem lw_p24 : lw_okq (⟨"CorkageOnRemarksModel", "readsRemark", "(I)Z"⟩, 38) := ⟨⟨by decide +kernel, by decide +kernel⟩, List.mem_of_getElem? (i := 679) (by decide +kernel), List.mem_of_getElem? (i := 834) (by decide +kernel), List.mem_of_getElem? (i := 835) (by decide +kernel)⟩
theorem lw_p25 : lw_okq (⟨"CorkageOnRemarksModel", "passesAll", "(IZ)V"⟩, 38) := ⟨⟨by decide +kernel, by decide +kernel⟩, List.mem_of_getElem? (i := 679) (by decide +kernel), List.mem_of_getElem? (i := 841) (by decide +kernel), List.mem_of_getElem? (i := 842) (by decide +kernel)⟩
theorem lw_p26 : lw_okq (⟨"CorkageOnRemarksModel", "passes", "([I)V"⟩, 38) := ⟨⟨by decide +kernel, by decide +kernel⟩, List.mem_of_getElem? (i := 679) (by decide +kernel), List.mem_of_getElem? (i := 845) (by decide +kernel), List.mem_of_getElem? (i := 846) (by decide +kernel)⟩
theorem lw_p27 : lw_okq (⟨"CorkageOnRemarksModel", "passOne", "(I)I"⟩, 38) := ⟨⟨by decide +kernel, by decide +kernel⟩, List.mem_of_getElem? (i := 679) (by decide +kernel), List.mem_of_getElem? (i := 849) (by decide +kernel), List.mem_of_getElem? (i := 850) (by decide +kernel)⟩
theorem lw_p28 : lw_okq (⟨"CorkageOnRemarksModel", "comes", "(I)Z"⟩, 38) := ⟨⟨by decide +kernel, by decide +kernel⟩, List.mem_of_getElem? (i := 679) (by decide +kernel), List.mem_of_getElem? (i := 853) (by decide +kernel), List.mem_of_getElem? (i := 854) (by decide +kernel)⟩
theorem lw_p29 : lw_okq (⟨"CorkageOnRemarksModel", "comesRemark", "(I)Z"⟩, 38) := ⟨⟨by decide +kernel, by decide +kernel⟩, List.mem_of_getElem? (i := 679) (by decide +kernel), List.mem_of_getElem? (i := 857) (by decide +kernel), List.mem_of_getElem? (i := 858) (by decide +kernel)⟩
theorem lw_p30 : lw_okq (⟨"CorkageOnRemarksModel", "isGuest", "(I)Z"⟩, 38) := ⟨⟨by decide +kernel, by decide +kernel⟩, List.mem_of_getElem? (i := 679) (by decide +kernel), List.mem_of_getElem? (i := 861) (by decide +kernel), List.mem_of_getElem? (i := 862) (by decide +kernel)⟩
theorem lw_p31 : lw_okq (⟨"CorkageOnRemarksModel", "areTwo", "(II)Z"⟩, 38) := ⟨⟨by decide +kernel, by decide +kernel⟩, List.mem_of_getElem? (i := 679) (by decide +kernel), List.mem_of_getElem? (i := 865) (by decide +kernel), List.mem_of_getElem? (i := 866) (by decide +kernel)⟩
def lw_privs_2 : List (MethodName × Nat) := [(⟨"CorkageOnRemarks$Shares", "mostGroups", "(II)I"⟩, 2), (⟨"CorkageOnRemarks", "refuseLong", "(I)J"⟩, 9), (⟨"CorkageOnRemarks", "firstUntrue", "(LCorkageOnRemarks$Evening;)I"⟩, 9), (⟨"CorkageOnRemarksModel", "no", "(I)I"⟩, 38), (⟨"CorkageOnRemarksModel", "statement", "()Z"⟩, 38), (⟨"CorkageOnRemarksModel", "next", "()I"⟩, 38), (⟨"CorkageOnRemarksModel", "readsAll", "(II)Z"⟩, 38), (⟨"CorkageOnRemarksModel", "readsDigits", "(II)Z"⟩, 38), (⟨"CorkageOnRemarksModel", "readsRemark", "(I)Z"⟩, 38), (⟨"CorkageOnRemarksModel", "passesAll", "(IZ)V"⟩, 38), (⟨"CorkageOnRemarksModel", "passes", "([I)V"⟩, 38), (⟨"CorkageOnRemarksModel", "passOne", "(I)I"⟩, 38), (⟨"CorkageOnRemarksModel", "comes", "(I)Z"⟩, 38), (⟨"CorkageOnRemarksModel", "comesRemark", "(I)Z"⟩, 38), (⟨"CorkageOnRemarksModel", "isGuest", "(I)Z"⟩, 38), (⟨"CorkageOnRemarksModel", "areTwo", "(II)Z"⟩, 38)]
theorem lw_r2 : ∀ q ∈ lw_privs_2, lw_okq q := List.forall_mem_cons.mpr ⟨lw_p16, List.forall_mem_cons.mpr ⟨lw_p17, List.forall_mem_cons.mpr ⟨lw_p18, List.forall_mem_cons.mpr ⟨lw_p19, List.forall_mem_cons.mpr ⟨lw_p20, List.forall_mem_cons.mpr ⟨lw_p21, List.forall_mem_cons.mpr ⟨lw_p22, List.forall_mem_cons.mpr ⟨lw_p23, List.forall_mem_cons.mpr ⟨lw_p24, List.forall_mem_cons.mpr ⟨lw_p25, List.forall_mem_cons.mpr ⟨lw_p26, List.forall_mem_cons.mpr ⟨lw_p27, List.forall_mem_cons.mpr ⟨lw_p28, List.forall_mem_cons.mpr ⟨lw_p29, List.forall_mem_cons.mpr ⟨lw_p30, List.forall_mem_cons.mpr ⟨lw_p31, fun _ h => absurd h List.not_mem_nil⟩⟩⟩⟩⟩⟩⟩⟩⟩⟩⟩⟩⟩⟩⟩⟩
theorem lw_p32 : lw_okq (⟨"CorkageOnRemarksModel", "changes", "(II)V"⟩, 38) := ⟨⟨by decide +kernel, by decide +kernel⟩, List.mem_of_getElem? (i := 679) (by decide +kernel), List.mem_of_getElem? (i := 869) (by decide +kernel), List.mem_of_getElem? (i := 870) (by decide +kernel)⟩
theorem lw_p33 : lw_okq (⟨"CorkageOnRemarksModel", "isRemark", "(I)Z"⟩, 38) := ⟨⟨by decide +kernel, by decide +kernel⟩, List.mem_of_getElem? (i := 679) (by decide +kernel), List.mem_of_getElem? (i := 889) (by decide +kernel), List.mem_of_getElem? (i := 890) (by decide +kernel)⟩
theorem lw_p34 : lw_okq (⟨"CorkageOnRemarksModel", "minutesOf", "(I)I"⟩, 38) := ⟨⟨by decide +kernel, by decide +kernel⟩, List.mem_of_getElem? (i := 679) (by decide +kernel), List.mem_of_getElem? (i := 893) (by decide +kernel), List.mem_of_getElem? (i := 894) (by decide +kernel)⟩
theorem lw_p35 : lw_okq (⟨"CorkageOnRemarksModel", "priceOf", "(I)I"⟩, 38) := ⟨⟨by decide +kernel, by decide +kernel⟩, List.mem_of_getElem? (i := 679) (by decide +kernel), List.mem_of_getElem? (i := 897) (by decide +kernel), List.mem_of_getElem? (i := 898) (by decide +kernel)⟩
theorem lw_p36 : lw_okq (⟨"CorkageOnRemarksModel", "hears", "(I)I"⟩, 38) := ⟨⟨by decide +kernel, by decide +kernel⟩, List.mem_of_getElem? (i := 679) (by decide +kernel), List.mem_of_getElem? (i := 901) (by decide +kernel), List.mem_of_getElem? (i := 902) (by decide +kernel)⟩
theorem lw_p37 : lw_okq (⟨"CorkageOnRemarksModel", "dines", "(I)I"⟩, 38) := ⟨⟨by decide +kernel, by decide +kernel⟩, List.mem_of_getElem? (i := 679) (by decide +kernel), List.mem_of_getElem? (i := 925) (by decide +kernel), List.mem_of_getElem? (i := 926) (by decide +kernel)⟩
theorem lw_p38 : lw_okq (⟨"CorkageOnRemarksModel", "opens", "(I)V"⟩, 38) := ⟨⟨by decide +kernel, by decide +kernel⟩, List.mem_of_getElem? (i := 679) (by decide +kernel), List.mem_of_getElem? (i := 929) (by decide +kernel), List.mem_of_getElem? (i := 930) (by decide +kernel)⟩
theorem lw_p39 : lw_okq (⟨"CorkageOnRemarksModel", "moreOf", "(I)I"⟩, 38) := ⟨⟨by decide +kernel, by decide +kernel⟩, List.mem_of_getElem? (i := 679) (by decide +kernel), List.mem_of_getElem? (i := 939) (by decide +kernel), List.mem_of_getElem? (i := 940) (by decide +kernel)⟩
theorem lw_p40 : lw_okq (⟨"CorkageOnRemarksModel", "lessOf", "(I)I"⟩, 38) := ⟨⟨by decide +kernel, by decide +kernel⟩, List.mem_of_getElem? (i := 679) (by decide +kernel), List.mem_of_getElem? (i := 943) (by decide +kernel), List.mem_of_getElem? (i := 944) (by decide +kernel)⟩
theorem lw_p41 : lw_okq (⟨"CorkageOnRemarksModel", "takes", "(I)V"⟩, 38) := ⟨⟨by decide +kernel, by decide +kernel⟩, List.mem_of_getElem? (i := 679) (by decide +kernel), List.mem_of_getElem? (i := 947) (by decide +kernel), List.mem_of_getElem? (i := 948) (by decide +kernel)⟩
theorem lw_p42 : lw_okq (⟨"CorkageOnRemarksModel", "nextReady", "(I)I"⟩, 38) := ⟨⟨by decide +kernel, by decide +kernel⟩, List.mem_of_getElem? (i := 679) (by decide +kernel), List.mem_of_getElem? (i := 951) (by decide +kernel), List.mem_of_getElem? (i := 952) (by decide +kernel)⟩
theorem lw_p43 : lw_okq (⟨"CorkageOnRemarksModel", "all", "()I"⟩, 38) := ⟨⟨by decide +kernel, by decide +kernel⟩, List.mem_of_getElem? (i := 679) (by decide +kernel), List.mem_of_getElem? (i := 955) (by decide +kernel), List.mem_of_getElem? (i := 956) (by decide +kernel)⟩
theorem lw_p44 : lw_okq (⟨"CorkageOnRemarksModel", "billOf", "(I)I"⟩, 38) := ⟨⟨by decide +kernel, by decide +kernel⟩, List.mem_of_getElem? (i := 679) (by decide +kernel), List.mem_of_getElem? (i := 959) (by decide +kernel), List.mem_of_getElem? (i := 960) (by decide +kernel)⟩
theorem lw_p45 : lw_okq (⟨"CorkageOnRemarksModel", "openedMany", "()I"⟩, 38) := ⟨⟨by decide +kernel, by decide +kernel⟩, List.mem_of_getElem? (i := 679) (by decide +kernel), List.mem_of_getElem? (i := 963) (by decide +kernel), List.mem_of_getElem? (i := 964) (by decide +kernel)⟩
theorem lw_p46 : lw_okq (⟨"CorkageOnRemarksModel", "lastOpened", "()I"⟩, 38) := ⟨⟨by decide +kernel, by decide +kernel⟩, List.mem_of_getElem? (i := 679) (by decide +kernel), List.mem_of_getElem? (i := 967) (by decide +kernel), List.mem_of_getElem? (i := 968) (by decide +kernel)⟩
theorem lw_p47 : lw_okq (⟨"CorkageOnRemarksModel", "lowe\x72", "(I)I"⟩, 38) := ⟨⟨by decide +kernel, by decide +kernel⟩, List.mem_of_getElem? (i := 679) (by decide +kernel), List.mem_of_getElem? (i := 987) (by decide +kernel), List.mem_of_getElem? (i := 988) (by decide +kernel)⟩
def lw_privs_3 : List (MethodName × Nat) := [(⟨"CorkageOnRemarksModel", "changes", "(II)V"⟩, 38), (⟨"CorkageOnRemarksModel", "isRemark", "(I)Z"⟩, 38), (⟨"CorkageOnRemarksModel", "minutesOf", "(I)I"⟩, 38), (⟨"CorkageOnRemarksModel", "priceOf", "(I)I"⟩, 38), (⟨"CorkageOnRemarksModel", "hears", "(I)I"⟩, 38), (⟨"CorkageOnRemarksModel", "dines", "(I)I"⟩, 38), (⟨"CorkageOnRemarksModel", "opens", "(I)V"⟩, 38), (⟨"CorkageOnRemarksModel", "moreOf", "(I)I"⟩, 38), (⟨"CorkageOnRemarksModel", "lessOf", "(I)I"⟩, 38), (⟨"CorkageOnRemarksModel", "takes", "(I)V"⟩, 38), (⟨"CorkageOnRemarksModel", "nextReady", "(I)I"⟩, 38), (⟨"CorkageOnRemarksModel", "all", "()I"⟩, 38), (⟨"CorkageOnRemarksModel", "billOf", "(I)I"⟩, 38), (⟨"CorkageOnRemarksModel", "openedMany", "()I"⟩, 38), (⟨"CorkageOnRemarksModel", "lastOpened", "()I"⟩, 38), (⟨"CorkageOnRemarksModel", "lowe\x72", "(I)I"⟩, 38)]
theorem lw_r3 : ∀ q ∈ lw_privs_3, lw_okq q := List.forall_mem_cons.mpr ⟨lw_p32, List.forall_mem_cons.mpr ⟨lw_p33, List.forall_mem_cons.mpr ⟨lw_p34, List.forall_mem_cons.mpr ⟨lw_p35, List.forall_mem_cons.mpr ⟨lw_p36, List.forall_mem_cons.mpr ⟨lw_p37, List.forall_mem_cons.mpr ⟨lw_p38, List.forall_mem_cons.mpr ⟨lw_p39, List.forall_mem_cons.mpr ⟨lw_p40, List.forall_mem_cons.mpr ⟨lw_p41, List.forall_mem_cons.mpr ⟨lw_p42, List.forall_mem_cons.mpr ⟨lw_p43, List.forall_mem_cons.mpr ⟨lw_p44, List.forall_mem_cons.mpr ⟨lw_p45, List.forall_mem_cons.mpr ⟨lw_p46, List.forall_mem_cons.mpr ⟨lw_p47, fun _ h => absurd h List.not_mem_nil⟩⟩⟩⟩⟩⟩⟩⟩⟩⟩⟩⟩⟩⟩⟩⟩
theorem lw_p48 : lw_okq (⟨"CorkageOnRemarksModel", "moodsReady", "(II)I"⟩, 38) := ⟨⟨by decide +kernel, by decide +kernel⟩, List.mem_of_getElem? (i := 679) (by decide +kernel), List.mem_of_getElem? (i := 996) (by decide +kernel), List.mem_of_getElem? (i := 997) (by decide +kernel)⟩
theorem lw_p49 : lw_okq (⟨"CorkageOnRemarksModel", "likedBy", "(I)I"⟩, 38) := ⟨⟨by decide +kernel, by decide +kernel⟩, List.mem_of_getElem? (i := 679) (by decide +kernel), List.mem_of_getElem? (i := 1016) (by decide +kernel), List.mem_of_getElem? (i := 1017) (by decide +kernel)⟩
theorem lw_p50 : lw_okq (⟨"CorkageOnRemarksModel", "isOpenedAt", "(I)Z"⟩, 38) := ⟨⟨by decide +kernel, by decide +kernel⟩, List.mem_of_getElem? (i := 679) (by decide +kernel), List.mem_of_getElem? (i := 1036) (by decide +kernel), List.mem_of_getElem? (i := 1037) (by decide +kernel)⟩
theorem lw_p51 : lw_okq (⟨"CorkageOnRemarksModel", "isSo", "(I)Z"⟩, 38) := ⟨⟨by decide +kernel, by decide +kernel⟩, List.mem_of_getElem? (i := 679) (by decide +kernel), List.mem_of_getElem? (i := 1048) (by decide +kernel), List.mem_of_getElem? (i := 1049) (by decide +kernel)⟩
theorem lw_p52 : lw_okq (⟨"CorkageOnRemarksModel", "broughtBy", "(I)I"⟩, 38) := ⟨⟨by decide +kernel, by decide +kernel⟩, List.mem_of_getElem? (i := 679) (by decide +kernel), List.mem_of_getElem? (i := 1056) (by decide +kernel), List.mem_of_getElem? (i := 1057) (by decide +kernel)⟩
theorem lw_p53 : lw_okq (⟨"CorkageOnRemarksModel", "rests", "(I)Z"⟩, 38) := ⟨⟨by decide +kernel, by decide +kernel⟩, List.mem_of_getElem? (i := 679) (by decide +kernel), List.mem_of_getElem? (i := 1060) (by decide +kernel), List.mem_of_getElem? (i := 1061) (by decide +kernel)⟩
theorem lw_p54 : lw_okq (⟨"CorkageOnRemarksModel", "lowest", "(I)J"⟩, 38) := ⟨⟨by decide +kernel, by decide +kernel⟩, List.mem_of_getElem? (i := 679) (by decide +kernel), List.mem_of_getElem? (i := 1072) (by decide +kernel), List.mem_of_getElem? (i := 1073) (by decide +kernel)⟩
theorem lw_p55 : lw_okq (⟨"CorkageOnRemarksModel", "openedBy", "(I)I"⟩, 38) := ⟨⟨by decide +kernel, by decide +kernel⟩, List.mem_of_getElem? (i := 679) (by decide +kernel), List.mem_of_getElem? (i := 1088) (by decide +kernel), List.mem_of_getElem? (i := 1089) (by decide +kernel)⟩
def lw_privs_4 : List (MethodName × Nat) := [(⟨"CorkageOnRemarksModel", "moodsReady", "(II)I"⟩, 38), (⟨"CorkageOnRemarksModel", "likedBy", "(I)I"⟩, 38), (⟨"CorkageOnRemarksModel", "isOpenedAt", "(I)Z"⟩, 38), (⟨"CorkageOnRemarksModel", "isSo", "(I)Z"⟩, 38), (⟨"CorkageOnRemarksModel", "broughtBy", "(I)I"⟩, 38), (⟨"CorkageOnRemarksModel", "rests", "(I)Z"⟩, 38), (⟨"CorkageOnRemarksModel", "lowest", "(I)J"⟩, 38), (⟨"CorkageOnRemarksModel", "openedBy", "(I)I"⟩, 38)]
theorem lw_r4 : ∀ q ∈ lw_privs_4, lw_okq q := List.forall_mem_cons.mpr ⟨lw_p48, List.forall_mem_cons.mpr ⟨lw_p49, List.forall_mem_cons.mpr ⟨lw_p50, List.forall_mem_cons.mpr ⟨lw_p51, List.forall_mem_cons.mpr ⟨lw_p52, List.forall_mem_cons.mpr ⟨lw_p53, List.forall_mem_cons.mpr ⟨lw_p54, List.forall_mem_cons.mpr ⟨lw_p55, fun _ h => absurd h List.not_mem_nil⟩⟩⟩⟩⟩⟩⟩⟩
def lw_privs : List (MethodName × Nat) := lw_privs_1 ++ (lw_privs_2 ++ (lw_privs_3 ++ (lw_privs_4)))
def lw_tbl : List Cond := k2_sels lw_privs ++ tables_1
theorem lw_privs_ok : ∀ q ∈ lw_privs, lw_okq q := by
  show ∀ q ∈ lw_privs_1 ++ (lw_privs_2 ++ (lw_privs_3 ++ (lw_privs_4))), lw_okq q
  exact List.forall_mem_append.mpr ⟨lw_r1, List.forall_mem_append.mpr ⟨lw_r2, List.forall_mem_append.mpr ⟨lw_r3, lw_r4⟩⟩⟩

-- ===== end of PART A; then your names; then what follows =====
/-! THE CLAIM OUT OF ONE WALK OF THE LAW'S BODY. Your part is whole_start (and what it stands on); all else here is the same for every law, but numbers. -/
def R_law : String := "CorkageOnRemarksLaw"
def lw_P (b : Addr) (xs : List Int32) (args : Array Value) (s : State) : Prop := args = #[.ref b] ∧ s.IntsAt b xs ∧ xs.length ≤ 2048 ∧ (Jvm.Cond.and given_1 narrow_1).before args s = true
def lw_Q (_ : Array Value) (s : State) (o : Outcome) (t : State) : Prop := o = .returned (some (.int 1)) ∧ Framed s o t [] 63 1586
def lw_Z (below : List Frame) (a : Array Value) (s : State) : State → Prop := fun t => ∃ o, t.status = .running ∧ Ended t below o ∧ lw_Q a s o t
/-- the law's own end, with 1 on the stack, nothing written that was there before, its room as the claim has it -/
theorem lw_ret {p : Program} {l : Launch} {e : Env} {s : State} {m : MethodId} {below : List Frame} {meth : Method} {c : Code} {b : Nat} (hx : p.tables.exec = Jvm.exec) (hb : c.code = code) (hr : meth.sig.returnType = ret) (hlocks : meth.locks = false) {pc : Nat} {H : Heap} {ls : Array Slot} (hdg : decode code pc = .ok (.ireturn, 1)) : W p l e room_1 s m #[Value.ref b] below meth c H [] 63 1586 (lw_Z below #[Value.ref b] s) (F0 m pc ls [.int 1]) := by
  intro T hT X
  obtain ⟨fs, hret, hrun, hended, hW, hframe⟩ := X.leave (v := some (.int 1)) (hlocks := hlocks) (fun h => by rw [hr] at h; cases h)
  have hmeth' : T.vm.method? m = some meth := X.method'
  refine ⟨T.setFrames fs, ?_, .returned (some (.int 1)), hrun, hended, rfl, ⟨_, rfl⟩, hW, hframe⟩
  jvm_step X.here [X.here.top, hx, hb, hdg, hmeth', hr, ret, narrow_b1]
  (try refine ⟨rfl, ?_⟩); (try refine ⟨rfl, ?_⟩)
  first | (intro acts; rw [hret _ acts rfl rfl rfl]) | rw [hret _ _ rfl rfl rfl]
  exact Steps.refl _
/-- what holds at the law's entry: the machine, the code, the tables' words (any of lw_tbl by 'hts w (by decide +kernel)'), the script of L ints xs at the cell b, what the Statement gives of the start (any of its parts by flat_of_before) -/
def lw_At (p : Program) (s : State) (m : MethodId) (meth : Method) (c : Code) (b L : Nat) (xs : Nat → Int32) : Prop :=
  p.tables.exec = Jvm.exec ∧ c.code = code ∧ meth.sig.returnType = ret ∧ c.maxLocals = 4 ∧ s.vm.findClass R_law = some m.cls ∧ (∀ w ∈ lw_tbl, w.before #[Value.ref b] s = true) ∧ va_X b L xs s s.heap ∧ b < s.heap.size ∧ meth.locks = false ∧ (Jvm.Cond.and given_1 narrow_1).before #[Value.ref b] s = true

def R_X : String := "CorkageOnRemarks"
def F_X : u_T := fun k => match k with
  | 0 => (R_X, "now", "LCorkageOnRemarks$Table;", true)
  | 1 => (R_X, "kept", "LCorkageOnRemarks$Table;", true)
  | 2 => (R_X, "isKept", "Z", false)
  | 3 => (R_X, "letters", "LCorkageOnRemarks$Letters;", true)
  | 4 => (R_X, "told", "[I", true)
  | 5 => (R_X, "toldSize", "I", false)
  | 6 => (R_X, "refusals", "[I", true)
  | 7 => (R_X, "trials", "LCorkageOnRemarks$Trials;", true)
  | _ => (R_X, "shares", "LCorkageOnRemarks$Shares;", true)
def t_X : Nat → FieldType := fun k => match k with
  | 0 => .object "CorkageOnRemarks$Table"
  | 1 => .object "CorkageOnRemarks$Table"
  | 2 => .boolean
  | 3 => .object "CorkageOnRemarks$Letters"
  | 4 => .array .int
  | 5 => .int
  | 6 => .array .int
  | 7 => .object "CorkageOnRemarks$Trials"
  | _ => .object "CorkageOnRemarks$Shares"
theorem n_X : ∀ a, a < 9 → ∀ b, b < 9 → a ≠ b → (F_X a).2.1 ≠ (F_X b).2.1 := by decide +kernel
theorem t_X_ok : ∀ k, k < 9 → parseFieldDescriptor (F_X k).2.2.1 = some (t_X k) := by decide +kernel
theorem il_X : ∀ k, k < 9 → tables_1[([172, 174, 176, 178, 180, 182, 184, 186, 188] : List Nat).getD k 0]? = some (u_lay R_X F_X k) := by decide +kernel
theorem i_X : ∀ w ∈ u_ws R_X F_X 9, w ∈ lw_tbl := by
  intro w hw
  obtain ⟨k, hk, rfl⟩ := List.mem_map.mp hw
  exact List.mem_append_right _ (List.mem_of_getElem? (il_X k (List.mem_range.mp hk)))
def R_Tb : String := "CorkageOnRemarks$Table"
def F_Tb : u_T := fun k => match k with
  | 0 => (R_Tb, "likes", "[I", true)
  | 1 => (R_Tb, "moods", "[I", true)
  | 2 => (R_Tb, "kinds", "[I", true)
  | 3 => (R_Tb, "figures", "[I", true)
  | 4 => (R_Tb, "bringers", "[I", true)
  | 5 => (R_Tb, "topics", "[I", true)
  | 6 => (R_Tb, "readies", "[I", true)
  | 7 => (R_Tb, "guests", "I", false)
  | 8 => (R_Tb, "remarks", "I", false)
  | 9 => (R_Tb, "waiters", "I", false)
  | _ => (R_Tb, "corkage", "I", false)
def t_Tb : Nat → FieldType := fun k => match k with
  | 0 => .array .int
  | 1 => .array .int
  | 2 => .array .int
  | 3 => .array .int
  | 4 => .array .int
  | 5 => .array .int
  | 6 => .array .int
  | 7 => .int
  | 8 => .int
  | 9 => .int
  | _ => .int
theorem n_Tb : ∀ a, a < 11 → ∀ b, b < 11 → a ≠ b → (F_Tb a).2.1 ≠ (F_Tb b).2.1 := by decide +kernel
theorem t_Tb_ok : ∀ k, k < 11 → parseFieldDescriptor (F_Tb k).2.2.1 = some (t_Tb k) := by decide +kernel
theorem il_Tb : ∀ k, k < 11 → tables_1[([61, 63, 65, 67, 69, 71, 73, 75, 77, 79, 81] : List Nat).getD k 0]? = some (u_lay R_Tb F_Tb k) := by decide +kernel
theorem i_Tb : ∀ w ∈ u_ws R_Tb F_Tb 11, w ∈ lw_tbl := by
  intro w hw
  obtain ⟨k, hk, rfl⟩ := List.mem_map.mp hw
  exact List.mem_append_right _ (List.mem_of_getElem? (il_Tb k (List.mem_range.mp hk)))
def R_Lt : String := "CorkageOnRemarks$Letters"
def F_Lt : u_T := fun k => match k with
  | 0 => (R_Lt, "signs", "[I", true)
  | _ => (R_Lt, "size", "I", false)
def t_Lt : Nat → FieldType := fun k => match k with
  | 0 => .array .int
  | _ => .int
theorem n_Lt : ∀ a, a < 2 → ∀ b, b < 2 → a ≠ b → (F_Lt a).2.1 ≠ (F_Lt b).2.1 := by decide +kernel
theorem t_Lt_ok : ∀ k, k < 2 → parseFieldDescriptor (F_Lt k).2.2.1 = some (t_Lt k) := by decide +kernel
theorem il_Lt : ∀ k, k < 2 → tables_1[([94, 96] : List Nat).getD k 0]? = some (u_lay R_Lt F_Lt k) := by decide +kernel
theorem i_Lt : ∀ w ∈ u_ws R_Lt F_Lt 2, w ∈ lw_tbl := by
  intro w hw
  obtain ⟨k, hk, rfl⟩ := List.mem_map.mp hw
  exact List.mem_append_right _ (List.mem_of_getElem? (il_Lt k (List.mem_range.mp hk)))
def R_Ev : String := "CorkageOnRemarks$Evening"
def F_Ev : u_T := fun k => match k with
  | 0 => (R_Ev, "table", "LCorkageOnRemarks$Table;", true)
  | 1 => (R_Ev, "taken", "[I", true)
  | 2 => (R_Ev, "opened", "[I", true)
  | 3 => (R_Ev, "sentBack", "[Z", true)
  | 4 => (R_Ev, "moods", "[I", true)
  | 5 => (R_Ev, "done", "[I", true)
  | _ => (R_Ev, "left", "I", false)
def t_Ev : Nat → FieldType := fun k => match k with
  | 0 => .object "CorkageOnRemarks$Table"
  | 1 => .array .int
  | 2 => .array .int
  | 3 => .array .boolean
  | 4 => .array .int
  | 5 => .array .int
  | _ => .int
theorem n_Ev : ∀ a, a < 7 → ∀ b, b < 7 → a ≠ b → (F_Ev a).2.1 ≠ (F_Ev b).2.1 := by decide +kernel
theorem t_Ev_ok : ∀ k, k < 7 → parseFieldDescriptor (F_Ev k).2.2.1 = some (t_Ev k) := by decide +kernel
theorem il_Ev : ∀ k, k < 7 → tables_1[([125, 127, 129, 131, 133, 135, 137] : List Nat).getD k 0]? = some (u_lay R_Ev F_Ev k) := by decide +kernel
theorem i_Ev : ∀ w ∈ u_ws R_Ev F_Ev 7, w ∈ lw_tbl := by
  intro w hw
  obtain ⟨k, hk, rfl⟩ := List.mem_map.mp hw
  exact List.mem_append_right _ (List.mem_of_getElem? (il_Ev k (List.mem_range.mp hk)))
def R_Tr : String := "CorkageOnRemarks$Trials"
def F_Tr : u_T := fun k => match k with
  | 0 => (R_Tr, "evening", "LCorkageOnRemarks$Evening;", true)
  | _ => (R_Tr, "trial", "LCorkageOnRemarks$Table;", true)
def t_Tr : Nat → FieldType := fun k => match k with
  | 0 => .object "CorkageOnRemarks$Evening"
  | _ => .object "CorkageOnRemarks$Table"
theorem n_Tr : ∀ a, a < 2 → ∀ b, b < 2 → a ≠ b → (F_Tr a).2.1 ≠ (F_Tr b).2.1 := by decide +kernel
theorem t_Tr_ok : ∀ k, k < 2 → parseFieldDescriptor (F_Tr k).2.2.1 = some (t_Tr k) := by decide +kernel
theorem il_Tr : ∀ k, k < 2 → tables_1[([145, 147] : List Nat).getD k 0]? = some (u_lay R_Tr F_Tr k) := by decide +kernel
theorem i_Tr : ∀ w ∈ u_ws R_Tr F_Tr 2, w ∈ lw_tbl := by
  intro w hw
  obtain ⟨k, hk, rfl⟩ := List.mem_map.mp hw
  exact List.mem_append_right _ (List.mem_of_getElem? (il_Tr k (List.mem_range.mp hk)))
def R_Sh : String := "CorkageOnRemarks$Shares"
def F_Sh : u_T := fun k => match k with
  | 0 => (R_Sh, "ove\x72", "[I", true)
  | _ => (R_Sh, "groups", "[I", true)
def t_Sh : Nat → FieldType := fun k => match k with
  | 0 => .array .int
  | _ => .array .int
theorem n_Sh : ∀ a, a < 2 → ∀ b, b < 2 → a ≠ b → (F_Sh a).2.1 ≠ (F_Sh b).2.1 := by decide +kernel
theorem t_Sh_ok : ∀ k, k < 2 → parseFieldDescriptor (F_Sh k).2.2.1 = some (t_Sh k) := by decide +kernel
theorem il_Sh : ∀ k, k < 2 → tables_1[([158, 160] : List Nat).getD k 0]? = some (u_lay R_Sh F_Sh k) := by decide +kernel
theorem i_Sh : ∀ w ∈ u_ws R_Sh F_Sh 2, w ∈ lw_tbl := by
  intro w hw
  obtain ⟨k, hk, rfl⟩ := List.mem_map.mp hw
  exact List.mem_append_right _ (List.mem_of_getElem? (il_Sh k (List.mem_range.mp hk)))
def R_Mo : String := "CorkageOnRemarksModel"
def F_Mo : u_T := fun k => match k with
  | 0 => (R_Mo, "likes", "[I", true)
  | 1 => (R_Mo, "moods", "[I", true)
  | 2 => (R_Mo, "kind", "[I", true)
  | 3 => (R_Mo, "figure", "[I", true)
  | 4 => (R_Mo, "owne\x72", "[I", true)
  | 5 => (R_Mo, "topic", "[I", true)
  | 6 => (R_Mo, "readyAt", "[I", true)
  | 7 => (R_Mo, "guests", "I", false)
  | 8 => (R_Mo, "remarks", "I", false)
  | 9 => (R_Mo, "waiters", "I", false)
  | 10 => (R_Mo, "corkage", "I", false)
  | 11 => (R_Mo, "refused", "[I", true)
  | 12 => (R_Mo, "tape", "[I", true)
  | 13 => (R_Mo, "lette\x72", "[I", true)
  | 14 => (R_Mo, "letterAt", "[I", true)
  | 15 => (R_Mo, "told", "[I", true)
  | 16 => (R_Mo, "taped", "I", false)
  | 17 => (R_Mo, "at", "I", false)
  | 18 => (R_Mo, "statements", "I", false)
  | 19 => (R_Mo, "kept", "[I", true)
  | 20 => (R_Mo, "hasImage", "Z", false)
  | 21 => (R_Mo, "isKeeping", "Z", false)
  | 22 => (R_Mo, "curso\x72", "I", false)
  | 23 => (R_Mo, "mood", "[I", true)
  | 24 => (R_Mo, "taken", "[I", true)
  | 25 => (R_Mo, "opened", "[I", true)
  | 26 => (R_Mo, "freeAt", "[I", true)
  | 27 => (R_Mo, "moodsBehind", "[I", true)
  | 28 => (R_Mo, "leftOut", "I", false)
  | 29 => (R_Mo, "sentBack", "I", false)
  | 30 => (R_Mo, "busySome", "I", false)
  | 31 => (R_Mo, "busyAll", "I", false)
  | 32 => (R_Mo, "row", "[I", true)
  | 33 => (R_Mo, "rowMany", "I", false)
  | 34 => (R_Mo, "oneHas", "[I", true)
  | 35 => (R_Mo, "otherHas", "[I", true)
  | 36 => (R_Mo, "ove\x72", "[I", true)
  | _ => (R_Mo, "groups", "[I", true)
def t_Mo : Nat → FieldType := fun k => match k with
  | 0 => .array .int
  | 1 => .array .int
  | 2 => .array .int
  | 3 => .array .int
  | 4 => .array .int
  | 5 => .array .int
  | 6 => .array .int
  | 7 => .int
  | 8 => .int
  | 9 => .int
  | 10 => .int
  | 11 => .array .int
  | 12 => .array .int
  | 13 => .array .int
  | 14 => .array .int
  | 15 => .array .int
  | 16 => .int
  | 17 => .int
  | 18 => .int
  | 19 => .array .int
  | 20 => .boolean
  | 21 => .boolean
  | 22 => .int
  | 23 => .array .int
  | 24 => .array .int
  | 25 => .array .int
  | 26 => .array .int
  | 27 => .array .int
  | 28 => .int
  | 29 => .int
  | 30 => .int
  | 31 => .int
  | 32 => .array .int
  | 33 => .int
  | 34 => .array .int
  | 35 => .array .int
  | 36 => .array .int
  | _ => .array .int
theorem n_Mo : ∀ a, a < 38 → ∀ b, b < 38 → a ≠ b → (F_Mo a).2.1 ≠ (F_Mo b).2.1 := by decide +kernel
theorem t_Mo_ok : ∀ k, k < 38 → parseFieldDescriptor (F_Mo k).2.2.1 = some (t_Mo k) := by decide +kernel
theorem il_Mo : ∀ k, k < 38 → tables_1[([724, 726, 728, 730, 732, 734, 736, 738, 740, 742, 744, 722, 746, 748, 750, 752, 754, 756, 758, 760, 762, 764, 766, 768, 770, 772, 774, 776, 778, 780, 782, 784, 786, 788, 790, 792, 794, 796] : List Nat).getD k 0]? = some (u_lay R_Mo F_Mo k) := by decide +kernel
theorem i_Mo : ∀ w ∈ u_ws R_Mo F_Mo 38, w ∈ lw_tbl := by
  intro w hw
  obtain ⟨k, hk, rfl⟩ := List.mem_map.mp hw
  exact List.mem_append_right _ (List.mem_of_getElem? (il_Mo k (List.mem_range.mp hk)))
abbrev cls9 : List vw_C := [(R_X, F_X, 9), (R_Tb, F_Tb, 11), (R_Lt, F_Lt, 2), (R_Ev, F_Ev, 7), (R_Tr, F_Tr, 2), (R_Sh, F_Sh, 2), (R_Mo, F_Mo, 38)]
