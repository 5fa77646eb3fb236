section
-- the tables' words and the law's frame: begun from the kit's skeleton; then this claim's names, fields, cells
-- ===== PART A: goes FIRST, ahead of the names: the tables' words, and 'selects' of the private methods out of them =====
/-- a private method of a class that the tables say can be made, by its rows of tables_1 -/
def lw_okq (q : MethodName × Nat) : Prop := (q.1.cls ≠ "java/lang/invoke/MethodHandle" ∧ q.1.cls ≠ "java/lang/invoke/VarHandle") ∧ Cond.instantiable q.1.cls q.2 ∈ tables_1 ∧ Cond.privateMethod q.1 ∈ tables_1 ∧ Cond.instanceMethod q.1 ∈ tables_1
theorem lw_p0 : lw_okq (⟨"CorkageOnRemarks", "refuse", "(I)I"⟩, 9) := ⟨⟨by decide +kernel, by decide +kernel⟩, List.mem_of_getElem? (i := 12) (by decide +kernel), List.mem_of_getElem? (i := 196) (by decide +kernel), List.mem_of_getElem? (i := 197) (by decide +kernel)⟩
theorem lw_p1 : lw_okq (⟨"CorkageOnRemarks", "become", "()I"⟩, 9) := ⟨⟨by decide +kernel, by decide +kernel⟩, List.mem_of_getElem? (i := 12) (by decide +kernel), List.mem_of_getElem? (i := 208) (by decide +kernel), List.mem_of_getElem? (i := 209) (by decide +kernel)⟩
theorem lw_p2 : lw_okq (⟨"CorkageOnRemarks$Letters", "strayFrom", "(I)I"⟩, 2) := ⟨⟨by decide +kernel, by decide +kernel⟩, List.mem_of_getElem? (i := 86) (by decide +kernel), List.mem_of_getElem? (i := 216) (by decide +kernel), List.mem_of_getElem? (i := 217) (by decide +kernel)⟩
theorem lw_p3 : lw_okq (⟨"CorkageOnRemarks$Letters", "numbe\x72", "(II)I"⟩, 2) := ⟨⟨by decide +kernel, by decide +kernel⟩, List.mem_of_getElem? (i := 86) (by decide +kernel), List.mem_of_getElem? (i := 241) (by decide +kernel), List.mem_of_getElem? (i := 242) (by decide +kernel)⟩
theorem lw_p4 : lw_okq (⟨"CorkageOnRemarks", "eveningNow", "()LCorkageOnRemarks$Evening;"⟩, 9) := ⟨⟨by decide +kernel, by decide +kernel⟩, List.mem_of_getElem? (i := 12) (by decide +kernel), List.mem_of_getElem? (i := 332) (by decide +kernel), List.mem_of_getElem? (i := 333) (by decide +kernel)⟩
theorem lw_p5 : lw_okq (⟨"CorkageOnRemarks$Evening", "open", "(II)V"⟩, 7) := ⟨⟨by decide +kernel, by decide +kernel⟩, List.mem_of_getElem? (i := 106) (by decide +kernel), List.mem_of_getElem? (i := 348) (by decide +kernel), List.mem_of_getElem? (i := 349) (by decide +kernel)⟩
theorem lw_p6 : lw_okq (⟨"CorkageOnRemarks$Evening", "changeMoods", "(II)V"⟩, 7) := ⟨⟨by decide +kernel, by decide +kernel⟩, List.mem_of_getElem? (i := 106) (by decide +kernel), List.mem_of_getElem? (i := 367) (by decide +kernel), List.mem_of_getElem? (i := 368) (by decide +kernel)⟩
theorem lw_p7 : lw_okq (⟨"CorkageOnRemarks$Evening", "takeWhatIsReady", "(I)V"⟩, 7) := ⟨⟨by decide +kernel, by decide +kernel⟩, List.mem_of_getElem? (i := 106) (by decide +kernel), List.mem_of_getElem? (i := 380) (by decide +kernel), List.mem_of_getElem? (i := 381) (by decide +kernel)⟩
theorem lw_p8 : lw_okq (⟨"CorkageOnRemarks$Evening", "busyAt", "(I)I"⟩, 7) := ⟨⟨by decide +kernel, by decide +kernel⟩, List.mem_of_getElem? (i := 106) (by decide +kernel), List.mem_of_getElem? (i := 384) (by decide +kernel), List.mem_of_getElem? (i := 385) (by decide +kernel)⟩
theorem lw_p9 : lw_okq (⟨"CorkageOnRemarks$Evening", "nextToTake", "(I)I"⟩, 7) := ⟨⟨by decide +kernel, by decide +kernel⟩, List.mem_of_getElem? (i := 106) (by decide +kernel), List.mem_of_getElem? (i := 388) (by decide +kernel), List.mem_of_getElem? (i := 389) (by decide +kernel)⟩
theorem lw_p10 : lw_okq (⟨"CorkageOnRemarks$Trials", "moodsLeaving", "(I)I"⟩, 2) := ⟨⟨by decide +kernel, by decide +kernel⟩, List.mem_of_getElem? (i := 100) (by decide +kernel), List.mem_of_getElem? (i := 448) (by decide +kernel), List.mem_of_getElem? (i := 449) (by decide +kernel)⟩
theorem lw_p11 : lw_okq (⟨"CorkageOnRemarks$Evening", "isSilent", "(I)Z"⟩, 7) := ⟨⟨by decide +kernel, by decide +kernel⟩, List.mem_of_getElem? (i := 106) (by decide +kernel), List.mem_of_getElem? (i := 540) (by decide +kernel), List.mem_of_getElem? (i := 541) (by decide +kernel)⟩
theorem lw_p12 : lw_okq (⟨"CorkageOnRemarks", "kindsAsTold", "(II)I"⟩, 9) := ⟨⟨by decide +kernel, by decide +kernel⟩, List.mem_of_getElem? (i := 12) (by decide +kernel), List.mem_of_getElem? (i := 560) (by decide +kernel), List.mem_of_getElem? (i := 561) (by decide +kernel)⟩
theorem lw_p13 : lw_okq (⟨"CorkageOnRemarks", "topicsAsTold", "(II)I"⟩, 9) := ⟨⟨by decide +kernel, by decide +kernel⟩, List.mem_of_getElem? (i := 12) (by decide +kernel), List.mem_of_getElem? (i := 568) (by decide +kernel), List.mem_of_getElem? (i := 569) (by decide +kernel)⟩
theorem lw_p14 : lw_okq (⟨"CorkageOnRemarks$Trials", "worthOf", "(II)I"⟩, 2) := ⟨⟨by decide +kernel, by decide +kernel⟩, List.mem_of_getElem? (i := 100) (by decide +kernel), List.mem_of_getElem? (i := 585) (by decide +kernel), List.mem_of_getElem? (i := 586) (by decide +kernel)⟩
theorem lw_p15 : lw_okq (⟨"CorkageOnRemarks$Shares", "findWhoIsOve\x72", "(ILCorkageOnRemarks$Evening;)V"⟩, 2) := ⟨⟨by decide +kernel, by decide +kernel⟩, List.mem_of_getElem? (i := 151) (by decide +kernel), List.mem_of_getElem? (i := 598) (by decide +kernel), List.mem_of_getElem? (i := 599) (by decide +kernel)⟩
def lw_privs_1 : List (MethodName × Nat) := [(⟨"CorkageOnRemarks", "refuse", "(I)I"⟩, 9), (⟨"CorkageOnRemarks", "become", "()I"⟩, 9), (⟨"CorkageOnRemarks$Letters", "strayFrom", "(I)I"⟩, 2), (⟨"CorkageOnRemarks$Letters", "numbe\x72", "(II)I"⟩, 2), (⟨"CorkageOnRemarks", "eveningNow", "()LCorkageOnRemarks$Evening;"⟩, 9), (⟨"CorkageOnRemarks$Evening", "open", "(II)V"⟩, 7), (⟨"CorkageOnRemarks$Evening", "changeMoods", "(II)V"⟩, 7), (⟨"CorkageOnRemarks$Evening", "takeWhatIsReady", "(I)V"⟩, 7), (⟨"CorkageOnRemarks$Evening", "busyAt", "(I)I"⟩, 7), (⟨"CorkageOnRemarks$Evening", "nextToTake", "(I)I"⟩, 7), (⟨"CorkageOnRemarks$Trials", "moodsLeaving", "(I)I"⟩, 2), (⟨"CorkageOnRemarks$Evening", "isSilent", "(I)Z"⟩, 7), (⟨"CorkageOnRemarks", "kindsAsTold", "(II)I"⟩, 9), (⟨"CorkageOnRemarks", "topicsAsTold", "(II)I"⟩, 9), (⟨"CorkageOnRemarks$Trials", "worthOf", "(II)I"⟩, 2), (⟨"CorkageOnRemarks$Shares", "findWhoIsOve\x72", "(ILCorkageOnRemarks$Evening;)V"⟩, 2)]
theorem lw_r1 : ∀ q ∈ lw_privs_1, lw_okq q := List.forall_mem_cons.mpr ⟨lw_p0, List.forall_mem_cons.mpr ⟨lw_p1, List.forall_mem_cons.mpr ⟨lw_p2, List.forall_mem_cons.mpr ⟨lw_p3, List.forall_mem_cons.mpr ⟨lw_p4, List.forall_mem_cons.mpr ⟨lw_p5, List.forall_mem_cons.mpr ⟨lw_p6, List.forall_mem_cons.mpr ⟨lw_p7, List.forall_mem_cons.mpr ⟨lw_p8, List.forall_mem_cons.mpr ⟨lw_p9, List.forall_mem_cons.mpr ⟨lw_p10, List.forall_mem_cons.mpr ⟨lw_p11, List.forall_mem_cons.mpr ⟨lw_p12, List.forall_mem_cons.mpr ⟨lw_p13, List.forall_mem_cons.mpr ⟨lw_p14, List.forall_mem_cons.mpr ⟨lw_p15, fun _ h => absurd h List.not_mem_nil⟩⟩⟩⟩⟩⟩⟩⟩⟩⟩⟩⟩⟩⟩⟩⟩
theorem lw_p16 : lw_okq (⟨"CorkageOnRemarks$Shares", "mostGroups", "(II)I"⟩, 2) := ⟨⟨by decide +kernel, by decide +kernel⟩, List.mem_of_getElem? (i := 151) (by decide +kernel), List.mem_of_getElem? (i := 604) (by decide +kernel), List.mem_of_getElem? (i := 605) (by decide +kernel)⟩
theorem lw_p17 : lw_okq (⟨"CorkageOnRemarks", "refuseLong", "(I)J"⟩, 9) := ⟨⟨by decide +kernel, by decide +kernel⟩, List.mem_of_getElem? (i := 12) (by decide +kernel), List.mem_of_getElem? (i := 613) (by decide +kernel), List.mem_of_getElem? (i := 614) (by decide +kernel)⟩
theorem lw_p18 : lw_okq (⟨"CorkageOnRemarks", "firstUntrue", "(LCorkageOnRemarks$Evening;)I"⟩, 9) := ⟨⟨by decide +kernel, by decide +kernel⟩, List.mem_of_getElem? (i := 12) (by decide +kernel), List.mem_of_getElem? (i := 640) (by decide +kernel), List.mem_of_getElem? (i := 641) (by decide +kernel)⟩
theorem lw_p19 : lw_okq (⟨"CorkageOnRemarksModel", "no", "(I)I"⟩, 38) := ⟨⟨by decide +kernel, by decide +kernel⟩, List.mem_of_getElem? (i := 679) (by decide +kernel), List.mem_of_getElem? (i := 807) (by decide +kernel), List.mem_of_getElem? (i := 808) (by decide +kernel)⟩
theorem lw_p20 : lw_okq (⟨"CorkageOnRemarksModel", "statement", "()Z"⟩, 38) := ⟨⟨by decide +kernel, by decide +kernel⟩, List.mem_of_getElem? (i := 679) (by decide +kernel), List.mem_of_getElem? (i := 815) (by decide +kernel), List.mem_of_getElem? (i := 816) (by decide +kernel)⟩
theorem lw_p21 : lw_okq (⟨"CorkageOnRemarksModel", "next", "()I"⟩, 38) := ⟨⟨by decide +kernel, by decide +kernel⟩, List.mem_of_getElem? (i := 679) (by decide +kernel), List.mem_of_getElem? (i := 819) (by decide +kernel), List.mem_of_getElem? (i := 820) (by decide +kernel)⟩
theorem lw_p22 : lw_okq (⟨"CorkageOnRemarksModel", "readsAll", "(II)Z"⟩, 38) := ⟨⟨by decide +kernel, by decide +kernel⟩, List.mem_of_getElem? (i := 679) (by decide +kernel), List.mem_of_getElem? (i := 823) (by decide +kernel), List.mem_of_getElem? (i := 824) (by decide +kernel)⟩
theorem lw_p23 : lw_okq (⟨"CorkageOnRemarksModel", "readsDigits", "(II)Z"⟩, 38) := ⟨⟨by decide +kernel, by decide +kernel⟩, List.mem_of_getElem? (i := 679) (by decide +kernel), List.mem_of_getElem? (i := 827) (by decide +kernel), List.mem_of_getElem? (i := 828) (by decide +kernel)⟩
theorem lw_p24 : lw_okq (⟨"CorkageOnRemarksModel", "readsRemark", "(I)Z"⟩, 38) := ⟨⟨by decide +kernel, by decide +kernel⟩, List.mem_of_getElem? (i := 679) (by decide +kernel), List.mem_of_getElem? (i := 834) (by decide +kernel), List.mem_of_getElem? (i := 835) (by decide +kernel)⟩
theorem lw_p25 : lw_okq (⟨"CorkageOnRemarksModel", "passesAll", "(IZ)V"⟩, 38) := ⟨⟨by decide +kernel, by decide +kernel⟩, List.mem_of_getElem? (i := 679) (by decide +kernel), List.mem_of_getElem? (i := 841) (by decide +kernel), List.mem_of_getElem? (i := 842) (by decide +kernel)⟩
theorem lw_p26 : lw_okq (⟨"CorkageOnRemarksModel", "passes", "([I)V"⟩, 38) := ⟨⟨by decide +kernel, by decide +kernel⟩, List.mem_of_getElem? (i := 679) (by decide +kernel), List.mem_of_getElem? (i := 845) (by decide +kernel), List.mem_of_getElem? (i := 846) (by decide +kernel)⟩
theorem lw_p27 : lw_okq (⟨"CorkageOnRemarksModel", "passOne", "(I)I"⟩, 38) := ⟨⟨by decide +kernel, by decide +kernel⟩, List.mem_of_getElem? (i := 679) (by decide +kernel), List.mem_of_getElem? (i := 849) (by decide +kernel), List.mem_of_getElem? (i := 850) (by decide +kernel)⟩
theorem lw_p28 : lw_okq (⟨"CorkageOnRemarksModel", "comes", "(I)Z"⟩, 38) := ⟨⟨by decide +kernel, by decide +kernel⟩, List.mem_of_getElem? (i := 679) (by decide +kernel), List.mem_of_getElem? (i := 853) (by decide +kernel), List.mem_of_getElem? (i := 854) (by decide +kernel)⟩
theorem lw_p29 : lw_okq (⟨"CorkageOnRemarksModel", "comesRemark", "(I)Z"⟩, 38) := ⟨⟨by decide +kernel, by decide +kernel⟩, List.mem_of_getElem? (i := 679) (by decide +kernel), List.mem_of_getElem? (i := 857) (by decide +kernel), List.mem_of_getElem? (i := 858) (by decide +kernel)⟩
theorem lw_p30 : lw_okq (⟨"CorkageOnRemarksModel", "isGuest", "(I)Z"⟩, 38) := ⟨⟨by decide +kernel, by decide +kernel⟩, List.mem_of_getElem? (i := 679) (by decide +kernel), List.mem_of_getElem? (i := 861) (by decide +kernel), List.mem_of_getElem? (i := 862) (by decide +kernel)⟩
theorem lw_p31 : lw_okq (⟨"CorkageOnRemarksModel", "areTwo", "(II)Z"⟩, 38) := ⟨⟨by decide +kernel, by decide +kernel⟩, List.mem_of_getElem? (i := 679) (by decide +kernel), List.mem_of_getElem? (i := 865) (by decide +kernel), List.mem_of_getElem? (i := 866) (by decide +kernel)⟩
def lw_privs_2 : List (MethodName × Nat) := [(⟨"CorkageOnRemarks$Shares", "mostGroups", "(II)I"⟩, 2), (⟨"CorkageOnRemarks", "refuseLong", "(I)J"⟩, 9), (⟨"CorkageOnRemarks", "firstUntrue", "(LCorkageOnRemarks$Evening;)I"⟩, 9), (⟨"CorkageOnRemarksModel", "no", "(I)I"⟩, 38), (⟨"CorkageOnRemarksModel", "statement", "()Z"⟩, 38), (⟨"CorkageOnRemarksModel", "next", "()I"⟩, 38), (⟨"CorkageOnRemarksModel", "readsAll", "(II)Z"⟩, 38), (⟨"CorkageOnRemarksModel", "readsDigits", "(II)Z"⟩, 38), (⟨"CorkageOnRemarksModel", "readsRemark", "(I)Z"⟩, 38), (⟨"CorkageOnRemarksModel", "passesAll", "(IZ)V"⟩, 38), (⟨"CorkageOnRemarksModel", "passes", "([I)V"⟩, 38), (⟨"CorkageOnRemarksModel", "passOne", "(I)I"⟩, 38), (⟨"CorkageOnRemarksModel", "comes", "(I)Z"⟩, 38), (⟨"CorkageOnRemarksModel", "comesRemark", "(I)Z"⟩, 38), (⟨"CorkageOnRemarksModel", "isGuest", "(I)Z"⟩, 38), (⟨"CorkageOnRemarksModel", "areTwo", "(II)Z"⟩, 38)]
theorem lw_r2 : ∀ q ∈ lw_privs_2, lw_okq q := List.forall_mem_cons.mpr ⟨lw_p16, List.forall_mem_cons.mpr ⟨lw_p17, List.forall_mem_cons.mpr ⟨lw_p18, List.forall_mem_cons.mpr ⟨lw_p19, List.forall_mem_cons.mpr ⟨lw_p20, List.forall_mem_cons.mpr ⟨lw_p21, List.forall_mem_cons.mpr ⟨lw_p22, List.forall_mem_cons.mpr ⟨lw_p23, List.forall_mem_cons.mpr ⟨lw_p24, List.forall_mem_cons.mpr ⟨lw_p25, List.forall_mem_cons.mpr ⟨lw_p26, List.forall_mem_cons.mpr ⟨lw_p27, List.forall_mem_cons.mpr ⟨lw_p28, List.forall_mem_cons.mpr ⟨lw_p29, List.forall_mem_cons.mpr ⟨lw_p30, List.forall_mem_cons.mpr ⟨lw_p31, fun _ h => absurd h List.not_mem_nil⟩⟩⟩⟩⟩⟩⟩⟩⟩⟩⟩⟩⟩⟩⟩⟩
theorem lw_p32 : lw_okq (⟨"CorkageOnRemarksModel", "changes", "(II)V"⟩, 38) := ⟨⟨by decide +kernel, by decide +kernel⟩, List.mem_of_getElem? (i := 679) (by decide +kernel), List.mem_of_getElem? (i := 869) (by decide +kernel), List.mem_of_getElem? (i := 870) (by decide +kernel)⟩
theorem lw_p33 : lw_okq (⟨"CorkageOnRemarksModel", "isRemark", "(I)Z"⟩, 38) := ⟨⟨by decide +kernel, by decide +kernel⟩, List.mem_of_getElem? (i := 679) (by decide +kernel), List.mem_of_getElem? (i := 889) (by decide +kernel), List.mem_of_getElem? (i := 890) (by decide +kernel)⟩
theorem lw_p34 : lw_okq (⟨"CorkageOnRemarksModel", "minutesOf", "(I)I"⟩, 38) := ⟨⟨by decide +kernel, by decide +kernel⟩, List.mem_of_getElem? (i := 679) (by decide +kernel), List.mem_of_getElem? (i := 893) (by decide +kernel), List.mem_of_getElem? (i := 894) (by decide +kernel)⟩
theorem lw_p35 : lw_okq (⟨"CorkageOnRemarksModel", "priceOf", "(I)I"⟩, 38) := ⟨⟨by decide +kernel, by decide +kernel⟩, List.mem_of_getElem? (i := 679) (by decide +kernel), List.mem_of_getElem? (i := 897) (by decide +kernel), List.mem_of_getElem? (i := 898) (by decide +kernel)⟩
theorem lw_p36 : lw_okq (⟨"CorkageOnRemarksModel", "hears", "(I)I"⟩, 38) := ⟨⟨by decide +kernel, by decide +kernel⟩, List.mem_of_getElem? (i := 679) (by decide +kernel), List.mem_of_getElem? (i := 901) (by decide +kernel), List.mem_of_getElem? (i := 902) (by decide +kernel)⟩
theorem lw_p37 : lw_okq (⟨"CorkageOnRemarksModel", "dines", "(I)I"⟩, 38) := ⟨⟨by decide +kernel, by decide +kernel⟩, List.mem_of_getElem? (i := 679) (by decide +kernel), List.mem_of_getElem? (i := 925) (by decide +kernel), List.mem_of_getElem? (i := 926) (by decide +kernel)⟩
theorem lw_p38 : lw_okq (⟨"CorkageOnRemarksModel", "opens", "(I)V"⟩, 38) := ⟨⟨by decide +kernel, by decide +kernel⟩, List.mem_of_getElem? (i := 679) (by decide +kernel), List.mem_of_getElem? (i := 929) (by decide +kernel), List.mem_of_getElem? (i := 930) (by decide +kernel)⟩
theorem lw_p39 : lw_okq (⟨"CorkageOnRemarksModel", "moreOf", "(I)I"⟩, 38) := ⟨⟨by decide +kernel, by decide +kernel⟩, List.mem_of_getElem? (i := 679) (by decide +kernel), List.mem_of_getElem? (i := 939) (by decide +kernel), List.mem_of_getElem? (i := 940) (by decide +kernel)⟩
theorem lw_p40 : lw_okq (⟨"CorkageOnRemarksModel", "lessOf", "(I)I"⟩, 38) := ⟨⟨by decide +kernel, by decide +kernel⟩, List.mem_of_getElem? (i := 679) (by decide +kernel), List.mem_of_getElem? (i := 943) (by decide +kernel), List.mem_of_getElem? (i := 944) (by decide +kernel)⟩
theorem lw_p41 : lw_okq (⟨"CorkageOnRemarksModel", "takes", "(I)V"⟩, 38) := ⟨⟨by decide +kernel, by decide +kernel⟩, List.mem_of_getElem? (i := 679) (by decide +kernel), List.mem_of_getElem? (i := 947) (by decide +kernel), List.mem_of_getElem? (i := 948) (by decide +kernel)⟩
theorem lw_p42 : lw_okq (⟨"CorkageOnRemarksModel", "nextReady", "(I)I"⟩, 38) := ⟨⟨by decide +kernel, by decide +kernel⟩, List.mem_of_getElem? (i := 679) (by decide +kernel), List.mem_of_getElem? (i := 951) (by decide +kernel), List.mem_of_getElem? (i := 952) (by decide +kernel)⟩
theorem lw_p43 : lw_okq (⟨"CorkageOnRemarksModel", "all", "()I"⟩, 38) := ⟨⟨by decide +kernel, by decide +kernel⟩, List.mem_of_getElem? (i := 679) (by decide +kernel), List.mem_of_getElem? (i := 955) (by decide +kernel), List.mem_of_getElem? (i := 956) (by decide +kernel)⟩
theorem lw_p44 : lw_okq (⟨"CorkageOnRemarksModel", "billOf", "(I)I"⟩, 38) := ⟨⟨by decide +kernel, by decide +kernel⟩, List.mem_of_getElem? (i := 679) (by decide +kernel), List.mem_of_getElem? (i := 959) (by decide +kernel), List.mem_of_getElem? (i := 960) (by decide +kernel)⟩
theorem lw_p45 : lw_okq (⟨"CorkageOnRemarksModel", "openedMany", "()I"⟩, 38) := ⟨⟨by decide +kernel, by decide +kernel⟩, List.mem_of_getElem? (i := 679) (by decide +kernel), List.mem_of_getElem? (i := 963) (by decide +kernel), List.mem_of_getElem? (i := 964) (by decide +kernel)⟩
theorem lw_p46 : lw_okq (⟨"CorkageOnRemarksModel", "lastOpened", "()I"⟩, 38) := ⟨⟨by decide +kernel, by decide +kernel⟩, List.mem_of_getElem? (i := 679) (by decide +kernel), List.mem_of_getElem? (i := 967) (by decide +kernel), List.mem_of_getElem? (i := 968) (by decide +kernel)⟩
theorem lw_p47 : lw_okq (⟨"CorkageOnRemarksModel", "lowe\x72", "(I)I"⟩, 38) := ⟨⟨by decide +kernel, by decide +kernel⟩, List.mem_of_getElem? (i := 679) (by decide +kernel), List.mem_of_getElem? (i := 987) (by decide +kernel), List.mem_of_getElem? (i := 988) (by decide +kernel)⟩
def lw_privs_3 : List (MethodName × Nat) := [(⟨"CorkageOnRemarksModel", "changes", "(II)V"⟩, 38), (⟨"CorkageOnRemarksModel", "isRemark", "(I)Z"⟩, 38), (⟨"CorkageOnRemarksModel", "minutesOf", "(I)I"⟩, 38), (⟨"CorkageOnRemarksModel", "priceOf", "(I)I"⟩, 38), (⟨"CorkageOnRemarksModel", "hears", "(I)I"⟩, 38), (⟨"CorkageOnRemarksModel", "dines", "(I)I"⟩, 38), (⟨"CorkageOnRemarksModel", "opens", "(I)V"⟩, 38), (⟨"CorkageOnRemarksModel", "moreOf", "(I)I"⟩, 38), (⟨"CorkageOnRemarksModel", "lessOf", "(I)I"⟩, 38), (⟨"CorkageOnRemarksModel", "takes", "(I)V"⟩, 38), (⟨"CorkageOnRemarksModel", "nextReady", "(I)I"⟩, 38), (⟨"CorkageOnRemarksModel", "all", "()I"⟩, 38), (⟨"CorkageOnRemarksModel", "billOf", "(I)I"⟩, 38), (⟨"CorkageOnRemarksModel", "openedMany", "()I"⟩, 38), (⟨"CorkageOnRemarksModel", "lastOpened", "()I"⟩, 38), (⟨"CorkageOnRemarksModel", "lowe\x72", "(I)I"⟩, 38)]
theorem lw_r3 : ∀ q ∈ lw_privs_3, lw_okq q := List.forall_mem_cons.mpr ⟨lw_p32, List.forall_mem_cons.mpr ⟨lw_p33, List.forall_mem_cons.mpr ⟨lw_p34, List.forall_mem_cons.mpr ⟨lw_p35, List.forall_mem_cons.mpr ⟨lw_p36, List.forall_mem_cons.mpr ⟨lw_p37, List.forall_mem_cons.mpr ⟨lw_p38, List.forall_mem_cons.mpr ⟨lw_p39, List.forall_mem_cons.mpr ⟨lw_p40, List.forall_mem_cons.mpr ⟨lw_p41, List.forall_mem_cons.mpr ⟨lw_p42, List.forall_mem_cons.mpr ⟨lw_p43, List.forall_mem_cons.mpr ⟨lw_p44, List.forall_mem_cons.mpr ⟨lw_p45, List.forall_mem_cons.mpr ⟨lw_p46, List.forall_mem_cons.mpr ⟨lw_p47, fun _ h => absurd h List.not_mem_nil⟩⟩⟩⟩⟩⟩⟩⟩⟩⟩⟩⟩⟩⟩⟩⟩
theorem lw_p48 : lw_okq (⟨"CorkageOnRemarksModel", "moodsReady", "(II)I"⟩, 38) := ⟨⟨by decide +kernel, by decide +kernel⟩, List.mem_of_getElem? (i := 679) (by decide +kernel), List.mem_of_getElem? (i := 996) (by decide +kernel), List.mem_of_getElem? (i := 997) (by decide +kernel)⟩
theorem lw_p49 : lw_okq (⟨"CorkageOnRemarksModel", "likedBy", "(I)I"⟩, 38) := ⟨⟨by decide +kernel, by decide +kernel⟩, List.mem_of_getElem? (i := 679) (by decide +kernel), List.mem_of_getElem? (i := 1016) (by decide +kernel), List.mem_of_getElem? (i := 1017) (by decide +kernel)⟩
theorem lw_p50 : lw_okq (⟨"CorkageOnRemarksModel", "isOpenedAt", "(I)Z"⟩, 38) := ⟨⟨by decide +kernel, by decide +kernel⟩, List.mem_of_getElem? (i := 679) (by decide +kernel), List.mem_of_getElem? (i := 1036) (by decide +kernel), List.mem_of_getElem? (i := 1037) (by decide +kernel)⟩
theorem lw_p51 : lw_okq (⟨"CorkageOnRemarksModel", "isSo", "(I)Z"⟩, 38) := ⟨⟨by decide +kernel, by decide +kernel⟩, List.mem_of_getElem? (i := 679) (by decide +kernel), List.mem_of_getElem? (i := 1048) (by decide +kernel), List.mem_of_getElem? (i := 1049) (by decide +kernel)⟩
theorem lw_p52 : lw_okq (⟨"CorkageOnRemarksModel", "broughtBy", "(I)I"⟩, 38) := ⟨⟨by decide +kernel, by decide +kernel⟩, List.mem_of_getElem? (i := 679) (by decide +kernel), List.mem_of_getElem? (i := 1056) (by decide +kernel), List.mem_of_getElem? (i := 1057) (by decide +kernel)⟩
theorem lw_p53 : lw_okq (⟨"CorkageOnRemarksModel", "rests", "(I)Z"⟩, 38) := ⟨⟨by decide +kernel, by decide +kernel⟩, List.mem_of_getElem? (i := 679) (by decide +kernel), List.mem_of_getElem? (i := 1060) (by decide +kernel), List.mem_of_getElem? (i := 1061) (by decide +kernel)⟩
theorem lw_p54 : lw_okq (⟨"CorkageOnRemarksModel", "lowest", "(I)J"⟩, 38) := ⟨⟨by decide +kernel, by decide +kernel⟩, List.mem_of_getElem? (i := 679) (by decide +kernel), List.mem_of_getElem? (i := 1072) (by decide +kernel), List.mem_of_getElem? (i := 1073) (by decide +kernel)⟩
theorem lw_p55 : lw_okq (⟨"CorkageOnRemarksModel", "openedBy", "(I)I"⟩, 38) := ⟨⟨by decide +kernel, by decide +kernel⟩, List.mem_of_getElem? (i := 679) (by decide +kernel), List.mem_of_getElem? (i := 1088) (by decide +kernel), List.mem_of_getElem? (i := 1089) (by decide +kernel)⟩
def lw_privs_4 : List (MethodName × Nat) := [(⟨"CorkageOnRemarksModel", "moodsReady", "(II)I"⟩, 38), (⟨"CorkageOnRemarksModel", "likedBy", "(I)I"⟩, 38), (⟨"CorkageOnRemarksModel", "isOpenedAt", "(I)Z"⟩, 38), (⟨"CorkageOnRemarksModel", "isSo", "(I)Z"⟩, 38), (⟨"CorkageOnRemarksModel", "broughtBy", "(I)I"⟩, 38), (⟨"CorkageOnRemarksModel", "rests", "(I)Z"⟩, 38), (⟨"CorkageOnRemarksModel", "lowest", "(I)J"⟩, 38), (⟨"CorkageOnRemarksModel", "openedBy", "(I)I"⟩, 38)]
theorem lw_r4 : ∀ q ∈ lw_privs_4, lw_okq q := List.forall_mem_cons.mpr ⟨lw_p48, List.forall_mem_cons.mpr ⟨lw_p49, List.forall_mem_cons.mpr ⟨lw_p50, List.forall_mem_cons.mpr ⟨lw_p51, List.forall_mem_cons.mpr ⟨lw_p52, List.forall_mem_cons.mpr ⟨lw_p53, List.forall_mem_cons.mpr ⟨lw_p54, List.forall_mem_cons.mpr ⟨lw_p55, fun _ h => absurd h List.not_mem_nil⟩⟩⟩⟩⟩⟩⟩⟩
def lw_privs : List (MethodName × Nat) := lw_privs_1 ++ (lw_privs_2 ++ (lw_privs_3 ++ (lw_privs_4)))
def lw_tbl : List Cond := k2_sels lw_privs ++ tables_1
theorem lw_privs_ok : ∀ q ∈ lw_privs, lw_okq q := by
  show ∀ q ∈ lw_privs_1 ++ (lw_privs_2 ++ (lw_privs_3 ++ (lw_privs_4))), lw_okq q
  exact List.forall_mem_append.mpr ⟨lw_r1, List.forall_mem_append.mpr ⟨lw_r2, List.forall_mem_append.mpr ⟨lw_r3, lw_r4⟩⟩⟩

-- ===== end of PART A; then your names; then what follows =====
/-! THE CLAIM OUT OF ONE WALK OF THE LAW'S BODY. Your part is whole_start (and what it stands on); all else here is the same for every law, but numbers. -/
def R_law : String := "CorkageOnRemarksLaw"
def lw_P (b : Addr) (xs : List Int32) (args : Array Value) (s : State) : Prop := args = #[.ref b] ∧ s.IntsAt b xs ∧ xs.length ≤ 2048 ∧ (Jvm.Cond.and given_1 narrow_1).before args s = true
def lw_Q (_ : Array Value) (s : State) (o : Outcome) (t : State) : Prop := o = .returned (some (.int 1)) ∧ Framed s o t [] 63 1586
def lw_Z (below : List Frame) (a : Array Value) (s : State) : State → Prop := fun t => ∃ o, t.status = .running ∧ Ended t below o ∧ lw_Q a s o t
/-- the law's own end, with 1 on the stack, nothing written that was there before, its room as the claim has it -/
theorem lw_ret {p : Program} {l : Launch} {e : Env} {s : State} {m : MethodId} {below : List Frame} {meth : Method} {c : Code} {b : Nat} (hx : p.tables.exec = Jvm.exec) (hb : c.code = code) (hr : meth.sig.returnType = ret) (hlocks : meth.locks = false) {pc : Nat} {H : Heap} {ls : Array Slot} (hdg : decode code pc = .ok (.ireturn, 1)) : W p l e room_1 s m #[Value.ref b] below meth c H [] 63 1586 (lw_Z below #[Value.ref b] s) (F0 m pc ls [.int 1]) := by
  intro T hT X
  obtain ⟨fs, hret, hrun, hended, hW, hframe⟩ := X.leave (v := some (.int 1)) (hlocks := hlocks) (fun h => by rw [hr] at h; cases h)
  have hmeth' : T.vm.method? m = some meth := X.method'
  refine ⟨T.setFrames fs, ?_, .returned (some (.int 1)), hrun, hended, rfl, ⟨_, rfl⟩, hW, hframe⟩
  jvm_step X.here [X.here.top, hx, hb, hdg, hmeth', hr, ret, narrow_b1]
  (try refine ⟨rfl, ?_⟩); (try refine ⟨rfl, ?_⟩)
  first | (intro acts; rw [hret _ acts rfl rfl rfl]) | rw [hret _ _ rfl rfl rfl]
  exact Steps.refl _
/-- what holds at the law's entry: the machine, the code, the tables' words (any of lw_tbl by 'hts w (by decide +kernel)'), the script of L ints xs at the cell b, what the Statement gives of the start (any of its parts by flat_of_before) -/
def lw_At (p : Program) (s : State) (m : MethodId) (meth : Method) (c : Code) (b L : Nat) (xs : Nat → Int32) : Prop :=
  p.tables.exec = Jvm.exec ∧ c.code = code ∧ meth.sig.returnType = ret ∧ c.maxLocals = 4 ∧ s.vm.findClass R_law = some m.cls ∧ (∀ w ∈ lw_tbl, w.before #[Value.ref b] s = true) ∧ va_X b L xs s s.heap ∧ b < s.heap.size ∧ meth.locks = false ∧ (Jvm.Cond.and given_1 narrow_1).before #[Value.ref b] s = true

def R_X : String := "CorkageOnRemarks"
def F_X : u_T := fun k => match k with
  | 0 => (R_X, "now", "LCorkageOnRemarks$Table;", true)
  | 1 => (R_X, "kept", "LCorkageOnRemarks$Table;", true)
  | 2 => (R_X, "isKept", "Z", false)
  | 3 => (R_X, "letters", "LCorkageOnRemarks$Letters;", true)
  | 4 => (R_X, "told", "[I", true)
  | 5 => (R_X, "toldSize", "I", false)
  | 6 => (R_X, "refusals", "[I", true)
  | 7 => (R_X, "trials", "LCorkageOnRemarks$Trials;", true)
  | _ => (R_X, "shares", "LCorkageOnRemarks$Shares;", true)
def t_X : Nat → FieldType := fun k => match k with
  | 0 => .object "CorkageOnRemarks$Table"
  | 1 => .object "CorkageOnRemarks$Table"
  | 2 => .boolean
  | 3 => .object "CorkageOnRemarks$Letters"
  | 4 => .array .int
  | 5 => .int
  | 6 => .array .int
  | 7 => .object "CorkageOnRemarks$Trials"
  | _ => .object "CorkageOnRemarks$Shares"
theorem n_X : ∀ a, a < 9 → ∀ b, b < 9 → a ≠ b → (F_X a).2.1 ≠ (F_X b).2.1 := by decide +kernel
theorem t_X_ok : ∀ k, k < 9 → parseFieldDescriptor (F_X k).2.2.1 = some (t_X k) := by decide +kernel
theorem il_X : ∀ k, k < 9 → tables_1[([172, 174, 176, 178, 180, 182, 184, 186, 188] : List Nat).getD k 0]? = some (u_lay R_X F_X k) := by decide +kernel
theorem i_X : ∀ w ∈ u_ws R_X F_X 9, w ∈ lw_tbl := by
  intro w hw
  obtain ⟨k, hk, rfl⟩ := List.mem_map.mp hw
  exact List.mem_append_right _ (List.mem_of_getElem? (il_X k (List.mem_range.mp hk)))
def R_Tb : String := "CorkageOnRemarks$Table"
def F_Tb : u_T := fun k => match k with
  | 0 => (R_Tb, "likes", "[I", true)
  | 1 => (R_Tb, "moods", "[I", true)
  | 2 => (R_Tb, "kinds", "[I", true)
  | 3 => (R_Tb, "figures", "[I", true)
  | 4 => (R_Tb, "bringers", "[I", true)
  | 5 => (R_Tb, "topics", "[I", true)
  | 6 => (R_Tb, "readies", "[I", true)
  | 7 => (R_Tb, "guests", "I", false)
  | 8 => (R_Tb, "remarks", "I", false)
  | 9 => (R_Tb, "waiters", "I", false)
  | _ => (R_Tb, "corkage", "I", false)
def t_Tb : Nat → FieldType := fun k => match k with
  | 0 => .array .int
  | 1 => .array .int
  | 2 => .array .int
  | 3 => .array .int
  | 4 => .array .int
  | 5 => .array .int
  | 6 => .array .int
  | 7 => .int
  | 8 => .int
  | 9 => .int
  | _ => .int
theorem n_Tb : ∀ a, a < 11 → ∀ b, b < 11 → a ≠ b → (F_Tb a).2.1 ≠ (F_Tb b).2.1 := by decide +kernel
theorem t_Tb_ok : ∀ k, k < 11 → parseFieldDescriptor (F_Tb k).2.2.1 = some (t_Tb k) := by decide +kernel
theorem il_Tb : ∀ k, k < 11 → tables_1[([61, 63, 65, 67, 69, 71, 73, 75, 77, 79, 81] : List Nat).getD k 0]? = some (u_lay R_Tb F_Tb k) := by decide +kernel
theorem i_Tb : ∀ w ∈ u_ws R_Tb F_Tb 11, w ∈ lw_tbl := by
  intro w hw
  obtain ⟨k, hk, rfl⟩ := List.mem_map.mp hw
  exact List.mem_append_right _ (List.mem_of_getElem? (il_Tb k (List.mem_range.mp hk)))
def R_Lt : String := "CorkageOnRemarks$Letters"
def F_Lt : u_T := fun k => match k with
  | 0 => (R_Lt, "signs", "[I", true)
  | _ => (R_Lt, "size", "I", false)
def t_Lt : Nat → FieldType := fun k => match k with
  | 0 => .array .int
  | _ => .int
theorem n_Lt : ∀ a, a < 2 → ∀ b, b < 2 → a ≠ b → (F_Lt a).2.1 ≠ (F_Lt b).2.1 := by decide +kernel
theorem t_Lt_ok : ∀ k, k < 2 → parseFieldDescriptor (F_Lt k).2.2.1 = some (t_Lt k) := by decide +kernel
theorem il_Lt : ∀ k, k < 2 → tables_1[([94, 96] : List Nat).getD k 0]? = some (u_lay R_Lt F_Lt k) := by decide +kernel
theorem i_Lt : ∀ w ∈ u_ws R_Lt F_Lt 2, w ∈ lw_tbl := by
  intro w hw
  obtain ⟨k, hk, rfl⟩ := List.mem_map.mp hw
  exact List.mem_append_right _ (List.mem_of_getElem? (il_Lt k (List.mem_range.mp hk)))
def R_Ev : String := "CorkageOnRemarks$Evening"
def F_Ev : u_T := fun k => match k with
  | 0 => (R_Ev, "table", "LCorkageOnRemarks$Table;", true)
  | 1 => (R_Ev, "taken", "[I", true)
  | 2 => (R_Ev, "opened", "[I", true)
  | 3 => (R_Ev, "sentBack", "[Z", true)
  | 4 => (R_Ev, "moods", "[I", true)
  | 5 => (R_Ev, "done", "[I", true)
  | _ => (R_Ev, "left", "I", false)
def t_Ev : Nat → FieldType := fun k => match k with
  | 0 => .object "CorkageOnRemarks$Table"
  | 1 => .array .int
  | 2 => .array .int
  | 3 => .array .boolean
  | 4 => .array .int
  | 5 => .array .int
  | _ => .int
theorem n_Ev : ∀ a, a < 7 → ∀ b, b < 7 → a ≠ b → (F_Ev a).2.1 ≠ (F_Ev b).2.1 := by decide +kernel
theorem t_Ev_ok : ∀ k, k < 7 → parseFieldDescriptor (F_Ev k).2.2.1 = some (t_Ev k) := by decide +kernel
theorem il_Ev : ∀ k, k < 7 → tables_1[([125, 127, 129, 131, 133, 135, 137] : List Nat).getD k 0]? = some (u_lay R_Ev F_Ev k) := by decide +kernel
theorem i_Ev : ∀ w ∈ u_ws R_Ev F_Ev 7, w ∈ lw_tbl := by
  intro w hw
  obtain ⟨k, hk, rfl⟩ := List.mem_map.mp hw
  exact List.mem_append_right _ (List.mem_of_getElem? (il_Ev k (List.mem_range.mp hk)))
def R_Tr : String := "CorkageOnRemarks$Trials"
def F_Tr : u_T := fun k => match k with
  | 0 => (R_Tr, "evening", "LCorkageOnRemarks$Evening;", true)
  | _ => (R_Tr, "trial", "LCorkageOnRemarks$Table;", true)
def t_Tr : Nat → FieldType := fun k => match k with
  | 0 => .object "CorkageOnRemarks$Evening"
  | _ => .object "CorkageOnRemarks$Table"
theorem n_Tr : ∀ a, a < 2 → ∀ b, b < 2 → a ≠ b → (F_Tr a).2.1 ≠ (F_Tr b).2.1 := by decide +kernel
theorem t_Tr_ok : ∀ k, k < 2 → parseFieldDescriptor (F_Tr k).2.2.1 = some (t_Tr k) := by decide +kernel
theorem il_Tr : ∀ k, k < 2 → tables_1[([145, 147] : List Nat).getD k 0]? = some (u_lay R_Tr F_Tr k) := by decide +kernel
theorem i_Tr : ∀ w ∈ u_ws R_Tr F_Tr 2, w ∈ lw_tbl := by
  intro w hw
  obtain ⟨k, hk, rfl⟩ := List.mem_map.mp hw
  exact List.mem_append_right _ (List.mem_of_getElem? (il_Tr k (List.mem_range.mp hk)))
def R_Sh : String := "CorkageOnRemarks$Shares"
def F_Sh : u_T := fun k => match k with
  | 0 => (R_Sh, "ove\x72", "[I", true)
  | _ => (R_Sh, "groups", "[I", true)
def t_Sh : Nat → FieldType := fun k => match k with
  | 0 => .array .int
  | _ => .array .int
theorem n_Sh : ∀ a, a < 2 → ∀ b, b < 2 → a ≠ b → (F_Sh a).2.1 ≠ (F_Sh b).2.1 := by decide +kernel
theorem t_Sh_ok : ∀ k, k < 2 → parseFieldDescriptor (F_Sh k).2.2.1 = some (t_Sh k) := by decide +kernel
theorem il_Sh : ∀ k, k < 2 → tables_1[([158, 160] : List Nat).getD k 0]? = some (u_lay R_Sh F_Sh k) := by decide +kernel
theorem i_Sh : ∀ w ∈ u_ws R_Sh F_Sh 2, w ∈ lw_tbl := by
  intro w hw
  obtain ⟨k, hk, rfl⟩ := List.mem_map.mp hw
  exact List.mem_append_right _ (List.mem_of_getElem? (il_Sh k (List.mem_range.mp hk)))
def R_Mo : String := "CorkageOnRemarksModel"
def F_Mo : u_T := fun k => match k with
  | 0 => (R_Mo, "likes", "[I", true)
  | 1 => (R_Mo, "moods", "[I", true)
  | 2 => (R_Mo, "kind", "[I", true)
  | 3 => (R_Mo, "figure", "[I", true)
  | 4 => (R_Mo, "owne\x72", "[I", true)
  | 5 => (R_Mo, "topic", "[I", true)
  | 6 => (R_Mo, "readyAt", "[I", true)
  | 7 => (R_Mo, "guests", "I", false)
  | 8 => (R_Mo, "remarks", "I", false)
  | 9 => (R_Mo, "waiters", "I", false)
  | 10 => (R_Mo, "corkage", "I", false)
  | 11 => (R_Mo, "refused", "[I", true)
  | 12 => (R_Mo, "tape", "[I", true)
  | 13 => (R_Mo, "lette\x72", "[I", true)
  | 14 => (R_Mo, "letterAt", "[I", true)
  | 15 => (R_Mo, "told", "[I", true)
  | 16 => (R_Mo, "taped", "I", false)
  | 17 => (R_Mo, "at", "I", false)
  | 18 => (R_Mo, "statements", "I", false)
  | 19 => (R_Mo, "kept", "[I", true)
  | 20 => (R_Mo, "hasImage", "Z", false)
  | 21 => (R_Mo, "isKeeping", "Z", false)
  | 22 => (R_Mo, "curso\x72", "I", false)
  | 23 => (R_Mo, "mood", "[I", true)
  | 24 => (R_Mo, "taken", "[I", true)
  | 25 => (R_Mo, "opened", "[I", true)
  | 26 => (R_Mo, "freeAt", "[I", true)
  | 27 => (R_Mo, "moodsBehind", "[I", true)
  | 28 => (R_Mo, "leftOut", "I", false)
  | 29 => (R_Mo, "sentBack", "I", false)
  | 30 => (R_Mo, "busySome", "I", false)
  | 31 => (R_Mo, "busyAll", "I", false)
  | 32 => (R_Mo, "row", "[I", true)
  | 33 => (R_Mo, "rowMany", "I", false)
  | 34 => (R_Mo, "oneHas", "[I", true)
  | 35 => (R_Mo, "otherHas", "[I", true)
  | 36 => (R_Mo, "ove\x72", "[I", true)
  | _ => (R_Mo, "groups", "[I", true)
def t_Mo : Nat → FieldType := fun k => match k with
  | 0 => .array .int
  | 1 => .array .int
  | 2 => .array .int
  | 3 => .array .int
  | 4 => .array .int
  | 5 => .array .int
  | 6 => .array .int
  | 7 => .int
  | 8 => .int
  | 9 => .int
  | 10 => .int
  | 11 => .array .int
  | 12 => .array .int
  | 13 => .array .int
  | 14 => .array .int
  | 15 => .array .int
  | 16 => .int
  | 17 => .int
  | 18 => .int
  | 19 => .array .int
  | 20 => .boolean
  | 21 => .boolean
  | 22 => .int
  | 23 => .array .int
  | 24 => .array .int
  | 25 => .array .int
  | 26 => .array .int
  | 27 => .array .int
  | 28 => .int
  | 29 => .int
  | 30 => .int
  | 31 => .int
  | 32 => .array .int
  | 33 => .int
  | 34 => .array .int
  | 35 => .array .int
  | 36 => .array .int
  | _ => .array .int
theorem n_Mo : ∀ a, a < 38 → ∀ b, b < 38 → a ≠ b → (F_Mo a).2.1 ≠ (F_Mo b).2.1 := by decide +kernel
theorem t_Mo_ok : ∀ k, k < 38 → parseFieldDescriptor (F_Mo k).2.2.1 = some (t_Mo k) := by decide +kernel
theorem il_Mo : ∀ k, k < 38 → tables_1[([724, 726, 728, 730, 732, 734, 736, 738, 740, 742, 744, 722, 746, 748, 750, 752, 754, 756, 758, 760, 762, 764, 766, 768, 770, 772, 774, 776, 778, 780, 782, 784, 786, 788, 790, 792, 794, 796] : List Nat).getD k 0]? = some (u_lay R_Mo F_Mo k) := by decide +kernel
theorem i_Mo : ∀ w ∈ u_ws R_Mo F_Mo 38, w ∈ lw_tbl := by
  intro w hw
  obtain ⟨k, hk, rfl⟩ := List.mem_map.mp hw
  exact List.mem_append_right _ (List.mem_of_getElem? (il_Mo k (List.mem_range.mp hk)))
abbrev cls9 : List vw_C := [(R_X, F_X, 9), (R_Tb, F_Tb, 11), (R_Lt, F_Lt, 2), (R_Ev, F_Ev, 7), (R_Tr, F_Tr, 2), (R_Sh, F_Sh, 2), (R_Mo, F_Mo, 38)]
end
section
/-! A small machine over the world's fixed cells. Values: an int, a cell's number, a long. -/
abbrev AV : Type := Int ⊕ (Nat ⊕ Int)
abbrev vI (n : Int) : AV := .inl n
abbrev vR (c : Nat) : AV := .inr (.inl c)
abbrev vL (n : Int) : AV := .inr (.inr n)
abbrev Sto : Type := Nat → Nat → Int
abbrev Lo : Type := List (Option AV)
abbrev En : Type := Instr × Nat × Nat × Nat × Nat × List (Int × Nat)
abbrev PQ : Type := Option AV → Sto → Prop
def w32 (x : Int) : Int := (x + 2147483648) % 4294967296 - 2147483648
def w64 (x : Int) : Int := (x + 9223372036854775808) % 18446744073709551616 - 9223372036854775808
def sup (σ : Sto) (c i : Nat) (v : Int) : Sto := fun c' i' => if c' = c ∧ i' = i then v else σ c' i'
def nth {α : Type} : List α → Nat → Option α
  | [], _ => none
  | a :: _, 0 => some a
  | _ :: l, n + 1 => nth l n
def lk : List (Nat × En) → Nat → Option En
  | [], _ => none
  | (q, e) :: t, pc => cond (Nat.beq q pc) (some e) (lk t pc)
def iand (a b : Int) : Int := (Int32.ofInt a &&& Int32.ofInt b).toInt
def ior (a b : Int) : Int := (Int32.ofInt a ||| Int32.ofInt b).toInt
def ixor (a b : Int) : Int := (Int32.ofInt a ^^^ Int32.ofInt b).toInt
def ishl (a b : Int) : Int := (Int32.ofInt a <<< (Int32.ofInt b &&& 31)).toInt
def ishr (a b : Int) : Int := (Int32.ofInt a >>> (Int32.ofInt b &&& 31)).toInt
def iushr (a b : Int) : Int := ((Int32.ofInt a).toUInt32 >>> ((Int32.ofInt b).toUInt32 &&& Int32.toUInt32 31)).toInt32.toInt
def lcm3 (a b : Int) : Int := if b < a then 1 else if a = b then 0 else -1
/-- a cell: an object (its class's number, its fields: a cell's number, or a number) or an array (of booleans?, its length) -/
abbrev Sh : Type := (Nat × List (Option Nat)) ⊕ (Bool × Nat)
def shapes : List Sh := [.inl (0, [some 1, some 9, none, some 32, some 34, none, some 35, some 31, some 36]), .inl (1, [some 2, some 3, some 4, some 5, some 6, some 7, some 8, none, none, none, none]), .inr (false, 6), .inr (false, 6), .inr (false, 7), .inr (false, 7), .inr (false, 7), .inr (false, 7), .inr (false, 7), .inl (1, [some 10, some 11, some 12, some 13, some 14, some 15, some 16, none, none, none, none]), .inr (false, 6), .inr (false, 6), .inr (false, 7), .inr (false, 7), .inr (false, 7), .inr (false, 7), .inr (false, 7), .inl (1, [some 18, some 19, some 20, some 21, some 22, some 23, some 24, none, none, none, none]), .inr (false, 6), .inr (false, 6), .inr (false, 7), .inr (false, 7), .inr (false, 7), .inr (false, 7), .inr (false, 7), .inl (3, [some 17, some 26, some 27, some 28, some 29, some 30, none]), .inr (false, 7), .inr (false, 7), .inr (true, 7), .inr (false, 6), .inr (false, 7), .inl (4, [some 25, some 17]), .inl (2, [some 33, none]), .inr (false, 96), .inr (false, 12), .inr (false, 7), .inl (5, [some 37, some 38]), .inr (false, 6), .inr (false, 64), .inl (6, [some 40, some 41, some 42, some 43, some 44, some 45, some 46, none, none, none, none, some 47, some 48, some 49, some 50, some 51, none, none, none, some 52, none, none, none, some 53, some 54, some 55, some 56, some 57, none, none, none, none, some 58, none, some 59, some 60, some 61, some 62]), .inr (false, 6), .inr (false, 6), .inr (false, 7), .inr (false, 7), .inr (false, 7), .inr (false, 7), .inr (false, 7), .inr (false, 7), .inr (false, 96), .inr (false, 48), .inr (false, 48), .inr (false, 240), .inr (false, 110), .inr (false, 6), .inr (false, 7), .inr (false, 7), .inr (false, 3), .inr (false, 366), .inr (false, 12), .inr (false, 4), .inr (false, 4), .inr (false, 64), .inr (false, 64)]
def cof (c : Nat) : Nat := match nth shapes c with
  | some (.inl (ci, _)) => ci
  | _ => 99
def rfs (c k : Nat) : Option Nat := match nth shapes c with
  | some (.inl (_, fl)) => (match nth fl k with
    | some (some c') => some c'
    | _ => none)
  | _ => none
def alen (c : Nat) : Option (Bool × Nat) := match nth shapes c with
  | some (.inr x) => some x
  | _ => none
def alenS (sl : Option Nat) (c : Nat) : Option (Bool × Nat) := cond (Nat.beq c 63) (match sl with
  | some n => some (false, n)
  | none => none) (alen c)
/-- is field k of class ci a boolean -/
def isB (ci k : Nat) : Bool := match ci, k with
  | 0, 2 => true
  | 6, 20 => true
  | 6, 21 => true
  | _, _ => false
def kil (L : Lo) (i : Nat) : Lo := match i with
  | 0 => L
  | j + 1 => match nth L j with
    | some (some (.inr (.inr _))) => L.set j none
    | _ => L
def set1 (L : Lo) (i : Nat) (v : AV) : Lo := (kil L i).set i (some v)
def set2 (L : Lo) (i : Nat) (v : AV) : Lo := ((kil L i).set i (some v)).set (i + 1) none
def psh (r : Option AV) (S : List AV) : List AV := match r with
  | some v => v :: S
  | none => S
def swt : List (Int × Nat) → Nat → Int → (Nat → Prop) → Prop
  | [], d, _, k => k d
  | (v, t) :: r, d, x, k => if x = v then k t else swt r d x k
def p1I (S : List AV) (k : Int → List AV → Prop) : Prop := match S with
  | .inl x :: st => k x st
  | _ => False
def p2I (S : List AV) (k : Int → Int → List AV → Prop) : Prop := match S with
  | .inl y :: .inl x :: st => k x y st
  | _ => False
def p2L (S : List AV) (k : Int → Int → List AV → Prop) : Prop := match S with
  | .inr (.inr y) :: .inr (.inr x) :: st => k x y st
  | _ => False
def ldI (L : Lo) (i : Nat) (k : Int → Prop) : Prop := match nth L i with
  | some (some (.inl n)) => k n
  | _ => False
def ldR (L : Lo) (i : Nat) (k : Nat → Prop) : Prop := match nth L i with
  | some (some (.inr (.inl n))) => k n
  | _ => False
def ldL (L : Lo) (i : Nat) (k : Int → Prop) : Prop := match nth L i with
  | some (some (.inr (.inr n))) => k n
  | _ => False
def ks1 (ks : List (Int × Nat)) (k : Int → Prop) : Prop := match ks with
  | (v, _) :: _ => k v
  | [] => False
/-- one step: what must hold behind it (X: at the next place; Q: at the method's end; C: of a call) -/
def arm (mcl : Nat → Nat) (C : Nat → List AV → Sto → PQ → Prop) (sl : Option Nat) (X : Nat → Lo → List AV → Sto → Prop) (Q : PQ) (pc : Nat) (L : Lo) (S : List AV) (σ : Sto) (i : Instr) (a b : Nat) (ks : List (Int × Nat)) : Prop :=
  match i with
  | .iconst n => X (pc + 1) L (vI n :: S) σ
  | .bipush n => X (pc + 2) L (vI n :: S) σ
  | .sipush n => X (pc + 3) L (vI n :: S) σ
  | .lconst n => X (pc + 1) L (vL (Int.ofNat n.val) :: S) σ
  | .ldc _ => ks1 ks fun v => X (pc + 2) L (vI v :: S) σ
  | .ldc_w _ => ks1 ks fun v => X (pc + 3) L (vI v :: S) σ
  | .ldc2_w _ => ks1 ks fun v => X (pc + 3) L (vL v :: S) σ
  | .iload_n n => ldI L n.val fun v => X (pc + 1) L (vI v :: S) σ
  | .iload n => ldI L n fun v => X (pc + 2) L (vI v :: S) σ
  | .lload_n n => ldL L n.val fun v => X (pc + 1) L (vL v :: S) σ
  | .lload n => ldL L n fun v => X (pc + 2) L (vL v :: S) σ
  | .aload_n n => ldR L n.val fun v => X (pc + 1) L (vR v :: S) σ
  | .aload n => ldR L n fun v => X (pc + 2) L (vR v :: S) σ
  | .istore_n n => p1I S fun x st => cond (Nat.blt n.val L.length) (X (pc + 1) (set1 L n.val (vI x)) st σ) False
  | .istore n => p1I S fun x st => cond (Nat.blt n L.length) (X (pc + 2) (set1 L n (vI x)) st σ) False
  | .lstore_n n => (match S with
    | .inr (.inr x) :: st => cond (Nat.blt (n.val + 1) L.length) (X (pc + 1) (set2 L n.val (vL x)) st σ) False
    | _ => False)
  | .lstore n => (match S with
    | .inr (.inr x) :: st => cond (Nat.blt (n + 1) L.length) (X (pc + 2) (set2 L n (vL x)) st σ) False
    | _ => False)
  | .astore_n n => (match S with
    | .inr (.inl x) :: st => cond (Nat.blt n.val L.length) (X (pc + 1) (set1 L n.val (vR x)) st σ) False
    | _ => False)
  | .astore n => (match S with
    | .inr (.inl x) :: st => cond (Nat.blt n L.length) (X (pc + 2) (set1 L n (vR x)) st σ) False
    | _ => False)
  | .iinc n k => ldI L n fun v => X (pc + 3) (set1 L n (vI (w32 (v + k)))) S σ
  | .iadd => p2I S fun x y st => X (pc + 1) L (vI (w32 (x + y)) :: st) σ
  | .isub => p2I S fun x y st => X (pc + 1) L (vI (w32 (x - y)) :: st) σ
  | .imul => p2I S fun x y st => X (pc + 1) L (vI (w32 (x * y)) :: st) σ
  | .ineg => p1I S fun x st => X (pc + 1) L (vI (w32 (-x)) :: st) σ
  | .idiv => p2I S fun x y st => (¬ y = 0) ∧ X (pc + 1) L (vI (w32 (x.tdiv y)) :: st) σ
  | .irem => p2I S fun x y st => (¬ y = 0) ∧ X (pc + 1) L (vI (x.tmod y) :: st) σ
  | .iand => p2I S fun x y st => X (pc + 1) L (vI (iand x y) :: st) σ
  | .ior => p2I S fun x y st => X (pc + 1) L (vI (ior x y) :: st) σ
  | .ixor => p2I S fun x y st => X (pc + 1) L (vI (ixor x y) :: st) σ
  | .ishl => p2I S fun x y st => X (pc + 1) L (vI (ishl x y) :: st) σ
  | .ishr => p2I S fun x y st => X (pc + 1) L (vI (ishr x y) :: st) σ
  | .iushr => p2I S fun x y st => X (pc + 1) L (vI (iushr x y) :: st) σ
  | .ladd => p2L S fun x y st => X (pc + 1) L (vL (w64 (x + y)) :: st) σ
  | .lsub => p2L S fun x y st => X (pc + 1) L (vL (w64 (x - y)) :: st) σ
  | .lmul => p2L S fun x y st => X (pc + 1) L (vL (w64 (x * y)) :: st) σ
  | .ldiv => p2L S fun x y st => (¬ y = 0) ∧ X (pc + 1) L (vL (w64 (x.tdiv y)) :: st) σ
  | .lrem => p2L S fun x y st => (¬ y = 0) ∧ X (pc + 1) L (vL (x.tmod y) :: st) σ
  | .lcmp => p2L S fun x y st => X (pc + 1) L (vI (lcm3 x y) :: st) σ
  | .i2l => p1I S fun x st => X (pc + 1) L (vL x :: st) σ
  | .dup => (match S with
    | .inl x :: st => X (pc + 1) L (vI x :: vI x :: st) σ
    | .inr (.inl x) :: st => X (pc + 1) L (vR x :: vR x :: st) σ
    | _ => False)
  | .dup2 => (match S with
    | .inl y :: .inr (.inl x) :: st => X (pc + 1) L (vI y :: vR x :: vI y :: vR x :: st) σ
    | _ => False)
  | .pop => (match S with
    | .inl _ :: st => X (pc + 1) L st σ
    | .inr (.inl _) :: st => X (pc + 1) L st σ
    | _ => False)
  | .goto _ => X a L S σ
  | .ifCond .eq _ => p1I S fun x st => if x = 0 then X a L st σ else X (pc + 3) L st σ
  | .ifCond .ne _ => p1I S fun x st => if x = 0 then X (pc + 3) L st σ else X a L st σ
  | .ifCond .lt _ => p1I S fun x st => if x < 0 then X a L st σ else X (pc + 3) L st σ
  | .ifCond .ge _ => p1I S fun x st => if x < 0 then X (pc + 3) L st σ else X a L st σ
  | .ifCond .gt _ => p1I S fun x st => if 0 < x then X a L st σ else X (pc + 3) L st σ
  | .ifCond .le _ => p1I S fun x st => if 0 < x then X (pc + 3) L st σ else X a L st σ
  | .if_icmp .eq _ => p2I S fun x y st => if x = y then X a L st σ else X (pc + 3) L st σ
  | .if_icmp .ne _ => p2I S fun x y st => if x = y then X (pc + 3) L st σ else X a L st σ
  | .if_icmp .lt _ => p2I S fun x y st => if x < y then X a L st σ else X (pc + 3) L st σ
  | .if_icmp .ge _ => p2I S fun x y st => if x < y then X (pc + 3) L st σ else X a L st σ
  | .if_icmp .gt _ => p2I S fun x y st => if y < x then X a L st σ else X (pc + 3) L st σ
  | .if_icmp .le _ => p2I S fun x y st => if y < x then X (pc + 3) L st σ else X a L st σ
  | .tableswitch _ _ _ _ => p1I S fun x st => swt ks a x fun t => X t L st σ
  | .lookupswitch _ _ => p1I S fun x st => swt ks a x fun t => X t L st σ
  | .getfield _ => (match S with
    | .inr (.inl c) :: st => cond (Nat.beq (cof c) a) (match rfs c b with
      | some c' => X (pc + 3) L (vR c' :: st) σ
      | none => X (pc + 3) L (vI (σ c b) :: st) σ) False
    | _ => False)
  | .putfield _ => (match S with
    | .inl x :: .inr (.inl c) :: st => cond (Nat.beq (cof c) a) (match rfs c b with
      | some _ => False
      | none => cond (isB a b) ((x = 0 ∨ x = 1) ∧ X (pc + 3) L st (sup σ c b x)) (X (pc + 3) L st (sup σ c b x))) False
    | _ => False)
  | .iaload => (match S with
    | .inl j :: .inr (.inl c) :: st => (match alenS sl c with
      | some (false, n) => (0 ≤ j ∧ j < n) ∧ X (pc + 1) L (vI (σ c j.toNat) :: st) σ
      | _ => False)
    | _ => False)
  | .baload => (match S with
    | .inl j :: .inr (.inl c) :: st => (match alen c with
      | some (true, n) => (0 ≤ j ∧ j < n) ∧ X (pc + 1) L (vI (σ c j.toNat) :: st) σ
      | _ => False)
    | _ => False)
  | .iastore => (match S with
    | .inl x :: .inl j :: .inr (.inl c) :: st => (match alen c with
      | some (false, n) => (0 ≤ j ∧ j < n) ∧ X (pc + 1) L st (sup σ c j.toNat x)
      | _ => False)
    | _ => False)
  | .bastore => (match S with
    | .inl x :: .inl j :: .inr (.inl c) :: st => (match alen c with
      | some (true, n) => ((0 ≤ j ∧ j < n) ∧ (x = 0 ∨ x = 1)) ∧ X (pc + 1) L st (sup σ c j.toNat x)
      | _ => False)
    | _ => False)
  | .arraylength => (match S with
    | .inr (.inl c) :: st => (match alenS sl c with
      | some (_, n) => X (pc + 1) L (vI (Int.ofNat n) :: st) σ
      | _ => False)
    | _ => False)
  | .invokevirtual _ => (match nth S b with
    | some (.inr (.inl c)) => cond (Nat.ble (S.length) (b + 5) && Nat.beq (cof c) (mcl a)) (C a (vR c :: (S.take b).reverse) σ fun r σ' => X (pc + 3) L (psh r (S.drop (b + 1))) σ') False
    | _ => False)
  | .invokestatic _ => cond (Nat.ble b S.length && Nat.ble S.length (b + 4)) (cond (Nat.beq a 1) (p2I S fun x y st => X (pc + 3) L (vI (max x y) :: st) σ) (cond (Nat.beq a 3) (p2I S fun x y st => X (pc + 3) L (vI (min x y) :: st) σ) (cond (Nat.beq a 2) (p2L S fun x y st => X (pc + 3) L (vL (max x y) :: st) σ) (C a ((S.take b).reverse) σ fun r σ' => X (pc + 3) L (psh r (S.drop b)) σ')))) False
  | .ireturn => (match S with
    | [.inl x] => cond (Nat.beq a 1) ((x = 0 ∨ x = 1) ∧ Q (some (vI x)) σ) (Q (some (vI x)) σ)
    | _ => False)
  | .lreturn => (match S with
    | [.inr (.inr x)] => Q (some (vL x)) σ
    | _ => False)
  | .areturn => (match S with
    | [.inr (.inl x)] => Q (some (vR x)) σ
    | _ => False)
  | .return_ => (match S with
    | [] => Q none σ
    | _ => False)
  | _ => False
/-- closed under steps, and under forgetting a local -/
def Cl (mcl : Nat → Nat) (C : Nat → List AV → Sto → PQ → Prop) (sl : Option Nat) (cd : List (Nat × En)) (Q : PQ) (X : Nat → Lo → List AV → Sto → Prop) : Prop :=
  (∀ pc L S σ, (match lk cd pc with
    | none => False
    | some e => arm mcl C sl X Q pc L S σ e.1 e.2.2.1 e.2.2.2.1 e.2.2.2.2.2) → X pc L S σ) ∧ ∀ (j pc : Nat) L S σ, X pc (L.set j none) S σ → X pc L S σ
def iniL : Nat → List AV → Lo
  | n, [] => List.replicate n none
  | n, (.inr (.inr v)) :: t => some (vL v) :: none :: iniL (n - 2) t
  | n, v :: t => some v :: iniL (n - 1) t
theorem ite_mo {c A B A' B' : Prop} [Decidable c] (f : A → A') (g : B → B') (h : if c then A else B) : if c then A' else B' := by
  by_cases hc : c
  · rw [if_pos hc] at h ⊢; exact f h
  · rw [if_neg hc] at h ⊢; exact g h
def cd_In_bitCount : List (Nat × En) := [(0, .iload_n 0, 1, 0, 0, 0, []),
  (1, .iload_n 0, 1, 0, 0, 0, []),
  (2, .iconst 1, 1, 0, 0, 0, []),
  (3, .iushr, 1, 0, 0, 0, []),
  (4, .ldc_w 265, 3, 0, 0, 360, [(1431655765, 0)]),
  (7, .iand, 1, 0, 0, 0, []),
  (8, .isub, 1, 0, 0, 0, []),
  (9, .istore_n 0, 1, 0, 0, 0, []),
  (10, .iload_n 0, 1, 0, 0, 0, []),
  (11, .ldc_w 266, 3, 0, 0, 361, [(858993459, 0)]),
  (14, .iand, 1, 0, 0, 0, []),
  (15, .iload_n 0, 1, 0, 0, 0, []),
  (16, .iconst 2, 1, 0, 0, 0, []),
  (17, .iushr, 1, 0, 0, 0, []),
  (18, .ldc_w 266, 3, 0, 0, 361, [(858993459, 0)]),
  (21, .iand, 1, 0, 0, 0, []),
  (22, .iadd, 1, 0, 0, 0, []),
  (23, .istore_n 0, 1, 0, 0, 0, []),
  (24, .iload_n 0, 1, 0, 0, 0, []),
  (25, .iload_n 0, 1, 0, 0, 0, []),
  (26, .iconst 4, 1, 0, 0, 0, []),
  (27, .iushr, 1, 0, 0, 0, []),
  (28, .iadd, 1, 0, 0, 0, []),
  (29, .ldc_w 267, 3, 0, 0, 362, [(252645135, 0)]),
  (32, .iand, 1, 0, 0, 0, []),
  (33, .istore_n 0, 1, 0, 0, 0, []),
  (34, .iload_n 0, 1, 0, 0, 0, []),
  (35, .iload_n 0, 1, 0, 0, 0, []),
  (36, .bipush 8, 2, 0, 0, 0, []),
  (38, .iushr, 1, 0, 0, 0, []),
  (39, .iadd, 1, 0, 0, 0, []),
  (40, .istore_n 0, 1, 0, 0, 0, []),
  (41, .iload_n 0, 1, 0, 0, 0, []),
  (42, .iload_n 0, 1, 0, 0, 0, []),
  (43, .bipush 16, 2, 0, 0, 0, []),
  (45, .iushr, 1, 0, 0, 0, []),
  (46, .iadd, 1, 0, 0, 0, []),
  (47, .istore_n 0, 1, 0, 0, 0, []),
  (48, .iload_n 0, 1, 0, 0, 0, []),
  (49, .bipush 63, 2, 0, 0, 0, []),
  (51, .iand, 1, 0, 0, 0, []),
  (52, .ireturn, 1, 0, 0, 0, [])]
def cd_Mh_max : List (Nat × En) := [(0, .iload_n 0, 1, 0, 0, 0, []),
  (1, .iload_n 1, 1, 0, 0, 0, []),
  (2, .if_icmp .lt 7, 3, 9, 0, 0, []),
  (5, .iload_n 0, 1, 0, 0, 0, []),
  (6, .goto 4, 3, 10, 0, 0, []),
  (9, .iload_n 1, 1, 0, 0, 0, []),
  (10, .ireturn, 1, 0, 0, 0, [])]
def cd_Mh_max2 : List (Nat × En) := [(0, .lload_n 0, 1, 0, 0, 0, []),
  (1, .lload_n 2, 1, 0, 0, 0, []),
  (2, .lcmp, 1, 0, 0, 0, []),
  (3, .ifCond .lt 7, 3, 10, 0, 0, []),
  (6, .lload_n 0, 1, 0, 0, 0, []),
  (7, .goto 4, 3, 11, 0, 0, []),
  (10, .lload_n 2, 1, 0, 0, 0, []),
  (11, .lreturn, 1, 0, 0, 0, [])]
def cd_Mh_min : List (Nat × En) := [(0, .iload_n 0, 1, 0, 0, 0, []),
  (1, .iload_n 1, 1, 0, 0, 0, []),
  (2, .if_icmp .gt 7, 3, 9, 0, 0, []),
  (5, .iload_n 0, 1, 0, 0, 0, []),
  (6, .goto 4, 3, 10, 0, 0, []),
  (9, .iload_n 1, 1, 0, 0, 0, []),
  (10, .ireturn, 1, 0, 0, 0, [])]
def cd_Kd_minutesFor : List (Nat × En) := [(0, .iload_n 0, 1, 0, 0, 0, []),
  (1, .tableswitch 35 2 4 #[27, 29, 31], 27, 36, 0, 0, [(2, 28), (3, 30), (4, 32)]),
  (28, .iconst 3, 1, 0, 0, 0, []),
  (29, .ireturn, 1, 0, 0, 0, []),
  (30, .iconst 2, 1, 0, 0, 0, []),
  (31, .ireturn, 1, 0, 0, 0, []),
  (32, .iconst 3, 1, 0, 0, 0, []),
  (33, .iload_n 1, 1, 0, 0, 0, []),
  (34, .iadd, 1, 0, 0, 0, []),
  (35, .ireturn, 1, 0, 0, 0, []),
  (36, .iconst 1, 1, 0, 0, 0, []),
  (37, .ireturn, 1, 0, 0, 0, [])]
def cd_Kd_moreMood : List (Nat × En) := [(0, .iload_n 0, 1, 0, 0, 0, []),
  (1, .tableswitch 37 1 4 #[31, 33, 35, 31], 31, 38, 0, 0, [(1, 32), (2, 34), (3, 36), (4, 32)]),
  (32, .iconst 2, 1, 0, 0, 0, []),
  (33, .ireturn, 1, 0, 0, 0, []),
  (34, .iconst 0, 1, 0, 0, 0, []),
  (35, .ireturn, 1, 0, 0, 0, []),
  (36, .iload_n 1, 1, 0, 0, 0, []),
  (37, .ireturn, 1, 0, 0, 0, []),
  (38, .iconst 1, 1, 0, 0, 0, []),
  (39, .ireturn, 1, 0, 0, 0, [])]
def cd_Kd_lessMood : List (Nat × En) := [(0, .iload_n 0, 1, 0, 0, 0, []),
  (1, .tableswitch 35 2 5 #[31, 33, 31, 31], 31, 36, 0, 0, [(2, 32), (3, 34), (4, 32), (5, 32)]),
  (32, .iconst 1, 1, 0, 0, 0, []),
  (33, .ireturn, 1, 0, 0, 0, []),
  (34, .iload_n 1, 1, 0, 0, 0, []),
  (35, .ireturn, 1, 0, 0, 0, []),
  (36, .iconst 0, 1, 0, 0, 0, []),
  (37, .ireturn, 1, 0, 0, 0, [])]
def cd_Kd_price : List (Nat × En) := [(0, .iload_n 0, 1, 0, 0, 0, []),
  (1, .tableswitch 45 1 5 #[35, 39, 45, 39, 43], 35, 46, 0, 0, [(1, 36), (2, 40), (3, 46), (4, 40), (5, 44)]),
  (36, .iload_n 2, 1, 0, 0, 0, []),
  (37, .iconst 2, 1, 0, 0, 0, []),
  (38, .idiv, 1, 0, 0, 0, []),
  (39, .ireturn, 1, 0, 0, 0, []),
  (40, .iconst 2, 1, 0, 0, 0, []),
  (41, .iload_n 2, 1, 0, 0, 0, []),
  (42, .imul, 1, 0, 0, 0, []),
  (43, .ireturn, 1, 0, 0, 0, []),
  (44, .iload_n 1, 1, 0, 0, 0, []),
  (45, .ireturn, 1, 0, 0, 0, []),
  (46, .iload_n 2, 1, 0, 0, 0, []),
  (47, .ireturn, 1, 0, 0, 0, [])]
def cd_Tb_copyFrom : List (Nat × En) := [(0, .iconst 0, 1, 0, 0, 0, []),
  (1, .istore_n 2, 1, 0, 0, 0, []),
  (2, .iload_n 2, 1, 0, 0, 0, []),
  (3, .bipush 6, 2, 0, 0, 0, []),
  (5, .if_icmp .ge 33, 3, 38, 0, 0, []),
  (8, .aload_n 0, 1, 0, 0, 0, []),
  (9, .getfield 9, 3, 1, 0, 25, []),
  (12, .iload_n 2, 1, 0, 0, 0, []),
  (13, .aload_n 1, 1, 0, 0, 0, []),
  (14, .getfield 9, 3, 1, 0, 25, []),
  (17, .iload_n 2, 1, 0, 0, 0, []),
  (18, .iaload, 1, 0, 0, 0, []),
  (19, .iastore, 1, 0, 0, 0, []),
  (20, .aload_n 0, 1, 0, 0, 0, []),
  (21, .getfield 15, 3, 1, 1, 27, []),
  (24, .iload_n 2, 1, 0, 0, 0, []),
  (25, .aload_n 1, 1, 0, 0, 0, []),
  (26, .getfield 15, 3, 1, 1, 27, []),
  (29, .iload_n 2, 1, 0, 0, 0, []),
  (30, .iaload, 1, 0, 0, 0, []),
  (31, .iastore, 1, 0, 0, 0, []),
  (32, .iinc 2 1, 3, 0, 0, 0, []),
  (35, .goto (-33), 3, 2, 0, 0, []),
  (38, .iconst 0, 1, 0, 0, 0, []),
  (39, .istore_n 2, 1, 0, 0, 0, []),
  (40, .iload_n 2, 1, 0, 0, 0, []),
  (41, .bipush 7, 2, 0, 0, 0, []),
  (43, .if_icmp .ge 69, 3, 112, 0, 0, []),
  (46, .aload_n 0, 1, 0, 0, 0, []),
  (47, .getfield 18, 3, 1, 2, 30, []),
  (50, .iload_n 2, 1, 0, 0, 0, []),
  (51, .aload_n 1, 1, 0, 0, 0, []),
  (52, .getfield 18, 3, 1, 2, 30, []),
  (55, .iload_n 2, 1, 0, 0, 0, []),
  (56, .iaload, 1, 0, 0, 0, []),
  (57, .iastore, 1, 0, 0, 0, []),
  (58, .aload_n 0, 1, 0, 0, 0, []),
  (59, .getfield 21, 3, 1, 3, 33, []),
  (62, .iload_n 2, 1, 0, 0, 0, []),
  (63, .aload_n 1, 1, 0, 0, 0, []),
  (64, .getfield 21, 3, 1, 3, 33, []),
  (67, .iload_n 2, 1, 0, 0, 0, []),
  (68, .iaload, 1, 0, 0, 0, []),
  (69, .iastore, 1, 0, 0, 0, []),
  (70, .aload_n 0, 1, 0, 0, 0, []),
  (71, .getfield 24, 3, 1, 4, 36, []),
  (74, .iload_n 2, 1, 0, 0, 0, []),
  (75, .aload_n 1, 1, 0, 0, 0, []),
  (76, .getfield 24, 3, 1, 4, 36, []),
  (79, .iload_n 2, 1, 0, 0, 0, []),
  (80, .iaload, 1, 0, 0, 0, []),
  (81, .iastore, 1, 0, 0, 0, []),
  (82, .aload_n 0, 1, 0, 0, 0, []),
  (83, .getfield 27, 3, 1, 5, 40, []),
  (86, .iload_n 2, 1, 0, 0, 0, []),
  (87, .aload_n 1, 1, 0, 0, 0, []),
  (88, .getfield 27, 3, 1, 5, 40, []),
  (91, .iload_n 2, 1, 0, 0, 0, []),
  (92, .iaload, 1, 0, 0, 0, []),
  (93, .iastore, 1, 0, 0, 0, []),
  (94, .aload_n 0, 1, 0, 0, 0, []),
  (95, .getfield 30, 3, 1, 6, 43, []),
  (98, .iload_n 2, 1, 0, 0, 0, []),
  (99, .aload_n 1, 1, 0, 0, 0, []),
  (100, .getfield 30, 3, 1, 6, 43, []),
  (103, .iload_n 2, 1, 0, 0, 0, []),
  (104, .iaload, 1, 0, 0, 0, []),
  (105, .iastore, 1, 0, 0, 0, []),
  (106, .iinc 2 1, 3, 0, 0, 0, []),
  (109, .goto (-69), 3, 40, 0, 0, []),
  (112, .aload_n 0, 1, 0, 0, 0, []),
  (113, .aload_n 1, 1, 0, 0, 0, []),
  (114, .getfield 33, 3, 1, 7, 47, []),
  (117, .putfield 33, 3, 1, 7, 47, []),
  (120, .aload_n 0, 1, 0, 0, 0, []),
  (121, .aload_n 1, 1, 0, 0, 0, []),
  (122, .getfield 37, 3, 1, 8, 51, []),
  (125, .putfield 37, 3, 1, 8, 51, []),
  (128, .aload_n 0, 1, 0, 0, 0, []),
  (129, .aload_n 1, 1, 0, 0, 0, []),
  (130, .getfield 40, 3, 1, 9, 55, []),
  (133, .putfield 40, 3, 1, 9, 55, []),
  (136, .aload_n 0, 1, 0, 0, 0, []),
  (137, .aload_n 1, 1, 0, 0, 0, []),
  (138, .getfield 43, 3, 1, 10, 59, []),
  (141, .putfield 43, 3, 1, 10, 59, []),
  (144, .return_, 1, 0, 0, 0, [])]
def cd_Tb_hasGuest : List (Nat × En) := [(0, .iload_n 1, 1, 0, 0, 0, []),
  (1, .ifCond .lt 15, 3, 16, 0, 0, []),
  (4, .iload_n 1, 1, 0, 0, 0, []),
  (5, .aload_n 0, 1, 0, 0, 0, []),
  (6, .getfield 33, 3, 1, 7, 47, []),
  (9, .if_icmp .ge 7, 3, 16, 0, 0, []),
  (12, .iconst 1, 1, 0, 0, 0, []),
  (13, .goto 4, 3, 17, 0, 0, []),
  (16, .iconst 0, 1, 0, 0, 0, []),
  (17, .ireturn, 1, 1, 0, 0, [])]
def cd_Tb_hasTwo : List (Nat × En) := [(0, .aload_n 0, 1, 0, 0, 0, []),
  (1, .iload_n 1, 1, 0, 0, 0, []),
  (2, .invokevirtual 46, 3, 9, 1, 252, []),
  (5, .ifCond .eq 20, 3, 25, 0, 0, []),
  (8, .aload_n 0, 1, 0, 0, 0, []),
  (9, .iload_n 2, 1, 0, 0, 0, []),
  (10, .invokevirtual 46, 3, 9, 1, 252, []),
  (13, .ifCond .eq 12, 3, 25, 0, 0, []),
  (16, .iload_n 1, 1, 0, 0, 0, []),
  (17, .iload_n 2, 1, 0, 0, 0, []),
  (18, .if_icmp .eq 7, 3, 25, 0, 0, []),
  (21, .iconst 1, 1, 0, 0, 0, []),
  (22, .goto 4, 3, 26, 0, 0, []),
  (25, .iconst 0, 1, 0, 0, 0, []),
  (26, .ireturn, 1, 1, 0, 0, [])]
def cd_Tb_hasRemark : List (Nat × En) := [(0, .iload_n 1, 1, 0, 0, 0, []),
  (1, .ifCond .lt 15, 3, 16, 0, 0, []),
  (4, .iload_n 1, 1, 0, 0, 0, []),
  (5, .aload_n 0, 1, 0, 0, 0, []),
  (6, .getfield 37, 3, 1, 8, 51, []),
  (9, .if_icmp .ge 7, 3, 16, 0, 0, []),
  (12, .iconst 1, 1, 0, 0, 0, []),
  (13, .goto 4, 3, 17, 0, 0, []),
  (16, .iconst 0, 1, 0, 0, 0, []),
  (17, .ireturn, 1, 1, 0, 0, [])]
def cd_Tb_seat : List (Nat × En) := [(0, .aload_n 0, 1, 0, 0, 0, []),
  (1, .getfield 33, 3, 1, 7, 47, []),
  (4, .bipush 6, 2, 0, 0, 0, []),
  (6, .if_icmp .ge 16, 3, 22, 0, 0, []),
  (9, .iload_n 1, 1, 0, 0, 0, []),
  (10, .sipush 255, 3, 0, 0, 0, []),
  (13, .if_icmp .gt 9, 3, 22, 0, 0, []),
  (16, .iload_n 2, 1, 0, 0, 0, []),
  (17, .bipush 40, 2, 0, 0, 0, []),
  (19, .if_icmp .le 5, 3, 24, 0, 0, []),
  (22, .iconst 0, 1, 0, 0, 0, []),
  (23, .ireturn, 1, 1, 0, 0, []),
  (24, .aload_n 0, 1, 0, 0, 0, []),
  (25, .getfield 9, 3, 1, 0, 25, []),
  (28, .aload_n 0, 1, 0, 0, 0, []),
  (29, .getfield 33, 3, 1, 7, 47, []),
  (32, .iload_n 1, 1, 0, 0, 0, []),
  (33, .iastore, 1, 0, 0, 0, []),
  (34, .aload_n 0, 1, 0, 0, 0, []),
  (35, .getfield 15, 3, 1, 1, 27, []),
  (38, .aload_n 0, 1, 0, 0, 0, []),
  (39, .getfield 33, 3, 1, 7, 47, []),
  (42, .iload_n 2, 1, 0, 0, 0, []),
  (43, .iastore, 1, 0, 0, 0, []),
  (44, .aload_n 0, 1, 0, 0, 0, []),
  (45, .dup, 1, 0, 0, 0, []),
  (46, .getfield 33, 3, 1, 7, 47, []),
  (49, .iconst 1, 1, 0, 0, 0, []),
  (50, .iadd, 1, 0, 0, 0, []),
  (51, .putfield 33, 3, 1, 7, 47, []),
  (54, .iconst 1, 1, 0, 0, 0, []),
  (55, .ireturn, 1, 1, 0, 0, [])]
def cd_Tb_bring : List (Nat × En) := [(0, .aload_n 0, 1, 0, 0, 0, []),
  (1, .getfield 37, 3, 1, 8, 51, []),
  (4, .bipush 7, 2, 0, 0, 0, []),
  (6, .if_icmp .ge 25, 3, 31, 0, 0, []),
  (9, .aload_n 0, 1, 0, 0, 0, []),
  (10, .iload_n 3, 1, 0, 0, 0, []),
  (11, .invokevirtual 46, 3, 9, 1, 252, []),
  (14, .ifCond .eq 17, 3, 31, 0, 0, []),
  (17, .iload 4, 2, 0, 0, 0, []),
  (19, .bipush 8, 2, 0, 0, 0, []),
  (21, .if_icmp .ge 10, 3, 31, 0, 0, []),
  (24, .iload 5, 2, 0, 0, 0, []),
  (26, .bipush 59, 2, 0, 0, 0, []),
  (28, .if_icmp .le 5, 3, 33, 0, 0, []),
  (31, .iconst 0, 1, 0, 0, 0, []),
  (32, .ireturn, 1, 1, 0, 0, []),
  (33, .aload_n 0, 1, 0, 0, 0, []),
  (34, .getfield 18, 3, 1, 2, 30, []),
  (37, .aload_n 0, 1, 0, 0, 0, []),
  (38, .getfield 37, 3, 1, 8, 51, []),
  (41, .iload_n 1, 1, 0, 0, 0, []),
  (42, .iastore, 1, 0, 0, 0, []),
  (43, .aload_n 0, 1, 0, 0, 0, []),
  (44, .getfield 21, 3, 1, 3, 33, []),
  (47, .aload_n 0, 1, 0, 0, 0, []),
  (48, .getfield 37, 3, 1, 8, 51, []),
  (51, .iload_n 2, 1, 0, 0, 0, []),
  (52, .iastore, 1, 0, 0, 0, []),
  (53, .aload_n 0, 1, 0, 0, 0, []),
  (54, .getfield 24, 3, 1, 4, 36, []),
  (57, .aload_n 0, 1, 0, 0, 0, []),
  (58, .getfield 37, 3, 1, 8, 51, []),
  (61, .iload_n 3, 1, 0, 0, 0, []),
  (62, .iastore, 1, 0, 0, 0, []),
  (63, .aload_n 0, 1, 0, 0, 0, []),
  (64, .getfield 27, 3, 1, 5, 40, []),
  (67, .aload_n 0, 1, 0, 0, 0, []),
  (68, .getfield 37, 3, 1, 8, 51, []),
  (71, .iload 4, 2, 0, 0, 0, []),
  (73, .iastore, 1, 0, 0, 0, []),
  (74, .aload_n 0, 1, 0, 0, 0, []),
  (75, .getfield 30, 3, 1, 6, 43, []),
  (78, .aload_n 0, 1, 0, 0, 0, []),
  (79, .getfield 37, 3, 1, 8, 51, []),
  (82, .iload 5, 2, 0, 0, 0, []),
  (84, .iastore, 1, 0, 0, 0, []),
  (85, .aload_n 0, 1, 0, 0, 0, []),
  (86, .dup, 1, 0, 0, 0, []),
  (87, .getfield 37, 3, 1, 8, 51, []),
  (90, .iconst 1, 1, 0, 0, 0, []),
  (91, .iadd, 1, 0, 0, 0, []),
  (92, .putfield 37, 3, 1, 8, 51, []),
  (95, .iconst 1, 1, 0, 0, 0, []),
  (96, .ireturn, 1, 1, 0, 0, [])]
def cd_Tb_hire : List (Nat × En) := [(0, .iload_n 1, 1, 0, 0, 0, []),
  (1, .iconst 1, 1, 0, 0, 0, []),
  (2, .if_icmp .lt 8, 3, 10, 0, 0, []),
  (5, .iload_n 1, 1, 0, 0, 0, []),
  (6, .iconst 3, 1, 0, 0, 0, []),
  (7, .if_icmp .le 5, 3, 12, 0, 0, []),
  (10, .iconst 0, 1, 0, 0, 0, []),
  (11, .ireturn, 1, 1, 0, 0, []),
  (12, .aload_n 0, 1, 0, 0, 0, []),
  (13, .iload_n 1, 1, 0, 0, 0, []),
  (14, .putfield 40, 3, 1, 9, 55, []),
  (17, .iconst 1, 1, 0, 0, 0, []),
  (18, .ireturn, 1, 1, 0, 0, [])]
def cd_Tb_charge : List (Nat × En) := [(0, .aload_n 0, 1, 0, 0, 0, []),
  (1, .iload_n 1, 1, 0, 0, 0, []),
  (2, .putfield 43, 3, 1, 10, 59, []),
  (5, .iconst 1, 1, 0, 0, 0, []),
  (6, .ireturn, 1, 1, 0, 0, [])]
def cd_Tb_humour : List (Nat × En) := [(0, .aload_n 0, 1, 0, 0, 0, []),
  (1, .iload_n 1, 1, 0, 0, 0, []),
  (2, .invokevirtual 46, 3, 9, 1, 252, []),
  (5, .ifCond .eq 9, 3, 14, 0, 0, []),
  (8, .iload_n 2, 1, 0, 0, 0, []),
  (9, .bipush 40, 2, 0, 0, 0, []),
  (11, .if_icmp .le 5, 3, 16, 0, 0, []),
  (14, .iconst 0, 1, 0, 0, 0, []),
  (15, .ireturn, 1, 1, 0, 0, []),
  (16, .aload_n 0, 1, 0, 0, 0, []),
  (17, .getfield 15, 3, 1, 1, 27, []),
  (20, .iload_n 1, 1, 0, 0, 0, []),
  (21, .iload_n 2, 1, 0, 0, 0, []),
  (22, .iastore, 1, 0, 0, 0, []),
  (23, .iconst 1, 1, 0, 0, 0, []),
  (24, .ireturn, 1, 1, 0, 0, [])]
def cd_Tb_changeSeats : List (Nat × En) := [(0, .aload_n 0, 1, 0, 0, 0, []),
  (1, .iload_n 1, 1, 0, 0, 0, []),
  (2, .iload_n 2, 1, 0, 0, 0, []),
  (3, .invokevirtual 50, 3, 10, 2, 268, []),
  (6, .ifCond .ne 5, 3, 11, 0, 0, []),
  (9, .iconst 0, 1, 0, 0, 0, []),
  (10, .ireturn, 1, 1, 0, 0, []),
  (11, .aload_n 0, 1, 0, 0, 0, []),
  (12, .getfield 9, 3, 1, 0, 25, []),
  (15, .iload_n 1, 1, 0, 0, 0, []),
  (16, .iaload, 1, 0, 0, 0, []),
  (17, .istore_n 3, 1, 0, 0, 0, []),
  (18, .aload_n 0, 1, 0, 0, 0, []),
  (19, .getfield 15, 3, 1, 1, 27, []),
  (22, .iload_n 1, 1, 0, 0, 0, []),
  (23, .iaload, 1, 0, 0, 0, []),
  (24, .istore 4, 2, 0, 0, 0, []),
  (26, .aload_n 0, 1, 0, 0, 0, []),
  (27, .getfield 9, 3, 1, 0, 25, []),
  (30, .iload_n 1, 1, 0, 0, 0, []),
  (31, .aload_n 0, 1, 0, 0, 0, []),
  (32, .getfield 9, 3, 1, 0, 25, []),
  (35, .iload_n 2, 1, 0, 0, 0, []),
  (36, .iaload, 1, 0, 0, 0, []),
  (37, .iastore, 1, 0, 0, 0, []),
  (38, .aload_n 0, 1, 0, 0, 0, []),
  (39, .getfield 15, 3, 1, 1, 27, []),
  (42, .iload_n 1, 1, 0, 0, 0, []),
  (43, .aload_n 0, 1, 0, 0, 0, []),
  (44, .getfield 15, 3, 1, 1, 27, []),
  (47, .iload_n 2, 1, 0, 0, 0, []),
  (48, .iaload, 1, 0, 0, 0, []),
  (49, .iastore, 1, 0, 0, 0, []),
  (50, .aload_n 0, 1, 0, 0, 0, []),
  (51, .getfield 9, 3, 1, 0, 25, []),
  (54, .iload_n 2, 1, 0, 0, 0, []),
  (55, .iload_n 3, 1, 0, 0, 0, []),
  (56, .iastore, 1, 0, 0, 0, []),
  (57, .aload_n 0, 1, 0, 0, 0, []),
  (58, .getfield 15, 3, 1, 1, 27, []),
  (61, .iload_n 2, 1, 0, 0, 0, []),
  (62, .iload 4, 2, 0, 0, 0, []),
  (64, .iastore, 1, 0, 0, 0, []),
  (65, .iconst 0, 1, 0, 0, 0, []),
  (66, .istore 5, 2, 0, 0, 0, []),
  (68, .iload 5, 2, 0, 0, 0, []),
  (70, .aload_n 0, 1, 0, 0, 0, []),
  (71, .getfield 37, 3, 1, 8, 51, []),
  (74, .if_icmp .ge 50, 3, 124, 0, 0, []),
  (77, .aload_n 0, 1, 0, 0, 0, []),
  (78, .getfield 24, 3, 1, 4, 36, []),
  (81, .iload 5, 2, 0, 0, 0, []),
  (83, .iaload, 1, 0, 0, 0, []),
  (84, .iload_n 1, 1, 0, 0, 0, []),
  (85, .if_icmp .ne 14, 3, 99, 0, 0, []),
  (88, .aload_n 0, 1, 0, 0, 0, []),
  (89, .getfield 24, 3, 1, 4, 36, []),
  (92, .iload 5, 2, 0, 0, 0, []),
  (94, .iload_n 2, 1, 0, 0, 0, []),
  (95, .iastore, 1, 0, 0, 0, []),
  (96, .goto 22, 3, 118, 0, 0, []),
  (99, .aload_n 0, 1, 0, 0, 0, []),
  (100, .getfield 24, 3, 1, 4, 36, []),
  (103, .iload 5, 2, 0, 0, 0, []),
  (105, .iaload, 1, 0, 0, 0, []),
  (106, .iload_n 2, 1, 0, 0, 0, []),
  (107, .if_icmp .ne 11, 3, 118, 0, 0, []),
  (110, .aload_n 0, 1, 0, 0, 0, []),
  (111, .getfield 24, 3, 1, 4, 36, []),
  (114, .iload 5, 2, 0, 0, 0, []),
  (116, .iload_n 1, 1, 0, 0, 0, []),
  (117, .iastore, 1, 0, 0, 0, []),
  (118, .iinc 5 1, 3, 0, 0, 0, []),
  (121, .goto (-53), 3, 68, 0, 0, []),
  (124, .iconst 1, 1, 0, 0, 0, []),
  (125, .ireturn, 1, 1, 0, 0, [])]
def cd_Tb_minutesFor : List (Nat × En) := [(0, .aload_n 0, 1, 0, 0, 0, []),
  (1, .iload_n 1, 1, 0, 0, 0, []),
  (2, .invokevirtual 54, 3, 11, 1, 295, []),
  (5, .ifCond .eq 21, 3, 26, 0, 0, []),
  (8, .aload_n 0, 1, 0, 0, 0, []),
  (9, .getfield 18, 3, 1, 2, 30, []),
  (12, .iload_n 1, 1, 0, 0, 0, []),
  (13, .iaload, 1, 0, 0, 0, []),
  (14, .aload_n 0, 1, 0, 0, 0, []),
  (15, .getfield 21, 3, 1, 3, 33, []),
  (18, .iload_n 1, 1, 0, 0, 0, []),
  (19, .iaload, 1, 0, 0, 0, []),
  (20, .invokestatic 57, 3, 4, 2, 296, []),
  (23, .goto 4, 3, 27, 0, 0, []),
  (26, .iconst 1, 1, 0, 0, 0, []),
  (27, .ireturn, 1, 0, 0, 0, [])]
def cd_Tb_priceOf : List (Nat × En) := [(0, .aload_n 0, 1, 0, 0, 0, []),
  (1, .iload_n 1, 1, 0, 0, 0, []),
  (2, .invokevirtual 54, 3, 11, 1, 295, []),
  (5, .ifCond .eq 25, 3, 30, 0, 0, []),
  (8, .aload_n 0, 1, 0, 0, 0, []),
  (9, .getfield 18, 3, 1, 2, 30, []),
  (12, .iload_n 1, 1, 0, 0, 0, []),
  (13, .iaload, 1, 0, 0, 0, []),
  (14, .aload_n 0, 1, 0, 0, 0, []),
  (15, .getfield 21, 3, 1, 3, 33, []),
  (18, .iload_n 1, 1, 0, 0, 0, []),
  (19, .iaload, 1, 0, 0, 0, []),
  (20, .aload_n 0, 1, 0, 0, 0, []),
  (21, .getfield 43, 3, 1, 10, 59, []),
  (24, .invokestatic 63, 3, 7, 3, 303, []),
  (27, .goto 4, 3, 31, 0, 0, []),
  (30, .iconst 0, 1, 0, 0, 0, []),
  (31, .ireturn, 1, 0, 0, 0, [])]
def cd_Tb_hearersOf : List (Nat × En) := [(0, .aload_n 0, 1, 0, 0, 0, []),
  (1, .iload_n 1, 1, 0, 0, 0, []),
  (2, .invokevirtual 54, 3, 11, 1, 295, []),
  (5, .ifCond .ne 5, 3, 10, 0, 0, []),
  (8, .iconst 0, 1, 0, 0, 0, []),
  (9, .ireturn, 1, 0, 0, 0, []),
  (10, .aload_n 0, 1, 0, 0, 0, []),
  (11, .getfield 24, 3, 1, 4, 36, []),
  (14, .iload_n 1, 1, 0, 0, 0, []),
  (15, .iaload, 1, 0, 0, 0, []),
  (16, .istore_n 2, 1, 0, 0, 0, []),
  (17, .iconst 1, 1, 0, 0, 0, []),
  (18, .aload_n 0, 1, 0, 0, 0, []),
  (19, .getfield 33, 3, 1, 7, 47, []),
  (22, .ishl, 1, 0, 0, 0, []),
  (23, .iconst 1, 1, 0, 0, 0, []),
  (24, .isub, 1, 0, 0, 0, []),
  (25, .iconst 1, 1, 0, 0, 0, []),
  (26, .iload_n 2, 1, 0, 0, 0, []),
  (27, .ishl, 1, 0, 0, 0, []),
  (28, .iconst (-1), 1, 0, 0, 0, []),
  (29, .ixor, 1, 0, 0, 0, []),
  (30, .iand, 1, 0, 0, 0, []),
  (31, .istore_n 3, 1, 0, 0, 0, []),
  (32, .aload_n 0, 1, 0, 0, 0, []),
  (33, .getfield 18, 3, 1, 2, 30, []),
  (36, .iload_n 1, 1, 0, 0, 0, []),
  (37, .iaload, 1, 0, 0, 0, []),
  (38, .iconst 3, 1, 0, 0, 0, []),
  (39, .if_icmp .eq 5, 3, 44, 0, 0, []),
  (42, .iload_n 3, 1, 0, 0, 0, []),
  (43, .ireturn, 1, 0, 0, 0, []),
  (44, .iload_n 2, 1, 0, 0, 0, []),
  (45, .iconst 1, 1, 0, 0, 0, []),
  (46, .iadd, 1, 0, 0, 0, []),
  (47, .aload_n 0, 1, 0, 0, 0, []),
  (48, .getfield 33, 3, 1, 7, 47, []),
  (51, .if_icmp .ge 9, 3, 60, 0, 0, []),
  (54, .iload_n 2, 1, 0, 0, 0, []),
  (55, .iconst 1, 1, 0, 0, 0, []),
  (56, .iadd, 1, 0, 0, 0, []),
  (57, .goto 4, 3, 61, 0, 0, []),
  (60, .iconst 0, 1, 0, 0, 0, []),
  (61, .istore 4, 2, 0, 0, 0, []),
  (63, .iload_n 3, 1, 0, 0, 0, []),
  (64, .iconst 1, 1, 0, 0, 0, []),
  (65, .iload 4, 2, 0, 0, 0, []),
  (67, .ishl, 1, 0, 0, 0, []),
  (68, .iand, 1, 0, 0, 0, []),
  (69, .ireturn, 1, 0, 0, 0, [])]
def cd_Tb_likersOf : List (Nat × En) := [(0, .iconst 0, 1, 0, 0, 0, []),
  (1, .istore_n 2, 1, 0, 0, 0, []),
  (2, .iconst 0, 1, 0, 0, 0, []),
  (3, .istore_n 3, 1, 0, 0, 0, []),
  (4, .iload_n 3, 1, 0, 0, 0, []),
  (5, .aload_n 0, 1, 0, 0, 0, []),
  (6, .getfield 33, 3, 1, 7, 47, []),
  (9, .if_icmp .ge 24, 3, 33, 0, 0, []),
  (12, .iload_n 2, 1, 0, 0, 0, []),
  (13, .aload_n 0, 1, 0, 0, 0, []),
  (14, .getfield 9, 3, 1, 0, 25, []),
  (17, .iload_n 3, 1, 0, 0, 0, []),
  (18, .iaload, 1, 0, 0, 0, []),
  (19, .iload_n 1, 1, 0, 0, 0, []),
  (20, .ishr, 1, 0, 0, 0, []),
  (21, .iconst 1, 1, 0, 0, 0, []),
  (22, .iand, 1, 0, 0, 0, []),
  (23, .iload_n 3, 1, 0, 0, 0, []),
  (24, .ishl, 1, 0, 0, 0, []),
  (25, .ior, 1, 0, 0, 0, []),
  (26, .istore_n 2, 1, 0, 0, 0, []),
  (27, .iinc 3 1, 3, 0, 0, 0, []),
  (30, .goto (-26), 3, 4, 0, 0, []),
  (33, .iload_n 2, 1, 0, 0, 0, []),
  (34, .ireturn, 1, 0, 0, 0, [])]
def cd_Tb_moodsTogether : List (Nat × En) := [(0, .iconst 0, 1, 0, 0, 0, []),
  (1, .istore_n 1, 1, 0, 0, 0, []),
  (2, .iconst 0, 1, 0, 0, 0, []),
  (3, .istore_n 2, 1, 0, 0, 0, []),
  (4, .iload_n 2, 1, 0, 0, 0, []),
  (5, .aload_n 0, 1, 0, 0, 0, []),
  (6, .getfield 33, 3, 1, 7, 47, []),
  (9, .if_icmp .ge 18, 3, 27, 0, 0, []),
  (12, .iload_n 1, 1, 0, 0, 0, []),
  (13, .aload_n 0, 1, 0, 0, 0, []),
  (14, .getfield 15, 3, 1, 1, 27, []),
  (17, .iload_n 2, 1, 0, 0, 0, []),
  (18, .iaload, 1, 0, 0, 0, []),
  (19, .iadd, 1, 0, 0, 0, []),
  (20, .istore_n 1, 1, 0, 0, 0, []),
  (21, .iinc 2 1, 3, 0, 0, 0, []),
  (24, .goto (-20), 3, 4, 0, 0, []),
  (27, .iload_n 1, 1, 0, 0, 0, []),
  (28, .ireturn, 1, 0, 0, 0, [])]
def cd_Tb_allPrices : List (Nat × En) := [(0, .iconst 0, 1, 0, 0, 0, []),
  (1, .istore_n 1, 1, 0, 0, 0, []),
  (2, .iconst 0, 1, 0, 0, 0, []),
  (3, .istore_n 2, 1, 0, 0, 0, []),
  (4, .iload_n 2, 1, 0, 0, 0, []),
  (5, .aload_n 0, 1, 0, 0, 0, []),
  (6, .getfield 37, 3, 1, 8, 51, []),
  (9, .if_icmp .ge 17, 3, 26, 0, 0, []),
  (12, .iload_n 1, 1, 0, 0, 0, []),
  (13, .aload_n 0, 1, 0, 0, 0, []),
  (14, .iload_n 2, 1, 0, 0, 0, []),
  (15, .invokevirtual 67, 3, 19, 1, 511, []),
  (18, .iadd, 1, 0, 0, 0, []),
  (19, .istore_n 1, 1, 0, 0, 0, []),
  (20, .iinc 2 1, 3, 0, 0, 0, []),
  (23, .goto (-19), 3, 4, 0, 0, []),
  (26, .iload_n 1, 1, 0, 0, 0, []),
  (27, .ireturn, 1, 0, 0, 0, [])]
def cd_Tb_mostLikers : List (Nat × En) := [(0, .iconst 0, 1, 0, 0, 0, []),
  (1, .istore_n 1, 1, 0, 0, 0, []),
  (2, .iconst 0, 1, 0, 0, 0, []),
  (3, .istore_n 2, 1, 0, 0, 0, []),
  (4, .iload_n 2, 1, 0, 0, 0, []),
  (5, .bipush 8, 2, 0, 0, 0, []),
  (7, .if_icmp .ge 22, 3, 29, 0, 0, []),
  (10, .iload_n 1, 1, 0, 0, 0, []),
  (11, .aload_n 0, 1, 0, 0, 0, []),
  (12, .iload_n 2, 1, 0, 0, 0, []),
  (13, .invokevirtual 71, 3, 21, 1, 496, []),
  (16, .invokestatic 74, 3, 0, 1, 497, []),
  (19, .invokestatic 79, 3, 1, 2, 498, []),
  (22, .istore_n 1, 1, 0, 0, 0, []),
  (23, .iinc 2 1, 3, 0, 0, 0, []),
  (26, .goto (-22), 3, 4, 0, 0, []),
  (29, .iload_n 1, 1, 0, 0, 0, []),
  (30, .ireturn, 1, 0, 0, 0, [])]
def cd_Tb_topicsLikedBy : List (Nat × En) := [(0, .iconst 0, 1, 0, 0, 0, []),
  (1, .istore_n 2, 1, 0, 0, 0, []),
  (2, .iconst 0, 1, 0, 0, 0, []),
  (3, .istore_n 3, 1, 0, 0, 0, []),
  (4, .iload_n 3, 1, 0, 0, 0, []),
  (5, .bipush 8, 2, 0, 0, 0, []),
  (7, .if_icmp .ge 31, 3, 38, 0, 0, []),
  (10, .iload_n 2, 1, 0, 0, 0, []),
  (11, .aload_n 0, 1, 0, 0, 0, []),
  (12, .iload_n 3, 1, 0, 0, 0, []),
  (13, .invokevirtual 71, 3, 21, 1, 496, []),
  (16, .invokestatic 74, 3, 0, 1, 497, []),
  (19, .iload_n 1, 1, 0, 0, 0, []),
  (20, .if_icmp .ne 9, 3, 29, 0, 0, []),
  (23, .iconst 1, 1, 0, 0, 0, []),
  (24, .iload_n 3, 1, 0, 0, 0, []),
  (25, .ishl, 1, 0, 0, 0, []),
  (26, .goto 4, 3, 30, 0, 0, []),
  (29, .iconst 0, 1, 0, 0, 0, []),
  (30, .ior, 1, 0, 0, 0, []),
  (31, .istore_n 2, 1, 0, 0, 0, []),
  (32, .iinc 3 1, 3, 0, 0, 0, []),
  (35, .goto (-31), 3, 4, 0, 0, []),
  (38, .iload_n 2, 1, 0, 0, 0, []),
  (39, .ireturn, 1, 0, 0, 0, [])]
def cd_Tb_dearest : List (Nat × En) := [(0, .bipush (-9), 2, 0, 0, 0, []),
  (2, .istore_n 1, 1, 0, 0, 0, []),
  (3, .iconst (-1), 1, 0, 0, 0, []),
  (4, .istore_n 2, 1, 0, 0, 0, []),
  (5, .iconst 0, 1, 0, 0, 0, []),
  (6, .istore_n 3, 1, 0, 0, 0, []),
  (7, .iload_n 3, 1, 0, 0, 0, []),
  (8, .aload_n 0, 1, 0, 0, 0, []),
  (9, .getfield 37, 3, 1, 8, 51, []),
  (12, .if_icmp .ge 26, 3, 38, 0, 0, []),
  (15, .aload_n 0, 1, 0, 0, 0, []),
  (16, .iload_n 3, 1, 0, 0, 0, []),
  (17, .invokevirtual 67, 3, 19, 1, 511, []),
  (20, .iload_n 2, 1, 0, 0, 0, []),
  (21, .if_icmp .le 11, 3, 32, 0, 0, []),
  (24, .aload_n 0, 1, 0, 0, 0, []),
  (25, .iload_n 3, 1, 0, 0, 0, []),
  (26, .invokevirtual 67, 3, 19, 1, 511, []),
  (29, .istore_n 2, 1, 0, 0, 0, []),
  (30, .iload_n 3, 1, 0, 0, 0, []),
  (31, .istore_n 1, 1, 0, 0, 0, []),
  (32, .iinc 3 1, 3, 0, 0, 0, []),
  (35, .goto (-28), 3, 7, 0, 0, []),
  (38, .iload_n 1, 1, 0, 0, 0, []),
  (39, .ireturn, 1, 0, 0, 0, [])]
def cd_Tb_broughtBy : List (Nat × En) := [(0, .iconst 0, 1, 0, 0, 0, []),
  (1, .istore_n 2, 1, 0, 0, 0, []),
  (2, .iconst 0, 1, 0, 0, 0, []),
  (3, .istore_n 3, 1, 0, 0, 0, []),
  (4, .iload_n 3, 1, 0, 0, 0, []),
  (5, .aload_n 0, 1, 0, 0, 0, []),
  (6, .getfield 37, 3, 1, 8, 51, []),
  (9, .if_icmp .ge 29, 3, 38, 0, 0, []),
  (12, .iload_n 2, 1, 0, 0, 0, []),
  (13, .aload_n 0, 1, 0, 0, 0, []),
  (14, .getfield 24, 3, 1, 4, 36, []),
  (17, .iload_n 3, 1, 0, 0, 0, []),
  (18, .iaload, 1, 0, 0, 0, []),
  (19, .iload_n 1, 1, 0, 0, 0, []),
  (20, .if_icmp .ne 9, 3, 29, 0, 0, []),
  (23, .iconst 1, 1, 0, 0, 0, []),
  (24, .iload_n 3, 1, 0, 0, 0, []),
  (25, .ishl, 1, 0, 0, 0, []),
  (26, .goto 4, 3, 30, 0, 0, []),
  (29, .iconst 0, 1, 0, 0, 0, []),
  (30, .ior, 1, 0, 0, 0, []),
  (31, .istore_n 2, 1, 0, 0, 0, []),
  (32, .iinc 3 1, 3, 0, 0, 0, []),
  (35, .goto (-31), 3, 4, 0, 0, []),
  (38, .iload_n 2, 1, 0, 0, 0, []),
  (39, .ireturn, 1, 0, 0, 0, [])]
def cd_Ev_run : List (Nat × En) := [(0, .aload_n 0, 1, 0, 0, 0, []),
  (1, .iload_n 1, 1, 0, 0, 0, []),
  (2, .invokevirtual 39, 3, 29, 1, 339, []),
  (5, .iconst 0, 1, 0, 0, 0, []),
  (6, .istore_n 2, 1, 0, 0, 0, []),
  (7, .iload_n 2, 1, 0, 0, 0, []),
  (8, .bipush 60, 2, 0, 0, 0, []),
  (10, .if_icmp .gt 14, 3, 24, 0, 0, []),
  (13, .aload_n 0, 1, 0, 0, 0, []),
  (14, .iload_n 2, 1, 0, 0, 0, []),
  (15, .invokevirtual 43, 3, 30, 1, 343, []),
  (18, .iinc 2 1, 3, 0, 0, 0, []),
  (21, .goto (-14), 3, 7, 0, 0, []),
  (24, .return_, 1, 0, 0, 0, [])]
def cd_Ev_begin : List (Nat × En) := [(0, .aload_n 0, 1, 0, 0, 0, []),
  (1, .iload_n 1, 1, 0, 0, 0, []),
  (2, .putfield 35, 3, 3, 6, 124, []),
  (5, .iconst 0, 1, 0, 0, 0, []),
  (6, .istore_n 2, 1, 0, 0, 0, []),
  (7, .iload_n 2, 1, 0, 0, 0, []),
  (8, .bipush 7, 2, 0, 0, 0, []),
  (10, .if_icmp .ge 40, 3, 50, 0, 0, []),
  (13, .aload_n 0, 1, 0, 0, 0, []),
  (14, .getfield 18, 3, 3, 1, 115, []),
  (17, .iload_n 2, 1, 0, 0, 0, []),
  (18, .bipush (-9), 2, 0, 0, 0, []),
  (20, .iastore, 1, 0, 0, 0, []),
  (21, .aload_n 0, 1, 0, 0, 0, []),
  (22, .getfield 22, 3, 3, 2, 117, []),
  (25, .iload_n 2, 1, 0, 0, 0, []),
  (26, .bipush (-9), 2, 0, 0, 0, []),
  (28, .iastore, 1, 0, 0, 0, []),
  (29, .aload_n 0, 1, 0, 0, 0, []),
  (30, .getfield 32, 3, 3, 5, 123, []),
  (33, .iload_n 2, 1, 0, 0, 0, []),
  (34, .bipush (-9), 2, 0, 0, 0, []),
  (36, .iastore, 1, 0, 0, 0, []),
  (37, .aload_n 0, 1, 0, 0, 0, []),
  (38, .getfield 25, 3, 3, 3, 119, []),
  (41, .iload_n 2, 1, 0, 0, 0, []),
  (42, .iconst 0, 1, 0, 0, 0, []),
  (43, .bastore, 1, 0, 0, 0, []),
  (44, .iinc 2 1, 3, 0, 0, 0, []),
  (47, .goto (-40), 3, 7, 0, 0, []),
  (50, .iconst 0, 1, 0, 0, 0, []),
  (51, .istore_n 2, 1, 0, 0, 0, []),
  (52, .iload_n 2, 1, 0, 0, 0, []),
  (53, .bipush 6, 2, 0, 0, 0, []),
  (55, .if_icmp .ge 24, 3, 79, 0, 0, []),
  (58, .aload_n 0, 1, 0, 0, 0, []),
  (59, .getfield 29, 3, 3, 4, 121, []),
  (62, .iload_n 2, 1, 0, 0, 0, []),
  (63, .aload_n 0, 1, 0, 0, 0, []),
  (64, .getfield 12, 3, 3, 0, 113, []),
  (67, .getfield 46, 3, 1, 1, 28, []),
  (70, .iload_n 2, 1, 0, 0, 0, []),
  (71, .iaload, 1, 0, 0, 0, []),
  (72, .iastore, 1, 0, 0, 0, []),
  (73, .iinc 2 1, 3, 0, 0, 0, []),
  (76, .goto (-24), 3, 52, 0, 0, []),
  (79, .return_, 1, 0, 0, 0, [])]
def cd_Ev_pass : List (Nat × En) := [(0, .iconst 0, 1, 0, 0, 0, []),
  (1, .istore_n 2, 1, 0, 0, 0, []),
  (2, .iload_n 2, 1, 0, 0, 0, []),
  (3, .aload_n 0, 1, 0, 0, 0, []),
  (4, .getfield 12, 3, 3, 0, 113, []),
  (7, .getfield 47, 3, 1, 8, 52, []),
  (10, .if_icmp .ge 25, 3, 35, 0, 0, []),
  (13, .aload_n 0, 1, 0, 0, 0, []),
  (14, .getfield 32, 3, 3, 5, 123, []),
  (17, .iload_n 2, 1, 0, 0, 0, []),
  (18, .iaload, 1, 0, 0, 0, []),
  (19, .iload_n 1, 1, 0, 0, 0, []),
  (20, .if_icmp .ne 9, 3, 29, 0, 0, []),
  (23, .aload_n 0, 1, 0, 0, 0, []),
  (24, .iload_n 2, 1, 0, 0, 0, []),
  (25, .iload_n 1, 1, 0, 0, 0, []),
  (26, .invokevirtual 50, 3, 31, 2, 347, []),
  (29, .iinc 2 1, 3, 0, 0, 0, []),
  (32, .goto (-30), 3, 2, 0, 0, []),
  (35, .iload_n 1, 1, 0, 0, 0, []),
  (36, .bipush 60, 2, 0, 0, 0, []),
  (38, .if_icmp .ge 8, 3, 46, 0, 0, []),
  (41, .aload_n 0, 1, 0, 0, 0, []),
  (42, .iload_n 1, 1, 0, 0, 0, []),
  (43, .invokevirtual 54, 3, 33, 1, 379, []),
  (46, .return_, 1, 0, 0, 0, [])]
def cd_Ev_open : List (Nat × En) := [(0, .aload_n 0, 1, 0, 0, 0, []),
  (1, .getfield 12, 3, 3, 0, 113, []),
  (4, .iload_n 1, 1, 0, 0, 0, []),
  (5, .invokevirtual 57, 3, 11, 1, 351, []),
  (8, .ifCond .ne 4, 3, 12, 0, 0, []),
  (11, .return_, 1, 0, 0, 0, []),
  (12, .aload_n 0, 1, 0, 0, 0, []),
  (13, .getfield 12, 3, 3, 0, 113, []),
  (16, .iload_n 1, 1, 0, 0, 0, []),
  (17, .invokevirtual 61, 3, 20, 1, 352, []),
  (20, .istore_n 3, 1, 0, 0, 0, []),
  (21, .aload_n 0, 1, 0, 0, 0, []),
  (22, .getfield 12, 3, 3, 0, 113, []),
  (25, .aload_n 0, 1, 0, 0, 0, []),
  (26, .getfield 12, 3, 3, 0, 113, []),
  (29, .getfield 65, 3, 1, 5, 41, []),
  (32, .iload_n 1, 1, 0, 0, 0, []),
  (33, .iaload, 1, 0, 0, 0, []),
  (34, .invokevirtual 68, 3, 21, 1, 353, []),
  (37, .istore 4, 2, 0, 0, 0, []),
  (39, .aload_n 0, 1, 0, 0, 0, []),
  (40, .getfield 22, 3, 3, 2, 117, []),
  (43, .iload_n 1, 1, 0, 0, 0, []),
  (44, .iload_n 2, 1, 0, 0, 0, []),
  (45, .iastore, 1, 0, 0, 0, []),
  (46, .aload_n 0, 1, 0, 0, 0, []),
  (47, .getfield 25, 3, 3, 3, 119, []),
  (50, .iload_n 1, 1, 0, 0, 0, []),
  (51, .iload_n 3, 1, 0, 0, 0, []),
  (52, .iload 4, 2, 0, 0, 0, []),
  (54, .iconst (-1), 1, 0, 0, 0, []),
  (55, .ixor, 1, 0, 0, 0, []),
  (56, .iand, 1, 0, 0, 0, []),
  (57, .invokestatic 71, 3, 0, 1, 357, []),
  (60, .iload_n 3, 1, 0, 0, 0, []),
  (61, .iload 4, 2, 0, 0, 0, []),
  (63, .iand, 1, 0, 0, 0, []),
  (64, .invokestatic 71, 3, 0, 1, 357, []),
  (67, .if_icmp .le 7, 3, 74, 0, 0, []),
  (70, .iconst 1, 1, 0, 0, 0, []),
  (71, .goto 4, 3, 75, 0, 0, []),
  (74, .iconst 0, 1, 0, 0, 0, []),
  (75, .bastore, 1, 0, 0, 0, []),
  (76, .aload_n 0, 1, 0, 0, 0, []),
  (77, .getfield 25, 3, 3, 3, 119, []),
  (80, .iload_n 1, 1, 0, 0, 0, []),
  (81, .baload, 1, 0, 0, 0, []),
  (82, .ifCond .ne 58, 3, 140, 0, 0, []),
  (85, .aload_n 0, 1, 0, 0, 0, []),
  (86, .getfield 12, 3, 3, 0, 113, []),
  (89, .getfield 76, 3, 1, 2, 32, []),
  (92, .iload_n 1, 1, 0, 0, 0, []),
  (93, .iaload, 1, 0, 0, 0, []),
  (94, .istore 5, 2, 0, 0, 0, []),
  (96, .aload_n 0, 1, 0, 0, 0, []),
  (97, .getfield 12, 3, 3, 0, 113, []),
  (100, .getfield 79, 3, 1, 3, 35, []),
  (103, .iload_n 1, 1, 0, 0, 0, []),
  (104, .iaload, 1, 0, 0, 0, []),
  (105, .istore 6, 2, 0, 0, 0, []),
  (107, .aload_n 0, 1, 0, 0, 0, []),
  (108, .iload_n 3, 1, 0, 0, 0, []),
  (109, .iload 4, 2, 0, 0, 0, []),
  (111, .iand, 1, 0, 0, 0, []),
  (112, .iload 5, 2, 0, 0, 0, []),
  (114, .iload 6, 2, 0, 0, 0, []),
  (116, .invokestatic 82, 3, 5, 2, 363, []),
  (119, .invokevirtual 88, 3, 32, 2, 366, []),
  (122, .aload_n 0, 1, 0, 0, 0, []),
  (123, .iload_n 3, 1, 0, 0, 0, []),
  (124, .iload 4, 2, 0, 0, 0, []),
  (126, .iconst (-1), 1, 0, 0, 0, []),
  (127, .ixor, 1, 0, 0, 0, []),
  (128, .iand, 1, 0, 0, 0, []),
  (129, .iload 5, 2, 0, 0, 0, []),
  (131, .iload 6, 2, 0, 0, 0, []),
  (133, .invokestatic 91, 3, 6, 2, 376, []),
  (136, .ineg, 1, 0, 0, 0, []),
  (137, .invokevirtual 88, 3, 32, 2, 366, []),
  (140, .return_, 1, 0, 0, 0, [])]
def cd_Ev_changeMoods : List (Nat × En) := [(0, .iconst 0, 1, 0, 0, 0, []),
  (1, .istore_n 3, 1, 0, 0, 0, []),
  (2, .iload_n 3, 1, 0, 0, 0, []),
  (3, .aload_n 0, 1, 0, 0, 0, []),
  (4, .getfield 12, 3, 3, 0, 113, []),
  (7, .getfield 94, 3, 1, 7, 48, []),
  (10, .if_icmp .ge 41, 3, 51, 0, 0, []),
  (13, .iload_n 1, 1, 0, 0, 0, []),
  (14, .iload_n 3, 1, 0, 0, 0, []),
  (15, .ishr, 1, 0, 0, 0, []),
  (16, .iconst 1, 1, 0, 0, 0, []),
  (17, .iand, 1, 0, 0, 0, []),
  (18, .iconst 1, 1, 0, 0, 0, []),
  (19, .if_icmp .ne 26, 3, 45, 0, 0, []),
  (22, .aload_n 0, 1, 0, 0, 0, []),
  (23, .getfield 29, 3, 3, 4, 121, []),
  (26, .iload_n 3, 1, 0, 0, 0, []),
  (27, .iconst 0, 1, 0, 0, 0, []),
  (28, .bipush 40, 2, 0, 0, 0, []),
  (30, .aload_n 0, 1, 0, 0, 0, []),
  (31, .getfield 29, 3, 3, 4, 121, []),
  (34, .iload_n 3, 1, 0, 0, 0, []),
  (35, .iaload, 1, 0, 0, 0, []),
  (36, .iload_n 2, 1, 0, 0, 0, []),
  (37, .iadd, 1, 0, 0, 0, []),
  (38, .invokestatic 97, 3, 3, 2, 370, []),
  (41, .invokestatic 102, 3, 1, 2, 373, []),
  (44, .iastore, 1, 0, 0, 0, []),
  (45, .iinc 3 1, 3, 0, 0, 0, []),
  (48, .goto (-46), 3, 2, 0, 0, []),
  (51, .return_, 1, 0, 0, 0, [])]
def cd_Ev_takeWhatIsReady : List (Nat × En) := [(0, .aload_n 0, 1, 0, 0, 0, []),
  (1, .getfield 12, 3, 3, 0, 113, []),
  (4, .getfield 105, 3, 1, 9, 57, []),
  (7, .aload_n 0, 1, 0, 0, 0, []),
  (8, .iload_n 1, 1, 0, 0, 0, []),
  (9, .invokevirtual 108, 3, 35, 1, 383, []),
  (12, .isub, 1, 0, 0, 0, []),
  (13, .istore_n 2, 1, 0, 0, 0, []),
  (14, .iconst 0, 1, 0, 0, 0, []),
  (15, .istore_n 3, 1, 0, 0, 0, []),
  (16, .iload_n 3, 1, 0, 0, 0, []),
  (17, .iload_n 2, 1, 0, 0, 0, []),
  (18, .if_icmp .ge 54, 3, 72, 0, 0, []),
  (21, .aload_n 0, 1, 0, 0, 0, []),
  (22, .iload_n 1, 1, 0, 0, 0, []),
  (23, .invokevirtual 111, 3, 34, 1, 387, []),
  (26, .istore 4, 2, 0, 0, 0, []),
  (28, .aload_n 0, 1, 0, 0, 0, []),
  (29, .getfield 12, 3, 3, 0, 113, []),
  (32, .iload 4, 2, 0, 0, 0, []),
  (34, .invokevirtual 57, 3, 11, 1, 351, []),
  (37, .ifCond .eq 29, 3, 66, 0, 0, []),
  (40, .aload_n 0, 1, 0, 0, 0, []),
  (41, .getfield 18, 3, 3, 1, 115, []),
  (44, .iload 4, 2, 0, 0, 0, []),
  (46, .iload_n 1, 1, 0, 0, 0, []),
  (47, .iastore, 1, 0, 0, 0, []),
  (48, .aload_n 0, 1, 0, 0, 0, []),
  (49, .getfield 32, 3, 3, 5, 123, []),
  (52, .iload 4, 2, 0, 0, 0, []),
  (54, .iload_n 1, 1, 0, 0, 0, []),
  (55, .aload_n 0, 1, 0, 0, 0, []),
  (56, .getfield 12, 3, 3, 0, 113, []),
  (59, .iload 4, 2, 0, 0, 0, []),
  (61, .invokevirtual 114, 3, 18, 1, 391, []),
  (64, .iadd, 1, 0, 0, 0, []),
  (65, .iastore, 1, 0, 0, 0, []),
  (66, .iinc 3 1, 3, 0, 0, 0, []),
  (69, .goto (-53), 3, 16, 0, 0, []),
  (72, .return_, 1, 0, 0, 0, [])]
def cd_Ev_nextToTake : List (Nat × En) := [(0, .bipush (-9), 2, 0, 0, 0, []),
  (2, .istore_n 2, 1, 0, 0, 0, []),
  (3, .iload_n 1, 1, 0, 0, 0, []),
  (4, .iconst 1, 1, 0, 0, 0, []),
  (5, .iadd, 1, 0, 0, 0, []),
  (6, .istore_n 3, 1, 0, 0, 0, []),
  (7, .iconst 0, 1, 0, 0, 0, []),
  (8, .istore 4, 2, 0, 0, 0, []),
  (10, .iload 4, 2, 0, 0, 0, []),
  (12, .aload_n 0, 1, 0, 0, 0, []),
  (13, .getfield 12, 3, 3, 0, 113, []),
  (16, .getfield 47, 3, 1, 8, 52, []),
  (19, .if_icmp .ge 73, 3, 92, 0, 0, []),
  (22, .aload_n 0, 1, 0, 0, 0, []),
  (23, .getfield 18, 3, 3, 1, 115, []),
  (26, .iload 4, 2, 0, 0, 0, []),
  (28, .iaload, 1, 0, 0, 0, []),
  (29, .bipush (-9), 2, 0, 0, 0, []),
  (31, .if_icmp .ne 19, 3, 50, 0, 0, []),
  (34, .aload_n 0, 1, 0, 0, 0, []),
  (35, .getfield 35, 3, 3, 6, 124, []),
  (38, .iload 4, 2, 0, 0, 0, []),
  (40, .ishr, 1, 0, 0, 0, []),
  (41, .iconst 1, 1, 0, 0, 0, []),
  (42, .iand, 1, 0, 0, 0, []),
  (43, .ifCond .ne 7, 3, 50, 0, 0, []),
  (46, .iconst 1, 1, 0, 0, 0, []),
  (47, .goto 4, 3, 51, 0, 0, []),
  (50, .iconst 0, 1, 0, 0, 0, []),
  (51, .istore 5, 2, 0, 0, 0, []),
  (53, .iload 5, 2, 0, 0, 0, []),
  (55, .ifCond .eq 31, 3, 86, 0, 0, []),
  (58, .aload_n 0, 1, 0, 0, 0, []),
  (59, .getfield 12, 3, 3, 0, 113, []),
  (62, .getfield 117, 3, 1, 6, 46, []),
  (65, .iload 4, 2, 0, 0, 0, []),
  (67, .iaload, 1, 0, 0, 0, []),
  (68, .iload_n 3, 1, 0, 0, 0, []),
  (69, .if_icmp .ge 17, 3, 86, 0, 0, []),
  (72, .aload_n 0, 1, 0, 0, 0, []),
  (73, .getfield 12, 3, 3, 0, 113, []),
  (76, .getfield 117, 3, 1, 6, 46, []),
  (79, .iload 4, 2, 0, 0, 0, []),
  (81, .iaload, 1, 0, 0, 0, []),
  (82, .istore_n 3, 1, 0, 0, 0, []),
  (83, .iload 4, 2, 0, 0, 0, []),
  (85, .istore_n 2, 1, 0, 0, 0, []),
  (86, .iinc 4 1, 3, 0, 0, 0, []),
  (89, .goto (-79), 3, 10, 0, 0, []),
  (92, .iload_n 2, 1, 0, 0, 0, []),
  (93, .ireturn, 1, 0, 0, 0, [])]
def cd_Ev_busyAt : List (Nat × En) := [(0, .iconst 0, 1, 0, 0, 0, []),
  (1, .istore_n 2, 1, 0, 0, 0, []),
  (2, .iconst 0, 1, 0, 0, 0, []),
  (3, .istore_n 3, 1, 0, 0, 0, []),
  (4, .iload_n 3, 1, 0, 0, 0, []),
  (5, .aload_n 0, 1, 0, 0, 0, []),
  (6, .getfield 12, 3, 3, 0, 113, []),
  (9, .getfield 47, 3, 1, 8, 52, []),
  (12, .if_icmp .ge 43, 3, 55, 0, 0, []),
  (15, .aload_n 0, 1, 0, 0, 0, []),
  (16, .getfield 18, 3, 3, 1, 115, []),
  (19, .iload_n 3, 1, 0, 0, 0, []),
  (20, .iaload, 1, 0, 0, 0, []),
  (21, .bipush (-9), 2, 0, 0, 0, []),
  (23, .if_icmp .eq 26, 3, 49, 0, 0, []),
  (26, .aload_n 0, 1, 0, 0, 0, []),
  (27, .getfield 18, 3, 3, 1, 115, []),
  (30, .iload_n 3, 1, 0, 0, 0, []),
  (31, .iaload, 1, 0, 0, 0, []),
  (32, .iload_n 1, 1, 0, 0, 0, []),
  (33, .if_icmp .gt 16, 3, 49, 0, 0, []),
  (36, .iload_n 1, 1, 0, 0, 0, []),
  (37, .aload_n 0, 1, 0, 0, 0, []),
  (38, .getfield 32, 3, 3, 5, 123, []),
  (41, .iload_n 3, 1, 0, 0, 0, []),
  (42, .iaload, 1, 0, 0, 0, []),
  (43, .if_icmp .ge 6, 3, 49, 0, 0, []),
  (46, .iinc 2 1, 3, 0, 0, 0, []),
  (49, .iinc 3 1, 3, 0, 0, 0, []),
  (52, .goto (-48), 3, 4, 0, 0, []),
  (55, .iload_n 2, 1, 0, 0, 0, []),
  (56, .ireturn, 1, 0, 0, 0, [])]
def cd_Ev_minutesWithBusy : List (Nat × En) := [(0, .iconst 0, 1, 0, 0, 0, []),
  (1, .istore_n 2, 1, 0, 0, 0, []),
  (2, .iconst 0, 1, 0, 0, 0, []),
  (3, .istore_n 3, 1, 0, 0, 0, []),
  (4, .iload_n 3, 1, 0, 0, 0, []),
  (5, .bipush 60, 2, 0, 0, 0, []),
  (7, .if_icmp .ge 26, 3, 33, 0, 0, []),
  (10, .iload_n 2, 1, 0, 0, 0, []),
  (11, .aload_n 0, 1, 0, 0, 0, []),
  (12, .iload_n 3, 1, 0, 0, 0, []),
  (13, .invokevirtual 108, 3, 35, 1, 383, []),
  (16, .iload_n 1, 1, 0, 0, 0, []),
  (17, .if_icmp .lt 7, 3, 24, 0, 0, []),
  (20, .iconst 1, 1, 0, 0, 0, []),
  (21, .goto 4, 3, 25, 0, 0, []),
  (24, .iconst 0, 1, 0, 0, 0, []),
  (25, .iadd, 1, 0, 0, 0, []),
  (26, .istore_n 2, 1, 0, 0, 0, []),
  (27, .iinc 3 1, 3, 0, 0, 0, []),
  (30, .goto (-26), 3, 4, 0, 0, []),
  (33, .iload_n 2, 1, 0, 0, 0, []),
  (34, .ireturn, 1, 0, 0, 0, [])]
def cd_Ev_moodsTogether : List (Nat × En) := [(0, .iconst 0, 1, 0, 0, 0, []),
  (1, .istore_n 1, 1, 0, 0, 0, []),
  (2, .iconst 0, 1, 0, 0, 0, []),
  (3, .istore_n 2, 1, 0, 0, 0, []),
  (4, .iload_n 2, 1, 0, 0, 0, []),
  (5, .aload_n 0, 1, 0, 0, 0, []),
  (6, .getfield 12, 3, 3, 0, 113, []),
  (9, .getfield 94, 3, 1, 7, 48, []),
  (12, .if_icmp .ge 18, 3, 30, 0, 0, []),
  (15, .iload_n 1, 1, 0, 0, 0, []),
  (16, .aload_n 0, 1, 0, 0, 0, []),
  (17, .getfield 29, 3, 3, 4, 121, []),
  (20, .iload_n 2, 1, 0, 0, 0, []),
  (21, .iaload, 1, 0, 0, 0, []),
  (22, .iadd, 1, 0, 0, 0, []),
  (23, .istore_n 1, 1, 0, 0, 0, []),
  (24, .iinc 2 1, 3, 0, 0, 0, []),
  (27, .goto (-23), 3, 4, 0, 0, []),
  (30, .iload_n 1, 1, 0, 0, 0, []),
  (31, .ireturn, 1, 0, 0, 0, [])]
def cd_Ev_billOf : List (Nat × En) := [(0, .iconst 0, 1, 0, 0, 0, []),
  (1, .istore_n 2, 1, 0, 0, 0, []),
  (2, .iconst 0, 1, 0, 0, 0, []),
  (3, .istore_n 3, 1, 0, 0, 0, []),
  (4, .iload_n 3, 1, 0, 0, 0, []),
  (5, .aload_n 0, 1, 0, 0, 0, []),
  (6, .getfield 12, 3, 3, 0, 113, []),
  (9, .getfield 47, 3, 1, 8, 52, []),
  (12, .if_icmp .ge 48, 3, 60, 0, 0, []),
  (15, .iload_n 2, 1, 0, 0, 0, []),
  (16, .aload_n 0, 1, 0, 0, 0, []),
  (17, .getfield 22, 3, 3, 2, 117, []),
  (20, .iload_n 3, 1, 0, 0, 0, []),
  (21, .iaload, 1, 0, 0, 0, []),
  (22, .bipush (-9), 2, 0, 0, 0, []),
  (24, .if_icmp .eq 27, 3, 51, 0, 0, []),
  (27, .aload_n 0, 1, 0, 0, 0, []),
  (28, .getfield 12, 3, 3, 0, 113, []),
  (31, .getfield 120, 3, 1, 4, 39, []),
  (34, .iload_n 3, 1, 0, 0, 0, []),
  (35, .iaload, 1, 0, 0, 0, []),
  (36, .iload_n 1, 1, 0, 0, 0, []),
  (37, .if_icmp .ne 14, 3, 51, 0, 0, []),
  (40, .aload_n 0, 1, 0, 0, 0, []),
  (41, .getfield 12, 3, 3, 0, 113, []),
  (44, .iload_n 3, 1, 0, 0, 0, []),
  (45, .invokevirtual 123, 3, 19, 1, 404, []),
  (48, .goto 4, 3, 52, 0, 0, []),
  (51, .iconst 0, 1, 0, 0, 0, []),
  (52, .iadd, 1, 0, 0, 0, []),
  (53, .istore_n 2, 1, 0, 0, 0, []),
  (54, .iinc 3 1, 3, 0, 0, 0, []),
  (57, .goto (-53), 3, 4, 0, 0, []),
  (60, .iload_n 2, 1, 0, 0, 0, []),
  (61, .ireturn, 1, 0, 0, 0, [])]
def cd_Ev_wholeBill : List (Nat × En) := [(0, .iconst 0, 1, 0, 0, 0, []),
  (1, .istore_n 1, 1, 0, 0, 0, []),
  (2, .iconst 0, 1, 0, 0, 0, []),
  (3, .istore_n 2, 1, 0, 0, 0, []),
  (4, .iload_n 2, 1, 0, 0, 0, []),
  (5, .aload_n 0, 1, 0, 0, 0, []),
  (6, .getfield 12, 3, 3, 0, 113, []),
  (9, .getfield 94, 3, 1, 7, 48, []),
  (12, .if_icmp .ge 17, 3, 29, 0, 0, []),
  (15, .iload_n 1, 1, 0, 0, 0, []),
  (16, .aload_n 0, 1, 0, 0, 0, []),
  (17, .iload_n 2, 1, 0, 0, 0, []),
  (18, .invokevirtual 126, 3, 38, 1, 400, []),
  (21, .iadd, 1, 0, 0, 0, []),
  (22, .istore_n 1, 1, 0, 0, 0, []),
  (23, .iinc 2 1, 3, 0, 0, 0, []),
  (26, .goto (-22), 3, 4, 0, 0, []),
  (29, .iload_n 1, 1, 0, 0, 0, []),
  (30, .ireturn, 1, 0, 0, 0, [])]
def cd_Ev_openedBy : List (Nat × En) := [(0, .iconst 0, 1, 0, 0, 0, []),
  (1, .istore_n 2, 1, 0, 0, 0, []),
  (2, .iconst 0, 1, 0, 0, 0, []),
  (3, .istore_n 3, 1, 0, 0, 0, []),
  (4, .iload_n 3, 1, 0, 0, 0, []),
  (5, .aload_n 0, 1, 0, 0, 0, []),
  (6, .getfield 12, 3, 3, 0, 113, []),
  (9, .getfield 47, 3, 1, 8, 52, []),
  (12, .if_icmp .ge 38, 3, 50, 0, 0, []),
  (15, .iload_n 2, 1, 0, 0, 0, []),
  (16, .aload_n 0, 1, 0, 0, 0, []),
  (17, .getfield 22, 3, 3, 2, 117, []),
  (20, .iload_n 3, 1, 0, 0, 0, []),
  (21, .iaload, 1, 0, 0, 0, []),
  (22, .bipush (-9), 2, 0, 0, 0, []),
  (24, .if_icmp .eq 17, 3, 41, 0, 0, []),
  (27, .aload_n 0, 1, 0, 0, 0, []),
  (28, .getfield 22, 3, 3, 2, 117, []),
  (31, .iload_n 3, 1, 0, 0, 0, []),
  (32, .iaload, 1, 0, 0, 0, []),
  (33, .iload_n 1, 1, 0, 0, 0, []),
  (34, .if_icmp .gt 7, 3, 41, 0, 0, []),
  (37, .iconst 1, 1, 0, 0, 0, []),
  (38, .goto 4, 3, 42, 0, 0, []),
  (41, .iconst 0, 1, 0, 0, 0, []),
  (42, .iadd, 1, 0, 0, 0, []),
  (43, .istore_n 2, 1, 0, 0, 0, []),
  (44, .iinc 3 1, 3, 0, 0, 0, []),
  (47, .goto (-43), 3, 4, 0, 0, []),
  (50, .iload_n 2, 1, 0, 0, 0, []),
  (51, .ireturn, 1, 0, 0, 0, [])]
def cd_Ev_howManySentBack : List (Nat × En) := [(0, .iconst 0, 1, 0, 0, 0, []),
  (1, .istore_n 1, 1, 0, 0, 0, []),
  (2, .iconst 0, 1, 0, 0, 0, []),
  (3, .istore_n 2, 1, 0, 0, 0, []),
  (4, .iload_n 2, 1, 0, 0, 0, []),
  (5, .aload_n 0, 1, 0, 0, 0, []),
  (6, .getfield 12, 3, 3, 0, 113, []),
  (9, .getfield 47, 3, 1, 8, 52, []),
  (12, .if_icmp .ge 26, 3, 38, 0, 0, []),
  (15, .iload_n 1, 1, 0, 0, 0, []),
  (16, .aload_n 0, 1, 0, 0, 0, []),
  (17, .getfield 25, 3, 3, 3, 119, []),
  (20, .iload_n 2, 1, 0, 0, 0, []),
  (21, .baload, 1, 0, 0, 0, []),
  (22, .ifCond .eq 7, 3, 29, 0, 0, []),
  (25, .iconst 1, 1, 0, 0, 0, []),
  (26, .goto 4, 3, 30, 0, 0, []),
  (29, .iconst 0, 1, 0, 0, 0, []),
  (30, .iadd, 1, 0, 0, 0, []),
  (31, .istore_n 1, 1, 0, 0, 0, []),
  (32, .iinc 2 1, 3, 0, 0, 0, []),
  (35, .goto (-31), 3, 4, 0, 0, []),
  (38, .iload_n 1, 1, 0, 0, 0, []),
  (39, .ireturn, 1, 0, 0, 0, [])]
def cd_Ev_lastOpening : List (Nat × En) := [(0, .bipush (-9), 2, 0, 0, 0, []),
  (2, .istore_n 1, 1, 0, 0, 0, []),
  (3, .iconst 0, 1, 0, 0, 0, []),
  (4, .istore_n 2, 1, 0, 0, 0, []),
  (5, .iload_n 2, 1, 0, 0, 0, []),
  (6, .aload_n 0, 1, 0, 0, 0, []),
  (7, .getfield 12, 3, 3, 0, 113, []),
  (10, .getfield 47, 3, 1, 8, 52, []),
  (13, .if_icmp .ge 20, 3, 33, 0, 0, []),
  (16, .iload_n 1, 1, 0, 0, 0, []),
  (17, .aload_n 0, 1, 0, 0, 0, []),
  (18, .getfield 22, 3, 3, 2, 117, []),
  (21, .iload_n 2, 1, 0, 0, 0, []),
  (22, .iaload, 1, 0, 0, 0, []),
  (23, .invokestatic 102, 3, 1, 2, 373, []),
  (26, .istore_n 1, 1, 0, 0, 0, []),
  (27, .iinc 2 1, 3, 0, 0, 0, []),
  (30, .goto (-25), 3, 5, 0, 0, []),
  (33, .iload_n 1, 1, 0, 0, 0, []),
  (34, .ireturn, 1, 0, 0, 0, [])]
def cd_Ev_isSilent : List (Nat × En) := [(0, .iconst 0, 1, 0, 0, 0, []),
  (1, .istore_n 2, 1, 0, 0, 0, []),
  (2, .iload_n 2, 1, 0, 0, 0, []),
  (3, .aload_n 0, 1, 0, 0, 0, []),
  (4, .getfield 12, 3, 3, 0, 113, []),
  (7, .getfield 47, 3, 1, 8, 52, []),
  (10, .if_icmp .ge 21, 3, 31, 0, 0, []),
  (13, .aload_n 0, 1, 0, 0, 0, []),
  (14, .getfield 22, 3, 3, 2, 117, []),
  (17, .iload_n 2, 1, 0, 0, 0, []),
  (18, .iaload, 1, 0, 0, 0, []),
  (19, .iload_n 1, 1, 0, 0, 0, []),
  (20, .if_icmp .ne 5, 3, 25, 0, 0, []),
  (23, .iconst 0, 1, 0, 0, 0, []),
  (24, .ireturn, 1, 1, 0, 0, []),
  (25, .iinc 2 1, 3, 0, 0, 0, []),
  (28, .goto (-26), 3, 2, 0, 0, []),
  (31, .iconst 1, 1, 0, 0, 0, []),
  (32, .ireturn, 1, 1, 0, 0, [])]
def cd_Ev_longestSilence : List (Nat × En) := [(0, .iconst 0, 1, 0, 0, 0, []),
  (1, .istore_n 1, 1, 0, 0, 0, []),
  (2, .iconst 0, 1, 0, 0, 0, []),
  (3, .istore_n 2, 1, 0, 0, 0, []),
  (4, .iconst 0, 1, 0, 0, 0, []),
  (5, .istore_n 3, 1, 0, 0, 0, []),
  (6, .iload_n 3, 1, 0, 0, 0, []),
  (7, .bipush 60, 2, 0, 0, 0, []),
  (9, .if_icmp .gt 31, 3, 40, 0, 0, []),
  (12, .aload_n 0, 1, 0, 0, 0, []),
  (13, .iload_n 3, 1, 0, 0, 0, []),
  (14, .invokevirtual 129, 3, 43, 1, 539, []),
  (17, .ifCond .eq 9, 3, 26, 0, 0, []),
  (20, .iload_n 2, 1, 0, 0, 0, []),
  (21, .iconst 1, 1, 0, 0, 0, []),
  (22, .iadd, 1, 0, 0, 0, []),
  (23, .goto 4, 3, 27, 0, 0, []),
  (26, .iconst 0, 1, 0, 0, 0, []),
  (27, .istore_n 2, 1, 0, 0, 0, []),
  (28, .iload_n 1, 1, 0, 0, 0, []),
  (29, .iload_n 2, 1, 0, 0, 0, []),
  (30, .invokestatic 102, 3, 1, 2, 373, []),
  (33, .istore_n 1, 1, 0, 0, 0, []),
  (34, .iinc 3 1, 3, 0, 0, 0, []),
  (37, .goto (-31), 3, 6, 0, 0, []),
  (40, .iload_n 1, 1, 0, 0, 0, []),
  (41, .ireturn, 1, 0, 0, 0, [])]
def cd_Ev_startOfSilence : List (Nat × En) := [(0, .iconst 0, 1, 0, 0, 0, []),
  (1, .istore_n 2, 1, 0, 0, 0, []),
  (2, .iconst 0, 1, 0, 0, 0, []),
  (3, .istore_n 3, 1, 0, 0, 0, []),
  (4, .iload_n 3, 1, 0, 0, 0, []),
  (5, .bipush 60, 2, 0, 0, 0, []),
  (7, .if_icmp .gt 40, 3, 47, 0, 0, []),
  (10, .iload_n 1, 1, 0, 0, 0, []),
  (11, .ifCond .le 36, 3, 47, 0, 0, []),
  (14, .aload_n 0, 1, 0, 0, 0, []),
  (15, .iload_n 3, 1, 0, 0, 0, []),
  (16, .invokevirtual 129, 3, 43, 1, 539, []),
  (19, .ifCond .eq 9, 3, 28, 0, 0, []),
  (22, .iload_n 2, 1, 0, 0, 0, []),
  (23, .iconst 1, 1, 0, 0, 0, []),
  (24, .iadd, 1, 0, 0, 0, []),
  (25, .goto 4, 3, 29, 0, 0, []),
  (28, .iconst 0, 1, 0, 0, 0, []),
  (29, .istore_n 2, 1, 0, 0, 0, []),
  (30, .iload_n 2, 1, 0, 0, 0, []),
  (31, .iload_n 1, 1, 0, 0, 0, []),
  (32, .if_icmp .ne 9, 3, 41, 0, 0, []),
  (35, .iload_n 3, 1, 0, 0, 0, []),
  (36, .iload_n 2, 1, 0, 0, 0, []),
  (37, .isub, 1, 0, 0, 0, []),
  (38, .iconst 1, 1, 0, 0, 0, []),
  (39, .iadd, 1, 0, 0, 0, []),
  (40, .ireturn, 1, 0, 0, 0, []),
  (41, .iinc 3 1, 3, 0, 0, 0, []),
  (44, .goto (-40), 3, 4, 0, 0, []),
  (47, .bipush (-9), 2, 0, 0, 0, []),
  (49, .ireturn, 1, 0, 0, 0, [])]
def cd_Lt_add : List (Nat × En) := [(0, .aload_n 0, 1, 0, 0, 0, []),
  (1, .getfield 15, 3, 2, 1, 92, []),
  (4, .ifCond .lt 35, 3, 39, 0, 0, []),
  (7, .aload_n 0, 1, 0, 0, 0, []),
  (8, .getfield 15, 3, 2, 1, 92, []),
  (11, .aload_n 0, 1, 0, 0, 0, []),
  (12, .getfield 9, 3, 2, 0, 91, []),
  (15, .arraylength, 1, 0, 0, 0, []),
  (16, .if_icmp .ge 23, 3, 39, 0, 0, []),
  (19, .aload_n 0, 1, 0, 0, 0, []),
  (20, .getfield 9, 3, 2, 0, 91, []),
  (23, .aload_n 0, 1, 0, 0, 0, []),
  (24, .getfield 15, 3, 2, 1, 92, []),
  (27, .iload_n 1, 1, 0, 0, 0, []),
  (28, .iastore, 1, 0, 0, 0, []),
  (29, .aload_n 0, 1, 0, 0, 0, []),
  (30, .dup, 1, 0, 0, 0, []),
  (31, .getfield 15, 3, 2, 1, 92, []),
  (34, .iconst 1, 1, 0, 0, 0, []),
  (35, .iadd, 1, 0, 0, 0, []),
  (36, .putfield 15, 3, 2, 1, 92, []),
  (39, .return_, 1, 0, 0, 0, [])]
def cd_Lt_at : List (Nat × En) := [(0, .iload_n 1, 1, 0, 0, 0, []),
  (1, .ifCond .lt 20, 3, 21, 0, 0, []),
  (4, .iload_n 1, 1, 0, 0, 0, []),
  (5, .aload_n 0, 1, 0, 0, 0, []),
  (6, .getfield 15, 3, 2, 1, 92, []),
  (9, .if_icmp .ge 12, 3, 21, 0, 0, []),
  (12, .aload_n 0, 1, 0, 0, 0, []),
  (13, .getfield 9, 3, 2, 0, 91, []),
  (16, .iload_n 1, 1, 0, 0, 0, []),
  (17, .iaload, 1, 0, 0, 0, []),
  (18, .goto 4, 3, 22, 0, 0, []),
  (21, .iconst (-1), 1, 0, 0, 0, []),
  (22, .ireturn, 1, 0, 0, 0, [])]
def cd_Lt_sizeOf : List (Nat × En) := [(0, .iload_n 0, 1, 0, 0, 0, []),
  (1, .lookupswitch 71 #[(99, 65), (103, 59), (109, 69), (114, 62), (119, 65), (120, 67)], 59, 72, 0, 0, [(99, 66), (103, 60), (109, 70), (114, 63), (119, 66), (120, 68)]),
  (60, .bipush 7, 2, 0, 0, 0, []),
  (62, .ireturn, 1, 0, 0, 0, []),
  (63, .bipush 8, 2, 0, 0, 0, []),
  (65, .ireturn, 1, 0, 0, 0, []),
  (66, .iconst 3, 1, 0, 0, 0, []),
  (67, .ireturn, 1, 0, 0, 0, []),
  (68, .iconst 4, 1, 0, 0, 0, []),
  (69, .ireturn, 1, 0, 0, 0, []),
  (70, .iconst 5, 1, 0, 0, 0, []),
  (71, .ireturn, 1, 0, 0, 0, []),
  (72, .iconst 0, 1, 0, 0, 0, []),
  (73, .ireturn, 1, 0, 0, 0, [])]
def cd_Lt_kindOf : List (Nat × En) := [(0, .iload_n 0, 1, 0, 0, 0, []),
  (1, .lookupswitch 71 #[(99, 67), (100, 63), (104, 69), (112, 65), (114, 59), (119, 61)], 59, 72, 0, 0, [(99, 68), (100, 64), (104, 70), (112, 66), (114, 60), (119, 62)]),
  (60, .iconst 0, 1, 0, 0, 0, []),
  (61, .ireturn, 1, 0, 0, 0, []),
  (62, .iconst 1, 1, 0, 0, 0, []),
  (63, .ireturn, 1, 0, 0, 0, []),
  (64, .iconst 2, 1, 0, 0, 0, []),
  (65, .ireturn, 1, 0, 0, 0, []),
  (66, .iconst 3, 1, 0, 0, 0, []),
  (67, .ireturn, 1, 0, 0, 0, []),
  (68, .iconst 4, 1, 0, 0, 0, []),
  (69, .ireturn, 1, 0, 0, 0, []),
  (70, .iconst 5, 1, 0, 0, 0, []),
  (71, .ireturn, 1, 0, 0, 0, []),
  (72, .iconst (-1), 1, 0, 0, 0, []),
  (73, .ireturn, 1, 0, 0, 0, [])]
def cd_Lt_firstStray : List (Nat × En) := [(0, .aload_n 0, 1, 0, 0, 0, []),
  (1, .getfield 15, 3, 2, 1, 92, []),
  (4, .ifCond .ne 5, 3, 9, 0, 0, []),
  (7, .iconst 0, 1, 0, 0, 0, []),
  (8, .ireturn, 1, 0, 0, 0, []),
  (9, .iconst 0, 1, 0, 0, 0, []),
  (10, .istore_n 1, 1, 0, 0, 0, []),
  (11, .iconst 0, 1, 0, 0, 0, []),
  (12, .istore_n 2, 1, 0, 0, 0, []),
  (13, .iload_n 2, 1, 0, 0, 0, []),
  (14, .bipush 96, 2, 0, 0, 0, []),
  (16, .if_icmp .ge 40, 3, 56, 0, 0, []),
  (19, .iload_n 1, 1, 0, 0, 0, []),
  (20, .aload_n 0, 1, 0, 0, 0, []),
  (21, .getfield 15, 3, 2, 1, 92, []),
  (24, .if_icmp .ge 32, 3, 56, 0, 0, []),
  (27, .aload_n 0, 1, 0, 0, 0, []),
  (28, .iload_n 1, 1, 0, 0, 0, []),
  (29, .invokevirtual 19, 3, 51, 1, 215, []),
  (32, .istore_n 3, 1, 0, 0, 0, []),
  (33, .iload_n 3, 1, 0, 0, 0, []),
  (34, .ifCond .lt 5, 3, 39, 0, 0, []),
  (37, .iload_n 3, 1, 0, 0, 0, []),
  (38, .ireturn, 1, 0, 0, 0, []),
  (39, .iload_n 1, 1, 0, 0, 0, []),
  (40, .aload_n 0, 1, 0, 0, 0, []),
  (41, .iload_n 1, 1, 0, 0, 0, []),
  (42, .invokevirtual 23, 3, 47, 1, 219, []),
  (45, .invokestatic 26, 3, 48, 1, 223, []),
  (48, .iadd, 1, 0, 0, 0, []),
  (49, .istore_n 1, 1, 0, 0, 0, []),
  (50, .iinc 2 1, 3, 0, 0, 0, []),
  (53, .goto (-40), 3, 13, 0, 0, []),
  (56, .iconst (-1), 1, 0, 0, 0, []),
  (57, .ireturn, 1, 0, 0, 0, [])]
def cd_Lt_strayFrom : List (Nat × En) := [(0, .aload_n 0, 1, 0, 0, 0, []),
  (1, .iload_n 1, 1, 0, 0, 0, []),
  (2, .invokevirtual 23, 3, 47, 1, 219, []),
  (5, .istore_n 2, 1, 0, 0, 0, []),
  (6, .iload_n 2, 1, 0, 0, 0, []),
  (7, .invokestatic 26, 3, 48, 1, 223, []),
  (10, .istore_n 3, 1, 0, 0, 0, []),
  (11, .iload_n 3, 1, 0, 0, 0, []),
  (12, .ifCond .ne 5, 3, 17, 0, 0, []),
  (15, .iload_n 1, 1, 0, 0, 0, []),
  (16, .ireturn, 1, 0, 0, 0, []),
  (17, .iconst 1, 1, 0, 0, 0, []),
  (18, .istore 4, 2, 0, 0, 0, []),
  (20, .iload 4, 2, 0, 0, 0, []),
  (22, .iload_n 3, 1, 0, 0, 0, []),
  (23, .if_icmp .ge 31, 3, 54, 0, 0, []),
  (26, .iload_n 2, 1, 0, 0, 0, []),
  (27, .iload 4, 2, 0, 0, 0, []),
  (29, .aload_n 0, 1, 0, 0, 0, []),
  (30, .iload_n 1, 1, 0, 0, 0, []),
  (31, .iload 4, 2, 0, 0, 0, []),
  (33, .iadd, 1, 0, 0, 0, []),
  (34, .invokevirtual 23, 3, 47, 1, 219, []),
  (37, .invokestatic 29, 3, 52, 3, 226, []),
  (40, .ifCond .ne 8, 3, 48, 0, 0, []),
  (43, .iload_n 1, 1, 0, 0, 0, []),
  (44, .iload 4, 2, 0, 0, 0, []),
  (46, .iadd, 1, 0, 0, 0, []),
  (47, .ireturn, 1, 0, 0, 0, []),
  (48, .iinc 4 1, 3, 0, 0, 0, []),
  (51, .goto (-31), 3, 20, 0, 0, []),
  (54, .iconst (-1), 1, 0, 0, 0, []),
  (55, .ireturn, 1, 0, 0, 0, [])]
def cd_Lt_fits : List (Nat × En) := [(0, .iload_n 1, 1, 0, 0, 0, []),
  (1, .iload_n 0, 1, 0, 0, 0, []),
  (2, .invokestatic 26, 3, 48, 1, 223, []),
  (5, .iconst 1, 1, 0, 0, 0, []),
  (6, .isub, 1, 0, 0, 0, []),
  (7, .if_icmp .ne 15, 3, 22, 0, 0, []),
  (10, .iload_n 2, 1, 0, 0, 0, []),
  (11, .bipush 59, 2, 0, 0, 0, []),
  (13, .if_icmp .ne 7, 3, 20, 0, 0, []),
  (16, .iconst 1, 1, 0, 0, 0, []),
  (17, .goto 4, 3, 21, 0, 0, []),
  (20, .iconst 0, 1, 0, 0, 0, []),
  (21, .ireturn, 1, 1, 0, 0, []),
  (22, .iload_n 0, 1, 0, 0, 0, []),
  (23, .bipush 114, 2, 0, 0, 0, []),
  (25, .if_icmp .ne 21, 3, 46, 0, 0, []),
  (28, .iload_n 1, 1, 0, 0, 0, []),
  (29, .iconst 1, 1, 0, 0, 0, []),
  (30, .if_icmp .ne 16, 3, 46, 0, 0, []),
  (33, .iload_n 2, 1, 0, 0, 0, []),
  (34, .invokestatic 33, 3, 49, 1, 229, []),
  (37, .ifCond .lt 7, 3, 44, 0, 0, []),
  (40, .iconst 1, 1, 0, 0, 0, []),
  (41, .goto 4, 3, 45, 0, 0, []),
  (44, .iconst 0, 1, 0, 0, 0, []),
  (45, .ireturn, 1, 1, 0, 0, []),
  (46, .iload_n 2, 1, 0, 0, 0, []),
  (47, .bipush 48, 2, 0, 0, 0, []),
  (49, .if_icmp .lt 13, 3, 62, 0, 0, []),
  (52, .iload_n 2, 1, 0, 0, 0, []),
  (53, .bipush 57, 2, 0, 0, 0, []),
  (55, .if_icmp .gt 7, 3, 62, 0, 0, []),
  (58, .iconst 1, 1, 0, 0, 0, []),
  (59, .goto 4, 3, 63, 0, 0, []),
  (62, .iconst 0, 1, 0, 0, 0, []),
  (63, .ireturn, 1, 1, 0, 0, [])]
def cd_Lt_tell : List (Nat × En) := [(0, .aload_n 0, 1, 0, 0, 0, []),
  (1, .iload_n 2, 1, 0, 0, 0, []),
  (2, .invokevirtual 23, 3, 47, 1, 219, []),
  (5, .lookupswitch 195 #[(99, 140), (103, 59), (109, 174), (114, 80), (119, 127), (120, 153)], 59, 200, 0, 0, [(99, 145), (103, 64), (109, 179), (114, 85), (119, 132), (120, 158)]),
  (64, .aload_n 1, 1, 0, 0, 0, []),
  (65, .aload_n 0, 1, 0, 0, 0, []),
  (66, .iload_n 2, 1, 0, 0, 0, []),
  (67, .iconst 1, 1, 0, 0, 0, []),
  (68, .iadd, 1, 0, 0, 0, []),
  (69, .iconst 3, 1, 0, 0, 0, []),
  (70, .invokevirtual 36, 3, 54, 2, 240, []),
  (73, .aload_n 0, 1, 0, 0, 0, []),
  (74, .iload_n 2, 1, 0, 0, 0, []),
  (75, .iconst 4, 1, 0, 0, 0, []),
  (76, .iadd, 1, 0, 0, 0, []),
  (77, .iconst 2, 1, 0, 0, 0, []),
  (78, .invokevirtual 36, 3, 54, 2, 240, []),
  (81, .invokevirtual 40, 3, 12, 2, 244, []),
  (84, .ireturn, 1, 1, 0, 0, []),
  (85, .aload_n 1, 1, 0, 0, 0, []),
  (86, .aload_n 0, 1, 0, 0, 0, []),
  (87, .iload_n 2, 1, 0, 0, 0, []),
  (88, .iconst 1, 1, 0, 0, 0, []),
  (89, .iadd, 1, 0, 0, 0, []),
  (90, .invokevirtual 23, 3, 47, 1, 219, []),
  (93, .invokestatic 33, 3, 49, 1, 229, []),
  (96, .aload_n 0, 1, 0, 0, 0, []),
  (97, .iload_n 2, 1, 0, 0, 0, []),
  (98, .iconst 2, 1, 0, 0, 0, []),
  (99, .iadd, 1, 0, 0, 0, []),
  (100, .iconst 1, 1, 0, 0, 0, []),
  (101, .invokevirtual 36, 3, 54, 2, 240, []),
  (104, .aload_n 0, 1, 0, 0, 0, []),
  (105, .iload_n 2, 1, 0, 0, 0, []),
  (106, .iconst 3, 1, 0, 0, 0, []),
  (107, .iadd, 1, 0, 0, 0, []),
  (108, .iconst 1, 1, 0, 0, 0, []),
  (109, .invokevirtual 36, 3, 54, 2, 240, []),
  (112, .aload_n 0, 1, 0, 0, 0, []),
  (113, .iload_n 2, 1, 0, 0, 0, []),
  (114, .iconst 4, 1, 0, 0, 0, []),
  (115, .iadd, 1, 0, 0, 0, []),
  (116, .iconst 1, 1, 0, 0, 0, []),
  (117, .invokevirtual 36, 3, 54, 2, 240, []),
  (120, .aload_n 0, 1, 0, 0, 0, []),
  (121, .iload_n 2, 1, 0, 0, 0, []),
  (122, .iconst 5, 1, 0, 0, 0, []),
  (123, .iadd, 1, 0, 0, 0, []),
  (124, .iconst 2, 1, 0, 0, 0, []),
  (125, .invokevirtual 36, 3, 54, 2, 240, []),
  (128, .invokevirtual 46, 3, 13, 5, 248, []),
  (131, .ireturn, 1, 1, 0, 0, []),
  (132, .aload_n 1, 1, 0, 0, 0, []),
  (133, .aload_n 0, 1, 0, 0, 0, []),
  (134, .iload_n 2, 1, 0, 0, 0, []),
  (135, .iconst 1, 1, 0, 0, 0, []),
  (136, .iadd, 1, 0, 0, 0, []),
  (137, .iconst 1, 1, 0, 0, 0, []),
  (138, .invokevirtual 36, 3, 54, 2, 240, []),
  (141, .invokevirtual 50, 3, 14, 1, 256, []),
  (144, .ireturn, 1, 1, 0, 0, []),
  (145, .aload_n 1, 1, 0, 0, 0, []),
  (146, .aload_n 0, 1, 0, 0, 0, []),
  (147, .iload_n 2, 1, 0, 0, 0, []),
  (148, .iconst 1, 1, 0, 0, 0, []),
  (149, .iadd, 1, 0, 0, 0, []),
  (150, .iconst 1, 1, 0, 0, 0, []),
  (151, .invokevirtual 36, 3, 54, 2, 240, []),
  (154, .invokevirtual 54, 3, 15, 1, 260, []),
  (157, .ireturn, 1, 1, 0, 0, []),
  (158, .aload_n 1, 1, 0, 0, 0, []),
  (159, .aload_n 0, 1, 0, 0, 0, []),
  (160, .iload_n 2, 1, 0, 0, 0, []),
  (161, .iconst 1, 1, 0, 0, 0, []),
  (162, .iadd, 1, 0, 0, 0, []),
  (163, .iconst 1, 1, 0, 0, 0, []),
  (164, .invokevirtual 36, 3, 54, 2, 240, []),
  (167, .aload_n 0, 1, 0, 0, 0, []),
  (168, .iload_n 2, 1, 0, 0, 0, []),
  (169, .iconst 2, 1, 0, 0, 0, []),
  (170, .iadd, 1, 0, 0, 0, []),
  (171, .iconst 1, 1, 0, 0, 0, []),
  (172, .invokevirtual 36, 3, 54, 2, 240, []),
  (175, .invokevirtual 57, 3, 17, 2, 264, []),
  (178, .ireturn, 1, 1, 0, 0, []),
  (179, .aload_n 1, 1, 0, 0, 0, []),
  (180, .aload_n 0, 1, 0, 0, 0, []),
  (181, .iload_n 2, 1, 0, 0, 0, []),
  (182, .iconst 1, 1, 0, 0, 0, []),
  (183, .iadd, 1, 0, 0, 0, []),
  (184, .iconst 1, 1, 0, 0, 0, []),
  (185, .invokevirtual 36, 3, 54, 2, 240, []),
  (188, .aload_n 0, 1, 0, 0, 0, []),
  (189, .iload_n 2, 1, 0, 0, 0, []),
  (190, .iconst 2, 1, 0, 0, 0, []),
  (191, .iadd, 1, 0, 0, 0, []),
  (192, .iconst 2, 1, 0, 0, 0, []),
  (193, .invokevirtual 36, 3, 54, 2, 240, []),
  (196, .invokevirtual 60, 3, 16, 2, 272, []),
  (199, .ireturn, 1, 1, 0, 0, []),
  (200, .iconst 0, 1, 0, 0, 0, []),
  (201, .ireturn, 1, 1, 0, 0, [])]
def cd_Lt_number : List (Nat × En) := [(0, .iconst 0, 1, 0, 0, 0, []),
  (1, .istore_n 3, 1, 0, 0, 0, []),
  (2, .iconst 0, 1, 0, 0, 0, []),
  (3, .istore 4, 2, 0, 0, 0, []),
  (5, .iload 4, 2, 0, 0, 0, []),
  (7, .iload_n 2, 1, 0, 0, 0, []),
  (8, .if_icmp .ge 26, 3, 34, 0, 0, []),
  (11, .bipush 10, 2, 0, 0, 0, []),
  (13, .iload_n 3, 1, 0, 0, 0, []),
  (14, .imul, 1, 0, 0, 0, []),
  (15, .aload_n 0, 1, 0, 0, 0, []),
  (16, .iload_n 1, 1, 0, 0, 0, []),
  (17, .iload 4, 2, 0, 0, 0, []),
  (19, .iadd, 1, 0, 0, 0, []),
  (20, .invokevirtual 23, 3, 47, 1, 219, []),
  (23, .iadd, 1, 0, 0, 0, []),
  (24, .bipush 48, 2, 0, 0, 0, []),
  (26, .isub, 1, 0, 0, 0, []),
  (27, .istore_n 3, 1, 0, 0, 0, []),
  (28, .iinc 4 1, 3, 0, 0, 0, []),
  (31, .goto (-26), 3, 5, 0, 0, []),
  (34, .iload_n 3, 1, 0, 0, 0, []),
  (35, .ireturn, 1, 0, 0, 0, [])]
def cd_Sh_fewestPayments : List (Nat × En) := [(0, .iload_n 1, 1, 0, 0, 0, []),
  (1, .iconst 1, 1, 0, 0, 0, []),
  (2, .if_icmp .lt 9, 3, 11, 0, 0, []),
  (5, .iload_n 1, 1, 0, 0, 0, []),
  (6, .bipush 6, 2, 0, 0, 0, []),
  (8, .if_icmp .le 5, 3, 13, 0, 0, []),
  (11, .iconst 0, 1, 0, 0, 0, []),
  (12, .ireturn, 1, 0, 0, 0, []),
  (13, .aload_n 0, 1, 0, 0, 0, []),
  (14, .iload_n 1, 1, 0, 0, 0, []),
  (15, .aload_n 2, 1, 0, 0, 0, []),
  (16, .invokevirtual 18, 3, 56, 2, 597, []),
  (19, .iconst 1, 1, 0, 0, 0, []),
  (20, .istore_n 3, 1, 0, 0, 0, []),
  (21, .iload_n 3, 1, 0, 0, 0, []),
  (22, .iconst 1, 1, 0, 0, 0, []),
  (23, .iload_n 1, 1, 0, 0, 0, []),
  (24, .ishl, 1, 0, 0, 0, []),
  (25, .if_icmp .ge 21, 3, 46, 0, 0, []),
  (28, .aload_n 0, 1, 0, 0, 0, []),
  (29, .getfield 15, 3, 5, 1, 157, []),
  (32, .iload_n 3, 1, 0, 0, 0, []),
  (33, .aload_n 0, 1, 0, 0, 0, []),
  (34, .iload_n 3, 1, 0, 0, 0, []),
  (35, .iload_n 1, 1, 0, 0, 0, []),
  (36, .invokevirtual 22, 3, 57, 2, 603, []),
  (39, .iastore, 1, 0, 0, 0, []),
  (40, .iinc 3 1, 3, 0, 0, 0, []),
  (43, .goto (-22), 3, 21, 0, 0, []),
  (46, .iload_n 1, 1, 0, 0, 0, []),
  (47, .aload_n 0, 1, 0, 0, 0, []),
  (48, .getfield 15, 3, 5, 1, 157, []),
  (51, .iconst 1, 1, 0, 0, 0, []),
  (52, .iload_n 1, 1, 0, 0, 0, []),
  (53, .ishl, 1, 0, 0, 0, []),
  (54, .iconst 1, 1, 0, 0, 0, []),
  (55, .isub, 1, 0, 0, 0, []),
  (56, .iaload, 1, 0, 0, 0, []),
  (57, .isub, 1, 0, 0, 0, []),
  (58, .ireturn, 1, 0, 0, 0, [])]
def cd_Sh_findWhoIsOver : List (Nat × En) := [(0, .aload_n 2, 1, 0, 0, 0, []),
  (1, .invokevirtual 26, 3, 39, 0, 601, []),
  (4, .istore_n 3, 1, 0, 0, 0, []),
  (5, .iload_n 3, 1, 0, 0, 0, []),
  (6, .iload_n 1, 1, 0, 0, 0, []),
  (7, .irem, 1, 0, 0, 0, []),
  (8, .istore 4, 2, 0, 0, 0, []),
  (10, .iconst 0, 1, 0, 0, 0, []),
  (11, .istore 5, 2, 0, 0, 0, []),
  (13, .iload 5, 2, 0, 0, 0, []),
  (15, .iload_n 1, 1, 0, 0, 0, []),
  (16, .if_icmp .ge 39, 3, 55, 0, 0, []),
  (19, .aload_n 0, 1, 0, 0, 0, []),
  (20, .getfield 9, 3, 5, 0, 156, []),
  (23, .iload 5, 2, 0, 0, 0, []),
  (25, .aload_n 2, 1, 0, 0, 0, []),
  (26, .iload 5, 2, 0, 0, 0, []),
  (28, .invokevirtual 32, 3, 38, 1, 602, []),
  (31, .iload_n 3, 1, 0, 0, 0, []),
  (32, .iload_n 1, 1, 0, 0, 0, []),
  (33, .idiv, 1, 0, 0, 0, []),
  (34, .isub, 1, 0, 0, 0, []),
  (35, .iload 5, 2, 0, 0, 0, []),
  (37, .iload 4, 2, 0, 0, 0, []),
  (39, .if_icmp .ge 7, 3, 46, 0, 0, []),
  (42, .iconst 1, 1, 0, 0, 0, []),
  (43, .goto 4, 3, 47, 0, 0, []),
  (46, .iconst 0, 1, 0, 0, 0, []),
  (47, .isub, 1, 0, 0, 0, []),
  (48, .iastore, 1, 0, 0, 0, []),
  (49, .iinc 5 1, 3, 0, 0, 0, []),
  (52, .goto (-39), 3, 13, 0, 0, []),
  (55, .return_, 1, 0, 0, 0, [])]
def cd_Sh_mostGroups : List (Nat × En) := [(0, .iconst 0, 1, 0, 0, 0, []),
  (1, .istore_n 3, 1, 0, 0, 0, []),
  (2, .iconst 0, 1, 0, 0, 0, []),
  (3, .istore 4, 2, 0, 0, 0, []),
  (5, .iconst 0, 1, 0, 0, 0, []),
  (6, .istore 5, 2, 0, 0, 0, []),
  (8, .iload 5, 2, 0, 0, 0, []),
  (10, .iload_n 2, 1, 0, 0, 0, []),
  (11, .if_icmp .ge 47, 3, 58, 0, 0, []),
  (14, .iload_n 1, 1, 0, 0, 0, []),
  (15, .iload 5, 2, 0, 0, 0, []),
  (17, .ishr, 1, 0, 0, 0, []),
  (18, .iconst 1, 1, 0, 0, 0, []),
  (19, .iand, 1, 0, 0, 0, []),
  (20, .iconst 1, 1, 0, 0, 0, []),
  (21, .if_icmp .ne 31, 3, 52, 0, 0, []),
  (24, .iload 4, 2, 0, 0, 0, []),
  (26, .aload_n 0, 1, 0, 0, 0, []),
  (27, .getfield 9, 3, 5, 0, 156, []),
  (30, .iload 5, 2, 0, 0, 0, []),
  (32, .iaload, 1, 0, 0, 0, []),
  (33, .iadd, 1, 0, 0, 0, []),
  (34, .istore 4, 2, 0, 0, 0, []),
  (36, .iload_n 3, 1, 0, 0, 0, []),
  (37, .aload_n 0, 1, 0, 0, 0, []),
  (38, .getfield 15, 3, 5, 1, 157, []),
  (41, .iload_n 1, 1, 0, 0, 0, []),
  (42, .iconst 1, 1, 0, 0, 0, []),
  (43, .iload 5, 2, 0, 0, 0, []),
  (45, .ishl, 1, 0, 0, 0, []),
  (46, .ixor, 1, 0, 0, 0, []),
  (47, .iaload, 1, 0, 0, 0, []),
  (48, .invokestatic 36, 3, 1, 2, 607, []),
  (51, .istore_n 3, 1, 0, 0, 0, []),
  (52, .iinc 5 1, 3, 0, 0, 0, []),
  (55, .goto (-47), 3, 8, 0, 0, []),
  (58, .iload_n 3, 1, 0, 0, 0, []),
  (59, .iload 4, 2, 0, 0, 0, []),
  (61, .ifCond .ne 7, 3, 68, 0, 0, []),
  (64, .iconst 1, 1, 0, 0, 0, []),
  (65, .goto 4, 3, 69, 0, 0, []),
  (68, .iconst 0, 1, 0, 0, 0, []),
  (69, .iadd, 1, 0, 0, 0, []),
  (70, .ireturn, 1, 0, 0, 0, [])]
def cd_Tr_moodsLeaving : List (Nat × En) := [(0, .aload_n 0, 1, 0, 0, 0, []),
  (1, .getfield 12, 3, 4, 0, 141, []),
  (4, .iload_n 1, 1, 0, 0, 0, []),
  (5, .invokevirtual 25, 3, 28, 1, 451, []),
  (8, .aload_n 0, 1, 0, 0, 0, []),
  (9, .getfield 12, 3, 4, 0, 141, []),
  (12, .invokevirtual 29, 3, 37, 0, 452, []),
  (15, .ireturn, 1, 0, 0, 0, [])]
def cd_Tr_moodBehind : List (Nat × En) := [(0, .aload_n 1, 1, 0, 0, 0, []),
  (1, .iload_n 2, 1, 0, 0, 0, []),
  (2, .invokevirtual 33, 3, 9, 1, 429, []),
  (5, .ifCond .ne 6, 3, 11, 0, 0, []),
  (8, .bipush (-9), 2, 0, 0, 0, []),
  (10, .ireturn, 1, 0, 0, 0, []),
  (11, .aload_n 0, 1, 0, 0, 0, []),
  (12, .getfield 22, 3, 4, 1, 143, []),
  (15, .aload_n 1, 1, 0, 0, 0, []),
  (16, .invokevirtual 39, 3, 8, 1, 430, []),
  (19, .aload_n 0, 1, 0, 0, 0, []),
  (20, .getfield 12, 3, 4, 0, 141, []),
  (23, .iconst 0, 1, 0, 0, 0, []),
  (24, .invokevirtual 43, 3, 29, 1, 431, []),
  (27, .iconst 0, 1, 0, 0, 0, []),
  (28, .istore 4, 2, 0, 0, 0, []),
  (30, .iload 4, 2, 0, 0, 0, []),
  (32, .iload_n 3, 1, 0, 0, 0, []),
  (33, .if_icmp .gt 25, 3, 58, 0, 0, []),
  (36, .iload 4, 2, 0, 0, 0, []),
  (38, .bipush 60, 2, 0, 0, 0, []),
  (40, .if_icmp .gt 18, 3, 58, 0, 0, []),
  (43, .aload_n 0, 1, 0, 0, 0, []),
  (44, .getfield 12, 3, 4, 0, 141, []),
  (47, .iload 4, 2, 0, 0, 0, []),
  (49, .invokevirtual 46, 3, 30, 1, 432, []),
  (52, .iinc 4 1, 3, 0, 0, 0, []),
  (55, .goto (-25), 3, 30, 0, 0, []),
  (58, .aload_n 0, 1, 0, 0, 0, []),
  (59, .getfield 12, 3, 4, 0, 141, []),
  (62, .getfield 49, 3, 3, 4, 122, []),
  (65, .iload_n 2, 1, 0, 0, 0, []),
  (66, .iaload, 1, 0, 0, 0, []),
  (67, .ireturn, 1, 0, 0, 0, [])]
def cd_Tr_moreWithout : List (Nat × En) := [(0, .aload_n 0, 1, 0, 0, 0, []),
  (1, .getfield 22, 3, 4, 1, 143, []),
  (4, .aload_n 1, 1, 0, 0, 0, []),
  (5, .invokevirtual 39, 3, 8, 1, 430, []),
  (8, .aload_n 0, 1, 0, 0, 0, []),
  (9, .iconst 1, 1, 0, 0, 0, []),
  (10, .iload_n 2, 1, 0, 0, 0, []),
  (11, .ishl, 1, 0, 0, 0, []),
  (12, .invokevirtual 53, 3, 58, 1, 447, []),
  (15, .aload_n 0, 1, 0, 0, 0, []),
  (16, .iconst 0, 1, 0, 0, 0, []),
  (17, .invokevirtual 53, 3, 58, 1, 447, []),
  (20, .isub, 1, 0, 0, 0, []),
  (21, .ireturn, 1, 0, 0, 0, [])]
def cd_Tr_minuteOfMostMoods : List (Nat × En) := [(0, .aload_n 1, 1, 0, 0, 0, []),
  (1, .iload_n 2, 1, 0, 0, 0, []),
  (2, .invokevirtual 57, 3, 11, 1, 461, []),
  (5, .ifCond .ne 6, 3, 11, 0, 0, []),
  (8, .bipush (-9), 2, 0, 0, 0, []),
  (10, .ireturn, 1, 0, 0, 0, []),
  (11, .aload_n 0, 1, 0, 0, 0, []),
  (12, .getfield 22, 3, 4, 1, 143, []),
  (15, .aload_n 1, 1, 0, 0, 0, []),
  (16, .invokevirtual 39, 3, 8, 1, 430, []),
  (19, .iconst 0, 1, 0, 0, 0, []),
  (20, .istore_n 3, 1, 0, 0, 0, []),
  (21, .iconst (-1), 1, 0, 0, 0, []),
  (22, .istore 4, 2, 0, 0, 0, []),
  (24, .iconst 0, 1, 0, 0, 0, []),
  (25, .istore 5, 2, 0, 0, 0, []),
  (27, .iload 5, 2, 0, 0, 0, []),
  (29, .bipush 59, 2, 0, 0, 0, []),
  (31, .if_icmp .gt 41, 3, 72, 0, 0, []),
  (34, .aload_n 0, 1, 0, 0, 0, []),
  (35, .getfield 22, 3, 4, 1, 143, []),
  (38, .getfield 60, 3, 1, 6, 44, []),
  (41, .iload_n 2, 1, 0, 0, 0, []),
  (42, .iload 5, 2, 0, 0, 0, []),
  (44, .iastore, 1, 0, 0, 0, []),
  (45, .aload_n 0, 1, 0, 0, 0, []),
  (46, .iconst 0, 1, 0, 0, 0, []),
  (47, .invokevirtual 53, 3, 58, 1, 447, []),
  (50, .istore 6, 2, 0, 0, 0, []),
  (52, .iload 6, 2, 0, 0, 0, []),
  (54, .iload 4, 2, 0, 0, 0, []),
  (56, .if_icmp .le 10, 3, 66, 0, 0, []),
  (59, .iload 6, 2, 0, 0, 0, []),
  (61, .istore 4, 2, 0, 0, 0, []),
  (63, .iload 5, 2, 0, 0, 0, []),
  (65, .istore_n 3, 1, 0, 0, 0, []),
  (66, .iinc 5 1, 3, 0, 0, 0, []),
  (69, .goto (-42), 3, 27, 0, 0, []),
  (72, .iload_n 3, 1, 0, 0, 0, []),
  (73, .ireturn, 1, 0, 0, 0, [])]
def cd_Tr_leastWaiters : List (Nat × En) := [(0, .aload_n 0, 1, 0, 0, 0, []),
  (1, .getfield 22, 3, 4, 1, 143, []),
  (4, .aload_n 1, 1, 0, 0, 0, []),
  (5, .invokevirtual 39, 3, 8, 1, 430, []),
  (8, .iconst 1, 1, 0, 0, 0, []),
  (9, .istore_n 2, 1, 0, 0, 0, []),
  (10, .iload_n 2, 1, 0, 0, 0, []),
  (11, .iconst 3, 1, 0, 0, 0, []),
  (12, .if_icmp .gt 43, 3, 55, 0, 0, []),
  (15, .aload_n 0, 1, 0, 0, 0, []),
  (16, .getfield 22, 3, 4, 1, 143, []),
  (19, .iload_n 2, 1, 0, 0, 0, []),
  (20, .putfield 63, 3, 1, 9, 56, []),
  (23, .aload_n 0, 1, 0, 0, 0, []),
  (24, .getfield 12, 3, 4, 0, 141, []),
  (27, .iconst 0, 1, 0, 0, 0, []),
  (28, .invokevirtual 25, 3, 28, 1, 451, []),
  (31, .aload_n 0, 1, 0, 0, 0, []),
  (32, .getfield 12, 3, 4, 0, 141, []),
  (35, .bipush 60, 2, 0, 0, 0, []),
  (37, .invokevirtual 67, 3, 40, 1, 470, []),
  (40, .aload_n 1, 1, 0, 0, 0, []),
  (41, .getfield 70, 3, 1, 8, 53, []),
  (44, .if_icmp .ne 5, 3, 49, 0, 0, []),
  (47, .iload_n 2, 1, 0, 0, 0, []),
  (48, .ireturn, 1, 0, 0, 0, []),
  (49, .iinc 2 1, 3, 0, 0, 0, []),
  (52, .goto (-42), 3, 10, 0, 0, []),
  (55, .bipush (-9), 2, 0, 0, 0, []),
  (57, .ireturn, 1, 0, 0, 0, [])]
def cd_Tr_seatsOfMostMoods : List (Nat × En) := [(0, .aload_n 0, 1, 0, 0, 0, []),
  (1, .getfield 22, 3, 4, 1, 143, []),
  (4, .aload_n 1, 1, 0, 0, 0, []),
  (5, .invokevirtual 39, 3, 8, 1, 430, []),
  (8, .bipush (-9), 2, 0, 0, 0, []),
  (10, .istore_n 2, 1, 0, 0, 0, []),
  (11, .aload_n 0, 1, 0, 0, 0, []),
  (12, .iconst 0, 1, 0, 0, 0, []),
  (13, .invokevirtual 53, 3, 58, 1, 447, []),
  (16, .istore_n 3, 1, 0, 0, 0, []),
  (17, .iconst 0, 1, 0, 0, 0, []),
  (18, .istore 4, 2, 0, 0, 0, []),
  (20, .iload 4, 2, 0, 0, 0, []),
  (22, .aload_n 1, 1, 0, 0, 0, []),
  (23, .getfield 73, 3, 1, 7, 49, []),
  (26, .if_icmp .ge 75, 3, 101, 0, 0, []),
  (29, .iload 4, 2, 0, 0, 0, []),
  (31, .iconst 1, 1, 0, 0, 0, []),
  (32, .iadd, 1, 0, 0, 0, []),
  (33, .istore 5, 2, 0, 0, 0, []),
  (35, .iload 5, 2, 0, 0, 0, []),
  (37, .aload_n 1, 1, 0, 0, 0, []),
  (38, .getfield 73, 3, 1, 7, 49, []),
  (41, .if_icmp .ge 54, 3, 95, 0, 0, []),
  (44, .aload_n 0, 1, 0, 0, 0, []),
  (45, .getfield 22, 3, 4, 1, 143, []),
  (48, .aload_n 1, 1, 0, 0, 0, []),
  (49, .invokevirtual 39, 3, 8, 1, 430, []),
  (52, .aload_n 0, 1, 0, 0, 0, []),
  (53, .getfield 22, 3, 4, 1, 143, []),
  (56, .iload 4, 2, 0, 0, 0, []),
  (58, .iload 5, 2, 0, 0, 0, []),
  (60, .invokevirtual 76, 3, 17, 2, 479, []),
  (63, .pop, 1, 0, 0, 0, []),
  (64, .aload_n 0, 1, 0, 0, 0, []),
  (65, .iconst 0, 1, 0, 0, 0, []),
  (66, .invokevirtual 53, 3, 58, 1, 447, []),
  (69, .istore 6, 2, 0, 0, 0, []),
  (71, .iload 6, 2, 0, 0, 0, []),
  (73, .iload_n 3, 1, 0, 0, 0, []),
  (74, .if_icmp .le 15, 3, 89, 0, 0, []),
  (77, .iload 6, 2, 0, 0, 0, []),
  (79, .istore_n 3, 1, 0, 0, 0, []),
  (80, .bipush 10, 2, 0, 0, 0, []),
  (82, .iload 4, 2, 0, 0, 0, []),
  (84, .imul, 1, 0, 0, 0, []),
  (85, .iload 5, 2, 0, 0, 0, []),
  (87, .iadd, 1, 0, 0, 0, []),
  (88, .istore_n 2, 1, 0, 0, 0, []),
  (89, .iinc 5 1, 3, 0, 0, 0, []),
  (92, .goto (-57), 3, 35, 0, 0, []),
  (95, .iinc 4 1, 3, 0, 0, 0, []),
  (98, .goto (-78), 3, 20, 0, 0, []),
  (101, .iload_n 2, 1, 0, 0, 0, []),
  (102, .ireturn, 1, 0, 0, 0, [])]
def cd_Tr_bringerOfMostMoods : List (Nat × En) := [(0, .aload_n 0, 1, 0, 0, 0, []),
  (1, .getfield 22, 3, 4, 1, 143, []),
  (4, .aload_n 1, 1, 0, 0, 0, []),
  (5, .invokevirtual 39, 3, 8, 1, 430, []),
  (8, .bipush (-9), 2, 0, 0, 0, []),
  (10, .istore_n 2, 1, 0, 0, 0, []),
  (11, .aload_n 0, 1, 0, 0, 0, []),
  (12, .iconst 0, 1, 0, 0, 0, []),
  (13, .invokevirtual 53, 3, 58, 1, 447, []),
  (16, .istore_n 3, 1, 0, 0, 0, []),
  (17, .iconst 0, 1, 0, 0, 0, []),
  (18, .istore 4, 2, 0, 0, 0, []),
  (20, .iload 4, 2, 0, 0, 0, []),
  (22, .aload_n 1, 1, 0, 0, 0, []),
  (23, .getfield 70, 3, 1, 8, 53, []),
  (26, .if_icmp .ge 72, 3, 98, 0, 0, []),
  (29, .aload_n 0, 1, 0, 0, 0, []),
  (30, .getfield 22, 3, 4, 1, 143, []),
  (33, .aload_n 1, 1, 0, 0, 0, []),
  (34, .invokevirtual 39, 3, 8, 1, 430, []),
  (37, .iconst 0, 1, 0, 0, 0, []),
  (38, .istore 5, 2, 0, 0, 0, []),
  (40, .iload 5, 2, 0, 0, 0, []),
  (42, .aload_n 1, 1, 0, 0, 0, []),
  (43, .getfield 73, 3, 1, 7, 49, []),
  (46, .if_icmp .ge 46, 3, 92, 0, 0, []),
  (49, .aload_n 0, 1, 0, 0, 0, []),
  (50, .getfield 22, 3, 4, 1, 143, []),
  (53, .getfield 80, 3, 1, 4, 38, []),
  (56, .iload 4, 2, 0, 0, 0, []),
  (58, .iload 5, 2, 0, 0, 0, []),
  (60, .iastore, 1, 0, 0, 0, []),
  (61, .aload_n 0, 1, 0, 0, 0, []),
  (62, .iconst 0, 1, 0, 0, 0, []),
  (63, .invokevirtual 53, 3, 58, 1, 447, []),
  (66, .istore 6, 2, 0, 0, 0, []),
  (68, .iload 6, 2, 0, 0, 0, []),
  (70, .iload_n 3, 1, 0, 0, 0, []),
  (71, .if_icmp .le 15, 3, 86, 0, 0, []),
  (74, .iload 6, 2, 0, 0, 0, []),
  (76, .istore_n 3, 1, 0, 0, 0, []),
  (77, .bipush 10, 2, 0, 0, 0, []),
  (79, .iload 4, 2, 0, 0, 0, []),
  (81, .imul, 1, 0, 0, 0, []),
  (82, .iload 5, 2, 0, 0, 0, []),
  (84, .iadd, 1, 0, 0, 0, []),
  (85, .istore_n 2, 1, 0, 0, 0, []),
  (86, .iinc 5 1, 3, 0, 0, 0, []),
  (89, .goto (-49), 3, 40, 0, 0, []),
  (92, .iinc 4 1, 3, 0, 0, 0, []),
  (95, .goto (-75), 3, 20, 0, 0, []),
  (98, .iload_n 2, 1, 0, 0, 0, []),
  (99, .ireturn, 1, 0, 0, 0, [])]
def cd_Tr_leftSoNothingIsSentBack : List (Nat × En) := [(0, .aload_n 0, 1, 0, 0, 0, []),
  (1, .getfield 22, 3, 4, 1, 143, []),
  (4, .aload_n 1, 1, 0, 0, 0, []),
  (5, .invokevirtual 39, 3, 8, 1, 430, []),
  (8, .iconst 1, 1, 0, 0, 0, []),
  (9, .aload_n 1, 1, 0, 0, 0, []),
  (10, .getfield 70, 3, 1, 8, 53, []),
  (13, .ishl, 1, 0, 0, 0, []),
  (14, .iconst 1, 1, 0, 0, 0, []),
  (15, .isub, 1, 0, 0, 0, []),
  (16, .istore_n 2, 1, 0, 0, 0, []),
  (17, .iconst 0, 1, 0, 0, 0, []),
  (18, .istore_n 3, 1, 0, 0, 0, []),
  (19, .iload_n 3, 1, 0, 0, 0, []),
  (20, .iconst 1, 1, 0, 0, 0, []),
  (21, .aload_n 1, 1, 0, 0, 0, []),
  (22, .getfield 70, 3, 1, 8, 53, []),
  (25, .ishl, 1, 0, 0, 0, []),
  (26, .if_icmp .ge 44, 3, 70, 0, 0, []),
  (29, .iload_n 3, 1, 0, 0, 0, []),
  (30, .invokestatic 83, 3, 0, 1, 520, []),
  (33, .iload_n 2, 1, 0, 0, 0, []),
  (34, .invokestatic 83, 3, 0, 1, 520, []),
  (37, .if_icmp .ge 27, 3, 64, 0, 0, []),
  (40, .aload_n 0, 1, 0, 0, 0, []),
  (41, .getfield 12, 3, 4, 0, 141, []),
  (44, .iload_n 3, 1, 0, 0, 0, []),
  (45, .invokevirtual 25, 3, 28, 1, 451, []),
  (48, .aload_n 0, 1, 0, 0, 0, []),
  (49, .getfield 12, 3, 4, 0, 141, []),
  (52, .invokevirtual 88, 3, 41, 0, 521, []),
  (55, .ifCond .ne 7, 3, 62, 0, 0, []),
  (58, .iload_n 3, 1, 0, 0, 0, []),
  (59, .goto 4, 3, 63, 0, 0, []),
  (62, .iload_n 2, 1, 0, 0, 0, []),
  (63, .istore_n 2, 1, 0, 0, 0, []),
  (64, .iinc 3 1, 3, 0, 0, 0, []),
  (67, .goto (-48), 3, 19, 0, 0, []),
  (70, .iload_n 2, 1, 0, 0, 0, []),
  (71, .ireturn, 1, 0, 0, 0, [])]
def cd_Tr_leftForMostMoods : List (Nat × En) := [(0, .aload_n 0, 1, 0, 0, 0, []),
  (1, .getfield 22, 3, 4, 1, 143, []),
  (4, .aload_n 1, 1, 0, 0, 0, []),
  (5, .invokevirtual 39, 3, 8, 1, 430, []),
  (8, .iconst 0, 1, 0, 0, 0, []),
  (9, .istore_n 2, 1, 0, 0, 0, []),
  (10, .iconst (-1), 1, 0, 0, 0, []),
  (11, .istore_n 3, 1, 0, 0, 0, []),
  (12, .iconst 0, 1, 0, 0, 0, []),
  (13, .istore 4, 2, 0, 0, 0, []),
  (15, .iload 4, 2, 0, 0, 0, []),
  (17, .iconst 1, 1, 0, 0, 0, []),
  (18, .aload_n 1, 1, 0, 0, 0, []),
  (19, .getfield 70, 3, 1, 8, 53, []),
  (22, .ishl, 1, 0, 0, 0, []),
  (23, .if_icmp .ge 59, 3, 82, 0, 0, []),
  (26, .aload_n 0, 1, 0, 0, 0, []),
  (27, .iload 4, 2, 0, 0, 0, []),
  (29, .invokevirtual 53, 3, 58, 1, 447, []),
  (32, .istore 5, 2, 0, 0, 0, []),
  (34, .iload 4, 2, 0, 0, 0, []),
  (36, .invokestatic 83, 3, 0, 1, 520, []),
  (39, .iload_n 2, 1, 0, 0, 0, []),
  (40, .invokestatic 83, 3, 0, 1, 520, []),
  (43, .if_icmp .ge 7, 3, 50, 0, 0, []),
  (46, .iconst 1, 1, 0, 0, 0, []),
  (47, .goto 4, 3, 51, 0, 0, []),
  (50, .iconst 0, 1, 0, 0, 0, []),
  (51, .istore 6, 2, 0, 0, 0, []),
  (53, .iload 5, 2, 0, 0, 0, []),
  (55, .iload_n 3, 1, 0, 0, 0, []),
  (56, .if_icmp .gt 14, 3, 70, 0, 0, []),
  (59, .iload 5, 2, 0, 0, 0, []),
  (61, .iload_n 3, 1, 0, 0, 0, []),
  (62, .if_icmp .ne 14, 3, 76, 0, 0, []),
  (65, .iload 6, 2, 0, 0, 0, []),
  (67, .ifCond .eq 9, 3, 76, 0, 0, []),
  (70, .iload 5, 2, 0, 0, 0, []),
  (72, .istore_n 3, 1, 0, 0, 0, []),
  (73, .iload 4, 2, 0, 0, 0, []),
  (75, .istore_n 2, 1, 0, 0, 0, []),
  (76, .iinc 4 1, 3, 0, 0, 0, []),
  (79, .goto (-64), 3, 15, 0, 0, []),
  (82, .iload_n 2, 1, 0, 0, 0, []),
  (83, .ireturn, 1, 0, 0, 0, [])]
def cd_Tr_isAsTold : List (Nat × En) := [(0, .aload_n 0, 1, 0, 0, 0, []),
  (1, .getfield 22, 3, 4, 1, 143, []),
  (4, .iload_n 1, 1, 0, 0, 0, []),
  (5, .invokevirtual 33, 3, 9, 1, 429, []),
  (8, .ifCond .ne 5, 3, 13, 0, 0, []),
  (11, .iconst 0, 1, 0, 0, 0, []),
  (12, .ireturn, 1, 1, 0, 0, []),
  (13, .aload_n 0, 1, 0, 0, 0, []),
  (14, .getfield 12, 3, 4, 0, 141, []),
  (17, .iconst 0, 1, 0, 0, 0, []),
  (18, .invokevirtual 43, 3, 29, 1, 431, []),
  (21, .iconst 0, 1, 0, 0, 0, []),
  (22, .istore 4, 2, 0, 0, 0, []),
  (24, .iload 4, 2, 0, 0, 0, []),
  (26, .iload_n 3, 1, 0, 0, 0, []),
  (27, .if_icmp .ge 43, 3, 70, 0, 0, []),
  (30, .iload 4, 2, 0, 0, 0, []),
  (32, .aload_n 2, 1, 0, 0, 0, []),
  (33, .arraylength, 1, 0, 0, 0, []),
  (34, .if_icmp .ge 36, 3, 70, 0, 0, []),
  (37, .aload_n 0, 1, 0, 0, 0, []),
  (38, .getfield 12, 3, 4, 0, 141, []),
  (41, .iload 4, 2, 0, 0, 0, []),
  (43, .invokevirtual 46, 3, 30, 1, 432, []),
  (46, .aload_n 0, 1, 0, 0, 0, []),
  (47, .getfield 12, 3, 4, 0, 141, []),
  (50, .getfield 49, 3, 3, 4, 122, []),
  (53, .iload_n 1, 1, 0, 0, 0, []),
  (54, .iaload, 1, 0, 0, 0, []),
  (55, .aload_n 2, 1, 0, 0, 0, []),
  (56, .iload 4, 2, 0, 0, 0, []),
  (58, .iaload, 1, 0, 0, 0, []),
  (59, .if_icmp .eq 5, 3, 64, 0, 0, []),
  (62, .iconst 0, 1, 0, 0, 0, []),
  (63, .ireturn, 1, 1, 0, 0, []),
  (64, .iinc 4 1, 3, 0, 0, 0, []),
  (67, .goto (-43), 3, 24, 0, 0, []),
  (70, .iconst 1, 1, 0, 0, 0, []),
  (71, .ireturn, 1, 1, 0, 0, [])]
def cd_Tr_firstSettledPair : List (Nat × En) := [(0, .aload_n 0, 1, 0, 0, 0, []),
  (1, .getfield 22, 3, 4, 1, 143, []),
  (4, .aload_n 1, 1, 0, 0, 0, []),
  (5, .invokevirtual 39, 3, 8, 1, 430, []),
  (8, .aload_n 1, 1, 0, 0, 0, []),
  (9, .iload_n 2, 1, 0, 0, 0, []),
  (10, .invokevirtual 91, 3, 27, 1, 580, []),
  (13, .istore 4, 2, 0, 0, 0, []),
  (15, .aload_n 1, 1, 0, 0, 0, []),
  (16, .iload_n 3, 1, 0, 0, 0, []),
  (17, .invokevirtual 91, 3, 27, 1, 580, []),
  (20, .istore 5, 2, 0, 0, 0, []),
  (22, .iconst 0, 1, 0, 0, 0, []),
  (23, .istore 6, 2, 0, 0, 0, []),
  (25, .iload 6, 2, 0, 0, 0, []),
  (27, .iconst 4, 1, 0, 0, 0, []),
  (28, .if_icmp .ge 136, 3, 164, 0, 0, []),
  (31, .iload 6, 2, 0, 0, 0, []),
  (33, .iconst 2, 1, 0, 0, 0, []),
  (34, .if_icmp .lt 8, 3, 42, 0, 0, []),
  (37, .iload 4, 2, 0, 0, 0, []),
  (39, .goto 4, 3, 43, 0, 0, []),
  (42, .iconst 0, 1, 0, 0, 0, []),
  (43, .istore 7, 2, 0, 0, 0, []),
  (45, .iload 6, 2, 0, 0, 0, []),
  (47, .iconst 1, 1, 0, 0, 0, []),
  (48, .iand, 1, 0, 0, 0, []),
  (49, .iconst 1, 1, 0, 0, 0, []),
  (50, .if_icmp .ne 8, 3, 58, 0, 0, []),
  (53, .iload 5, 2, 0, 0, 0, []),
  (55, .goto 4, 3, 59, 0, 0, []),
  (58, .iconst 0, 1, 0, 0, 0, []),
  (59, .istore 8, 2, 0, 0, 0, []),
  (61, .iload 4, 2, 0, 0, 0, []),
  (63, .iload 7, 2, 0, 0, 0, []),
  (65, .ixor, 1, 0, 0, 0, []),
  (66, .istore 9, 2, 0, 0, 0, []),
  (68, .iload 5, 2, 0, 0, 0, []),
  (70, .iload 8, 2, 0, 0, 0, []),
  (72, .ixor, 1, 0, 0, 0, []),
  (73, .istore 10, 2, 0, 0, 0, []),
  (75, .aload_n 0, 1, 0, 0, 0, []),
  (76, .iload_n 2, 1, 0, 0, 0, []),
  (77, .iload 7, 2, 0, 0, 0, []),
  (79, .iload 8, 2, 0, 0, 0, []),
  (81, .ior, 1, 0, 0, 0, []),
  (82, .invokevirtual 94, 3, 69, 2, 584, []),
  (85, .aload_n 0, 1, 0, 0, 0, []),
  (86, .iload_n 2, 1, 0, 0, 0, []),
  (87, .iload 9, 2, 0, 0, 0, []),
  (89, .iload 8, 2, 0, 0, 0, []),
  (91, .ior, 1, 0, 0, 0, []),
  (92, .invokevirtual 94, 3, 69, 2, 584, []),
  (95, .if_icmp .lt 7, 3, 102, 0, 0, []),
  (98, .iconst 1, 1, 0, 0, 0, []),
  (99, .goto 4, 3, 103, 0, 0, []),
  (102, .iconst 0, 1, 0, 0, 0, []),
  (103, .istore 11, 2, 0, 0, 0, []),
  (105, .aload_n 0, 1, 0, 0, 0, []),
  (106, .iload_n 3, 1, 0, 0, 0, []),
  (107, .iload 7, 2, 0, 0, 0, []),
  (109, .iload 8, 2, 0, 0, 0, []),
  (111, .ior, 1, 0, 0, 0, []),
  (112, .invokevirtual 94, 3, 69, 2, 584, []),
  (115, .aload_n 0, 1, 0, 0, 0, []),
  (116, .iload_n 3, 1, 0, 0, 0, []),
  (117, .iload 7, 2, 0, 0, 0, []),
  (119, .iload 10, 2, 0, 0, 0, []),
  (121, .ior, 1, 0, 0, 0, []),
  (122, .invokevirtual 94, 3, 69, 2, 584, []),
  (125, .if_icmp .lt 7, 3, 132, 0, 0, []),
  (128, .iconst 1, 1, 0, 0, 0, []),
  (129, .goto 4, 3, 133, 0, 0, []),
  (132, .iconst 0, 1, 0, 0, 0, []),
  (133, .istore 12, 2, 0, 0, 0, []),
  (135, .iload 11, 2, 0, 0, 0, []),
  (137, .ifCond .eq 21, 3, 158, 0, 0, []),
  (140, .iload 12, 2, 0, 0, 0, []),
  (142, .ifCond .eq 16, 3, 158, 0, 0, []),
  (145, .bipush 10, 2, 0, 0, 0, []),
  (147, .iload 6, 2, 0, 0, 0, []),
  (149, .iconst 1, 1, 0, 0, 0, []),
  (150, .ishr, 1, 0, 0, 0, []),
  (151, .imul, 1, 0, 0, 0, []),
  (152, .iload 6, 2, 0, 0, 0, []),
  (154, .iconst 1, 1, 0, 0, 0, []),
  (155, .iand, 1, 0, 0, 0, []),
  (156, .iadd, 1, 0, 0, 0, []),
  (157, .ireturn, 1, 0, 0, 0, []),
  (158, .iinc 6 1, 3, 0, 0, 0, []),
  (161, .goto (-136), 3, 25, 0, 0, []),
  (164, .bipush (-9), 2, 0, 0, 0, []),
  (166, .ireturn, 1, 0, 0, 0, [])]
def cd_Tr_worthOf : List (Nat × En) := [(0, .aload_n 0, 1, 0, 0, 0, []),
  (1, .getfield 22, 3, 4, 1, 143, []),
  (4, .iload_n 1, 1, 0, 0, 0, []),
  (5, .invokevirtual 33, 3, 9, 1, 429, []),
  (8, .ifCond .ne 5, 3, 13, 0, 0, []),
  (11, .iconst 0, 1, 0, 0, 0, []),
  (12, .ireturn, 1, 0, 0, 0, []),
  (13, .aload_n 0, 1, 0, 0, 0, []),
  (14, .getfield 12, 3, 4, 0, 141, []),
  (17, .iload_n 2, 1, 0, 0, 0, []),
  (18, .invokevirtual 25, 3, 28, 1, 451, []),
  (21, .aload_n 0, 1, 0, 0, 0, []),
  (22, .getfield 12, 3, 4, 0, 141, []),
  (25, .getfield 49, 3, 3, 4, 122, []),
  (28, .iload_n 1, 1, 0, 0, 0, []),
  (29, .iaload, 1, 0, 0, 0, []),
  (30, .aload_n 0, 1, 0, 0, 0, []),
  (31, .getfield 12, 3, 4, 0, 141, []),
  (34, .iload_n 1, 1, 0, 0, 0, []),
  (35, .invokevirtual 98, 3, 38, 1, 588, []),
  (38, .isub, 1, 0, 0, 0, []),
  (39, .ireturn, 1, 0, 0, 0, [])]
def cd_Tr_waysToReach : List (Nat × En) := [(0, .aload_n 0, 1, 0, 0, 0, []),
  (1, .getfield 22, 3, 4, 1, 143, []),
  (4, .aload_n 1, 1, 0, 0, 0, []),
  (5, .invokevirtual 39, 3, 8, 1, 430, []),
  (8, .lconst 0, 1, 0, 0, 0, []),
  (9, .lstore 4, 2, 0, 0, 0, []),
  (11, .iconst 0, 1, 0, 0, 0, []),
  (12, .istore 6, 2, 0, 0, 0, []),
  (14, .iload 6, 2, 0, 0, 0, []),
  (16, .iconst 1, 1, 0, 0, 0, []),
  (17, .aload_n 1, 1, 0, 0, 0, []),
  (18, .getfield 70, 3, 1, 8, 53, []),
  (21, .ishl, 1, 0, 0, 0, []),
  (22, .if_icmp .ge 41, 3, 63, 0, 0, []),
  (25, .aload_n 0, 1, 0, 0, 0, []),
  (26, .iload 6, 2, 0, 0, 0, []),
  (28, .invokevirtual 53, 3, 58, 1, 447, []),
  (31, .iload_n 3, 1, 0, 0, 0, []),
  (32, .if_icmp .lt 25, 3, 57, 0, 0, []),
  (35, .lload 4, 2, 0, 0, 0, []),
  (37, .iload_n 2, 1, 0, 0, 0, []),
  (38, .iconst 1, 1, 0, 0, 0, []),
  (39, .isub, 1, 0, 0, 0, []),
  (40, .i2l, 1, 0, 0, 0, []),
  (41, .aload_n 1, 1, 0, 0, 0, []),
  (42, .getfield 70, 3, 1, 8, 53, []),
  (45, .iload 6, 2, 0, 0, 0, []),
  (47, .invokestatic 83, 3, 0, 1, 520, []),
  (50, .isub, 1, 0, 0, 0, []),
  (51, .invokestatic 101, 3, 113, 2, 621, []),
  (54, .ladd, 1, 0, 0, 0, []),
  (55, .lstore 4, 2, 0, 0, 0, []),
  (57, .iinc 6 1, 3, 0, 0, 0, []),
  (60, .goto (-46), 3, 14, 0, 0, []),
  (63, .lload 4, 2, 0, 0, 0, []),
  (65, .lreturn, 1, 0, 0, 0, [])]
def cd_Tr_byLot : List (Nat × En) := [(0, .aload_n 0, 1, 0, 0, 0, []),
  (1, .getfield 22, 3, 4, 1, 143, []),
  (4, .aload_n 1, 1, 0, 0, 0, []),
  (5, .invokevirtual 39, 3, 8, 1, 430, []),
  (8, .iload_n 3, 1, 0, 0, 0, []),
  (9, .istore 5, 2, 0, 0, 0, []),
  (11, .iconst 0, 1, 0, 0, 0, []),
  (12, .istore 6, 2, 0, 0, 0, []),
  (14, .iconst 0, 1, 0, 0, 0, []),
  (15, .istore 7, 2, 0, 0, 0, []),
  (17, .iload 7, 2, 0, 0, 0, []),
  (19, .iload_n 2, 1, 0, 0, 0, []),
  (20, .if_icmp .ge 97, 3, 117, 0, 0, []),
  (23, .iconst 0, 1, 0, 0, 0, []),
  (24, .istore 8, 2, 0, 0, 0, []),
  (26, .iload 8, 2, 0, 0, 0, []),
  (28, .aload_n 0, 1, 0, 0, 0, []),
  (29, .getfield 22, 3, 4, 1, 143, []),
  (32, .getfield 70, 3, 1, 8, 53, []),
  (35, .if_icmp .ge 41, 3, 76, 0, 0, []),
  (38, .iload 5, 2, 0, 0, 0, []),
  (40, .ldc 105, 2, 0, 0, 655, [(1664525, 0)]),
  (42, .imul, 1, 0, 0, 0, []),
  (43, .ldc 106, 2, 0, 0, 656, [(1013904223, 0)]),
  (45, .iadd, 1, 0, 0, 0, []),
  (46, .istore 5, 2, 0, 0, 0, []),
  (48, .aload_n 0, 1, 0, 0, 0, []),
  (49, .getfield 22, 3, 4, 1, 143, []),
  (52, .getfield 60, 3, 1, 6, 44, []),
  (55, .iload 8, 2, 0, 0, 0, []),
  (57, .iload 5, 2, 0, 0, 0, []),
  (59, .ldc 107, 2, 0, 0, 657, [(2147483647, 0)]),
  (61, .iand, 1, 0, 0, 0, []),
  (62, .sipush 256, 3, 0, 0, 0, []),
  (65, .idiv, 1, 0, 0, 0, []),
  (66, .bipush 60, 2, 0, 0, 0, []),
  (68, .irem, 1, 0, 0, 0, []),
  (69, .iastore, 1, 0, 0, 0, []),
  (70, .iinc 8 1, 3, 0, 0, 0, []),
  (73, .goto (-47), 3, 26, 0, 0, []),
  (76, .aload_n 0, 1, 0, 0, 0, []),
  (77, .getfield 12, 3, 4, 0, 141, []),
  (80, .iconst 0, 1, 0, 0, 0, []),
  (81, .invokevirtual 25, 3, 28, 1, 451, []),
  (84, .iload 6, 2, 0, 0, 0, []),
  (86, .iload 4, 2, 0, 0, 0, []),
  (88, .ifCond .ne 13, 3, 101, 0, 0, []),
  (91, .aload_n 0, 1, 0, 0, 0, []),
  (92, .getfield 12, 3, 4, 0, 141, []),
  (95, .invokevirtual 29, 3, 37, 0, 452, []),
  (98, .goto 10, 3, 108, 0, 0, []),
  (101, .aload_n 0, 1, 0, 0, 0, []),
  (102, .getfield 12, 3, 4, 0, 141, []),
  (105, .invokevirtual 88, 3, 41, 0, 521, []),
  (108, .iadd, 1, 0, 0, 0, []),
  (109, .istore 6, 2, 0, 0, 0, []),
  (111, .iinc 7 1, 3, 0, 0, 0, []),
  (114, .goto (-97), 3, 17, 0, 0, []),
  (117, .iload 6, 2, 0, 0, 0, []),
  (119, .ireturn, 1, 0, 0, 0, [])]
def cd_X_letter : List (Nat × En) := [(0, .iload_n 1, 1, 0, 0, 0, []),
  (1, .ifCond .ge 10, 3, 11, 0, 0, []),
  (4, .aload_n 0, 1, 0, 0, 0, []),
  (5, .bipush (-4), 2, 0, 0, 0, []),
  (7, .invokevirtual 55, 3, 106, 1, 195, []),
  (10, .ireturn, 1, 0, 0, 0, []),
  (11, .iload_n 1, 1, 0, 0, 0, []),
  (12, .sipush 255, 3, 0, 0, 0, []),
  (15, .if_icmp .gt 15, 3, 30, 0, 0, []),
  (18, .aload_n 0, 1, 0, 0, 0, []),
  (19, .getfield 26, 3, 0, 3, 166, []),
  (22, .getfield 59, 3, 2, 1, 93, []),
  (25, .bipush 96, 2, 0, 0, 0, []),
  (27, .if_icmp .lt 10, 3, 37, 0, 0, []),
  (30, .aload_n 0, 1, 0, 0, 0, []),
  (31, .bipush (-6), 2, 0, 0, 0, []),
  (33, .invokevirtual 55, 3, 106, 1, 195, []),
  (36, .ireturn, 1, 0, 0, 0, []),
  (37, .aload_n 0, 1, 0, 0, 0, []),
  (38, .getfield 26, 3, 0, 3, 166, []),
  (41, .iload_n 1, 1, 0, 0, 0, []),
  (42, .invokevirtual 62, 3, 46, 1, 199, []),
  (45, .aload_n 0, 1, 0, 0, 0, []),
  (46, .getfield 26, 3, 0, 3, 166, []),
  (49, .getfield 59, 3, 2, 1, 93, []),
  (52, .ireturn, 1, 0, 0, 0, [])]
def cd_X_table : List (Nat × En) := [(0, .aload_n 0, 1, 0, 0, 0, []),
  (1, .invokevirtual 66, 3, 109, 0, 207, []),
  (4, .istore_n 1, 1, 0, 0, 0, []),
  (5, .aload_n 0, 1, 0, 0, 0, []),
  (6, .getfield 26, 3, 0, 3, 166, []),
  (9, .iconst 0, 1, 0, 0, 0, []),
  (10, .putfield 59, 3, 2, 1, 93, []),
  (13, .iload_n 1, 1, 0, 0, 0, []),
  (14, .ireturn, 1, 0, 0, 0, [])]
def cd_X_guest : List (Nat × En) := [(0, .aload_n 0, 1, 0, 0, 0, []),
  (1, .getfield 10, 3, 0, 0, 163, []),
  (4, .iload_n 1, 1, 0, 0, 0, []),
  (5, .invokevirtual 70, 3, 9, 1, 282, []),
  (8, .ifCond .ne 9, 3, 17, 0, 0, []),
  (11, .aload_n 0, 1, 0, 0, 0, []),
  (12, .iconst (-1), 1, 0, 0, 0, []),
  (13, .invokevirtual 55, 3, 106, 1, 195, []),
  (16, .ireturn, 1, 0, 0, 0, []),
  (17, .iload_n 2, 1, 0, 0, 0, []),
  (18, .lookupswitch 46 #[(0, 26), (1, 36)], 26, 64, 0, 0, [(0, 44), (1, 54)]),
  (44, .aload_n 0, 1, 0, 0, 0, []),
  (45, .getfield 10, 3, 0, 0, 163, []),
  (48, .getfield 74, 3, 1, 0, 26, []),
  (51, .iload_n 1, 1, 0, 0, 0, []),
  (52, .iaload, 1, 0, 0, 0, []),
  (53, .ireturn, 1, 0, 0, 0, []),
  (54, .aload_n 0, 1, 0, 0, 0, []),
  (55, .getfield 10, 3, 0, 0, 163, []),
  (58, .getfield 77, 3, 1, 1, 29, []),
  (61, .iload_n 1, 1, 0, 0, 0, []),
  (62, .iaload, 1, 0, 0, 0, []),
  (63, .ireturn, 1, 0, 0, 0, []),
  (64, .aload_n 0, 1, 0, 0, 0, []),
  (65, .bipush (-2), 2, 0, 0, 0, []),
  (67, .invokevirtual 55, 3, 106, 1, 195, []),
  (70, .ireturn, 1, 0, 0, 0, [])]
def cd_X_remark : List (Nat × En) := [(0, .aload_n 0, 1, 0, 0, 0, []),
  (1, .getfield 10, 3, 0, 0, 163, []),
  (4, .iload_n 1, 1, 0, 0, 0, []),
  (5, .invokevirtual 80, 3, 11, 1, 287, []),
  (8, .ifCond .ne 9, 3, 17, 0, 0, []),
  (11, .aload_n 0, 1, 0, 0, 0, []),
  (12, .iconst (-1), 1, 0, 0, 0, []),
  (13, .invokevirtual 55, 3, 106, 1, 195, []),
  (16, .ireturn, 1, 0, 0, 0, []),
  (17, .iload_n 2, 1, 0, 0, 0, []),
  (18, .tableswitch 123 0 7 #[46, 56, 66, 76, 86, 96, 105, 114], 46, 141, 0, 0, [(0, 64), (1, 74), (2, 84), (3, 94), (4, 104), (5, 114), (6, 123), (7, 132)]),
  (64, .aload_n 0, 1, 0, 0, 0, []),
  (65, .getfield 10, 3, 0, 0, 163, []),
  (68, .getfield 83, 3, 1, 2, 31, []),
  (71, .iload_n 1, 1, 0, 0, 0, []),
  (72, .iaload, 1, 0, 0, 0, []),
  (73, .ireturn, 1, 0, 0, 0, []),
  (74, .aload_n 0, 1, 0, 0, 0, []),
  (75, .getfield 10, 3, 0, 0, 163, []),
  (78, .getfield 86, 3, 1, 3, 34, []),
  (81, .iload_n 1, 1, 0, 0, 0, []),
  (82, .iaload, 1, 0, 0, 0, []),
  (83, .ireturn, 1, 0, 0, 0, []),
  (84, .aload_n 0, 1, 0, 0, 0, []),
  (85, .getfield 10, 3, 0, 0, 163, []),
  (88, .getfield 89, 3, 1, 4, 37, []),
  (91, .iload_n 1, 1, 0, 0, 0, []),
  (92, .iaload, 1, 0, 0, 0, []),
  (93, .ireturn, 1, 0, 0, 0, []),
  (94, .aload_n 0, 1, 0, 0, 0, []),
  (95, .getfield 10, 3, 0, 0, 163, []),
  (98, .getfield 92, 3, 1, 5, 42, []),
  (101, .iload_n 1, 1, 0, 0, 0, []),
  (102, .iaload, 1, 0, 0, 0, []),
  (103, .ireturn, 1, 0, 0, 0, []),
  (104, .aload_n 0, 1, 0, 0, 0, []),
  (105, .getfield 10, 3, 0, 0, 163, []),
  (108, .getfield 95, 3, 1, 6, 45, []),
  (111, .iload_n 1, 1, 0, 0, 0, []),
  (112, .iaload, 1, 0, 0, 0, []),
  (113, .ireturn, 1, 0, 0, 0, []),
  (114, .aload_n 0, 1, 0, 0, 0, []),
  (115, .getfield 10, 3, 0, 0, 163, []),
  (118, .iload_n 1, 1, 0, 0, 0, []),
  (119, .invokevirtual 98, 3, 18, 1, 291, []),
  (122, .ireturn, 1, 0, 0, 0, []),
  (123, .aload_n 0, 1, 0, 0, 0, []),
  (124, .getfield 10, 3, 0, 0, 163, []),
  (127, .iload_n 1, 1, 0, 0, 0, []),
  (128, .invokevirtual 101, 3, 19, 1, 299, []),
  (131, .ireturn, 1, 0, 0, 0, []),
  (132, .aload_n 0, 1, 0, 0, 0, []),
  (133, .getfield 10, 3, 0, 0, 163, []),
  (136, .iload_n 1, 1, 0, 0, 0, []),
  (137, .invokevirtual 104, 3, 20, 1, 306, []),
  (140, .ireturn, 1, 0, 0, 0, []),
  (141, .aload_n 0, 1, 0, 0, 0, []),
  (142, .bipush (-2), 2, 0, 0, 0, []),
  (144, .invokevirtual 55, 3, 106, 1, 195, []),
  (147, .ireturn, 1, 0, 0, 0, [])]
def cd_X_ready : List (Nat × En) := [(0, .aload_n 0, 1, 0, 0, 0, []),
  (1, .getfield 10, 3, 0, 0, 163, []),
  (4, .iload_n 1, 1, 0, 0, 0, []),
  (5, .invokevirtual 80, 3, 11, 1, 287, []),
  (8, .ifCond .ne 9, 3, 17, 0, 0, []),
  (11, .aload_n 0, 1, 0, 0, 0, []),
  (12, .iconst (-1), 1, 0, 0, 0, []),
  (13, .invokevirtual 55, 3, 106, 1, 195, []),
  (16, .ireturn, 1, 0, 0, 0, []),
  (17, .iload_n 2, 1, 0, 0, 0, []),
  (18, .ifCond .ge 10, 3, 28, 0, 0, []),
  (21, .aload_n 0, 1, 0, 0, 0, []),
  (22, .bipush (-4), 2, 0, 0, 0, []),
  (24, .invokevirtual 55, 3, 106, 1, 195, []),
  (27, .ireturn, 1, 0, 0, 0, []),
  (28, .iload_n 2, 1, 0, 0, 0, []),
  (29, .bipush 59, 2, 0, 0, 0, []),
  (31, .if_icmp .le 10, 3, 41, 0, 0, []),
  (34, .aload_n 0, 1, 0, 0, 0, []),
  (35, .bipush (-6), 2, 0, 0, 0, []),
  (37, .invokevirtual 55, 3, 106, 1, 195, []),
  (40, .ireturn, 1, 0, 0, 0, []),
  (41, .aload_n 0, 1, 0, 0, 0, []),
  (42, .getfield 10, 3, 0, 0, 163, []),
  (45, .getfield 95, 3, 1, 6, 45, []),
  (48, .iload_n 1, 1, 0, 0, 0, []),
  (49, .iaload, 1, 0, 0, 0, []),
  (50, .istore_n 3, 1, 0, 0, 0, []),
  (51, .aload_n 0, 1, 0, 0, 0, []),
  (52, .getfield 10, 3, 0, 0, 163, []),
  (55, .getfield 95, 3, 1, 6, 45, []),
  (58, .iload_n 1, 1, 0, 0, 0, []),
  (59, .iload_n 2, 1, 0, 0, 0, []),
  (60, .iastore, 1, 0, 0, 0, []),
  (61, .iload_n 3, 1, 0, 0, 0, []),
  (62, .ireturn, 1, 0, 0, 0, [])]
def cd_X_mood : List (Nat × En) := [(0, .aload_n 0, 1, 0, 0, 0, []),
  (1, .getfield 10, 3, 0, 0, 163, []),
  (4, .iload_n 1, 1, 0, 0, 0, []),
  (5, .invokevirtual 70, 3, 9, 1, 282, []),
  (8, .ifCond .ne 9, 3, 17, 0, 0, []),
  (11, .aload_n 0, 1, 0, 0, 0, []),
  (12, .iconst (-1), 1, 0, 0, 0, []),
  (13, .invokevirtual 55, 3, 106, 1, 195, []),
  (16, .ireturn, 1, 0, 0, 0, []),
  (17, .iload_n 2, 1, 0, 0, 0, []),
  (18, .ifCond .ge 10, 3, 28, 0, 0, []),
  (21, .aload_n 0, 1, 0, 0, 0, []),
  (22, .bipush (-4), 2, 0, 0, 0, []),
  (24, .invokevirtual 55, 3, 106, 1, 195, []),
  (27, .ireturn, 1, 0, 0, 0, []),
  (28, .iload_n 2, 1, 0, 0, 0, []),
  (29, .bipush 40, 2, 0, 0, 0, []),
  (31, .if_icmp .le 10, 3, 41, 0, 0, []),
  (34, .aload_n 0, 1, 0, 0, 0, []),
  (35, .bipush (-6), 2, 0, 0, 0, []),
  (37, .invokevirtual 55, 3, 106, 1, 195, []),
  (40, .ireturn, 1, 0, 0, 0, []),
  (41, .aload_n 0, 1, 0, 0, 0, []),
  (42, .getfield 10, 3, 0, 0, 163, []),
  (45, .getfield 77, 3, 1, 1, 29, []),
  (48, .iload_n 1, 1, 0, 0, 0, []),
  (49, .iaload, 1, 0, 0, 0, []),
  (50, .istore_n 3, 1, 0, 0, 0, []),
  (51, .aload_n 0, 1, 0, 0, 0, []),
  (52, .getfield 10, 3, 0, 0, 163, []),
  (55, .getfield 77, 3, 1, 1, 29, []),
  (58, .iload_n 1, 1, 0, 0, 0, []),
  (59, .iload_n 2, 1, 0, 0, 0, []),
  (60, .iastore, 1, 0, 0, 0, []),
  (61, .iload_n 3, 1, 0, 0, 0, []),
  (62, .ireturn, 1, 0, 0, 0, [])]
def cd_X_change : List (Nat × En) := [(0, .aload_n 0, 1, 0, 0, 0, []),
  (1, .getfield 10, 3, 0, 0, 163, []),
  (4, .iload_n 1, 1, 0, 0, 0, []),
  (5, .iload_n 2, 1, 0, 0, 0, []),
  (6, .invokevirtual 107, 3, 17, 2, 322, []),
  (9, .ifCond .ne 9, 3, 18, 0, 0, []),
  (12, .aload_n 0, 1, 0, 0, 0, []),
  (13, .iconst (-1), 1, 0, 0, 0, []),
  (14, .invokevirtual 55, 3, 106, 1, 195, []),
  (17, .ireturn, 1, 0, 0, 0, []),
  (18, .aload_n 0, 1, 0, 0, 0, []),
  (19, .getfield 10, 3, 0, 0, 163, []),
  (22, .getfield 74, 3, 1, 0, 26, []),
  (25, .iload_n 1, 1, 0, 0, 0, []),
  (26, .iaload, 1, 0, 0, 0, []),
  (27, .ireturn, 1, 0, 0, 0, [])]
def cd_X_set : List (Nat × En) := [(0, .iload_n 1, 1, 0, 0, 0, []),
  (1, .ifCond .eq 15, 3, 16, 0, 0, []),
  (4, .iload_n 1, 1, 0, 0, 0, []),
  (5, .iconst 1, 1, 0, 0, 0, []),
  (6, .if_icmp .eq 10, 3, 16, 0, 0, []),
  (9, .aload_n 0, 1, 0, 0, 0, []),
  (10, .bipush (-2), 2, 0, 0, 0, []),
  (12, .invokevirtual 55, 3, 106, 1, 195, []),
  (15, .ireturn, 1, 0, 0, 0, []),
  (16, .iload_n 2, 1, 0, 0, 0, []),
  (17, .iload_n 1, 1, 0, 0, 0, []),
  (18, .ifCond .ne 7, 3, 25, 0, 0, []),
  (21, .iconst 1, 1, 0, 0, 0, []),
  (22, .goto 4, 3, 26, 0, 0, []),
  (25, .iconst 0, 1, 0, 0, 0, []),
  (26, .if_icmp .ge 10, 3, 36, 0, 0, []),
  (29, .aload_n 0, 1, 0, 0, 0, []),
  (30, .bipush (-4), 2, 0, 0, 0, []),
  (32, .invokevirtual 55, 3, 106, 1, 195, []),
  (35, .ireturn, 1, 0, 0, 0, []),
  (36, .iload_n 2, 1, 0, 0, 0, []),
  (37, .iload_n 1, 1, 0, 0, 0, []),
  (38, .ifCond .ne 7, 3, 45, 0, 0, []),
  (41, .iconst 3, 1, 0, 0, 0, []),
  (42, .goto 5, 3, 47, 0, 0, []),
  (45, .bipush 9, 2, 0, 0, 0, []),
  (47, .if_icmp .le 10, 3, 57, 0, 0, []),
  (50, .aload_n 0, 1, 0, 0, 0, []),
  (51, .bipush (-6), 2, 0, 0, 0, []),
  (53, .invokevirtual 55, 3, 106, 1, 195, []),
  (56, .ireturn, 1, 0, 0, 0, []),
  (57, .iload_n 1, 1, 0, 0, 0, []),
  (58, .ifCond .ne 13, 3, 71, 0, 0, []),
  (61, .aload_n 0, 1, 0, 0, 0, []),
  (62, .getfield 10, 3, 0, 0, 163, []),
  (65, .getfield 111, 3, 1, 9, 58, []),
  (68, .goto 10, 3, 78, 0, 0, []),
  (71, .aload_n 0, 1, 0, 0, 0, []),
  (72, .getfield 10, 3, 0, 0, 163, []),
  (75, .getfield 114, 3, 1, 10, 60, []),
  (78, .istore_n 3, 1, 0, 0, 0, []),
  (79, .iload_n 1, 1, 0, 0, 0, []),
  (80, .ifCond .ne 14, 3, 94, 0, 0, []),
  (83, .aload_n 0, 1, 0, 0, 0, []),
  (84, .getfield 10, 3, 0, 0, 163, []),
  (87, .iload_n 2, 1, 0, 0, 0, []),
  (88, .putfield 111, 3, 1, 9, 58, []),
  (91, .goto 11, 3, 102, 0, 0, []),
  (94, .aload_n 0, 1, 0, 0, 0, []),
  (95, .getfield 10, 3, 0, 0, 163, []),
  (98, .iload_n 2, 1, 0, 0, 0, []),
  (99, .putfield 114, 3, 1, 10, 60, []),
  (102, .iload_n 3, 1, 0, 0, 0, []),
  (103, .ireturn, 1, 0, 0, 0, [])]
def cd_X_sums : List (Nat × En) := [(0, .iload_n 1, 1, 0, 0, 0, []),
  (1, .ifCond .lt 8, 3, 9, 0, 0, []),
  (4, .iload_n 1, 1, 0, 0, 0, []),
  (5, .iconst 4, 1, 0, 0, 0, []),
  (6, .if_icmp .le 10, 3, 16, 0, 0, []),
  (9, .aload_n 0, 1, 0, 0, 0, []),
  (10, .bipush (-2), 2, 0, 0, 0, []),
  (12, .invokevirtual 55, 3, 106, 1, 195, []),
  (15, .ireturn, 1, 0, 0, 0, []),
  (16, .aload_n 0, 1, 0, 0, 0, []),
  (17, .invokevirtual 117, 3, 108, 0, 331, []),
  (20, .astore_n 2, 1, 0, 0, 0, []),
  (21, .iload_n 1, 1, 0, 0, 0, []),
  (22, .tableswitch 52 0 3 #[30, 35, 40, 47], 30, 74, 0, 0, [(0, 52), (1, 57), (2, 62), (3, 69)]),
  (52, .aload_n 2, 1, 0, 0, 0, []),
  (53, .invokevirtual 121, 3, 37, 0, 392, []),
  (56, .ireturn, 1, 0, 0, 0, []),
  (57, .aload_n 2, 1, 0, 0, 0, []),
  (58, .invokevirtual 126, 3, 39, 0, 396, []),
  (61, .ireturn, 1, 0, 0, 0, []),
  (62, .aload_n 2, 1, 0, 0, 0, []),
  (63, .bipush 60, 2, 0, 0, 0, []),
  (65, .invokevirtual 129, 3, 40, 1, 405, []),
  (68, .ireturn, 1, 0, 0, 0, []),
  (69, .aload_n 2, 1, 0, 0, 0, []),
  (70, .invokevirtual 132, 3, 41, 0, 409, []),
  (73, .ireturn, 1, 0, 0, 0, []),
  (74, .aload_n 2, 1, 0, 0, 0, []),
  (75, .invokevirtual 135, 3, 42, 0, 413, []),
  (78, .ireturn, 1, 0, 0, 0, [])]
def cd_X_of : List (Nat × En) := [(0, .aload_n 0, 1, 0, 0, 0, []),
  (1, .getfield 10, 3, 0, 0, 163, []),
  (4, .iload_n 1, 1, 0, 0, 0, []),
  (5, .invokevirtual 80, 3, 11, 1, 287, []),
  (8, .ifCond .ne 9, 3, 17, 0, 0, []),
  (11, .aload_n 0, 1, 0, 0, 0, []),
  (12, .iconst (-1), 1, 0, 0, 0, []),
  (13, .invokevirtual 55, 3, 106, 1, 195, []),
  (16, .ireturn, 1, 0, 0, 0, []),
  (17, .iload_n 2, 1, 0, 0, 0, []),
  (18, .ifCond .lt 8, 3, 26, 0, 0, []),
  (21, .iload_n 2, 1, 0, 0, 0, []),
  (22, .iconst 2, 1, 0, 0, 0, []),
  (23, .if_icmp .le 10, 3, 33, 0, 0, []),
  (26, .aload_n 0, 1, 0, 0, 0, []),
  (27, .bipush (-2), 2, 0, 0, 0, []),
  (29, .invokevirtual 55, 3, 106, 1, 195, []),
  (32, .ireturn, 1, 0, 0, 0, []),
  (33, .aload_n 0, 1, 0, 0, 0, []),
  (34, .invokevirtual 117, 3, 108, 0, 331, []),
  (37, .astore_n 3, 1, 0, 0, 0, []),
  (38, .iload_n 2, 1, 0, 0, 0, []),
  (39, .lookupswitch 39 #[(0, 25), (1, 32)], 25, 78, 0, 0, [(0, 64), (1, 71)]),
  (64, .aload_n 3, 1, 0, 0, 0, []),
  (65, .getfield 138, 3, 3, 1, 116, []),
  (68, .iload_n 1, 1, 0, 0, 0, []),
  (69, .iaload, 1, 0, 0, 0, []),
  (70, .ireturn, 1, 0, 0, 0, []),
  (71, .aload_n 3, 1, 0, 0, 0, []),
  (72, .getfield 141, 3, 3, 2, 118, []),
  (75, .iload_n 1, 1, 0, 0, 0, []),
  (76, .iaload, 1, 0, 0, 0, []),
  (77, .ireturn, 1, 0, 0, 0, []),
  (78, .aload_n 3, 1, 0, 0, 0, []),
  (79, .getfield 144, 3, 3, 3, 120, []),
  (82, .iload_n 1, 1, 0, 0, 0, []),
  (83, .baload, 1, 0, 0, 0, []),
  (84, .ifCond .eq 7, 3, 91, 0, 0, []),
  (87, .iconst 1, 1, 0, 0, 0, []),
  (88, .goto 4, 3, 92, 0, 0, []),
  (91, .iconst 0, 1, 0, 0, 0, []),
  (92, .ireturn, 1, 0, 0, 0, [])]
def cd_X_moodAt : List (Nat × En) := [(0, .aload_n 0, 1, 0, 0, 0, []),
  (1, .getfield 10, 3, 0, 0, 163, []),
  (4, .iload_n 1, 1, 0, 0, 0, []),
  (5, .invokevirtual 70, 3, 9, 1, 282, []),
  (8, .ifCond .ne 9, 3, 17, 0, 0, []),
  (11, .aload_n 0, 1, 0, 0, 0, []),
  (12, .iconst (-1), 1, 0, 0, 0, []),
  (13, .invokevirtual 55, 3, 106, 1, 195, []),
  (16, .ireturn, 1, 0, 0, 0, []),
  (17, .iload_n 2, 1, 0, 0, 0, []),
  (18, .ifCond .ge 10, 3, 28, 0, 0, []),
  (21, .aload_n 0, 1, 0, 0, 0, []),
  (22, .bipush (-4), 2, 0, 0, 0, []),
  (24, .invokevirtual 55, 3, 106, 1, 195, []),
  (27, .ireturn, 1, 0, 0, 0, []),
  (28, .iload_n 2, 1, 0, 0, 0, []),
  (29, .bipush 60, 2, 0, 0, 0, []),
  (31, .if_icmp .le 10, 3, 41, 0, 0, []),
  (34, .aload_n 0, 1, 0, 0, 0, []),
  (35, .bipush (-6), 2, 0, 0, 0, []),
  (37, .invokevirtual 55, 3, 106, 1, 195, []),
  (40, .ireturn, 1, 0, 0, 0, []),
  (41, .aload_n 0, 1, 0, 0, 0, []),
  (42, .getfield 44, 3, 0, 7, 170, []),
  (45, .aload_n 0, 1, 0, 0, 0, []),
  (46, .getfield 10, 3, 0, 0, 163, []),
  (49, .iload_n 1, 1, 0, 0, 0, []),
  (50, .iload_n 2, 1, 0, 0, 0, []),
  (51, .invokevirtual 148, 3, 59, 3, 425, []),
  (54, .ireturn, 1, 0, 0, 0, [])]
def cd_X_bill : List (Nat × En) := [(0, .aload_n 0, 1, 0, 0, 0, []),
  (1, .getfield 10, 3, 0, 0, 163, []),
  (4, .iload_n 1, 1, 0, 0, 0, []),
  (5, .invokevirtual 70, 3, 9, 1, 282, []),
  (8, .ifCond .ne 9, 3, 17, 0, 0, []),
  (11, .aload_n 0, 1, 0, 0, 0, []),
  (12, .iconst (-1), 1, 0, 0, 0, []),
  (13, .invokevirtual 55, 3, 106, 1, 195, []),
  (16, .ireturn, 1, 0, 0, 0, []),
  (17, .aload_n 0, 1, 0, 0, 0, []),
  (18, .invokevirtual 117, 3, 108, 0, 331, []),
  (21, .iload_n 1, 1, 0, 0, 0, []),
  (22, .invokevirtual 152, 3, 38, 1, 437, []),
  (25, .ireturn, 1, 0, 0, 0, [])]
def cd_X_without : List (Nat × En) := [(0, .aload_n 0, 1, 0, 0, 0, []),
  (1, .getfield 10, 3, 0, 0, 163, []),
  (4, .iload_n 1, 1, 0, 0, 0, []),
  (5, .invokevirtual 80, 3, 11, 1, 287, []),
  (8, .ifCond .ne 12, 3, 20, 0, 0, []),
  (11, .ldc 155, 2, 0, 0, 442, [(1000000000, 0)]),
  (13, .aload_n 0, 1, 0, 0, 0, []),
  (14, .iconst (-1), 1, 0, 0, 0, []),
  (15, .invokevirtual 55, 3, 106, 1, 195, []),
  (18, .isub, 1, 0, 0, 0, []),
  (19, .ireturn, 1, 0, 0, 0, []),
  (20, .aload_n 0, 1, 0, 0, 0, []),
  (21, .getfield 44, 3, 0, 7, 170, []),
  (24, .aload_n 0, 1, 0, 0, 0, []),
  (25, .getfield 10, 3, 0, 0, 163, []),
  (28, .iload_n 1, 1, 0, 0, 0, []),
  (29, .invokevirtual 156, 3, 60, 2, 443, []),
  (32, .ireturn, 1, 0, 0, 0, [])]
def cd_X_bestMinute : List (Nat × En) := [(0, .aload_n 0, 1, 0, 0, 0, []),
  (1, .getfield 10, 3, 0, 0, 163, []),
  (4, .iload_n 1, 1, 0, 0, 0, []),
  (5, .invokevirtual 80, 3, 11, 1, 287, []),
  (8, .ifCond .ne 9, 3, 17, 0, 0, []),
  (11, .aload_n 0, 1, 0, 0, 0, []),
  (12, .iconst (-1), 1, 0, 0, 0, []),
  (13, .invokevirtual 55, 3, 106, 1, 195, []),
  (16, .ireturn, 1, 0, 0, 0, []),
  (17, .aload_n 0, 1, 0, 0, 0, []),
  (18, .getfield 44, 3, 0, 7, 170, []),
  (21, .aload_n 0, 1, 0, 0, 0, []),
  (22, .getfield 10, 3, 0, 0, 163, []),
  (25, .iload_n 1, 1, 0, 0, 0, []),
  (26, .invokevirtual 160, 3, 61, 2, 457, []),
  (29, .ireturn, 1, 0, 0, 0, [])]
def cd_X_enough : List (Nat × En) := [(0, .aload_n 0, 1, 0, 0, 0, []),
  (1, .getfield 44, 3, 0, 7, 170, []),
  (4, .aload_n 0, 1, 0, 0, 0, []),
  (5, .getfield 10, 3, 0, 0, 163, []),
  (8, .invokevirtual 163, 3, 62, 1, 466, []),
  (11, .ireturn, 1, 0, 0, 0, [])]
def cd_X_swap : List (Nat × En) := [(0, .aload_n 0, 1, 0, 0, 0, []),
  (1, .getfield 44, 3, 0, 7, 170, []),
  (4, .aload_n 0, 1, 0, 0, 0, []),
  (5, .getfield 10, 3, 0, 0, 163, []),
  (8, .invokevirtual 167, 3, 63, 1, 475, []),
  (11, .ireturn, 1, 0, 0, 0, [])]
def cd_X_fit : List (Nat × En) := [(0, .aload_n 0, 1, 0, 0, 0, []),
  (1, .getfield 44, 3, 0, 7, 170, []),
  (4, .aload_n 0, 1, 0, 0, 0, []),
  (5, .getfield 10, 3, 0, 0, 163, []),
  (8, .invokevirtual 170, 3, 64, 1, 484, []),
  (11, .ireturn, 1, 0, 0, 0, [])]
def cd_X_could : List (Nat × En) := [(0, .iload_n 1, 1, 0, 0, 0, []),
  (1, .ifCond .eq 15, 3, 16, 0, 0, []),
  (4, .iload_n 1, 1, 0, 0, 0, []),
  (5, .iconst 1, 1, 0, 0, 0, []),
  (6, .if_icmp .eq 10, 3, 16, 0, 0, []),
  (9, .aload_n 0, 1, 0, 0, 0, []),
  (10, .bipush (-2), 2, 0, 0, 0, []),
  (12, .invokevirtual 55, 3, 106, 1, 195, []),
  (15, .ireturn, 1, 0, 0, 0, []),
  (16, .aload_n 0, 1, 0, 0, 0, []),
  (17, .getfield 10, 3, 0, 0, 163, []),
  (20, .invokevirtual 173, 3, 24, 0, 492, []),
  (23, .istore_n 2, 1, 0, 0, 0, []),
  (24, .iload_n 1, 1, 0, 0, 0, []),
  (25, .ifCond .ne 14, 3, 39, 0, 0, []),
  (28, .aload_n 0, 1, 0, 0, 0, []),
  (29, .getfield 10, 3, 0, 0, 163, []),
  (32, .iload_n 2, 1, 0, 0, 0, []),
  (33, .invokevirtual 176, 3, 25, 1, 499, []),
  (36, .goto 4, 3, 40, 0, 0, []),
  (39, .iload_n 2, 1, 0, 0, 0, []),
  (40, .ireturn, 1, 0, 0, 0, [])]
def cd_X_dear : List (Nat × En) := [(0, .aload_n 0, 1, 0, 0, 0, []),
  (1, .getfield 10, 3, 0, 0, 163, []),
  (4, .invokevirtual 179, 3, 26, 0, 507, []),
  (7, .ireturn, 1, 0, 0, 0, [])]
def cd_X_spare : List (Nat × En) := [(0, .iload_n 1, 1, 0, 0, 0, []),
  (1, .ifCond .eq 15, 3, 16, 0, 0, []),
  (4, .iload_n 1, 1, 0, 0, 0, []),
  (5, .iconst 1, 1, 0, 0, 0, []),
  (6, .if_icmp .eq 10, 3, 16, 0, 0, []),
  (9, .aload_n 0, 1, 0, 0, 0, []),
  (10, .bipush (-2), 2, 0, 0, 0, []),
  (12, .invokevirtual 55, 3, 106, 1, 195, []),
  (15, .ireturn, 1, 0, 0, 0, []),
  (16, .aload_n 0, 1, 0, 0, 0, []),
  (17, .getfield 44, 3, 0, 7, 170, []),
  (20, .aload_n 0, 1, 0, 0, 0, []),
  (21, .getfield 10, 3, 0, 0, 163, []),
  (24, .invokevirtual 182, 3, 65, 1, 516, []),
  (27, .istore_n 2, 1, 0, 0, 0, []),
  (28, .iload_n 1, 1, 0, 0, 0, []),
  (29, .ifCond .ne 7, 3, 36, 0, 0, []),
  (32, .iload_n 2, 1, 0, 0, 0, []),
  (33, .goto 7, 3, 40, 0, 0, []),
  (36, .iload_n 2, 1, 0, 0, 0, []),
  (37, .invokestatic 185, 3, 0, 1, 522, []),
  (40, .ireturn, 1, 0, 0, 0, [])]
def cd_X_cold : List (Nat × En) := [(0, .aload_n 0, 1, 0, 0, 0, []),
  (1, .getfield 44, 3, 0, 7, 170, []),
  (4, .aload_n 0, 1, 0, 0, 0, []),
  (5, .getfield 10, 3, 0, 0, 163, []),
  (8, .invokevirtual 190, 3, 66, 1, 527, []),
  (11, .ireturn, 1, 0, 0, 0, [])]
def cd_X_silence : List (Nat × En) := [(0, .iload_n 1, 1, 0, 0, 0, []),
  (1, .ifCond .eq 15, 3, 16, 0, 0, []),
  (4, .iload_n 1, 1, 0, 0, 0, []),
  (5, .iconst 1, 1, 0, 0, 0, []),
  (6, .if_icmp .eq 10, 3, 16, 0, 0, []),
  (9, .aload_n 0, 1, 0, 0, 0, []),
  (10, .bipush (-2), 2, 0, 0, 0, []),
  (12, .invokevirtual 55, 3, 106, 1, 195, []),
  (15, .ireturn, 1, 0, 0, 0, []),
  (16, .aload_n 0, 1, 0, 0, 0, []),
  (17, .invokevirtual 117, 3, 108, 0, 331, []),
  (20, .astore_n 2, 1, 0, 0, 0, []),
  (21, .aload_n 2, 1, 0, 0, 0, []),
  (22, .invokevirtual 193, 3, 44, 0, 535, []),
  (25, .istore_n 3, 1, 0, 0, 0, []),
  (26, .iload_n 1, 1, 0, 0, 0, []),
  (27, .ifCond .ne 7, 3, 34, 0, 0, []),
  (30, .iload_n 3, 1, 0, 0, 0, []),
  (31, .goto 8, 3, 39, 0, 0, []),
  (34, .aload_n 2, 1, 0, 0, 0, []),
  (35, .iload_n 3, 1, 0, 0, 0, []),
  (36, .invokevirtual 196, 3, 45, 1, 543, []),
  (39, .ireturn, 1, 0, 0, 0, [])]
def cd_X_busy : List (Nat × En) := [(0, .iload_n 1, 1, 0, 0, 0, []),
  (1, .ifCond .eq 15, 3, 16, 0, 0, []),
  (4, .iload_n 1, 1, 0, 0, 0, []),
  (5, .iconst 1, 1, 0, 0, 0, []),
  (6, .if_icmp .eq 10, 3, 16, 0, 0, []),
  (9, .aload_n 0, 1, 0, 0, 0, []),
  (10, .bipush (-2), 2, 0, 0, 0, []),
  (12, .invokevirtual 55, 3, 106, 1, 195, []),
  (15, .ireturn, 1, 0, 0, 0, []),
  (16, .aload_n 0, 1, 0, 0, 0, []),
  (17, .invokevirtual 117, 3, 108, 0, 331, []),
  (20, .iload_n 1, 1, 0, 0, 0, []),
  (21, .ifCond .ne 7, 3, 28, 0, 0, []),
  (24, .iconst 1, 1, 0, 0, 0, []),
  (25, .goto 10, 3, 35, 0, 0, []),
  (28, .aload_n 0, 1, 0, 0, 0, []),
  (29, .getfield 10, 3, 0, 0, 163, []),
  (32, .getfield 111, 3, 1, 9, 58, []),
  (35, .invokevirtual 199, 3, 36, 1, 551, []),
  (38, .ireturn, 1, 0, 0, 0, [])]
def cd_X_who : List (Nat × En) := [(0, .aload_n 0, 1, 0, 0, 0, []),
  (1, .getfield 10, 3, 0, 0, 163, []),
  (4, .iload_n 1, 1, 0, 0, 0, []),
  (5, .invokevirtual 70, 3, 9, 1, 282, []),
  (8, .ifCond .eq 14, 3, 22, 0, 0, []),
  (11, .aload_n 0, 1, 0, 0, 0, []),
  (12, .getfield 10, 3, 0, 0, 163, []),
  (15, .iload_n 2, 1, 0, 0, 0, []),
  (16, .invokevirtual 80, 3, 11, 1, 287, []),
  (19, .ifCond .ne 9, 3, 28, 0, 0, []),
  (22, .aload_n 0, 1, 0, 0, 0, []),
  (23, .iconst (-1), 1, 0, 0, 0, []),
  (24, .invokevirtual 55, 3, 106, 1, 195, []),
  (27, .ireturn, 1, 0, 0, 0, []),
  (28, .iload_n 3, 1, 0, 0, 0, []),
  (29, .ifCond .eq 15, 3, 44, 0, 0, []),
  (32, .iload_n 3, 1, 0, 0, 0, []),
  (33, .iconst 1, 1, 0, 0, 0, []),
  (34, .if_icmp .eq 10, 3, 44, 0, 0, []),
  (37, .aload_n 0, 1, 0, 0, 0, []),
  (38, .bipush (-2), 2, 0, 0, 0, []),
  (40, .invokevirtual 55, 3, 106, 1, 195, []),
  (43, .ireturn, 1, 0, 0, 0, []),
  (44, .iload_n 3, 1, 0, 0, 0, []),
  (45, .ifCond .ne 12, 3, 57, 0, 0, []),
  (48, .aload_n 0, 1, 0, 0, 0, []),
  (49, .iload_n 1, 1, 0, 0, 0, []),
  (50, .iload_n 2, 1, 0, 0, 0, []),
  (51, .invokevirtual 202, 3, 110, 2, 559, []),
  (54, .goto 9, 3, 63, 0, 0, []),
  (57, .aload_n 0, 1, 0, 0, 0, []),
  (58, .iload_n 1, 1, 0, 0, 0, []),
  (59, .iload_n 2, 1, 0, 0, 0, []),
  (60, .invokevirtual 206, 3, 111, 2, 567, []),
  (63, .ireturn, 1, 0, 0, 0, [])]
def cd_X_haggle : List (Nat × En) := [(0, .aload_n 0, 1, 0, 0, 0, []),
  (1, .getfield 10, 3, 0, 0, 163, []),
  (4, .iload_n 1, 1, 0, 0, 0, []),
  (5, .iload_n 2, 1, 0, 0, 0, []),
  (6, .invokevirtual 209, 3, 10, 2, 575, []),
  (9, .ifCond .ne 9, 3, 18, 0, 0, []),
  (12, .aload_n 0, 1, 0, 0, 0, []),
  (13, .iconst (-1), 1, 0, 0, 0, []),
  (14, .invokevirtual 55, 3, 106, 1, 195, []),
  (17, .ireturn, 1, 0, 0, 0, []),
  (18, .aload_n 0, 1, 0, 0, 0, []),
  (19, .getfield 44, 3, 0, 7, 170, []),
  (22, .aload_n 0, 1, 0, 0, 0, []),
  (23, .getfield 10, 3, 0, 0, 163, []),
  (26, .iload_n 1, 1, 0, 0, 0, []),
  (27, .iload_n 2, 1, 0, 0, 0, []),
  (28, .invokevirtual 212, 3, 68, 3, 576, []),
  (31, .ireturn, 1, 0, 0, 0, [])]
def cd_X_payments : List (Nat × En) := [(0, .aload_n 0, 1, 0, 0, 0, []),
  (1, .getfield 51, 3, 0, 8, 171, []),
  (4, .aload_n 0, 1, 0, 0, 0, []),
  (5, .getfield 10, 3, 0, 0, 163, []),
  (8, .getfield 215, 3, 1, 7, 50, []),
  (11, .aload_n 0, 1, 0, 0, 0, []),
  (12, .invokevirtual 117, 3, 108, 0, 331, []),
  (15, .invokevirtual 218, 3, 55, 2, 593, []),
  (18, .ireturn, 1, 0, 0, 0, [])]
def cd_X_odds : List (Nat × En) := [(0, .iload_n 1, 1, 0, 0, 0, []),
  (1, .iconst 2, 1, 0, 0, 0, []),
  (2, .if_icmp .lt 7, 3, 9, 0, 0, []),
  (5, .iload_n 2, 1, 0, 0, 0, []),
  (6, .ifCond .ge 10, 3, 16, 0, 0, []),
  (9, .aload_n 0, 1, 0, 0, 0, []),
  (10, .bipush (-4), 2, 0, 0, 0, []),
  (12, .invokevirtual 222, 3, 107, 1, 612, []),
  (15, .lreturn, 1, 0, 0, 0, []),
  (16, .iload_n 1, 1, 0, 0, 0, []),
  (17, .bipush 20, 2, 0, 0, 0, []),
  (19, .if_icmp .gt 10, 3, 29, 0, 0, []),
  (22, .iload_n 2, 1, 0, 0, 0, []),
  (23, .sipush 240, 3, 0, 0, 0, []),
  (26, .if_icmp .le 10, 3, 36, 0, 0, []),
  (29, .aload_n 0, 1, 0, 0, 0, []),
  (30, .bipush (-6), 2, 0, 0, 0, []),
  (32, .invokevirtual 222, 3, 107, 1, 612, []),
  (35, .lreturn, 1, 0, 0, 0, []),
  (36, .iload_n 3, 1, 0, 0, 0, []),
  (37, .ifCond .eq 15, 3, 52, 0, 0, []),
  (40, .iload_n 3, 1, 0, 0, 0, []),
  (41, .iconst 1, 1, 0, 0, 0, []),
  (42, .if_icmp .eq 10, 3, 52, 0, 0, []),
  (45, .aload_n 0, 1, 0, 0, 0, []),
  (46, .bipush (-2), 2, 0, 0, 0, []),
  (48, .invokevirtual 222, 3, 107, 1, 612, []),
  (51, .lreturn, 1, 0, 0, 0, []),
  (52, .aload_n 0, 1, 0, 0, 0, []),
  (53, .getfield 44, 3, 0, 7, 170, []),
  (56, .aload_n 0, 1, 0, 0, 0, []),
  (57, .getfield 10, 3, 0, 0, 163, []),
  (60, .iload_n 1, 1, 0, 0, 0, []),
  (61, .iload_n 2, 1, 0, 0, 0, []),
  (62, .invokevirtual 226, 3, 70, 3, 617, []),
  (65, .lstore 4, 2, 0, 0, 0, []),
  (67, .iload_n 1, 1, 0, 0, 0, []),
  (68, .i2l, 1, 0, 0, 0, []),
  (69, .aload_n 0, 1, 0, 0, 0, []),
  (70, .getfield 10, 3, 0, 0, 163, []),
  (73, .getfield 230, 3, 1, 8, 54, []),
  (76, .invokestatic 233, 3, 113, 2, 624, []),
  (79, .lstore 6, 2, 0, 0, 0, []),
  (81, .lconst 1, 1, 0, 0, 0, []),
  (82, .lload 4, 2, 0, 0, 0, []),
  (84, .lload 6, 2, 0, 0, 0, []),
  (86, .invokestatic 237, 3, 114, 2, 625, []),
  (89, .invokestatic 241, 3, 2, 2, 628, []),
  (92, .lstore 8, 2, 0, 0, 0, []),
  (94, .iload_n 3, 1, 0, 0, 0, []),
  (95, .ifCond .ne 8, 3, 103, 0, 0, []),
  (98, .lload 4, 2, 0, 0, 0, []),
  (100, .goto 5, 3, 105, 0, 0, []),
  (103, .lload 6, 2, 0, 0, 0, []),
  (105, .lload 8, 2, 0, 0, 0, []),
  (107, .ldiv, 1, 0, 0, 0, []),
  (108, .lreturn, 1, 0, 0, 0, [])]
def cd_X_row : List (Nat × En) := [(0, .iload_n 1, 1, 0, 0, 0, []),
  (1, .ifCond .ge 10, 3, 11, 0, 0, []),
  (4, .aload_n 0, 1, 0, 0, 0, []),
  (5, .bipush (-4), 2, 0, 0, 0, []),
  (7, .invokevirtual 55, 3, 106, 1, 195, []),
  (10, .ireturn, 1, 0, 0, 0, []),
  (11, .iload_n 1, 1, 0, 0, 0, []),
  (12, .bipush 99, 2, 0, 0, 0, []),
  (14, .if_icmp .gt 15, 3, 29, 0, 0, []),
  (17, .aload_n 0, 1, 0, 0, 0, []),
  (18, .getfield 34, 3, 0, 5, 168, []),
  (21, .aload_n 0, 1, 0, 0, 0, []),
  (22, .getfield 30, 3, 0, 4, 167, []),
  (25, .arraylength, 1, 0, 0, 0, []),
  (26, .if_icmp .lt 10, 3, 36, 0, 0, []),
  (29, .aload_n 0, 1, 0, 0, 0, []),
  (30, .bipush (-6), 2, 0, 0, 0, []),
  (32, .invokevirtual 55, 3, 106, 1, 195, []),
  (35, .ireturn, 1, 0, 0, 0, []),
  (36, .aload_n 0, 1, 0, 0, 0, []),
  (37, .getfield 30, 3, 0, 4, 167, []),
  (40, .aload_n 0, 1, 0, 0, 0, []),
  (41, .getfield 34, 3, 0, 5, 168, []),
  (44, .iload_n 1, 1, 0, 0, 0, []),
  (45, .iastore, 1, 0, 0, 0, []),
  (46, .aload_n 0, 1, 0, 0, 0, []),
  (47, .dup, 1, 0, 0, 0, []),
  (48, .getfield 34, 3, 0, 5, 168, []),
  (51, .iconst 1, 1, 0, 0, 0, []),
  (52, .iadd, 1, 0, 0, 0, []),
  (53, .putfield 34, 3, 0, 5, 168, []),
  (56, .aload_n 0, 1, 0, 0, 0, []),
  (57, .getfield 34, 3, 0, 5, 168, []),
  (60, .ireturn, 1, 0, 0, 0, [])]
def cd_X_judge : List (Nat × En) := [(0, .aload_n 0, 1, 0, 0, 0, []),
  (1, .aload_n 0, 1, 0, 0, 0, []),
  (2, .invokevirtual 117, 3, 108, 0, 331, []),
  (5, .invokevirtual 246, 3, 112, 1, 639, []),
  (8, .istore_n 1, 1, 0, 0, 0, []),
  (9, .aload_n 0, 1, 0, 0, 0, []),
  (10, .iconst 0, 1, 0, 0, 0, []),
  (11, .putfield 34, 3, 0, 5, 168, []),
  (14, .iload_n 1, 1, 0, 0, 0, []),
  (15, .ireturn, 1, 0, 0, 0, [])]
def cd_X_clear : List (Nat × En) := [(0, .aload_n 0, 1, 0, 0, 0, []),
  (1, .getfield 34, 3, 0, 5, 168, []),
  (4, .istore_n 1, 1, 0, 0, 0, []),
  (5, .aload_n 0, 1, 0, 0, 0, []),
  (6, .iconst 0, 1, 0, 0, 0, []),
  (7, .putfield 34, 3, 0, 5, 168, []),
  (10, .iload_n 1, 1, 0, 0, 0, []),
  (11, .ireturn, 1, 0, 0, 0, [])]
def cd_X_lots : List (Nat × En) := [(0, .iload_n 1, 1, 0, 0, 0, []),
  (1, .iconst 1, 1, 0, 0, 0, []),
  (2, .if_icmp .ge 10, 3, 12, 0, 0, []),
  (5, .aload_n 0, 1, 0, 0, 0, []),
  (6, .bipush (-4), 2, 0, 0, 0, []),
  (8, .invokevirtual 55, 3, 106, 1, 195, []),
  (11, .ireturn, 1, 0, 0, 0, []),
  (12, .iload_n 1, 1, 0, 0, 0, []),
  (13, .bipush 20, 2, 0, 0, 0, []),
  (15, .if_icmp .le 10, 3, 25, 0, 0, []),
  (18, .aload_n 0, 1, 0, 0, 0, []),
  (19, .bipush (-6), 2, 0, 0, 0, []),
  (21, .invokevirtual 55, 3, 106, 1, 195, []),
  (24, .ireturn, 1, 0, 0, 0, []),
  (25, .iload_n 3, 1, 0, 0, 0, []),
  (26, .ifCond .eq 15, 3, 41, 0, 0, []),
  (29, .iload_n 3, 1, 0, 0, 0, []),
  (30, .iconst 1, 1, 0, 0, 0, []),
  (31, .if_icmp .eq 10, 3, 41, 0, 0, []),
  (34, .aload_n 0, 1, 0, 0, 0, []),
  (35, .bipush (-2), 2, 0, 0, 0, []),
  (37, .invokevirtual 55, 3, 106, 1, 195, []),
  (40, .ireturn, 1, 0, 0, 0, []),
  (41, .aload_n 0, 1, 0, 0, 0, []),
  (42, .getfield 44, 3, 0, 7, 170, []),
  (45, .aload_n 0, 1, 0, 0, 0, []),
  (46, .getfield 10, 3, 0, 0, 163, []),
  (49, .iload_n 1, 1, 0, 0, 0, []),
  (50, .iload_n 2, 1, 0, 0, 0, []),
  (51, .iload_n 3, 1, 0, 0, 0, []),
  (52, .invokevirtual 250, 3, 71, 4, 651, []),
  (55, .ireturn, 1, 0, 0, 0, [])]
def cd_X_image : List (Nat × En) := [(0, .aload_n 0, 1, 0, 0, 0, []),
  (1, .getfield 16, 3, 0, 1, 164, []),
  (4, .aload_n 0, 1, 0, 0, 0, []),
  (5, .getfield 10, 3, 0, 0, 163, []),
  (8, .invokevirtual 254, 3, 8, 1, 232, []),
  (11, .aload_n 0, 1, 0, 0, 0, []),
  (12, .iconst 1, 1, 0, 0, 0, []),
  (13, .putfield 19, 3, 0, 2, 165, []),
  (16, .aload_n 0, 1, 0, 0, 0, []),
  (17, .getfield 10, 3, 0, 0, 163, []),
  (20, .getfield 215, 3, 1, 7, 50, []),
  (23, .ireturn, 1, 0, 0, 0, [])]
def cd_X_on : List (Nat × En) := [(0, .aload_n 0, 1, 0, 0, 0, []),
  (1, .getfield 19, 3, 0, 2, 165, []),
  (4, .ifCond .ne 10, 3, 14, 0, 0, []),
  (7, .aload_n 0, 1, 0, 0, 0, []),
  (8, .bipush (-3), 2, 0, 0, 0, []),
  (10, .invokevirtual 55, 3, 106, 1, 195, []),
  (13, .ireturn, 1, 0, 0, 0, []),
  (14, .aload_n 0, 1, 0, 0, 0, []),
  (15, .getfield 10, 3, 0, 0, 163, []),
  (18, .aload_n 0, 1, 0, 0, 0, []),
  (19, .getfield 16, 3, 0, 1, 164, []),
  (22, .invokevirtual 254, 3, 8, 1, 232, []),
  (25, .aload_n 0, 1, 0, 0, 0, []),
  (26, .getfield 10, 3, 0, 0, 163, []),
  (29, .getfield 215, 3, 1, 7, 50, []),
  (32, .ireturn, 1, 0, 0, 0, [])]
def cd_X_count : List (Nat × En) := [(0, .iload_n 1, 1, 0, 0, 0, []),
  (1, .bipush 11, 2, 0, 0, 0, []),
  (3, .if_icmp .lt 19, 3, 22, 0, 0, []),
  (6, .iload_n 1, 1, 0, 0, 0, []),
  (7, .bipush 16, 2, 0, 0, 0, []),
  (9, .if_icmp .gt 13, 3, 22, 0, 0, []),
  (12, .aload_n 0, 1, 0, 0, 0, []),
  (13, .getfield 38, 3, 0, 6, 169, []),
  (16, .iload_n 1, 1, 0, 0, 0, []),
  (17, .bipush 10, 2, 0, 0, 0, []),
  (19, .isub, 1, 0, 0, 0, []),
  (20, .iaload, 1, 0, 0, 0, []),
  (21, .ireturn, 1, 0, 0, 0, []),
  (22, .iload_n 1, 1, 0, 0, 0, []),
  (23, .tableswitch 106 0 7 #[45, 53, 61, 69, 77, 85, 93, 98], 45, 129, 0, 0, [(0, 68), (1, 76), (2, 84), (3, 92), (4, 100), (5, 108), (6, 116), (7, 121)]),
  (68, .aload_n 0, 1, 0, 0, 0, []),
  (69, .getfield 10, 3, 0, 0, 163, []),
  (72, .getfield 215, 3, 1, 7, 50, []),
  (75, .ireturn, 1, 0, 0, 0, []),
  (76, .aload_n 0, 1, 0, 0, 0, []),
  (77, .getfield 10, 3, 0, 0, 163, []),
  (80, .getfield 230, 3, 1, 8, 54, []),
  (83, .ireturn, 1, 0, 0, 0, []),
  (84, .aload_n 0, 1, 0, 0, 0, []),
  (85, .getfield 10, 3, 0, 0, 163, []),
  (88, .getfield 111, 3, 1, 9, 58, []),
  (91, .ireturn, 1, 0, 0, 0, []),
  (92, .aload_n 0, 1, 0, 0, 0, []),
  (93, .getfield 10, 3, 0, 0, 163, []),
  (96, .getfield 114, 3, 1, 10, 60, []),
  (99, .ireturn, 1, 0, 0, 0, []),
  (100, .aload_n 0, 1, 0, 0, 0, []),
  (101, .getfield 10, 3, 0, 0, 163, []),
  (104, .invokevirtual 258, 3, 22, 0, 670, []),
  (107, .ireturn, 1, 0, 0, 0, []),
  (108, .aload_n 0, 1, 0, 0, 0, []),
  (109, .getfield 10, 3, 0, 0, 163, []),
  (112, .invokevirtual 259, 3, 23, 0, 674, []),
  (115, .ireturn, 1, 0, 0, 0, []),
  (116, .aload_n 0, 1, 0, 0, 0, []),
  (117, .getfield 34, 3, 0, 5, 168, []),
  (120, .ireturn, 1, 0, 0, 0, []),
  (121, .aload_n 0, 1, 0, 0, 0, []),
  (122, .getfield 26, 3, 0, 3, 166, []),
  (125, .getfield 59, 3, 2, 1, 93, []),
  (128, .ireturn, 1, 0, 0, 0, []),
  (129, .bipush (-9), 2, 0, 0, 0, []),
  (131, .ireturn, 1, 0, 0, 0, [])]
def cd_X_refuse : List (Nat × En) := [(0, .iload_n 1, 1, 0, 0, 0, []),
  (1, .ineg, 1, 0, 0, 0, []),
  (2, .istore_n 2, 1, 0, 0, 0, []),
  (3, .iload_n 2, 1, 0, 0, 0, []),
  (4, .ifCond .lt 22, 3, 26, 0, 0, []),
  (7, .iload_n 2, 1, 0, 0, 0, []),
  (8, .aload_n 0, 1, 0, 0, 0, []),
  (9, .getfield 38, 3, 0, 6, 169, []),
  (12, .arraylength, 1, 0, 0, 0, []),
  (13, .if_icmp .ge 13, 3, 26, 0, 0, []),
  (16, .aload_n 0, 1, 0, 0, 0, []),
  (17, .getfield 38, 3, 0, 6, 169, []),
  (20, .iload_n 2, 1, 0, 0, 0, []),
  (21, .dup2, 1, 0, 0, 0, []),
  (22, .iaload, 1, 0, 0, 0, []),
  (23, .iconst 1, 1, 0, 0, 0, []),
  (24, .iadd, 1, 0, 0, 0, []),
  (25, .iastore, 1, 0, 0, 0, []),
  (26, .iload_n 1, 1, 0, 0, 0, []),
  (27, .ireturn, 1, 0, 0, 0, [])]
def cd_X_refuseLong : List (Nat × En) := [(0, .ldc2_w 262, 3, 0, 0, 616, [(4000000000000000000, 0)]),
  (3, .aload_n 0, 1, 0, 0, 0, []),
  (4, .iload_n 1, 1, 0, 0, 0, []),
  (5, .invokevirtual 55, 3, 106, 1, 195, []),
  (8, .i2l, 1, 0, 0, 0, []),
  (9, .lsub, 1, 0, 0, 0, []),
  (10, .lreturn, 1, 0, 0, 0, [])]
def cd_X_eveningNow : List (Nat × En) := [(0, .aload_n 0, 1, 0, 0, 0, []),
  (1, .getfield 44, 3, 0, 7, 170, []),
  (4, .getfield 264, 3, 4, 1, 144, []),
  (7, .aload_n 0, 1, 0, 0, 0, []),
  (8, .getfield 10, 3, 0, 0, 163, []),
  (11, .invokevirtual 254, 3, 8, 1, 232, []),
  (14, .aload_n 0, 1, 0, 0, 0, []),
  (15, .getfield 44, 3, 0, 7, 170, []),
  (18, .getfield 267, 3, 4, 0, 142, []),
  (21, .iconst 0, 1, 0, 0, 0, []),
  (22, .invokevirtual 271, 3, 28, 1, 335, []),
  (25, .aload_n 0, 1, 0, 0, 0, []),
  (26, .getfield 44, 3, 0, 7, 170, []),
  (29, .getfield 267, 3, 4, 0, 142, []),
  (32, .areturn, 1, 0, 0, 0, [])]
def cd_X_become : List (Nat × En) := [(0, .aload_n 0, 1, 0, 0, 0, []),
  (1, .getfield 26, 3, 0, 3, 166, []),
  (4, .invokevirtual 274, 3, 50, 0, 211, []),
  (7, .istore_n 1, 1, 0, 0, 0, []),
  (8, .iload_n 1, 1, 0, 0, 0, []),
  (9, .ifCond .lt 9, 3, 18, 0, 0, []),
  (12, .sipush (-1000), 3, 0, 0, 0, []),
  (15, .iload_n 1, 1, 0, 0, 0, []),
  (16, .isub, 1, 0, 0, 0, []),
  (17, .ireturn, 1, 0, 0, 0, []),
  (18, .aload_n 0, 1, 0, 0, 0, []),
  (19, .getfield 44, 3, 0, 7, 170, []),
  (22, .getfield 264, 3, 4, 1, 144, []),
  (25, .astore_n 2, 1, 0, 0, 0, []),
  (26, .aload_n 2, 1, 0, 0, 0, []),
  (27, .aload_n 0, 1, 0, 0, 0, []),
  (28, .getfield 10, 3, 0, 0, 163, []),
  (31, .invokevirtual 254, 3, 8, 1, 232, []),
  (34, .iconst 0, 1, 0, 0, 0, []),
  (35, .istore_n 3, 1, 0, 0, 0, []),
  (36, .iconst 0, 1, 0, 0, 0, []),
  (37, .istore 4, 2, 0, 0, 0, []),
  (39, .iload_n 3, 1, 0, 0, 0, []),
  (40, .bipush 96, 2, 0, 0, 0, []),
  (42, .if_icmp .ge 58, 3, 100, 0, 0, []),
  (45, .iload 4, 2, 0, 0, 0, []),
  (47, .aload_n 0, 1, 0, 0, 0, []),
  (48, .getfield 26, 3, 0, 3, 166, []),
  (51, .getfield 59, 3, 2, 1, 93, []),
  (54, .if_icmp .ge 46, 3, 100, 0, 0, []),
  (57, .aload_n 0, 1, 0, 0, 0, []),
  (58, .getfield 26, 3, 0, 3, 166, []),
  (61, .aload_n 2, 1, 0, 0, 0, []),
  (62, .iload 4, 2, 0, 0, 0, []),
  (64, .invokevirtual 277, 3, 53, 2, 236, []),
  (67, .ifCond .ne 10, 3, 77, 0, 0, []),
  (70, .sipush (-2000), 3, 0, 0, 0, []),
  (73, .iload 4, 2, 0, 0, 0, []),
  (75, .isub, 1, 0, 0, 0, []),
  (76, .ireturn, 1, 0, 0, 0, []),
  (77, .iload 4, 2, 0, 0, 0, []),
  (79, .aload_n 0, 1, 0, 0, 0, []),
  (80, .getfield 26, 3, 0, 3, 166, []),
  (83, .iload 4, 2, 0, 0, 0, []),
  (85, .invokevirtual 281, 3, 47, 1, 276, []),
  (88, .invokestatic 284, 3, 48, 1, 277, []),
  (91, .iadd, 1, 0, 0, 0, []),
  (92, .istore 4, 2, 0, 0, 0, []),
  (94, .iinc 3 1, 3, 0, 0, 0, []),
  (97, .goto (-58), 3, 39, 0, 0, []),
  (100, .aload_n 0, 1, 0, 0, 0, []),
  (101, .getfield 10, 3, 0, 0, 163, []),
  (104, .aload_n 2, 1, 0, 0, 0, []),
  (105, .invokevirtual 254, 3, 8, 1, 232, []),
  (108, .iload_n 3, 1, 0, 0, 0, []),
  (109, .ireturn, 1, 0, 0, 0, [])]
def cd_X_kindsAsTold : List (Nat × En) := [(0, .aload_n 0, 1, 0, 0, 0, []),
  (1, .getfield 44, 3, 0, 7, 170, []),
  (4, .getfield 264, 3, 4, 1, 144, []),
  (7, .astore_n 3, 1, 0, 0, 0, []),
  (8, .aload_n 3, 1, 0, 0, 0, []),
  (9, .aload_n 0, 1, 0, 0, 0, []),
  (10, .getfield 10, 3, 0, 0, 163, []),
  (13, .invokevirtual 254, 3, 8, 1, 232, []),
  (16, .iconst 0, 1, 0, 0, 0, []),
  (17, .istore 4, 2, 0, 0, 0, []),
  (19, .iconst 0, 1, 0, 0, 0, []),
  (20, .istore 5, 2, 0, 0, 0, []),
  (22, .iload 5, 2, 0, 0, 0, []),
  (24, .bipush 6, 2, 0, 0, 0, []),
  (26, .if_icmp .ge 49, 3, 75, 0, 0, []),
  (29, .aload_n 3, 1, 0, 0, 0, []),
  (30, .getfield 83, 3, 1, 2, 31, []),
  (33, .iload_n 2, 1, 0, 0, 0, []),
  (34, .iload 5, 2, 0, 0, 0, []),
  (36, .iastore, 1, 0, 0, 0, []),
  (37, .iload 4, 2, 0, 0, 0, []),
  (39, .aload_n 0, 1, 0, 0, 0, []),
  (40, .getfield 44, 3, 0, 7, 170, []),
  (43, .iload_n 1, 1, 0, 0, 0, []),
  (44, .aload_n 0, 1, 0, 0, 0, []),
  (45, .getfield 30, 3, 0, 4, 167, []),
  (48, .aload_n 0, 1, 0, 0, 0, []),
  (49, .getfield 34, 3, 0, 5, 168, []),
  (52, .invokevirtual 287, 3, 67, 3, 563, []),
  (55, .ifCond .eq 10, 3, 65, 0, 0, []),
  (58, .iconst 1, 1, 0, 0, 0, []),
  (59, .iload 5, 2, 0, 0, 0, []),
  (61, .ishl, 1, 0, 0, 0, []),
  (62, .goto 4, 3, 66, 0, 0, []),
  (65, .iconst 0, 1, 0, 0, 0, []),
  (66, .ior, 1, 0, 0, 0, []),
  (67, .istore 4, 2, 0, 0, 0, []),
  (69, .iinc 5 1, 3, 0, 0, 0, []),
  (72, .goto (-50), 3, 22, 0, 0, []),
  (75, .iload 4, 2, 0, 0, 0, []),
  (77, .ireturn, 1, 0, 0, 0, [])]
def cd_X_topicsAsTold : List (Nat × En) := [(0, .aload_n 0, 1, 0, 0, 0, []),
  (1, .getfield 44, 3, 0, 7, 170, []),
  (4, .getfield 264, 3, 4, 1, 144, []),
  (7, .astore_n 3, 1, 0, 0, 0, []),
  (8, .aload_n 3, 1, 0, 0, 0, []),
  (9, .aload_n 0, 1, 0, 0, 0, []),
  (10, .getfield 10, 3, 0, 0, 163, []),
  (13, .invokevirtual 254, 3, 8, 1, 232, []),
  (16, .iconst 0, 1, 0, 0, 0, []),
  (17, .istore 4, 2, 0, 0, 0, []),
  (19, .iconst 0, 1, 0, 0, 0, []),
  (20, .istore 5, 2, 0, 0, 0, []),
  (22, .iload 5, 2, 0, 0, 0, []),
  (24, .bipush 8, 2, 0, 0, 0, []),
  (26, .if_icmp .ge 49, 3, 75, 0, 0, []),
  (29, .aload_n 3, 1, 0, 0, 0, []),
  (30, .getfield 92, 3, 1, 5, 42, []),
  (33, .iload_n 2, 1, 0, 0, 0, []),
  (34, .iload 5, 2, 0, 0, 0, []),
  (36, .iastore, 1, 0, 0, 0, []),
  (37, .iload 4, 2, 0, 0, 0, []),
  (39, .aload_n 0, 1, 0, 0, 0, []),
  (40, .getfield 44, 3, 0, 7, 170, []),
  (43, .iload_n 1, 1, 0, 0, 0, []),
  (44, .aload_n 0, 1, 0, 0, 0, []),
  (45, .getfield 30, 3, 0, 4, 167, []),
  (48, .aload_n 0, 1, 0, 0, 0, []),
  (49, .getfield 34, 3, 0, 5, 168, []),
  (52, .invokevirtual 287, 3, 67, 3, 563, []),
  (55, .ifCond .eq 10, 3, 65, 0, 0, []),
  (58, .iconst 1, 1, 0, 0, 0, []),
  (59, .iload 5, 2, 0, 0, 0, []),
  (61, .ishl, 1, 0, 0, 0, []),
  (62, .goto 4, 3, 66, 0, 0, []),
  (65, .iconst 0, 1, 0, 0, 0, []),
  (66, .ior, 1, 0, 0, 0, []),
  (67, .istore 4, 2, 0, 0, 0, []),
  (69, .iinc 5 1, 3, 0, 0, 0, []),
  (72, .goto (-50), 3, 22, 0, 0, []),
  (75, .iload 4, 2, 0, 0, 0, []),
  (77, .ireturn, 1, 0, 0, 0, [])]
def cd_X_firstUntrue : List (Nat × En) := [(0, .iconst 0, 1, 0, 0, 0, []),
  (1, .istore_n 2, 1, 0, 0, 0, []),
  (2, .iload_n 2, 1, 0, 0, 0, []),
  (3, .aload_n 0, 1, 0, 0, 0, []),
  (4, .getfield 34, 3, 0, 5, 168, []),
  (7, .if_icmp .ge 38, 3, 45, 0, 0, []),
  (10, .iload_n 2, 1, 0, 0, 0, []),
  (11, .aload_n 0, 1, 0, 0, 0, []),
  (12, .getfield 30, 3, 0, 4, 167, []),
  (15, .arraylength, 1, 0, 0, 0, []),
  (16, .if_icmp .ge 29, 3, 45, 0, 0, []),
  (19, .aload_n 0, 1, 0, 0, 0, []),
  (20, .getfield 30, 3, 0, 4, 167, []),
  (23, .iload_n 2, 1, 0, 0, 0, []),
  (24, .iaload, 1, 0, 0, 0, []),
  (25, .aload_n 1, 1, 0, 0, 0, []),
  (26, .iconst 5, 1, 0, 0, 0, []),
  (27, .iload_n 2, 1, 0, 0, 0, []),
  (28, .iconst 1, 1, 0, 0, 0, []),
  (29, .iadd, 1, 0, 0, 0, []),
  (30, .imul, 1, 0, 0, 0, []),
  (31, .invokevirtual 129, 3, 40, 1, 405, []),
  (34, .if_icmp .eq 5, 3, 39, 0, 0, []),
  (37, .iload_n 2, 1, 0, 0, 0, []),
  (38, .ireturn, 1, 0, 0, 0, []),
  (39, .iinc 2 1, 3, 0, 0, 0, []),
  (42, .goto (-40), 3, 2, 0, 0, []),
  (45, .bipush (-9), 2, 0, 0, 0, []),
  (47, .ireturn, 1, 0, 0, 0, [])]
def cd_X_power : List (Nat × En) := [(0, .lconst 1, 1, 0, 0, 0, []),
  (1, .lstore_n 3, 1, 0, 0, 0, []),
  (2, .iconst 0, 1, 0, 0, 0, []),
  (3, .istore 5, 2, 0, 0, 0, []),
  (5, .iload 5, 2, 0, 0, 0, []),
  (7, .iload_n 2, 1, 0, 0, 0, []),
  (8, .if_icmp .ge 13, 3, 21, 0, 0, []),
  (11, .lload_n 3, 1, 0, 0, 0, []),
  (12, .lload_n 0, 1, 0, 0, 0, []),
  (13, .lmul, 1, 0, 0, 0, []),
  (14, .lstore_n 3, 1, 0, 0, 0, []),
  (15, .iinc 5 1, 3, 0, 0, 0, []),
  (18, .goto (-13), 3, 5, 0, 0, []),
  (21, .lload_n 3, 1, 0, 0, 0, []),
  (22, .lreturn, 1, 0, 0, 0, [])]
def cd_X_greatestDivisor : List (Nat × En) := [(0, .lload_n 0, 1, 0, 0, 0, []),
  (1, .lstore 4, 2, 0, 0, 0, []),
  (3, .lload_n 2, 1, 0, 0, 0, []),
  (4, .lstore 6, 2, 0, 0, 0, []),
  (6, .iconst 0, 1, 0, 0, 0, []),
  (7, .istore 8, 2, 0, 0, 0, []),
  (9, .iload 8, 2, 0, 0, 0, []),
  (11, .bipush 100, 2, 0, 0, 0, []),
  (13, .if_icmp .ge 31, 3, 44, 0, 0, []),
  (16, .lload 6, 2, 0, 0, 0, []),
  (18, .lconst 0, 1, 0, 0, 0, []),
  (19, .lcmp, 1, 0, 0, 0, []),
  (20, .ifCond .eq 24, 3, 44, 0, 0, []),
  (23, .lload 4, 2, 0, 0, 0, []),
  (25, .lload 6, 2, 0, 0, 0, []),
  (27, .lrem, 1, 0, 0, 0, []),
  (28, .lstore 9, 2, 0, 0, 0, []),
  (30, .lload 6, 2, 0, 0, 0, []),
  (32, .lstore 4, 2, 0, 0, 0, []),
  (34, .lload 9, 2, 0, 0, 0, []),
  (36, .lstore 6, 2, 0, 0, 0, []),
  (38, .iinc 8 1, 3, 0, 0, 0, []),
  (41, .goto (-32), 3, 9, 0, 0, []),
  (44, .lload 4, 2, 0, 0, 0, []),
  (46, .lreturn, 1, 0, 0, 0, [])]
def cd_Mo_no : List (Nat × En) := [(0, .aload_n 0, 1, 0, 0, 0, []),
  (1, .getfield 7, 3, 6, 11, 684, []),
  (4, .iload_n 1, 1, 0, 0, 0, []),
  (5, .ineg, 1, 0, 0, 0, []),
  (6, .dup2, 1, 0, 0, 0, []),
  (7, .iaload, 1, 0, 0, 0, []),
  (8, .iconst 1, 1, 0, 0, 0, []),
  (9, .iadd, 1, 0, 0, 0, []),
  (10, .iastore, 1, 0, 0, 0, []),
  (11, .iload_n 1, 1, 0, 0, 0, []),
  (12, .ireturn, 1, 0, 0, 0, [])]
def cd_Mo_lower : List (Nat × En) := [(0, .aload_n 0, 1, 0, 0, 0, []),
  (1, .getfield 7, 3, 6, 11, 684, []),
  (4, .iload_n 1, 1, 0, 0, 0, []),
  (5, .ineg, 1, 0, 0, 0, []),
  (6, .dup2, 1, 0, 0, 0, []),
  (7, .iaload, 1, 0, 0, 0, []),
  (8, .iconst 1, 1, 0, 0, 0, []),
  (9, .iadd, 1, 0, 0, 0, []),
  (10, .iastore, 1, 0, 0, 0, []),
  (11, .ldc 86, 2, 0, 0, 990, [(1000000000, 0)]),
  (13, .iload_n 1, 1, 0, 0, 0, []),
  (14, .isub, 1, 0, 0, 0, []),
  (15, .ireturn, 1, 0, 0, 0, [])]
def cd_Mo_lowest : List (Nat × En) := [(0, .aload_n 0, 1, 0, 0, 0, []),
  (1, .getfield 7, 3, 6, 11, 684, []),
  (4, .iload_n 1, 1, 0, 0, 0, []),
  (5, .ineg, 1, 0, 0, 0, []),
  (6, .dup2, 1, 0, 0, 0, []),
  (7, .iaload, 1, 0, 0, 0, []),
  (8, .iconst 1, 1, 0, 0, 0, []),
  (9, .iadd, 1, 0, 0, 0, []),
  (10, .iastore, 1, 0, 0, 0, []),
  (11, .ldc2_w 87, 3, 0, 0, 1075, [(4000000000000000000, 0)]),
  (14, .iload_n 1, 1, 0, 0, 0, []),
  (15, .i2l, 1, 0, 0, 0, []),
  (16, .lsub, 1, 0, 0, 0, []),
  (17, .lreturn, 1, 0, 0, 0, [])]
def cd_Mo_isIn : List (Nat × En) := [(0, .iload_n 0, 1, 0, 0, 0, []),
  (1, .iload_n 1, 1, 0, 0, 0, []),
  (2, .if_icmp .lt 12, 3, 14, 0, 0, []),
  (5, .iload_n 0, 1, 0, 0, 0, []),
  (6, .iload_n 2, 1, 0, 0, 0, []),
  (7, .if_icmp .gt 7, 3, 14, 0, 0, []),
  (10, .iconst 1, 1, 0, 0, 0, []),
  (11, .goto 4, 3, 15, 0, 0, []),
  (14, .iconst 0, 1, 0, 0, 0, []),
  (15, .ireturn, 1, 1, 0, 0, [])]
def cd_Mo_bound : List (Nat × En) := [(0, .iload_n 0, 1, 0, 0, 0, []),
  (1, .iload_n 1, 1, 0, 0, 0, []),
  (2, .if_icmp .ge 8, 3, 10, 0, 0, []),
  (5, .bipush (-4), 2, 0, 0, 0, []),
  (7, .goto 14, 3, 21, 0, 0, []),
  (10, .iload_n 0, 1, 0, 0, 0, []),
  (11, .iload_n 2, 1, 0, 0, 0, []),
  (12, .if_icmp .le 8, 3, 20, 0, 0, []),
  (15, .bipush (-6), 2, 0, 0, 0, []),
  (17, .goto 4, 3, 21, 0, 0, []),
  (20, .iconst 0, 1, 0, 0, 0, []),
  (21, .ireturn, 1, 0, 0, 0, [])]
def cd_Mo_has : List (Nat × En) := [(0, .iload_n 0, 1, 0, 0, 0, []),
  (1, .iload_n 1, 1, 0, 0, 0, []),
  (2, .ishr, 1, 0, 0, 0, []),
  (3, .iconst 1, 1, 0, 0, 0, []),
  (4, .iand, 1, 0, 0, 0, []),
  (5, .iconst 1, 1, 0, 0, 0, []),
  (6, .if_icmp .ne 7, 3, 13, 0, 0, []),
  (9, .iconst 1, 1, 0, 0, 0, []),
  (10, .goto 4, 3, 14, 0, 0, []),
  (13, .iconst 0, 1, 0, 0, 0, []),
  (14, .ireturn, 1, 1, 0, 0, [])]
def cd_Mo_bits : List (Nat × En) := [(0, .iconst 0, 1, 0, 0, 0, []),
  (1, .istore_n 1, 1, 0, 0, 0, []),
  (2, .iconst 0, 1, 0, 0, 0, []),
  (3, .istore_n 2, 1, 0, 0, 0, []),
  (4, .iload_n 2, 1, 0, 0, 0, []),
  (5, .bipush 31, 2, 0, 0, 0, []),
  (7, .if_icmp .ge 17, 3, 24, 0, 0, []),
  (10, .iload_n 1, 1, 0, 0, 0, []),
  (11, .iload_n 0, 1, 0, 0, 0, []),
  (12, .iload_n 2, 1, 0, 0, 0, []),
  (13, .ishr, 1, 0, 0, 0, []),
  (14, .iconst 1, 1, 0, 0, 0, []),
  (15, .iand, 1, 0, 0, 0, []),
  (16, .iadd, 1, 0, 0, 0, []),
  (17, .istore_n 1, 1, 0, 0, 0, []),
  (18, .iinc 2 1, 3, 0, 0, 0, []),
  (21, .goto (-17), 3, 4, 0, 0, []),
  (24, .iload_n 1, 1, 0, 0, 0, []),
  (25, .ireturn, 1, 0, 0, 0, [])]
def cd_Mo_isGuest : List (Nat × En) := [(0, .iload_n 1, 1, 0, 0, 0, []),
  (1, .ifCond .lt 15, 3, 16, 0, 0, []),
  (4, .iload_n 1, 1, 0, 0, 0, []),
  (5, .aload_n 0, 1, 0, 0, 0, []),
  (6, .getfield 89, 3, 6, 7, 692, []),
  (9, .if_icmp .ge 7, 3, 16, 0, 0, []),
  (12, .iconst 1, 1, 0, 0, 0, []),
  (13, .goto 4, 3, 17, 0, 0, []),
  (16, .iconst 0, 1, 0, 0, 0, []),
  (17, .ireturn, 1, 1, 0, 0, [])]
def cd_Mo_areTwo : List (Nat × En) := [(0, .aload_n 0, 1, 0, 0, 0, []),
  (1, .iload_n 1, 1, 0, 0, 0, []),
  (2, .invokevirtual 92, 3, 122, 1, 860, []),
  (5, .ifCond .eq 20, 3, 25, 0, 0, []),
  (8, .aload_n 0, 1, 0, 0, 0, []),
  (9, .iload_n 2, 1, 0, 0, 0, []),
  (10, .invokevirtual 92, 3, 122, 1, 860, []),
  (13, .ifCond .eq 12, 3, 25, 0, 0, []),
  (16, .iload_n 1, 1, 0, 0, 0, []),
  (17, .iload_n 2, 1, 0, 0, 0, []),
  (18, .if_icmp .eq 7, 3, 25, 0, 0, []),
  (21, .iconst 1, 1, 0, 0, 0, []),
  (22, .goto 4, 3, 26, 0, 0, []),
  (25, .iconst 0, 1, 0, 0, 0, []),
  (26, .ireturn, 1, 1, 0, 0, [])]
def cd_Mo_isRemark : List (Nat × En) := [(0, .iload_n 1, 1, 0, 0, 0, []),
  (1, .ifCond .lt 15, 3, 16, 0, 0, []),
  (4, .iload_n 1, 1, 0, 0, 0, []),
  (5, .aload_n 0, 1, 0, 0, 0, []),
  (6, .getfield 96, 3, 6, 8, 693, []),
  (9, .if_icmp .ge 7, 3, 16, 0, 0, []),
  (12, .iconst 1, 1, 0, 0, 0, []),
  (13, .goto 4, 3, 17, 0, 0, []),
  (16, .iconst 0, 1, 0, 0, 0, []),
  (17, .ireturn, 1, 1, 0, 0, [])]
def cd_Mo_letter : List (Nat × En) := [(0, .iload_n 1, 1, 0, 0, 0, []),
  (1, .iconst 0, 1, 0, 0, 0, []),
  (2, .sipush 255, 3, 0, 0, 0, []),
  (5, .invokestatic 99, 3, 119, 3, 803, []),
  (8, .istore_n 2, 1, 0, 0, 0, []),
  (9, .iload_n 2, 1, 0, 0, 0, []),
  (10, .ifCond .ne 15, 3, 25, 0, 0, []),
  (13, .aload_n 0, 1, 0, 0, 0, []),
  (14, .getfield 103, 3, 6, 16, 700, []),
  (17, .bipush 96, 2, 0, 0, 0, []),
  (19, .if_icmp .ne 6, 3, 25, 0, 0, []),
  (22, .bipush (-6), 2, 0, 0, 0, []),
  (24, .istore_n 2, 1, 0, 0, 0, []),
  (25, .iload_n 2, 1, 0, 0, 0, []),
  (26, .ifCond .eq 9, 3, 35, 0, 0, []),
  (29, .aload_n 0, 1, 0, 0, 0, []),
  (30, .iload_n 2, 1, 0, 0, 0, []),
  (31, .invokevirtual 106, 3, 115, 1, 806, []),
  (34, .ireturn, 1, 0, 0, 0, []),
  (35, .aload_n 0, 1, 0, 0, 0, []),
  (36, .getfield 34, 3, 6, 12, 696, []),
  (39, .aload_n 0, 1, 0, 0, 0, []),
  (40, .getfield 103, 3, 6, 16, 700, []),
  (43, .iload_n 1, 1, 0, 0, 0, []),
  (44, .iastore, 1, 0, 0, 0, []),
  (45, .aload_n 0, 1, 0, 0, 0, []),
  (46, .dup, 1, 0, 0, 0, []),
  (47, .getfield 103, 3, 6, 16, 700, []),
  (50, .iconst 1, 1, 0, 0, 0, []),
  (51, .iadd, 1, 0, 0, 0, []),
  (52, .putfield 103, 3, 6, 16, 700, []),
  (55, .aload_n 0, 1, 0, 0, 0, []),
  (56, .getfield 103, 3, 6, 16, 700, []),
  (59, .ireturn, 1, 0, 0, 0, [])]
def cd_Mo_next : List (Nat × En) := [(0, .aload_n 0, 1, 0, 0, 0, []),
  (1, .getfield 110, 3, 6, 17, 701, []),
  (4, .aload_n 0, 1, 0, 0, 0, []),
  (5, .getfield 103, 3, 6, 16, 700, []),
  (8, .if_icmp .ge 15, 3, 23, 0, 0, []),
  (11, .aload_n 0, 1, 0, 0, 0, []),
  (12, .getfield 34, 3, 6, 12, 696, []),
  (15, .aload_n 0, 1, 0, 0, 0, []),
  (16, .getfield 110, 3, 6, 17, 701, []),
  (19, .iaload, 1, 0, 0, 0, []),
  (20, .goto 4, 3, 24, 0, 0, []),
  (23, .iconst (-1), 1, 0, 0, 0, []),
  (24, .ireturn, 1, 0, 0, 0, [])]
def cd_Mo_readsDigits : List (Nat × En) := [(0, .iconst 0, 1, 0, 0, 0, []),
  (1, .istore_n 3, 1, 0, 0, 0, []),
  (2, .iconst 0, 1, 0, 0, 0, []),
  (3, .istore 4, 2, 0, 0, 0, []),
  (5, .iload 4, 2, 0, 0, 0, []),
  (7, .iload_n 2, 1, 0, 0, 0, []),
  (8, .if_icmp .ge 48, 3, 56, 0, 0, []),
  (11, .aload_n 0, 1, 0, 0, 0, []),
  (12, .invokevirtual 113, 3, 126, 0, 818, []),
  (15, .bipush 48, 2, 0, 0, 0, []),
  (17, .bipush 57, 2, 0, 0, 0, []),
  (19, .invokestatic 117, 3, 118, 3, 830, []),
  (22, .ifCond .ne 5, 3, 27, 0, 0, []),
  (25, .iconst 0, 1, 0, 0, 0, []),
  (26, .ireturn, 1, 1, 0, 0, []),
  (27, .bipush 10, 2, 0, 0, 0, []),
  (29, .iload_n 3, 1, 0, 0, 0, []),
  (30, .imul, 1, 0, 0, 0, []),
  (31, .aload_n 0, 1, 0, 0, 0, []),
  (32, .invokevirtual 113, 3, 126, 0, 818, []),
  (35, .iadd, 1, 0, 0, 0, []),
  (36, .bipush 48, 2, 0, 0, 0, []),
  (38, .isub, 1, 0, 0, 0, []),
  (39, .istore_n 3, 1, 0, 0, 0, []),
  (40, .aload_n 0, 1, 0, 0, 0, []),
  (41, .dup, 1, 0, 0, 0, []),
  (42, .getfield 110, 3, 6, 17, 701, []),
  (45, .iconst 1, 1, 0, 0, 0, []),
  (46, .iadd, 1, 0, 0, 0, []),
  (47, .putfield 110, 3, 6, 17, 701, []),
  (50, .iinc 4 1, 3, 0, 0, 0, []),
  (53, .goto (-48), 3, 5, 0, 0, []),
  (56, .aload_n 0, 1, 0, 0, 0, []),
  (57, .getfield 43, 3, 6, 15, 699, []),
  (60, .iload_n 1, 1, 0, 0, 0, []),
  (61, .iload_n 3, 1, 0, 0, 0, []),
  (62, .iastore, 1, 0, 0, 0, []),
  (63, .iconst 1, 1, 0, 0, 0, []),
  (64, .ireturn, 1, 1, 0, 0, [])]
def cd_Mo_kindOf : List (Nat × En) := [(0, .iload_n 0, 1, 0, 0, 0, []),
  (1, .lookupswitch 71 #[(99, 67), (100, 63), (104, 69), (112, 65), (114, 59), (119, 61)], 59, 72, 0, 0, [(99, 68), (100, 64), (104, 70), (112, 66), (114, 60), (119, 62)]),
  (60, .iconst 0, 1, 0, 0, 0, []),
  (61, .ireturn, 1, 0, 0, 0, []),
  (62, .iconst 1, 1, 0, 0, 0, []),
  (63, .ireturn, 1, 0, 0, 0, []),
  (64, .iconst 2, 1, 0, 0, 0, []),
  (65, .ireturn, 1, 0, 0, 0, []),
  (66, .iconst 3, 1, 0, 0, 0, []),
  (67, .ireturn, 1, 0, 0, 0, []),
  (68, .iconst 4, 1, 0, 0, 0, []),
  (69, .ireturn, 1, 0, 0, 0, []),
  (70, .iconst 5, 1, 0, 0, 0, []),
  (71, .ireturn, 1, 0, 0, 0, []),
  (72, .iconst (-1), 1, 0, 0, 0, []),
  (73, .ireturn, 1, 0, 0, 0, [])]
def cd_Mo_readsRemark : List (Nat × En) := [(0, .aload_n 0, 1, 0, 0, 0, []),
  (1, .getfield 43, 3, 6, 15, 699, []),
  (4, .iload_n 1, 1, 0, 0, 0, []),
  (5, .aload_n 0, 1, 0, 0, 0, []),
  (6, .invokevirtual 113, 3, 126, 0, 818, []),
  (9, .invokestatic 121, 3, 128, 1, 837, []),
  (12, .iastore, 1, 0, 0, 0, []),
  (13, .aload_n 0, 1, 0, 0, 0, []),
  (14, .getfield 43, 3, 6, 15, 699, []),
  (17, .iload_n 1, 1, 0, 0, 0, []),
  (18, .iaload, 1, 0, 0, 0, []),
  (19, .ifCond .ge 5, 3, 24, 0, 0, []),
  (22, .iconst 0, 1, 0, 0, 0, []),
  (23, .ireturn, 1, 1, 0, 0, []),
  (24, .aload_n 0, 1, 0, 0, 0, []),
  (25, .dup, 1, 0, 0, 0, []),
  (26, .getfield 110, 3, 6, 17, 701, []),
  (29, .iconst 1, 1, 0, 0, 0, []),
  (30, .iadd, 1, 0, 0, 0, []),
  (31, .putfield 110, 3, 6, 17, 701, []),
  (34, .aload_n 0, 1, 0, 0, 0, []),
  (35, .iload_n 1, 1, 0, 0, 0, []),
  (36, .iconst 1, 1, 0, 0, 0, []),
  (37, .iadd, 1, 0, 0, 0, []),
  (38, .iconst 1, 1, 0, 0, 0, []),
  (39, .invokevirtual 124, 3, 127, 2, 826, []),
  (42, .ifCond .eq 40, 3, 82, 0, 0, []),
  (45, .aload_n 0, 1, 0, 0, 0, []),
  (46, .iload_n 1, 1, 0, 0, 0, []),
  (47, .iconst 2, 1, 0, 0, 0, []),
  (48, .iadd, 1, 0, 0, 0, []),
  (49, .iconst 1, 1, 0, 0, 0, []),
  (50, .invokevirtual 124, 3, 127, 2, 826, []),
  (53, .ifCond .eq 29, 3, 82, 0, 0, []),
  (56, .aload_n 0, 1, 0, 0, 0, []),
  (57, .iload_n 1, 1, 0, 0, 0, []),
  (58, .iconst 3, 1, 0, 0, 0, []),
  (59, .iadd, 1, 0, 0, 0, []),
  (60, .iconst 1, 1, 0, 0, 0, []),
  (61, .invokevirtual 124, 3, 127, 2, 826, []),
  (64, .ifCond .eq 18, 3, 82, 0, 0, []),
  (67, .aload_n 0, 1, 0, 0, 0, []),
  (68, .iload_n 1, 1, 0, 0, 0, []),
  (69, .iconst 4, 1, 0, 0, 0, []),
  (70, .iadd, 1, 0, 0, 0, []),
  (71, .iconst 2, 1, 0, 0, 0, []),
  (72, .invokevirtual 124, 3, 127, 2, 826, []),
  (75, .ifCond .eq 7, 3, 82, 0, 0, []),
  (78, .iconst 1, 1, 0, 0, 0, []),
  (79, .goto 4, 3, 83, 0, 0, []),
  (82, .iconst 0, 1, 0, 0, 0, []),
  (83, .ireturn, 1, 1, 0, 0, [])]
def cd_Mo_readsAll : List (Nat × En) := [(0, .iload_n 1, 1, 0, 0, 0, []),
  (1, .lookupswitch 127 #[(103, 43), (109, 101), (114, 69), (120, 75)], 43, 128, 0, 0, [(103, 44), (109, 102), (114, 70), (120, 76)]),
  (44, .aload_n 0, 1, 0, 0, 0, []),
  (45, .iload_n 2, 1, 0, 0, 0, []),
  (46, .iconst 3, 1, 0, 0, 0, []),
  (47, .invokevirtual 124, 3, 127, 2, 826, []),
  (50, .ifCond .eq 18, 3, 68, 0, 0, []),
  (53, .aload_n 0, 1, 0, 0, 0, []),
  (54, .iload_n 2, 1, 0, 0, 0, []),
  (55, .iconst 1, 1, 0, 0, 0, []),
  (56, .iadd, 1, 0, 0, 0, []),
  (57, .iconst 2, 1, 0, 0, 0, []),
  (58, .invokevirtual 124, 3, 127, 2, 826, []),
  (61, .ifCond .eq 7, 3, 68, 0, 0, []),
  (64, .iconst 1, 1, 0, 0, 0, []),
  (65, .goto 4, 3, 69, 0, 0, []),
  (68, .iconst 0, 1, 0, 0, 0, []),
  (69, .ireturn, 1, 1, 0, 0, []),
  (70, .aload_n 0, 1, 0, 0, 0, []),
  (71, .iload_n 2, 1, 0, 0, 0, []),
  (72, .invokevirtual 128, 3, 129, 1, 833, []),
  (75, .ireturn, 1, 1, 0, 0, []),
  (76, .aload_n 0, 1, 0, 0, 0, []),
  (77, .iload_n 2, 1, 0, 0, 0, []),
  (78, .iconst 1, 1, 0, 0, 0, []),
  (79, .invokevirtual 124, 3, 127, 2, 826, []),
  (82, .ifCond .eq 18, 3, 100, 0, 0, []),
  (85, .aload_n 0, 1, 0, 0, 0, []),
  (86, .iload_n 2, 1, 0, 0, 0, []),
  (87, .iconst 1, 1, 0, 0, 0, []),
  (88, .iadd, 1, 0, 0, 0, []),
  (89, .iconst 1, 1, 0, 0, 0, []),
  (90, .invokevirtual 124, 3, 127, 2, 826, []),
  (93, .ifCond .eq 7, 3, 100, 0, 0, []),
  (96, .iconst 1, 1, 0, 0, 0, []),
  (97, .goto 4, 3, 101, 0, 0, []),
  (100, .iconst 0, 1, 0, 0, 0, []),
  (101, .ireturn, 1, 1, 0, 0, []),
  (102, .aload_n 0, 1, 0, 0, 0, []),
  (103, .iload_n 2, 1, 0, 0, 0, []),
  (104, .iconst 1, 1, 0, 0, 0, []),
  (105, .invokevirtual 124, 3, 127, 2, 826, []),
  (108, .ifCond .eq 18, 3, 126, 0, 0, []),
  (111, .aload_n 0, 1, 0, 0, 0, []),
  (112, .iload_n 2, 1, 0, 0, 0, []),
  (113, .iconst 1, 1, 0, 0, 0, []),
  (114, .iadd, 1, 0, 0, 0, []),
  (115, .iconst 2, 1, 0, 0, 0, []),
  (116, .invokevirtual 124, 3, 127, 2, 826, []),
  (119, .ifCond .eq 7, 3, 126, 0, 0, []),
  (122, .iconst 1, 1, 0, 0, 0, []),
  (123, .goto 4, 3, 127, 0, 0, []),
  (126, .iconst 0, 1, 0, 0, 0, []),
  (127, .ireturn, 1, 1, 0, 0, []),
  (128, .aload_n 0, 1, 0, 0, 0, []),
  (129, .iload_n 2, 1, 0, 0, 0, []),
  (130, .iconst 1, 1, 0, 0, 0, []),
  (131, .invokevirtual 124, 3, 127, 2, 826, []),
  (134, .ireturn, 1, 1, 0, 0, [])]
def cd_Mo_statement : List (Nat × En) := [(0, .aload_n 0, 1, 0, 0, 0, []),
  (1, .invokevirtual 113, 3, 126, 0, 818, []),
  (4, .istore_n 1, 1, 0, 0, 0, []),
  (5, .iload_n 1, 1, 0, 0, 0, []),
  (6, .bipush 103, 2, 0, 0, 0, []),
  (8, .if_icmp .eq 35, 3, 43, 0, 0, []),
  (11, .iload_n 1, 1, 0, 0, 0, []),
  (12, .bipush 114, 2, 0, 0, 0, []),
  (14, .if_icmp .eq 29, 3, 43, 0, 0, []),
  (17, .iload_n 1, 1, 0, 0, 0, []),
  (18, .bipush 119, 2, 0, 0, 0, []),
  (20, .if_icmp .eq 23, 3, 43, 0, 0, []),
  (23, .iload_n 1, 1, 0, 0, 0, []),
  (24, .bipush 99, 2, 0, 0, 0, []),
  (26, .if_icmp .eq 17, 3, 43, 0, 0, []),
  (29, .iload_n 1, 1, 0, 0, 0, []),
  (30, .bipush 120, 2, 0, 0, 0, []),
  (32, .if_icmp .eq 11, 3, 43, 0, 0, []),
  (35, .iload_n 1, 1, 0, 0, 0, []),
  (36, .bipush 109, 2, 0, 0, 0, []),
  (38, .if_icmp .eq 5, 3, 43, 0, 0, []),
  (41, .iconst 0, 1, 0, 0, 0, []),
  (42, .ireturn, 1, 1, 0, 0, []),
  (43, .aload_n 0, 1, 0, 0, 0, []),
  (44, .getfield 37, 3, 6, 13, 697, []),
  (47, .aload_n 0, 1, 0, 0, 0, []),
  (48, .getfield 131, 3, 6, 18, 702, []),
  (51, .iload_n 1, 1, 0, 0, 0, []),
  (52, .iastore, 1, 0, 0, 0, []),
  (53, .aload_n 0, 1, 0, 0, 0, []),
  (54, .getfield 40, 3, 6, 14, 698, []),
  (57, .aload_n 0, 1, 0, 0, 0, []),
  (58, .getfield 131, 3, 6, 18, 702, []),
  (61, .aload_n 0, 1, 0, 0, 0, []),
  (62, .getfield 110, 3, 6, 17, 701, []),
  (65, .iastore, 1, 0, 0, 0, []),
  (66, .aload_n 0, 1, 0, 0, 0, []),
  (67, .dup, 1, 0, 0, 0, []),
  (68, .getfield 110, 3, 6, 17, 701, []),
  (71, .iconst 1, 1, 0, 0, 0, []),
  (72, .iadd, 1, 0, 0, 0, []),
  (73, .putfield 110, 3, 6, 17, 701, []),
  (76, .aload_n 0, 1, 0, 0, 0, []),
  (77, .iload_n 1, 1, 0, 0, 0, []),
  (78, .iconst 5, 1, 0, 0, 0, []),
  (79, .aload_n 0, 1, 0, 0, 0, []),
  (80, .getfield 131, 3, 6, 18, 702, []),
  (83, .imul, 1, 0, 0, 0, []),
  (84, .invokevirtual 134, 3, 130, 2, 822, []),
  (87, .ifCond .eq 12, 3, 99, 0, 0, []),
  (90, .aload_n 0, 1, 0, 0, 0, []),
  (91, .invokevirtual 113, 3, 126, 0, 818, []),
  (94, .bipush 59, 2, 0, 0, 0, []),
  (96, .if_icmp .eq 5, 3, 101, 0, 0, []),
  (99, .iconst 0, 1, 0, 0, 0, []),
  (100, .ireturn, 1, 1, 0, 0, []),
  (101, .aload_n 0, 1, 0, 0, 0, []),
  (102, .dup, 1, 0, 0, 0, []),
  (103, .getfield 110, 3, 6, 17, 701, []),
  (106, .iconst 1, 1, 0, 0, 0, []),
  (107, .iadd, 1, 0, 0, 0, []),
  (108, .putfield 110, 3, 6, 17, 701, []),
  (111, .iconst 1, 1, 0, 0, 0, []),
  (112, .ireturn, 1, 1, 0, 0, [])]
def cd_Mo_comesRemark : List (Nat × En) := [(0, .aload_n 0, 1, 0, 0, 0, []),
  (1, .aload_n 0, 1, 0, 0, 0, []),
  (2, .getfield 43, 3, 6, 15, 699, []),
  (5, .iload_n 1, 1, 0, 0, 0, []),
  (6, .iconst 2, 1, 0, 0, 0, []),
  (7, .iadd, 1, 0, 0, 0, []),
  (8, .iaload, 1, 0, 0, 0, []),
  (9, .invokevirtual 92, 3, 122, 1, 860, []),
  (12, .ifCond .eq 38, 3, 50, 0, 0, []),
  (15, .aload_n 0, 1, 0, 0, 0, []),
  (16, .getfield 43, 3, 6, 15, 699, []),
  (19, .iload_n 1, 1, 0, 0, 0, []),
  (20, .iconst 3, 1, 0, 0, 0, []),
  (21, .iadd, 1, 0, 0, 0, []),
  (22, .iaload, 1, 0, 0, 0, []),
  (23, .bipush 8, 2, 0, 0, 0, []),
  (25, .if_icmp .ge 25, 3, 50, 0, 0, []),
  (28, .aload_n 0, 1, 0, 0, 0, []),
  (29, .getfield 43, 3, 6, 15, 699, []),
  (32, .iload_n 1, 1, 0, 0, 0, []),
  (33, .iconst 4, 1, 0, 0, 0, []),
  (34, .iadd, 1, 0, 0, 0, []),
  (35, .iaload, 1, 0, 0, 0, []),
  (36, .bipush 59, 2, 0, 0, 0, []),
  (38, .if_icmp .gt 12, 3, 50, 0, 0, []),
  (41, .aload_n 0, 1, 0, 0, 0, []),
  (42, .getfield 96, 3, 6, 8, 693, []),
  (45, .bipush 7, 2, 0, 0, 0, []),
  (47, .if_icmp .ne 5, 3, 52, 0, 0, []),
  (50, .iconst 0, 1, 0, 0, 0, []),
  (51, .ireturn, 1, 1, 0, 0, []),
  (52, .aload_n 0, 1, 0, 0, 0, []),
  (53, .getfield 19, 3, 6, 2, 687, []),
  (56, .aload_n 0, 1, 0, 0, 0, []),
  (57, .getfield 96, 3, 6, 8, 693, []),
  (60, .aload_n 0, 1, 0, 0, 0, []),
  (61, .getfield 43, 3, 6, 15, 699, []),
  (64, .iload_n 1, 1, 0, 0, 0, []),
  (65, .iaload, 1, 0, 0, 0, []),
  (66, .iastore, 1, 0, 0, 0, []),
  (67, .aload_n 0, 1, 0, 0, 0, []),
  (68, .getfield 22, 3, 6, 3, 688, []),
  (71, .aload_n 0, 1, 0, 0, 0, []),
  (72, .getfield 96, 3, 6, 8, 693, []),
  (75, .aload_n 0, 1, 0, 0, 0, []),
  (76, .getfield 43, 3, 6, 15, 699, []),
  (79, .iload_n 1, 1, 0, 0, 0, []),
  (80, .iconst 1, 1, 0, 0, 0, []),
  (81, .iadd, 1, 0, 0, 0, []),
  (82, .iaload, 1, 0, 0, 0, []),
  (83, .iastore, 1, 0, 0, 0, []),
  (84, .aload_n 0, 1, 0, 0, 0, []),
  (85, .getfield 25, 3, 6, 4, 689, []),
  (88, .aload_n 0, 1, 0, 0, 0, []),
  (89, .getfield 96, 3, 6, 8, 693, []),
  (92, .aload_n 0, 1, 0, 0, 0, []),
  (93, .getfield 43, 3, 6, 15, 699, []),
  (96, .iload_n 1, 1, 0, 0, 0, []),
  (97, .iconst 2, 1, 0, 0, 0, []),
  (98, .iadd, 1, 0, 0, 0, []),
  (99, .iaload, 1, 0, 0, 0, []),
  (100, .iastore, 1, 0, 0, 0, []),
  (101, .aload_n 0, 1, 0, 0, 0, []),
  (102, .getfield 28, 3, 6, 5, 690, []),
  (105, .aload_n 0, 1, 0, 0, 0, []),
  (106, .getfield 96, 3, 6, 8, 693, []),
  (109, .aload_n 0, 1, 0, 0, 0, []),
  (110, .getfield 43, 3, 6, 15, 699, []),
  (113, .iload_n 1, 1, 0, 0, 0, []),
  (114, .iconst 3, 1, 0, 0, 0, []),
  (115, .iadd, 1, 0, 0, 0, []),
  (116, .iaload, 1, 0, 0, 0, []),
  (117, .iastore, 1, 0, 0, 0, []),
  (118, .aload_n 0, 1, 0, 0, 0, []),
  (119, .getfield 31, 3, 6, 6, 691, []),
  (122, .aload_n 0, 1, 0, 0, 0, []),
  (123, .getfield 96, 3, 6, 8, 693, []),
  (126, .aload_n 0, 1, 0, 0, 0, []),
  (127, .getfield 43, 3, 6, 15, 699, []),
  (130, .iload_n 1, 1, 0, 0, 0, []),
  (131, .iconst 4, 1, 0, 0, 0, []),
  (132, .iadd, 1, 0, 0, 0, []),
  (133, .iaload, 1, 0, 0, 0, []),
  (134, .iastore, 1, 0, 0, 0, []),
  (135, .aload_n 0, 1, 0, 0, 0, []),
  (136, .dup, 1, 0, 0, 0, []),
  (137, .getfield 96, 3, 6, 8, 693, []),
  (140, .iconst 1, 1, 0, 0, 0, []),
  (141, .iadd, 1, 0, 0, 0, []),
  (142, .putfield 96, 3, 6, 8, 693, []),
  (145, .iconst 1, 1, 0, 0, 0, []),
  (146, .ireturn, 1, 1, 0, 0, [])]
def cd_Mo_comes : List (Nat × En) := [(0, .aload_n 0, 1, 0, 0, 0, []),
  (1, .getfield 43, 3, 6, 15, 699, []),
  (4, .iconst 5, 1, 0, 0, 0, []),
  (5, .iload_n 1, 1, 0, 0, 0, []),
  (6, .imul, 1, 0, 0, 0, []),
  (7, .iaload, 1, 0, 0, 0, []),
  (8, .istore_n 2, 1, 0, 0, 0, []),
  (9, .aload_n 0, 1, 0, 0, 0, []),
  (10, .getfield 43, 3, 6, 15, 699, []),
  (13, .iconst 5, 1, 0, 0, 0, []),
  (14, .iload_n 1, 1, 0, 0, 0, []),
  (15, .imul, 1, 0, 0, 0, []),
  (16, .iconst 1, 1, 0, 0, 0, []),
  (17, .iadd, 1, 0, 0, 0, []),
  (18, .iaload, 1, 0, 0, 0, []),
  (19, .istore_n 3, 1, 0, 0, 0, []),
  (20, .aload_n 0, 1, 0, 0, 0, []),
  (21, .getfield 37, 3, 6, 13, 697, []),
  (24, .iload_n 1, 1, 0, 0, 0, []),
  (25, .iaload, 1, 0, 0, 0, []),
  (26, .lookupswitch 152 #[(99, 126), (103, 50), (114, 106), (119, 114), (120, 133)], 50, 178, 0, 0, [(99, 152), (103, 76), (114, 132), (119, 140), (120, 159)]),
  (76, .iload_n 2, 1, 0, 0, 0, []),
  (77, .sipush 255, 3, 0, 0, 0, []),
  (80, .if_icmp .gt 18, 3, 98, 0, 0, []),
  (83, .iload_n 3, 1, 0, 0, 0, []),
  (84, .bipush 40, 2, 0, 0, 0, []),
  (86, .if_icmp .gt 12, 3, 98, 0, 0, []),
  (89, .aload_n 0, 1, 0, 0, 0, []),
  (90, .getfield 89, 3, 6, 7, 692, []),
  (93, .bipush 6, 2, 0, 0, 0, []),
  (95, .if_icmp .ne 5, 3, 100, 0, 0, []),
  (98, .iconst 0, 1, 0, 0, 0, []),
  (99, .ireturn, 1, 1, 0, 0, []),
  (100, .aload_n 0, 1, 0, 0, 0, []),
  (101, .getfield 13, 3, 6, 0, 685, []),
  (104, .aload_n 0, 1, 0, 0, 0, []),
  (105, .getfield 89, 3, 6, 7, 692, []),
  (108, .iload_n 2, 1, 0, 0, 0, []),
  (109, .iastore, 1, 0, 0, 0, []),
  (110, .aload_n 0, 1, 0, 0, 0, []),
  (111, .getfield 16, 3, 6, 1, 686, []),
  (114, .aload_n 0, 1, 0, 0, 0, []),
  (115, .getfield 89, 3, 6, 7, 692, []),
  (118, .iload_n 3, 1, 0, 0, 0, []),
  (119, .iastore, 1, 0, 0, 0, []),
  (120, .aload_n 0, 1, 0, 0, 0, []),
  (121, .dup, 1, 0, 0, 0, []),
  (122, .getfield 89, 3, 6, 7, 692, []),
  (125, .iconst 1, 1, 0, 0, 0, []),
  (126, .iadd, 1, 0, 0, 0, []),
  (127, .putfield 89, 3, 6, 7, 692, []),
  (130, .iconst 1, 1, 0, 0, 0, []),
  (131, .ireturn, 1, 1, 0, 0, []),
  (132, .aload_n 0, 1, 0, 0, 0, []),
  (133, .iconst 5, 1, 0, 0, 0, []),
  (134, .iload_n 1, 1, 0, 0, 0, []),
  (135, .imul, 1, 0, 0, 0, []),
  (136, .invokevirtual 137, 3, 132, 1, 856, []),
  (139, .ireturn, 1, 1, 0, 0, []),
  (140, .aload_n 0, 1, 0, 0, 0, []),
  (141, .iload_n 2, 1, 0, 0, 0, []),
  (142, .putfield 79, 3, 6, 9, 694, []),
  (145, .iload_n 2, 1, 0, 0, 0, []),
  (146, .iconst 1, 1, 0, 0, 0, []),
  (147, .iconst 3, 1, 0, 0, 0, []),
  (148, .invokestatic 117, 3, 118, 3, 830, []),
  (151, .ireturn, 1, 1, 0, 0, []),
  (152, .aload_n 0, 1, 0, 0, 0, []),
  (153, .iload_n 2, 1, 0, 0, 0, []),
  (154, .putfield 83, 3, 6, 10, 695, []),
  (157, .iconst 1, 1, 0, 0, 0, []),
  (158, .ireturn, 1, 1, 0, 0, []),
  (159, .aload_n 0, 1, 0, 0, 0, []),
  (160, .iload_n 2, 1, 0, 0, 0, []),
  (161, .iload_n 3, 1, 0, 0, 0, []),
  (162, .invokevirtual 140, 3, 123, 2, 864, []),
  (165, .ifCond .ne 5, 3, 170, 0, 0, []),
  (168, .iconst 0, 1, 0, 0, 0, []),
  (169, .ireturn, 1, 1, 0, 0, []),
  (170, .aload_n 0, 1, 0, 0, 0, []),
  (171, .iload_n 2, 1, 0, 0, 0, []),
  (172, .iload_n 3, 1, 0, 0, 0, []),
  (173, .invokevirtual 143, 3, 145, 2, 868, []),
  (176, .iconst 1, 1, 0, 0, 0, []),
  (177, .ireturn, 1, 1, 0, 0, []),
  (178, .aload_n 0, 1, 0, 0, 0, []),
  (179, .iload_n 2, 1, 0, 0, 0, []),
  (180, .invokevirtual 92, 3, 122, 1, 860, []),
  (183, .ifCond .eq 9, 3, 192, 0, 0, []),
  (186, .iload_n 3, 1, 0, 0, 0, []),
  (187, .bipush 40, 2, 0, 0, 0, []),
  (189, .if_icmp .le 5, 3, 194, 0, 0, []),
  (192, .iconst 0, 1, 0, 0, 0, []),
  (193, .ireturn, 1, 1, 0, 0, []),
  (194, .aload_n 0, 1, 0, 0, 0, []),
  (195, .getfield 16, 3, 6, 1, 686, []),
  (198, .iload_n 2, 1, 0, 0, 0, []),
  (199, .iload_n 3, 1, 0, 0, 0, []),
  (200, .iastore, 1, 0, 0, 0, []),
  (201, .iconst 1, 1, 0, 0, 0, []),
  (202, .ireturn, 1, 1, 0, 0, [])]
def cd_Mo_table : List (Nat × En) := [(0, .aload_n 0, 1, 0, 0, 0, []),
  (1, .iconst 0, 1, 0, 0, 0, []),
  (2, .putfield 110, 3, 6, 17, 701, []),
  (5, .aload_n 0, 1, 0, 0, 0, []),
  (6, .iconst 0, 1, 0, 0, 0, []),
  (7, .putfield 131, 3, 6, 18, 702, []),
  (10, .iconst 1, 1, 0, 0, 0, []),
  (11, .istore_n 1, 1, 0, 0, 0, []),
  (12, .iload_n 1, 1, 0, 0, 0, []),
  (13, .ifCond .eq 47, 3, 60, 0, 0, []),
  (16, .aload_n 0, 1, 0, 0, 0, []),
  (17, .getfield 110, 3, 6, 17, 701, []),
  (20, .aload_n 0, 1, 0, 0, 0, []),
  (21, .getfield 103, 3, 6, 16, 700, []),
  (24, .if_icmp .lt 10, 3, 34, 0, 0, []),
  (27, .aload_n 0, 1, 0, 0, 0, []),
  (28, .getfield 131, 3, 6, 18, 702, []),
  (31, .ifCond .ne 29, 3, 60, 0, 0, []),
  (34, .aload_n 0, 1, 0, 0, 0, []),
  (35, .invokevirtual 147, 3, 131, 0, 814, []),
  (38, .istore_n 1, 1, 0, 0, 0, []),
  (39, .aload_n 0, 1, 0, 0, 0, []),
  (40, .dup, 1, 0, 0, 0, []),
  (41, .getfield 131, 3, 6, 18, 702, []),
  (44, .iload_n 1, 1, 0, 0, 0, []),
  (45, .ifCond .eq 7, 3, 52, 0, 0, []),
  (48, .iconst 1, 1, 0, 0, 0, []),
  (49, .goto 4, 3, 53, 0, 0, []),
  (52, .iconst 0, 1, 0, 0, 0, []),
  (53, .iadd, 1, 0, 0, 0, []),
  (54, .putfield 131, 3, 6, 18, 702, []),
  (57, .goto (-45), 3, 12, 0, 0, []),
  (60, .aload_n 0, 1, 0, 0, 0, []),
  (61, .iconst 0, 1, 0, 0, 0, []),
  (62, .putfield 103, 3, 6, 16, 700, []),
  (65, .iload_n 1, 1, 0, 0, 0, []),
  (66, .ifCond .ne 12, 3, 78, 0, 0, []),
  (69, .sipush (-1000), 3, 0, 0, 0, []),
  (72, .aload_n 0, 1, 0, 0, 0, []),
  (73, .getfield 110, 3, 6, 17, 701, []),
  (76, .isub, 1, 0, 0, 0, []),
  (77, .ireturn, 1, 0, 0, 0, []),
  (78, .aload_n 0, 1, 0, 0, 0, []),
  (79, .iconst 1, 1, 0, 0, 0, []),
  (80, .iconst 1, 1, 0, 0, 0, []),
  (81, .invokevirtual 151, 3, 137, 2, 840, []),
  (84, .iconst 0, 1, 0, 0, 0, []),
  (85, .istore_n 2, 1, 0, 0, 0, []),
  (86, .iload_n 2, 1, 0, 0, 0, []),
  (87, .aload_n 0, 1, 0, 0, 0, []),
  (88, .getfield 131, 3, 6, 18, 702, []),
  (91, .if_icmp .ge 37, 3, 128, 0, 0, []),
  (94, .aload_n 0, 1, 0, 0, 0, []),
  (95, .iload_n 2, 1, 0, 0, 0, []),
  (96, .invokevirtual 155, 3, 133, 1, 852, []),
  (99, .ifCond .eq 6, 3, 105, 0, 0, []),
  (102, .goto 20, 3, 122, 0, 0, []),
  (105, .aload_n 0, 1, 0, 0, 0, []),
  (106, .iconst 1, 1, 0, 0, 0, []),
  (107, .iconst 0, 1, 0, 0, 0, []),
  (108, .invokevirtual 151, 3, 137, 2, 840, []),
  (111, .sipush (-2000), 3, 0, 0, 0, []),
  (114, .aload_n 0, 1, 0, 0, 0, []),
  (115, .getfield 40, 3, 6, 14, 698, []),
  (118, .iload_n 2, 1, 0, 0, 0, []),
  (119, .iaload, 1, 0, 0, 0, []),
  (120, .isub, 1, 0, 0, 0, []),
  (121, .ireturn, 1, 0, 0, 0, []),
  (122, .iinc 2 1, 3, 0, 0, 0, []),
  (125, .goto (-39), 3, 86, 0, 0, []),
  (128, .aload_n 0, 1, 0, 0, 0, []),
  (129, .getfield 131, 3, 6, 18, 702, []),
  (132, .ireturn, 1, 0, 0, 0, [])]
def cd_Mo_passes : List (Nat × En) := [(0, .iconst 0, 1, 0, 0, 0, []),
  (1, .istore_n 2, 1, 0, 0, 0, []),
  (2, .iload_n 2, 1, 0, 0, 0, []),
  (3, .aload_n 1, 1, 0, 0, 0, []),
  (4, .arraylength, 1, 0, 0, 0, []),
  (5, .if_icmp .ge 53, 3, 58, 0, 0, []),
  (8, .aload_n 0, 1, 0, 0, 0, []),
  (9, .getfield 158, 3, 6, 21, 705, []),
  (12, .ifCond .eq 18, 3, 30, 0, 0, []),
  (15, .aload_n 0, 1, 0, 0, 0, []),
  (16, .getfield 46, 3, 6, 19, 703, []),
  (19, .aload_n 0, 1, 0, 0, 0, []),
  (20, .getfield 162, 3, 6, 22, 706, []),
  (23, .aload_n 1, 1, 0, 0, 0, []),
  (24, .iload_n 2, 1, 0, 0, 0, []),
  (25, .iaload, 1, 0, 0, 0, []),
  (26, .iastore, 1, 0, 0, 0, []),
  (27, .goto 15, 3, 42, 0, 0, []),
  (30, .aload_n 1, 1, 0, 0, 0, []),
  (31, .iload_n 2, 1, 0, 0, 0, []),
  (32, .aload_n 0, 1, 0, 0, 0, []),
  (33, .getfield 46, 3, 6, 19, 703, []),
  (36, .aload_n 0, 1, 0, 0, 0, []),
  (37, .getfield 162, 3, 6, 22, 706, []),
  (40, .iaload, 1, 0, 0, 0, []),
  (41, .iastore, 1, 0, 0, 0, []),
  (42, .aload_n 0, 1, 0, 0, 0, []),
  (43, .dup, 1, 0, 0, 0, []),
  (44, .getfield 162, 3, 6, 22, 706, []),
  (47, .iconst 1, 1, 0, 0, 0, []),
  (48, .iadd, 1, 0, 0, 0, []),
  (49, .putfield 162, 3, 6, 22, 706, []),
  (52, .iinc 2 1, 3, 0, 0, 0, []),
  (55, .goto (-53), 3, 2, 0, 0, []),
  (58, .return_, 1, 0, 0, 0, [])]
def cd_Mo_passOne : List (Nat × En) := [(0, .aload_n 0, 1, 0, 0, 0, []),
  (1, .getfield 158, 3, 6, 21, 705, []),
  (4, .ifCond .eq 7, 3, 11, 0, 0, []),
  (7, .iload_n 1, 1, 0, 0, 0, []),
  (8, .goto 12, 3, 20, 0, 0, []),
  (11, .aload_n 0, 1, 0, 0, 0, []),
  (12, .getfield 46, 3, 6, 19, 703, []),
  (15, .aload_n 0, 1, 0, 0, 0, []),
  (16, .getfield 162, 3, 6, 22, 706, []),
  (19, .iaload, 1, 0, 0, 0, []),
  (20, .istore_n 2, 1, 0, 0, 0, []),
  (21, .aload_n 0, 1, 0, 0, 0, []),
  (22, .getfield 158, 3, 6, 21, 705, []),
  (25, .ifCond .eq 13, 3, 38, 0, 0, []),
  (28, .aload_n 0, 1, 0, 0, 0, []),
  (29, .getfield 46, 3, 6, 19, 703, []),
  (32, .aload_n 0, 1, 0, 0, 0, []),
  (33, .getfield 162, 3, 6, 22, 706, []),
  (36, .iload_n 1, 1, 0, 0, 0, []),
  (37, .iastore, 1, 0, 0, 0, []),
  (38, .aload_n 0, 1, 0, 0, 0, []),
  (39, .dup, 1, 0, 0, 0, []),
  (40, .getfield 162, 3, 6, 22, 706, []),
  (43, .iconst 1, 1, 0, 0, 0, []),
  (44, .iadd, 1, 0, 0, 0, []),
  (45, .putfield 162, 3, 6, 22, 706, []),
  (48, .iload_n 2, 1, 0, 0, 0, []),
  (49, .ireturn, 1, 0, 0, 0, [])]
def cd_Mo_passesAll : List (Nat × En) := [(0, .aload_n 0, 1, 0, 0, 0, []),
  (1, .bipush 55, 2, 0, 0, 0, []),
  (3, .iload_n 1, 1, 0, 0, 0, []),
  (4, .imul, 1, 0, 0, 0, []),
  (5, .putfield 162, 3, 6, 22, 706, []),
  (8, .aload_n 0, 1, 0, 0, 0, []),
  (9, .iload_n 2, 1, 0, 0, 0, []),
  (10, .putfield 158, 3, 6, 21, 705, []),
  (13, .aload_n 0, 1, 0, 0, 0, []),
  (14, .aload_n 0, 1, 0, 0, 0, []),
  (15, .getfield 13, 3, 6, 0, 685, []),
  (18, .invokevirtual 165, 3, 135, 1, 844, []),
  (21, .aload_n 0, 1, 0, 0, 0, []),
  (22, .aload_n 0, 1, 0, 0, 0, []),
  (23, .getfield 16, 3, 6, 1, 686, []),
  (26, .invokevirtual 165, 3, 135, 1, 844, []),
  (29, .aload_n 0, 1, 0, 0, 0, []),
  (30, .aload_n 0, 1, 0, 0, 0, []),
  (31, .getfield 19, 3, 6, 2, 687, []),
  (34, .invokevirtual 165, 3, 135, 1, 844, []),
  (37, .aload_n 0, 1, 0, 0, 0, []),
  (38, .aload_n 0, 1, 0, 0, 0, []),
  (39, .getfield 22, 3, 6, 3, 688, []),
  (42, .invokevirtual 165, 3, 135, 1, 844, []),
  (45, .aload_n 0, 1, 0, 0, 0, []),
  (46, .aload_n 0, 1, 0, 0, 0, []),
  (47, .getfield 25, 3, 6, 4, 689, []),
  (50, .invokevirtual 165, 3, 135, 1, 844, []),
  (53, .aload_n 0, 1, 0, 0, 0, []),
  (54, .aload_n 0, 1, 0, 0, 0, []),
  (55, .getfield 28, 3, 6, 5, 690, []),
  (58, .invokevirtual 165, 3, 135, 1, 844, []),
  (61, .aload_n 0, 1, 0, 0, 0, []),
  (62, .aload_n 0, 1, 0, 0, 0, []),
  (63, .getfield 31, 3, 6, 6, 691, []),
  (66, .invokevirtual 165, 3, 135, 1, 844, []),
  (69, .aload_n 0, 1, 0, 0, 0, []),
  (70, .aload_n 0, 1, 0, 0, 0, []),
  (71, .aload_n 0, 1, 0, 0, 0, []),
  (72, .getfield 89, 3, 6, 7, 692, []),
  (75, .invokevirtual 169, 3, 136, 1, 848, []),
  (78, .putfield 89, 3, 6, 7, 692, []),
  (81, .aload_n 0, 1, 0, 0, 0, []),
  (82, .aload_n 0, 1, 0, 0, 0, []),
  (83, .aload_n 0, 1, 0, 0, 0, []),
  (84, .getfield 96, 3, 6, 8, 693, []),
  (87, .invokevirtual 169, 3, 136, 1, 848, []),
  (90, .putfield 96, 3, 6, 8, 693, []),
  (93, .aload_n 0, 1, 0, 0, 0, []),
  (94, .aload_n 0, 1, 0, 0, 0, []),
  (95, .aload_n 0, 1, 0, 0, 0, []),
  (96, .getfield 79, 3, 6, 9, 694, []),
  (99, .invokevirtual 169, 3, 136, 1, 848, []),
  (102, .putfield 79, 3, 6, 9, 694, []),
  (105, .aload_n 0, 1, 0, 0, 0, []),
  (106, .aload_n 0, 1, 0, 0, 0, []),
  (107, .aload_n 0, 1, 0, 0, 0, []),
  (108, .getfield 83, 3, 6, 10, 695, []),
  (111, .invokevirtual 169, 3, 136, 1, 848, []),
  (114, .putfield 83, 3, 6, 10, 695, []),
  (117, .return_, 1, 0, 0, 0, [])]
def cd_Mo_image : List (Nat × En) := [(0, .aload_n 0, 1, 0, 0, 0, []),
  (1, .iconst 1, 1, 0, 0, 0, []),
  (2, .putfield 172, 3, 6, 20, 704, []),
  (5, .aload_n 0, 1, 0, 0, 0, []),
  (6, .iconst 0, 1, 0, 0, 0, []),
  (7, .iconst 1, 1, 0, 0, 0, []),
  (8, .invokevirtual 151, 3, 137, 2, 840, []),
  (11, .aload_n 0, 1, 0, 0, 0, []),
  (12, .getfield 89, 3, 6, 7, 692, []),
  (15, .ireturn, 1, 0, 0, 0, [])]
def cd_Mo_on : List (Nat × En) := [(0, .aload_n 0, 1, 0, 0, 0, []),
  (1, .getfield 172, 3, 6, 20, 704, []),
  (4, .ifCond .ne 10, 3, 14, 0, 0, []),
  (7, .aload_n 0, 1, 0, 0, 0, []),
  (8, .bipush (-3), 2, 0, 0, 0, []),
  (10, .invokevirtual 106, 3, 115, 1, 806, []),
  (13, .ireturn, 1, 0, 0, 0, []),
  (14, .aload_n 0, 1, 0, 0, 0, []),
  (15, .iconst 0, 1, 0, 0, 0, []),
  (16, .iconst 0, 1, 0, 0, 0, []),
  (17, .invokevirtual 151, 3, 137, 2, 840, []),
  (20, .aload_n 0, 1, 0, 0, 0, []),
  (21, .getfield 89, 3, 6, 7, 692, []),
  (24, .ireturn, 1, 0, 0, 0, [])]
def cd_Mo_minutesOf : List (Nat × En) := [(0, .aload_n 0, 1, 0, 0, 0, []),
  (1, .getfield 19, 3, 6, 2, 687, []),
  (4, .iload_n 1, 1, 0, 0, 0, []),
  (5, .iaload, 1, 0, 0, 0, []),
  (6, .tableswitch 39 2 4 #[26, 28, 30], 26, 45, 0, 0, [(2, 32), (3, 34), (4, 36)]),
  (32, .iconst 3, 1, 0, 0, 0, []),
  (33, .ireturn, 1, 0, 0, 0, []),
  (34, .iconst 2, 1, 0, 0, 0, []),
  (35, .ireturn, 1, 0, 0, 0, []),
  (36, .iconst 3, 1, 0, 0, 0, []),
  (37, .aload_n 0, 1, 0, 0, 0, []),
  (38, .getfield 22, 3, 6, 3, 688, []),
  (41, .iload_n 1, 1, 0, 0, 0, []),
  (42, .iaload, 1, 0, 0, 0, []),
  (43, .iadd, 1, 0, 0, 0, []),
  (44, .ireturn, 1, 0, 0, 0, []),
  (45, .iconst 1, 1, 0, 0, 0, []),
  (46, .ireturn, 1, 0, 0, 0, [])]
def cd_Mo_moreOf : List (Nat × En) := [(0, .aload_n 0, 1, 0, 0, 0, []),
  (1, .getfield 19, 3, 6, 2, 687, []),
  (4, .iload_n 1, 1, 0, 0, 0, []),
  (5, .iaload, 1, 0, 0, 0, []),
  (6, .iconst 1, 1, 0, 0, 0, []),
  (7, .if_icmp .eq 13, 3, 20, 0, 0, []),
  (10, .aload_n 0, 1, 0, 0, 0, []),
  (11, .getfield 19, 3, 6, 2, 687, []),
  (14, .iload_n 1, 1, 0, 0, 0, []),
  (15, .iaload, 1, 0, 0, 0, []),
  (16, .iconst 4, 1, 0, 0, 0, []),
  (17, .if_icmp .ne 7, 3, 24, 0, 0, []),
  (20, .iconst 2, 1, 0, 0, 0, []),
  (21, .goto 37, 3, 58, 0, 0, []),
  (24, .aload_n 0, 1, 0, 0, 0, []),
  (25, .getfield 19, 3, 6, 2, 687, []),
  (28, .iload_n 1, 1, 0, 0, 0, []),
  (29, .iaload, 1, 0, 0, 0, []),
  (30, .iconst 2, 1, 0, 0, 0, []),
  (31, .if_icmp .ne 7, 3, 38, 0, 0, []),
  (34, .iconst 0, 1, 0, 0, 0, []),
  (35, .goto 23, 3, 58, 0, 0, []),
  (38, .aload_n 0, 1, 0, 0, 0, []),
  (39, .getfield 19, 3, 6, 2, 687, []),
  (42, .iload_n 1, 1, 0, 0, 0, []),
  (43, .iaload, 1, 0, 0, 0, []),
  (44, .iconst 3, 1, 0, 0, 0, []),
  (45, .if_icmp .ne 12, 3, 57, 0, 0, []),
  (48, .aload_n 0, 1, 0, 0, 0, []),
  (49, .getfield 22, 3, 6, 3, 688, []),
  (52, .iload_n 1, 1, 0, 0, 0, []),
  (53, .iaload, 1, 0, 0, 0, []),
  (54, .goto 4, 3, 58, 0, 0, []),
  (57, .iconst 1, 1, 0, 0, 0, []),
  (58, .ireturn, 1, 0, 0, 0, [])]
def cd_Mo_lessOf : List (Nat × En) := [(0, .aload_n 0, 1, 0, 0, 0, []),
  (1, .getfield 19, 3, 6, 2, 687, []),
  (4, .iload_n 1, 1, 0, 0, 0, []),
  (5, .iaload, 1, 0, 0, 0, []),
  (6, .iconst 2, 1, 0, 0, 0, []),
  (7, .if_icmp .ge 7, 3, 14, 0, 0, []),
  (10, .iconst 0, 1, 0, 0, 0, []),
  (11, .goto 23, 3, 34, 0, 0, []),
  (14, .aload_n 0, 1, 0, 0, 0, []),
  (15, .getfield 19, 3, 6, 2, 687, []),
  (18, .iload_n 1, 1, 0, 0, 0, []),
  (19, .iaload, 1, 0, 0, 0, []),
  (20, .iconst 3, 1, 0, 0, 0, []),
  (21, .if_icmp .ne 12, 3, 33, 0, 0, []),
  (24, .aload_n 0, 1, 0, 0, 0, []),
  (25, .getfield 22, 3, 6, 3, 688, []),
  (28, .iload_n 1, 1, 0, 0, 0, []),
  (29, .iaload, 1, 0, 0, 0, []),
  (30, .goto 4, 3, 34, 0, 0, []),
  (33, .iconst 1, 1, 0, 0, 0, []),
  (34, .ireturn, 1, 0, 0, 0, [])]
def cd_Mo_priceOf : List (Nat × En) := [(0, .aload_n 0, 1, 0, 0, 0, []),
  (1, .getfield 19, 3, 6, 2, 687, []),
  (4, .iload_n 1, 1, 0, 0, 0, []),
  (5, .iaload, 1, 0, 0, 0, []),
  (6, .tableswitch 55 1 5 #[34, 41, 55, 41, 48], 34, 61, 0, 0, [(1, 40), (2, 47), (3, 61), (4, 47), (5, 54)]),
  (40, .aload_n 0, 1, 0, 0, 0, []),
  (41, .getfield 83, 3, 6, 10, 695, []),
  (44, .iconst 2, 1, 0, 0, 0, []),
  (45, .idiv, 1, 0, 0, 0, []),
  (46, .ireturn, 1, 0, 0, 0, []),
  (47, .iconst 2, 1, 0, 0, 0, []),
  (48, .aload_n 0, 1, 0, 0, 0, []),
  (49, .getfield 83, 3, 6, 10, 695, []),
  (52, .imul, 1, 0, 0, 0, []),
  (53, .ireturn, 1, 0, 0, 0, []),
  (54, .aload_n 0, 1, 0, 0, 0, []),
  (55, .getfield 22, 3, 6, 3, 688, []),
  (58, .iload_n 1, 1, 0, 0, 0, []),
  (59, .iaload, 1, 0, 0, 0, []),
  (60, .ireturn, 1, 0, 0, 0, []),
  (61, .aload_n 0, 1, 0, 0, 0, []),
  (62, .getfield 83, 3, 6, 10, 695, []),
  (65, .ireturn, 1, 0, 0, 0, [])]
def cd_Mo_hears : List (Nat × En) := [(0, .aload_n 0, 1, 0, 0, 0, []),
  (1, .getfield 19, 3, 6, 2, 687, []),
  (4, .iload_n 1, 1, 0, 0, 0, []),
  (5, .iaload, 1, 0, 0, 0, []),
  (6, .iconst 3, 1, 0, 0, 0, []),
  (7, .if_icmp .ne 31, 3, 38, 0, 0, []),
  (10, .aload_n 0, 1, 0, 0, 0, []),
  (11, .getfield 89, 3, 6, 7, 692, []),
  (14, .iconst 1, 1, 0, 0, 0, []),
  (15, .if_icmp .ne 7, 3, 22, 0, 0, []),
  (18, .iconst 0, 1, 0, 0, 0, []),
  (19, .goto 18, 3, 37, 0, 0, []),
  (22, .iconst 1, 1, 0, 0, 0, []),
  (23, .aload_n 0, 1, 0, 0, 0, []),
  (24, .getfield 25, 3, 6, 4, 689, []),
  (27, .iload_n 1, 1, 0, 0, 0, []),
  (28, .iaload, 1, 0, 0, 0, []),
  (29, .iconst 1, 1, 0, 0, 0, []),
  (30, .iadd, 1, 0, 0, 0, []),
  (31, .aload_n 0, 1, 0, 0, 0, []),
  (32, .getfield 89, 3, 6, 7, 692, []),
  (35, .irem, 1, 0, 0, 0, []),
  (36, .ishl, 1, 0, 0, 0, []),
  (37, .ireturn, 1, 0, 0, 0, []),
  (38, .iconst 1, 1, 0, 0, 0, []),
  (39, .aload_n 0, 1, 0, 0, 0, []),
  (40, .getfield 89, 3, 6, 7, 692, []),
  (43, .ishl, 1, 0, 0, 0, []),
  (44, .iconst 1, 1, 0, 0, 0, []),
  (45, .isub, 1, 0, 0, 0, []),
  (46, .iconst 1, 1, 0, 0, 0, []),
  (47, .aload_n 0, 1, 0, 0, 0, []),
  (48, .getfield 25, 3, 6, 4, 689, []),
  (51, .iload_n 1, 1, 0, 0, 0, []),
  (52, .iaload, 1, 0, 0, 0, []),
  (53, .ishl, 1, 0, 0, 0, []),
  (54, .iconst (-1), 1, 0, 0, 0, []),
  (55, .ixor, 1, 0, 0, 0, []),
  (56, .iand, 1, 0, 0, 0, []),
  (57, .ireturn, 1, 0, 0, 0, [])]
def cd_Mo_changes : List (Nat × En) := [(0, .aload_n 0, 1, 0, 0, 0, []),
  (1, .getfield 13, 3, 6, 0, 685, []),
  (4, .iload_n 1, 1, 0, 0, 0, []),
  (5, .iaload, 1, 0, 0, 0, []),
  (6, .istore_n 3, 1, 0, 0, 0, []),
  (7, .aload_n 0, 1, 0, 0, 0, []),
  (8, .getfield 13, 3, 6, 0, 685, []),
  (11, .iload_n 1, 1, 0, 0, 0, []),
  (12, .aload_n 0, 1, 0, 0, 0, []),
  (13, .getfield 13, 3, 6, 0, 685, []),
  (16, .iload_n 2, 1, 0, 0, 0, []),
  (17, .iaload, 1, 0, 0, 0, []),
  (18, .iastore, 1, 0, 0, 0, []),
  (19, .aload_n 0, 1, 0, 0, 0, []),
  (20, .getfield 13, 3, 6, 0, 685, []),
  (23, .iload_n 2, 1, 0, 0, 0, []),
  (24, .iload_n 3, 1, 0, 0, 0, []),
  (25, .iastore, 1, 0, 0, 0, []),
  (26, .aload_n 0, 1, 0, 0, 0, []),
  (27, .getfield 16, 3, 6, 1, 686, []),
  (30, .iload_n 1, 1, 0, 0, 0, []),
  (31, .iaload, 1, 0, 0, 0, []),
  (32, .istore_n 3, 1, 0, 0, 0, []),
  (33, .aload_n 0, 1, 0, 0, 0, []),
  (34, .getfield 16, 3, 6, 1, 686, []),
  (37, .iload_n 1, 1, 0, 0, 0, []),
  (38, .aload_n 0, 1, 0, 0, 0, []),
  (39, .getfield 16, 3, 6, 1, 686, []),
  (42, .iload_n 2, 1, 0, 0, 0, []),
  (43, .iaload, 1, 0, 0, 0, []),
  (44, .iastore, 1, 0, 0, 0, []),
  (45, .aload_n 0, 1, 0, 0, 0, []),
  (46, .getfield 16, 3, 6, 1, 686, []),
  (49, .iload_n 2, 1, 0, 0, 0, []),
  (50, .iload_n 3, 1, 0, 0, 0, []),
  (51, .iastore, 1, 0, 0, 0, []),
  (52, .iconst 0, 1, 0, 0, 0, []),
  (53, .istore 4, 2, 0, 0, 0, []),
  (55, .iload 4, 2, 0, 0, 0, []),
  (57, .aload_n 0, 1, 0, 0, 0, []),
  (58, .getfield 96, 3, 6, 8, 693, []),
  (61, .if_icmp .ge 53, 3, 114, 0, 0, []),
  (64, .aload_n 0, 1, 0, 0, 0, []),
  (65, .getfield 25, 3, 6, 4, 689, []),
  (68, .iload 4, 2, 0, 0, 0, []),
  (70, .aload_n 0, 1, 0, 0, 0, []),
  (71, .getfield 25, 3, 6, 4, 689, []),
  (74, .iload 4, 2, 0, 0, 0, []),
  (76, .iaload, 1, 0, 0, 0, []),
  (77, .iload_n 1, 1, 0, 0, 0, []),
  (78, .if_icmp .ne 7, 3, 85, 0, 0, []),
  (81, .iload_n 2, 1, 0, 0, 0, []),
  (82, .goto 25, 3, 107, 0, 0, []),
  (85, .aload_n 0, 1, 0, 0, 0, []),
  (86, .getfield 25, 3, 6, 4, 689, []),
  (89, .iload 4, 2, 0, 0, 0, []),
  (91, .iaload, 1, 0, 0, 0, []),
  (92, .iload_n 2, 1, 0, 0, 0, []),
  (93, .if_icmp .ne 7, 3, 100, 0, 0, []),
  (96, .iload_n 1, 1, 0, 0, 0, []),
  (97, .goto 10, 3, 107, 0, 0, []),
  (100, .aload_n 0, 1, 0, 0, 0, []),
  (101, .getfield 25, 3, 6, 4, 689, []),
  (104, .iload 4, 2, 0, 0, 0, []),
  (106, .iaload, 1, 0, 0, 0, []),
  (107, .iastore, 1, 0, 0, 0, []),
  (108, .iinc 4 1, 3, 0, 0, 0, []),
  (111, .goto (-56), 3, 55, 0, 0, []),
  (114, .return_, 1, 0, 0, 0, [])]
def cd_Mo_opens : List (Nat × En) := [(0, .aload_n 0, 1, 0, 0, 0, []),
  (1, .iload_n 1, 1, 0, 0, 0, []),
  (2, .invokevirtual 175, 3, 144, 1, 900, []),
  (5, .istore_n 2, 1, 0, 0, 0, []),
  (6, .iconst 0, 1, 0, 0, 0, []),
  (7, .istore_n 3, 1, 0, 0, 0, []),
  (8, .iconst 0, 1, 0, 0, 0, []),
  (9, .istore 4, 2, 0, 0, 0, []),
  (11, .iload 4, 2, 0, 0, 0, []),
  (13, .aload_n 0, 1, 0, 0, 0, []),
  (14, .getfield 89, 3, 6, 7, 692, []),
  (17, .if_icmp .ge 45, 3, 62, 0, 0, []),
  (20, .iload_n 3, 1, 0, 0, 0, []),
  (21, .iload_n 2, 1, 0, 0, 0, []),
  (22, .iload 4, 2, 0, 0, 0, []),
  (24, .invokestatic 178, 3, 120, 2, 932, []),
  (27, .ifCond .eq 26, 3, 53, 0, 0, []),
  (30, .aload_n 0, 1, 0, 0, 0, []),
  (31, .getfield 13, 3, 6, 0, 685, []),
  (34, .iload 4, 2, 0, 0, 0, []),
  (36, .iaload, 1, 0, 0, 0, []),
  (37, .aload_n 0, 1, 0, 0, 0, []),
  (38, .getfield 28, 3, 6, 5, 690, []),
  (41, .iload_n 1, 1, 0, 0, 0, []),
  (42, .iaload, 1, 0, 0, 0, []),
  (43, .invokestatic 178, 3, 120, 2, 932, []),
  (46, .ifCond .eq 7, 3, 53, 0, 0, []),
  (49, .iconst 1, 1, 0, 0, 0, []),
  (50, .goto 4, 3, 54, 0, 0, []),
  (53, .iconst 0, 1, 0, 0, 0, []),
  (54, .iadd, 1, 0, 0, 0, []),
  (55, .istore_n 3, 1, 0, 0, 0, []),
  (56, .iinc 4 1, 3, 0, 0, 0, []),
  (59, .goto (-48), 3, 11, 0, 0, []),
  (62, .iload_n 2, 1, 0, 0, 0, []),
  (63, .invokestatic 181, 3, 121, 1, 935, []),
  (66, .iload_n 3, 1, 0, 0, 0, []),
  (67, .isub, 1, 0, 0, 0, []),
  (68, .iload_n 3, 1, 0, 0, 0, []),
  (69, .if_icmp .le 16, 3, 85, 0, 0, []),
  (72, .aload_n 0, 1, 0, 0, 0, []),
  (73, .dup, 1, 0, 0, 0, []),
  (74, .getfield 184, 3, 6, 29, 713, []),
  (77, .iconst 1, 1, 0, 0, 0, []),
  (78, .iload_n 1, 1, 0, 0, 0, []),
  (79, .ishl, 1, 0, 0, 0, []),
  (80, .ior, 1, 0, 0, 0, []),
  (81, .putfield 184, 3, 6, 29, 713, []),
  (84, .return_, 1, 0, 0, 0, []),
  (85, .iconst 0, 1, 0, 0, 0, []),
  (86, .istore 4, 2, 0, 0, 0, []),
  (88, .iload 4, 2, 0, 0, 0, []),
  (90, .aload_n 0, 1, 0, 0, 0, []),
  (91, .getfield 89, 3, 6, 7, 692, []),
  (94, .if_icmp .ge 94, 3, 188, 0, 0, []),
  (97, .iload_n 2, 1, 0, 0, 0, []),
  (98, .iload 4, 2, 0, 0, 0, []),
  (100, .invokestatic 178, 3, 120, 2, 932, []),
  (103, .ifCond .ne 6, 3, 109, 0, 0, []),
  (106, .goto 76, 3, 182, 0, 0, []),
  (109, .aload_n 0, 1, 0, 0, 0, []),
  (110, .getfield 49, 3, 6, 23, 707, []),
  (113, .iload 4, 2, 0, 0, 0, []),
  (115, .iaload, 1, 0, 0, 0, []),
  (116, .aload_n 0, 1, 0, 0, 0, []),
  (117, .getfield 13, 3, 6, 0, 685, []),
  (120, .iload 4, 2, 0, 0, 0, []),
  (122, .iaload, 1, 0, 0, 0, []),
  (123, .aload_n 0, 1, 0, 0, 0, []),
  (124, .getfield 28, 3, 6, 5, 690, []),
  (127, .iload_n 1, 1, 0, 0, 0, []),
  (128, .iaload, 1, 0, 0, 0, []),
  (129, .invokestatic 178, 3, 120, 2, 932, []),
  (132, .ifCond .eq 11, 3, 143, 0, 0, []),
  (135, .aload_n 0, 1, 0, 0, 0, []),
  (136, .iload_n 1, 1, 0, 0, 0, []),
  (137, .invokevirtual 187, 3, 141, 1, 938, []),
  (140, .goto 9, 3, 149, 0, 0, []),
  (143, .aload_n 0, 1, 0, 0, 0, []),
  (144, .iload_n 1, 1, 0, 0, 0, []),
  (145, .invokevirtual 190, 3, 142, 1, 942, []),
  (148, .ineg, 1, 0, 0, 0, []),
  (149, .iadd, 1, 0, 0, 0, []),
  (150, .istore 5, 2, 0, 0, 0, []),
  (152, .aload_n 0, 1, 0, 0, 0, []),
  (153, .getfield 49, 3, 6, 23, 707, []),
  (156, .iload 4, 2, 0, 0, 0, []),
  (158, .iload 5, 2, 0, 0, 0, []),
  (160, .ifCond .ge 7, 3, 167, 0, 0, []),
  (163, .iconst 0, 1, 0, 0, 0, []),
  (164, .goto 17, 3, 181, 0, 0, []),
  (167, .iload 5, 2, 0, 0, 0, []),
  (169, .bipush 40, 2, 0, 0, 0, []),
  (171, .if_icmp .le 8, 3, 179, 0, 0, []),
  (174, .bipush 40, 2, 0, 0, 0, []),
  (176, .goto 5, 3, 181, 0, 0, []),
  (179, .iload 5, 2, 0, 0, 0, []),
  (181, .iastore, 1, 0, 0, 0, []),
  (182, .iinc 4 1, 3, 0, 0, 0, []),
  (185, .goto (-97), 3, 88, 0, 0, []),
  (188, .return_, 1, 0, 0, 0, [])]
def cd_Mo_nextReady : List (Nat × En) := [(0, .bipush (-9), 2, 0, 0, 0, []),
  (2, .istore_n 2, 1, 0, 0, 0, []),
  (3, .iconst 0, 1, 0, 0, 0, []),
  (4, .istore_n 3, 1, 0, 0, 0, []),
  (5, .iload_n 3, 1, 0, 0, 0, []),
  (6, .aload_n 0, 1, 0, 0, 0, []),
  (7, .getfield 96, 3, 6, 8, 693, []),
  (10, .if_icmp .ge 63, 3, 73, 0, 0, []),
  (13, .aload_n 0, 1, 0, 0, 0, []),
  (14, .getfield 193, 3, 6, 28, 712, []),
  (17, .iload_n 3, 1, 0, 0, 0, []),
  (18, .invokestatic 178, 3, 120, 2, 932, []),
  (21, .ifCond .ne 46, 3, 67, 0, 0, []),
  (24, .aload_n 0, 1, 0, 0, 0, []),
  (25, .getfield 52, 3, 6, 24, 708, []),
  (28, .iload_n 3, 1, 0, 0, 0, []),
  (29, .iaload, 1, 0, 0, 0, []),
  (30, .ifCond .ge 37, 3, 67, 0, 0, []),
  (33, .aload_n 0, 1, 0, 0, 0, []),
  (34, .getfield 31, 3, 6, 6, 691, []),
  (37, .iload_n 3, 1, 0, 0, 0, []),
  (38, .iaload, 1, 0, 0, 0, []),
  (39, .iload_n 1, 1, 0, 0, 0, []),
  (40, .if_icmp .le 6, 3, 46, 0, 0, []),
  (43, .goto 24, 3, 67, 0, 0, []),
  (46, .iload_n 2, 1, 0, 0, 0, []),
  (47, .ifCond .lt 18, 3, 65, 0, 0, []),
  (50, .aload_n 0, 1, 0, 0, 0, []),
  (51, .getfield 31, 3, 6, 6, 691, []),
  (54, .iload_n 3, 1, 0, 0, 0, []),
  (55, .iaload, 1, 0, 0, 0, []),
  (56, .aload_n 0, 1, 0, 0, 0, []),
  (57, .getfield 31, 3, 6, 6, 691, []),
  (60, .iload_n 2, 1, 0, 0, 0, []),
  (61, .iaload, 1, 0, 0, 0, []),
  (62, .if_icmp .ge 5, 3, 67, 0, 0, []),
  (65, .iload_n 3, 1, 0, 0, 0, []),
  (66, .istore_n 2, 1, 0, 0, 0, []),
  (67, .iinc 3 1, 3, 0, 0, 0, []),
  (70, .goto (-65), 3, 5, 0, 0, []),
  (73, .iload_n 2, 1, 0, 0, 0, []),
  (74, .ireturn, 1, 0, 0, 0, [])]
def cd_Mo_takes : List (Nat × En) := [(0, .iconst 0, 1, 0, 0, 0, []),
  (1, .istore_n 2, 1, 0, 0, 0, []),
  (2, .iconst 0, 1, 0, 0, 0, []),
  (3, .istore_n 3, 1, 0, 0, 0, []),
  (4, .iload_n 3, 1, 0, 0, 0, []),
  (5, .aload_n 0, 1, 0, 0, 0, []),
  (6, .getfield 79, 3, 6, 9, 694, []),
  (9, .if_icmp .ge 105, 3, 114, 0, 0, []),
  (12, .aload_n 0, 1, 0, 0, 0, []),
  (13, .getfield 58, 3, 6, 26, 710, []),
  (16, .iload_n 3, 1, 0, 0, 0, []),
  (17, .iaload, 1, 0, 0, 0, []),
  (18, .iload_n 1, 1, 0, 0, 0, []),
  (19, .if_icmp .gt 11, 3, 30, 0, 0, []),
  (22, .aload_n 0, 1, 0, 0, 0, []),
  (23, .iload_n 1, 1, 0, 0, 0, []),
  (24, .invokevirtual 196, 3, 147, 1, 950, []),
  (27, .goto 5, 3, 32, 0, 0, []),
  (30, .bipush (-9), 2, 0, 0, 0, []),
  (32, .istore 4, 2, 0, 0, 0, []),
  (34, .iload 4, 2, 0, 0, 0, []),
  (36, .ifCond .lt 54, 3, 90, 0, 0, []),
  (39, .aload_n 0, 1, 0, 0, 0, []),
  (40, .getfield 52, 3, 6, 24, 708, []),
  (43, .iload 4, 2, 0, 0, 0, []),
  (45, .iload_n 1, 1, 0, 0, 0, []),
  (46, .iastore, 1, 0, 0, 0, []),
  (47, .aload_n 0, 1, 0, 0, 0, []),
  (48, .getfield 58, 3, 6, 26, 710, []),
  (51, .iload_n 3, 1, 0, 0, 0, []),
  (52, .iload_n 1, 1, 0, 0, 0, []),
  (53, .aload_n 0, 1, 0, 0, 0, []),
  (54, .iload 4, 2, 0, 0, 0, []),
  (56, .invokevirtual 199, 3, 140, 1, 892, []),
  (59, .iadd, 1, 0, 0, 0, []),
  (60, .iastore, 1, 0, 0, 0, []),
  (61, .aload_n 0, 1, 0, 0, 0, []),
  (62, .getfield 55, 3, 6, 25, 709, []),
  (65, .iload 4, 2, 0, 0, 0, []),
  (67, .aload_n 0, 1, 0, 0, 0, []),
  (68, .getfield 58, 3, 6, 26, 710, []),
  (71, .iload_n 3, 1, 0, 0, 0, []),
  (72, .iaload, 1, 0, 0, 0, []),
  (73, .bipush 60, 2, 0, 0, 0, []),
  (75, .if_icmp .le 8, 3, 83, 0, 0, []),
  (78, .bipush (-9), 2, 0, 0, 0, []),
  (80, .goto 9, 3, 89, 0, 0, []),
  (83, .aload_n 0, 1, 0, 0, 0, []),
  (84, .getfield 58, 3, 6, 26, 710, []),
  (87, .iload_n 3, 1, 0, 0, 0, []),
  (88, .iaload, 1, 0, 0, 0, []),
  (89, .iastore, 1, 0, 0, 0, []),
  (90, .iload_n 2, 1, 0, 0, 0, []),
  (91, .aload_n 0, 1, 0, 0, 0, []),
  (92, .getfield 58, 3, 6, 26, 710, []),
  (95, .iload_n 3, 1, 0, 0, 0, []),
  (96, .iaload, 1, 0, 0, 0, []),
  (97, .iload_n 1, 1, 0, 0, 0, []),
  (98, .if_icmp .le 7, 3, 105, 0, 0, []),
  (101, .iconst 1, 1, 0, 0, 0, []),
  (102, .goto 4, 3, 106, 0, 0, []),
  (105, .iconst 0, 1, 0, 0, 0, []),
  (106, .iadd, 1, 0, 0, 0, []),
  (107, .istore_n 2, 1, 0, 0, 0, []),
  (108, .iinc 3 1, 3, 0, 0, 0, []),
  (111, .goto (-107), 3, 4, 0, 0, []),
  (114, .aload_n 0, 1, 0, 0, 0, []),
  (115, .dup, 1, 0, 0, 0, []),
  (116, .getfield 202, 3, 6, 30, 714, []),
  (119, .iload_n 2, 1, 0, 0, 0, []),
  (120, .ifCond .le 7, 3, 127, 0, 0, []),
  (123, .iconst 1, 1, 0, 0, 0, []),
  (124, .goto 4, 3, 128, 0, 0, []),
  (127, .iconst 0, 1, 0, 0, 0, []),
  (128, .iadd, 1, 0, 0, 0, []),
  (129, .putfield 202, 3, 6, 30, 714, []),
  (132, .aload_n 0, 1, 0, 0, 0, []),
  (133, .dup, 1, 0, 0, 0, []),
  (134, .getfield 205, 3, 6, 31, 715, []),
  (137, .iload_n 2, 1, 0, 0, 0, []),
  (138, .aload_n 0, 1, 0, 0, 0, []),
  (139, .getfield 79, 3, 6, 9, 694, []),
  (142, .if_icmp .ne 7, 3, 149, 0, 0, []),
  (145, .iconst 1, 1, 0, 0, 0, []),
  (146, .goto 4, 3, 150, 0, 0, []),
  (149, .iconst 0, 1, 0, 0, 0, []),
  (150, .iadd, 1, 0, 0, 0, []),
  (151, .putfield 205, 3, 6, 31, 715, []),
  (154, .return_, 1, 0, 0, 0, [])]
def cd_Mo_dines : List (Nat × En) := [(0, .aload_n 0, 1, 0, 0, 0, []),
  (1, .iload_n 1, 1, 0, 0, 0, []),
  (2, .putfield 193, 3, 6, 28, 712, []),
  (5, .aload_n 0, 1, 0, 0, 0, []),
  (6, .iconst 0, 1, 0, 0, 0, []),
  (7, .putfield 184, 3, 6, 29, 713, []),
  (10, .aload_n 0, 1, 0, 0, 0, []),
  (11, .iconst 0, 1, 0, 0, 0, []),
  (12, .putfield 202, 3, 6, 30, 714, []),
  (15, .aload_n 0, 1, 0, 0, 0, []),
  (16, .iconst 0, 1, 0, 0, 0, []),
  (17, .putfield 205, 3, 6, 31, 715, []),
  (20, .iconst 0, 1, 0, 0, 0, []),
  (21, .istore_n 2, 1, 0, 0, 0, []),
  (22, .iload_n 2, 1, 0, 0, 0, []),
  (23, .aload_n 0, 1, 0, 0, 0, []),
  (24, .getfield 89, 3, 6, 7, 692, []),
  (27, .if_icmp .ge 21, 3, 48, 0, 0, []),
  (30, .aload_n 0, 1, 0, 0, 0, []),
  (31, .getfield 49, 3, 6, 23, 707, []),
  (34, .iload_n 2, 1, 0, 0, 0, []),
  (35, .aload_n 0, 1, 0, 0, 0, []),
  (36, .getfield 16, 3, 6, 1, 686, []),
  (39, .iload_n 2, 1, 0, 0, 0, []),
  (40, .iaload, 1, 0, 0, 0, []),
  (41, .iastore, 1, 0, 0, 0, []),
  (42, .iinc 2 1, 3, 0, 0, 0, []),
  (45, .goto (-23), 3, 22, 0, 0, []),
  (48, .iconst 0, 1, 0, 0, 0, []),
  (49, .istore_n 2, 1, 0, 0, 0, []),
  (50, .iload_n 2, 1, 0, 0, 0, []),
  (51, .aload_n 0, 1, 0, 0, 0, []),
  (52, .getfield 96, 3, 6, 8, 693, []),
  (55, .if_icmp .ge 25, 3, 80, 0, 0, []),
  (58, .aload_n 0, 1, 0, 0, 0, []),
  (59, .getfield 52, 3, 6, 24, 708, []),
  (62, .iload_n 2, 1, 0, 0, 0, []),
  (63, .bipush (-9), 2, 0, 0, 0, []),
  (65, .iastore, 1, 0, 0, 0, []),
  (66, .aload_n 0, 1, 0, 0, 0, []),
  (67, .getfield 55, 3, 6, 25, 709, []),
  (70, .iload_n 2, 1, 0, 0, 0, []),
  (71, .bipush (-9), 2, 0, 0, 0, []),
  (73, .iastore, 1, 0, 0, 0, []),
  (74, .iinc 2 1, 3, 0, 0, 0, []),
  (77, .goto (-27), 3, 50, 0, 0, []),
  (80, .iconst 0, 1, 0, 0, 0, []),
  (81, .istore_n 2, 1, 0, 0, 0, []),
  (82, .iload_n 2, 1, 0, 0, 0, []),
  (83, .iconst 3, 1, 0, 0, 0, []),
  (84, .if_icmp .ge 16, 3, 100, 0, 0, []),
  (87, .aload_n 0, 1, 0, 0, 0, []),
  (88, .getfield 58, 3, 6, 26, 710, []),
  (91, .iload_n 2, 1, 0, 0, 0, []),
  (92, .iconst 0, 1, 0, 0, 0, []),
  (93, .iastore, 1, 0, 0, 0, []),
  (94, .iinc 2 1, 3, 0, 0, 0, []),
  (97, .goto (-15), 3, 82, 0, 0, []),
  (100, .iconst 0, 1, 0, 0, 0, []),
  (101, .istore_n 2, 1, 0, 0, 0, []),
  (102, .iload_n 2, 1, 0, 0, 0, []),
  (103, .bipush 60, 2, 0, 0, 0, []),
  (105, .if_icmp .gt 84, 3, 189, 0, 0, []),
  (108, .iconst 0, 1, 0, 0, 0, []),
  (109, .istore_n 3, 1, 0, 0, 0, []),
  (110, .iload_n 3, 1, 0, 0, 0, []),
  (111, .aload_n 0, 1, 0, 0, 0, []),
  (112, .getfield 96, 3, 6, 8, 693, []),
  (115, .if_icmp .ge 24, 3, 139, 0, 0, []),
  (118, .aload_n 0, 1, 0, 0, 0, []),
  (119, .getfield 55, 3, 6, 25, 709, []),
  (122, .iload_n 3, 1, 0, 0, 0, []),
  (123, .iaload, 1, 0, 0, 0, []),
  (124, .iload_n 2, 1, 0, 0, 0, []),
  (125, .if_icmp .ne 8, 3, 133, 0, 0, []),
  (128, .aload_n 0, 1, 0, 0, 0, []),
  (129, .iload_n 3, 1, 0, 0, 0, []),
  (130, .invokevirtual 208, 3, 146, 1, 928, []),
  (133, .iinc 3 1, 3, 0, 0, 0, []),
  (136, .goto (-26), 3, 110, 0, 0, []),
  (139, .iload_n 2, 1, 0, 0, 0, []),
  (140, .bipush 60, 2, 0, 0, 0, []),
  (142, .if_icmp .ge 8, 3, 150, 0, 0, []),
  (145, .aload_n 0, 1, 0, 0, 0, []),
  (146, .iload_n 2, 1, 0, 0, 0, []),
  (147, .invokevirtual 212, 3, 148, 1, 946, []),
  (150, .iconst 0, 1, 0, 0, 0, []),
  (151, .istore_n 3, 1, 0, 0, 0, []),
  (152, .iload_n 3, 1, 0, 0, 0, []),
  (153, .aload_n 0, 1, 0, 0, 0, []),
  (154, .getfield 89, 3, 6, 7, 692, []),
  (157, .if_icmp .ge 26, 3, 183, 0, 0, []),
  (160, .aload_n 0, 1, 0, 0, 0, []),
  (161, .getfield 61, 3, 6, 27, 711, []),
  (164, .bipush 6, 2, 0, 0, 0, []),
  (166, .iload_n 2, 1, 0, 0, 0, []),
  (167, .imul, 1, 0, 0, 0, []),
  (168, .iload_n 3, 1, 0, 0, 0, []),
  (169, .iadd, 1, 0, 0, 0, []),
  (170, .aload_n 0, 1, 0, 0, 0, []),
  (171, .getfield 49, 3, 6, 23, 707, []),
  (174, .iload_n 3, 1, 0, 0, 0, []),
  (175, .iaload, 1, 0, 0, 0, []),
  (176, .iastore, 1, 0, 0, 0, []),
  (177, .iinc 3 1, 3, 0, 0, 0, []),
  (180, .goto (-28), 3, 152, 0, 0, []),
  (183, .iinc 2 1, 3, 0, 0, 0, []),
  (186, .goto (-84), 3, 102, 0, 0, []),
  (189, .aload_n 0, 1, 0, 0, 0, []),
  (190, .iconst 0, 1, 0, 0, 0, []),
  (191, .putfield 193, 3, 6, 28, 712, []),
  (194, .aload_n 0, 1, 0, 0, 0, []),
  (195, .invokevirtual 215, 3, 150, 0, 954, []),
  (198, .ireturn, 1, 0, 0, 0, [])]
def cd_Mo_all : List (Nat × En) := [(0, .iconst 0, 1, 0, 0, 0, []),
  (1, .istore_n 1, 1, 0, 0, 0, []),
  (2, .iconst 0, 1, 0, 0, 0, []),
  (3, .istore_n 2, 1, 0, 0, 0, []),
  (4, .iload_n 2, 1, 0, 0, 0, []),
  (5, .aload_n 0, 1, 0, 0, 0, []),
  (6, .getfield 89, 3, 6, 7, 692, []),
  (9, .if_icmp .ge 18, 3, 27, 0, 0, []),
  (12, .iload_n 1, 1, 0, 0, 0, []),
  (13, .aload_n 0, 1, 0, 0, 0, []),
  (14, .getfield 49, 3, 6, 23, 707, []),
  (17, .iload_n 2, 1, 0, 0, 0, []),
  (18, .iaload, 1, 0, 0, 0, []),
  (19, .iadd, 1, 0, 0, 0, []),
  (20, .istore_n 1, 1, 0, 0, 0, []),
  (21, .iinc 2 1, 3, 0, 0, 0, []),
  (24, .goto (-20), 3, 4, 0, 0, []),
  (27, .iload_n 1, 1, 0, 0, 0, []),
  (28, .ireturn, 1, 0, 0, 0, [])]
def cd_Mo_openedMany : List (Nat × En) := [(0, .iconst 0, 1, 0, 0, 0, []),
  (1, .istore_n 1, 1, 0, 0, 0, []),
  (2, .iconst 0, 1, 0, 0, 0, []),
  (3, .istore_n 2, 1, 0, 0, 0, []),
  (4, .iload_n 2, 1, 0, 0, 0, []),
  (5, .aload_n 0, 1, 0, 0, 0, []),
  (6, .getfield 96, 3, 6, 8, 693, []),
  (9, .if_icmp .ge 26, 3, 35, 0, 0, []),
  (12, .iload_n 1, 1, 0, 0, 0, []),
  (13, .aload_n 0, 1, 0, 0, 0, []),
  (14, .getfield 55, 3, 6, 25, 709, []),
  (17, .iload_n 2, 1, 0, 0, 0, []),
  (18, .iaload, 1, 0, 0, 0, []),
  (19, .ifCond .lt 7, 3, 26, 0, 0, []),
  (22, .iconst 1, 1, 0, 0, 0, []),
  (23, .goto 4, 3, 27, 0, 0, []),
  (26, .iconst 0, 1, 0, 0, 0, []),
  (27, .iadd, 1, 0, 0, 0, []),
  (28, .istore_n 1, 1, 0, 0, 0, []),
  (29, .iinc 2 1, 3, 0, 0, 0, []),
  (32, .goto (-28), 3, 4, 0, 0, []),
  (35, .iload_n 1, 1, 0, 0, 0, []),
  (36, .ireturn, 1, 0, 0, 0, [])]
def cd_Mo_billOf : List (Nat × En) := [(0, .iconst 0, 1, 0, 0, 0, []),
  (1, .istore_n 2, 1, 0, 0, 0, []),
  (2, .iconst 0, 1, 0, 0, 0, []),
  (3, .istore_n 3, 1, 0, 0, 0, []),
  (4, .iload_n 3, 1, 0, 0, 0, []),
  (5, .aload_n 0, 1, 0, 0, 0, []),
  (6, .getfield 96, 3, 6, 8, 693, []),
  (9, .if_icmp .ge 44, 3, 53, 0, 0, []),
  (12, .iload_n 2, 1, 0, 0, 0, []),
  (13, .aload_n 0, 1, 0, 0, 0, []),
  (14, .getfield 55, 3, 6, 25, 709, []),
  (17, .iload_n 3, 1, 0, 0, 0, []),
  (18, .iaload, 1, 0, 0, 0, []),
  (19, .ifCond .lt 25, 3, 44, 0, 0, []),
  (22, .iload_n 1, 1, 0, 0, 0, []),
  (23, .ifCond .lt 13, 3, 36, 0, 0, []),
  (26, .aload_n 0, 1, 0, 0, 0, []),
  (27, .getfield 25, 3, 6, 4, 689, []),
  (30, .iload_n 3, 1, 0, 0, 0, []),
  (31, .iaload, 1, 0, 0, 0, []),
  (32, .iload_n 1, 1, 0, 0, 0, []),
  (33, .if_icmp .ne 11, 3, 44, 0, 0, []),
  (36, .aload_n 0, 1, 0, 0, 0, []),
  (37, .iload_n 3, 1, 0, 0, 0, []),
  (38, .invokevirtual 218, 3, 143, 1, 896, []),
  (41, .goto 4, 3, 45, 0, 0, []),
  (44, .iconst 0, 1, 0, 0, 0, []),
  (45, .iadd, 1, 0, 0, 0, []),
  (46, .istore_n 2, 1, 0, 0, 0, []),
  (47, .iinc 3 1, 3, 0, 0, 0, []),
  (50, .goto (-46), 3, 4, 0, 0, []),
  (53, .iload_n 2, 1, 0, 0, 0, []),
  (54, .ireturn, 1, 0, 0, 0, [])]
def cd_Mo_guest : List (Nat × En) := [(0, .aload_n 0, 1, 0, 0, 0, []),
  (1, .iload_n 1, 1, 0, 0, 0, []),
  (2, .invokevirtual 92, 3, 122, 1, 860, []),
  (5, .ifCond .ne 9, 3, 14, 0, 0, []),
  (8, .aload_n 0, 1, 0, 0, 0, []),
  (9, .iconst (-1), 1, 0, 0, 0, []),
  (10, .invokevirtual 106, 3, 115, 1, 806, []),
  (13, .ireturn, 1, 0, 0, 0, []),
  (14, .iload_n 2, 1, 0, 0, 0, []),
  (15, .ifCond .ne 12, 3, 27, 0, 0, []),
  (18, .aload_n 0, 1, 0, 0, 0, []),
  (19, .getfield 13, 3, 6, 0, 685, []),
  (22, .iload_n 1, 1, 0, 0, 0, []),
  (23, .iaload, 1, 0, 0, 0, []),
  (24, .goto 23, 3, 47, 0, 0, []),
  (27, .iload_n 2, 1, 0, 0, 0, []),
  (28, .iconst 1, 1, 0, 0, 0, []),
  (29, .if_icmp .ne 12, 3, 41, 0, 0, []),
  (32, .aload_n 0, 1, 0, 0, 0, []),
  (33, .getfield 16, 3, 6, 1, 686, []),
  (36, .iload_n 1, 1, 0, 0, 0, []),
  (37, .iaload, 1, 0, 0, 0, []),
  (38, .goto 9, 3, 47, 0, 0, []),
  (41, .aload_n 0, 1, 0, 0, 0, []),
  (42, .bipush (-2), 2, 0, 0, 0, []),
  (44, .invokevirtual 106, 3, 115, 1, 806, []),
  (47, .ireturn, 1, 0, 0, 0, [])]
def cd_Mo_remark : List (Nat × En) := [(0, .aload_n 0, 1, 0, 0, 0, []),
  (1, .iload_n 1, 1, 0, 0, 0, []),
  (2, .invokevirtual 221, 3, 124, 1, 888, []),
  (5, .ifCond .ne 9, 3, 14, 0, 0, []),
  (8, .aload_n 0, 1, 0, 0, 0, []),
  (9, .iconst (-1), 1, 0, 0, 0, []),
  (10, .invokevirtual 106, 3, 115, 1, 806, []),
  (13, .ireturn, 1, 0, 0, 0, []),
  (14, .iload_n 2, 1, 0, 0, 0, []),
  (15, .tableswitch 98 0 7 #[45, 52, 59, 66, 73, 80, 86, 92], 45, 113, 0, 0, [(0, 60), (1, 67), (2, 74), (3, 81), (4, 88), (5, 95), (6, 101), (7, 107)]),
  (60, .aload_n 0, 1, 0, 0, 0, []),
  (61, .getfield 19, 3, 6, 2, 687, []),
  (64, .iload_n 1, 1, 0, 0, 0, []),
  (65, .iaload, 1, 0, 0, 0, []),
  (66, .ireturn, 1, 0, 0, 0, []),
  (67, .aload_n 0, 1, 0, 0, 0, []),
  (68, .getfield 22, 3, 6, 3, 688, []),
  (71, .iload_n 1, 1, 0, 0, 0, []),
  (72, .iaload, 1, 0, 0, 0, []),
  (73, .ireturn, 1, 0, 0, 0, []),
  (74, .aload_n 0, 1, 0, 0, 0, []),
  (75, .getfield 25, 3, 6, 4, 689, []),
  (78, .iload_n 1, 1, 0, 0, 0, []),
  (79, .iaload, 1, 0, 0, 0, []),
  (80, .ireturn, 1, 0, 0, 0, []),
  (81, .aload_n 0, 1, 0, 0, 0, []),
  (82, .getfield 28, 3, 6, 5, 690, []),
  (85, .iload_n 1, 1, 0, 0, 0, []),
  (86, .iaload, 1, 0, 0, 0, []),
  (87, .ireturn, 1, 0, 0, 0, []),
  (88, .aload_n 0, 1, 0, 0, 0, []),
  (89, .getfield 31, 3, 6, 6, 691, []),
  (92, .iload_n 1, 1, 0, 0, 0, []),
  (93, .iaload, 1, 0, 0, 0, []),
  (94, .ireturn, 1, 0, 0, 0, []),
  (95, .aload_n 0, 1, 0, 0, 0, []),
  (96, .iload_n 1, 1, 0, 0, 0, []),
  (97, .invokevirtual 199, 3, 140, 1, 892, []),
  (100, .ireturn, 1, 0, 0, 0, []),
  (101, .aload_n 0, 1, 0, 0, 0, []),
  (102, .iload_n 1, 1, 0, 0, 0, []),
  (103, .invokevirtual 218, 3, 143, 1, 896, []),
  (106, .ireturn, 1, 0, 0, 0, []),
  (107, .aload_n 0, 1, 0, 0, 0, []),
  (108, .iload_n 1, 1, 0, 0, 0, []),
  (109, .invokevirtual 175, 3, 144, 1, 900, []),
  (112, .ireturn, 1, 0, 0, 0, []),
  (113, .aload_n 0, 1, 0, 0, 0, []),
  (114, .bipush (-2), 2, 0, 0, 0, []),
  (116, .invokevirtual 106, 3, 115, 1, 806, []),
  (119, .ireturn, 1, 0, 0, 0, [])]
def cd_Mo_ready : List (Nat × En) := [(0, .aload_n 0, 1, 0, 0, 0, []),
  (1, .iload_n 1, 1, 0, 0, 0, []),
  (2, .invokevirtual 221, 3, 124, 1, 888, []),
  (5, .ifCond .ne 7, 3, 12, 0, 0, []),
  (8, .iconst (-1), 1, 0, 0, 0, []),
  (9, .goto 10, 3, 19, 0, 0, []),
  (12, .iload_n 2, 1, 0, 0, 0, []),
  (13, .iconst 0, 1, 0, 0, 0, []),
  (14, .bipush 59, 2, 0, 0, 0, []),
  (16, .invokestatic 99, 3, 119, 3, 803, []),
  (19, .istore_n 3, 1, 0, 0, 0, []),
  (20, .iload_n 3, 1, 0, 0, 0, []),
  (21, .ifCond .eq 9, 3, 30, 0, 0, []),
  (24, .aload_n 0, 1, 0, 0, 0, []),
  (25, .iload_n 3, 1, 0, 0, 0, []),
  (26, .invokevirtual 106, 3, 115, 1, 806, []),
  (29, .ireturn, 1, 0, 0, 0, []),
  (30, .aload_n 0, 1, 0, 0, 0, []),
  (31, .getfield 31, 3, 6, 6, 691, []),
  (34, .iload_n 1, 1, 0, 0, 0, []),
  (35, .iaload, 1, 0, 0, 0, []),
  (36, .istore 4, 2, 0, 0, 0, []),
  (38, .aload_n 0, 1, 0, 0, 0, []),
  (39, .getfield 31, 3, 6, 6, 691, []),
  (42, .iload_n 1, 1, 0, 0, 0, []),
  (43, .iload_n 2, 1, 0, 0, 0, []),
  (44, .iastore, 1, 0, 0, 0, []),
  (45, .iload 4, 2, 0, 0, 0, []),
  (47, .ireturn, 1, 0, 0, 0, [])]
def cd_Mo_mood : List (Nat × En) := [(0, .aload_n 0, 1, 0, 0, 0, []),
  (1, .iload_n 1, 1, 0, 0, 0, []),
  (2, .invokevirtual 92, 3, 122, 1, 860, []),
  (5, .ifCond .ne 7, 3, 12, 0, 0, []),
  (8, .iconst (-1), 1, 0, 0, 0, []),
  (9, .goto 10, 3, 19, 0, 0, []),
  (12, .iload_n 2, 1, 0, 0, 0, []),
  (13, .iconst 0, 1, 0, 0, 0, []),
  (14, .bipush 40, 2, 0, 0, 0, []),
  (16, .invokestatic 99, 3, 119, 3, 803, []),
  (19, .istore_n 3, 1, 0, 0, 0, []),
  (20, .iload_n 3, 1, 0, 0, 0, []),
  (21, .ifCond .eq 9, 3, 30, 0, 0, []),
  (24, .aload_n 0, 1, 0, 0, 0, []),
  (25, .iload_n 3, 1, 0, 0, 0, []),
  (26, .invokevirtual 106, 3, 115, 1, 806, []),
  (29, .ireturn, 1, 0, 0, 0, []),
  (30, .aload_n 0, 1, 0, 0, 0, []),
  (31, .getfield 16, 3, 6, 1, 686, []),
  (34, .iload_n 1, 1, 0, 0, 0, []),
  (35, .iaload, 1, 0, 0, 0, []),
  (36, .istore 4, 2, 0, 0, 0, []),
  (38, .aload_n 0, 1, 0, 0, 0, []),
  (39, .getfield 16, 3, 6, 1, 686, []),
  (42, .iload_n 1, 1, 0, 0, 0, []),
  (43, .iload_n 2, 1, 0, 0, 0, []),
  (44, .iastore, 1, 0, 0, 0, []),
  (45, .iload 4, 2, 0, 0, 0, []),
  (47, .ireturn, 1, 0, 0, 0, [])]
def cd_Mo_change : List (Nat × En) := [(0, .aload_n 0, 1, 0, 0, 0, []),
  (1, .iload_n 1, 1, 0, 0, 0, []),
  (2, .iload_n 2, 1, 0, 0, 0, []),
  (3, .invokevirtual 140, 3, 123, 2, 864, []),
  (6, .ifCond .ne 9, 3, 15, 0, 0, []),
  (9, .aload_n 0, 1, 0, 0, 0, []),
  (10, .iconst (-1), 1, 0, 0, 0, []),
  (11, .invokevirtual 106, 3, 115, 1, 806, []),
  (14, .ireturn, 1, 0, 0, 0, []),
  (15, .aload_n 0, 1, 0, 0, 0, []),
  (16, .iload_n 1, 1, 0, 0, 0, []),
  (17, .iload_n 2, 1, 0, 0, 0, []),
  (18, .invokevirtual 143, 3, 145, 2, 868, []),
  (21, .aload_n 0, 1, 0, 0, 0, []),
  (22, .getfield 13, 3, 6, 0, 685, []),
  (25, .iload_n 1, 1, 0, 0, 0, []),
  (26, .iaload, 1, 0, 0, 0, []),
  (27, .ireturn, 1, 0, 0, 0, [])]
def cd_Mo_set : List (Nat × En) := [(0, .iload_n 1, 1, 0, 0, 0, []),
  (1, .iconst 0, 1, 0, 0, 0, []),
  (2, .iconst 1, 1, 0, 0, 0, []),
  (3, .invokestatic 117, 3, 118, 3, 830, []),
  (6, .ifCond .ne 8, 3, 14, 0, 0, []),
  (9, .bipush (-2), 2, 0, 0, 0, []),
  (11, .goto 23, 3, 34, 0, 0, []),
  (14, .iload_n 1, 1, 0, 0, 0, []),
  (15, .ifCond .ne 12, 3, 27, 0, 0, []),
  (18, .iload_n 2, 1, 0, 0, 0, []),
  (19, .iconst 1, 1, 0, 0, 0, []),
  (20, .iconst 3, 1, 0, 0, 0, []),
  (21, .invokestatic 99, 3, 119, 3, 803, []),
  (24, .goto 10, 3, 34, 0, 0, []),
  (27, .iload_n 2, 1, 0, 0, 0, []),
  (28, .iconst 0, 1, 0, 0, 0, []),
  (29, .bipush 9, 2, 0, 0, 0, []),
  (31, .invokestatic 99, 3, 119, 3, 803, []),
  (34, .istore_n 3, 1, 0, 0, 0, []),
  (35, .iload_n 3, 1, 0, 0, 0, []),
  (36, .ifCond .eq 9, 3, 45, 0, 0, []),
  (39, .aload_n 0, 1, 0, 0, 0, []),
  (40, .iload_n 3, 1, 0, 0, 0, []),
  (41, .invokevirtual 106, 3, 115, 1, 806, []),
  (44, .ireturn, 1, 0, 0, 0, []),
  (45, .iload_n 1, 1, 0, 0, 0, []),
  (46, .ifCond .ne 10, 3, 56, 0, 0, []),
  (49, .aload_n 0, 1, 0, 0, 0, []),
  (50, .getfield 79, 3, 6, 9, 694, []),
  (53, .goto 7, 3, 60, 0, 0, []),
  (56, .aload_n 0, 1, 0, 0, 0, []),
  (57, .getfield 83, 3, 6, 10, 695, []),
  (60, .istore 4, 2, 0, 0, 0, []),
  (62, .iload_n 1, 1, 0, 0, 0, []),
  (63, .ifCond .ne 11, 3, 74, 0, 0, []),
  (66, .aload_n 0, 1, 0, 0, 0, []),
  (67, .iload_n 2, 1, 0, 0, 0, []),
  (68, .putfield 79, 3, 6, 9, 694, []),
  (71, .goto 8, 3, 79, 0, 0, []),
  (74, .aload_n 0, 1, 0, 0, 0, []),
  (75, .iload_n 2, 1, 0, 0, 0, []),
  (76, .putfield 83, 3, 6, 10, 695, []),
  (79, .iload 4, 2, 0, 0, 0, []),
  (81, .ireturn, 1, 0, 0, 0, [])]
def cd_Mo_lastOpened : List (Nat × En) := [(0, .bipush (-9), 2, 0, 0, 0, []),
  (2, .istore_n 1, 1, 0, 0, 0, []),
  (3, .iconst 0, 1, 0, 0, 0, []),
  (4, .istore_n 2, 1, 0, 0, 0, []),
  (5, .iload_n 2, 1, 0, 0, 0, []),
  (6, .aload_n 0, 1, 0, 0, 0, []),
  (7, .getfield 96, 3, 6, 8, 693, []),
  (10, .if_icmp .ge 30, 3, 40, 0, 0, []),
  (13, .aload_n 0, 1, 0, 0, 0, []),
  (14, .getfield 55, 3, 6, 25, 709, []),
  (17, .iload_n 2, 1, 0, 0, 0, []),
  (18, .iaload, 1, 0, 0, 0, []),
  (19, .iload_n 1, 1, 0, 0, 0, []),
  (20, .if_icmp .le 12, 3, 32, 0, 0, []),
  (23, .aload_n 0, 1, 0, 0, 0, []),
  (24, .getfield 55, 3, 6, 25, 709, []),
  (27, .iload_n 2, 1, 0, 0, 0, []),
  (28, .iaload, 1, 0, 0, 0, []),
  (29, .goto 4, 3, 33, 0, 0, []),
  (32, .iload_n 1, 1, 0, 0, 0, []),
  (33, .istore_n 1, 1, 0, 0, 0, []),
  (34, .iinc 2 1, 3, 0, 0, 0, []),
  (37, .goto (-32), 3, 5, 0, 0, []),
  (40, .iload_n 1, 1, 0, 0, 0, []),
  (41, .ireturn, 1, 0, 0, 0, [])]
def cd_Mo_sums : List (Nat × En) := [(0, .iload_n 1, 1, 0, 0, 0, []),
  (1, .iconst 0, 1, 0, 0, 0, []),
  (2, .iconst 4, 1, 0, 0, 0, []),
  (3, .invokestatic 117, 3, 118, 3, 830, []),
  (6, .ifCond .ne 10, 3, 16, 0, 0, []),
  (9, .aload_n 0, 1, 0, 0, 0, []),
  (10, .bipush (-2), 2, 0, 0, 0, []),
  (12, .invokevirtual 106, 3, 115, 1, 806, []),
  (15, .ireturn, 1, 0, 0, 0, []),
  (16, .aload_n 0, 1, 0, 0, 0, []),
  (17, .iconst 0, 1, 0, 0, 0, []),
  (18, .invokevirtual 224, 3, 149, 1, 924, []),
  (21, .istore_n 2, 1, 0, 0, 0, []),
  (22, .iload_n 1, 1, 0, 0, 0, []),
  (23, .ifCond .ne 7, 3, 30, 0, 0, []),
  (26, .iload_n 2, 1, 0, 0, 0, []),
  (27, .goto 47, 3, 74, 0, 0, []),
  (30, .iload_n 1, 1, 0, 0, 0, []),
  (31, .iconst 1, 1, 0, 0, 0, []),
  (32, .if_icmp .ne 11, 3, 43, 0, 0, []),
  (35, .aload_n 0, 1, 0, 0, 0, []),
  (36, .iconst (-1), 1, 0, 0, 0, []),
  (37, .invokevirtual 227, 3, 152, 1, 958, []),
  (40, .goto 34, 3, 74, 0, 0, []),
  (43, .iload_n 1, 1, 0, 0, 0, []),
  (44, .iconst 2, 1, 0, 0, 0, []),
  (45, .if_icmp .ne 10, 3, 55, 0, 0, []),
  (48, .aload_n 0, 1, 0, 0, 0, []),
  (49, .invokevirtual 230, 3, 151, 0, 962, []),
  (52, .goto 22, 3, 74, 0, 0, []),
  (55, .iload_n 1, 1, 0, 0, 0, []),
  (56, .iconst 3, 1, 0, 0, 0, []),
  (57, .if_icmp .ne 13, 3, 70, 0, 0, []),
  (60, .aload_n 0, 1, 0, 0, 0, []),
  (61, .getfield 184, 3, 6, 29, 713, []),
  (64, .invokestatic 181, 3, 121, 1, 935, []),
  (67, .goto 7, 3, 74, 0, 0, []),
  (70, .aload_n 0, 1, 0, 0, 0, []),
  (71, .invokevirtual 233, 3, 159, 0, 966, []),
  (74, .ireturn, 1, 0, 0, 0, [])]
def cd_Mo_of : List (Nat × En) := [(0, .aload_n 0, 1, 0, 0, 0, []),
  (1, .iload_n 1, 1, 0, 0, 0, []),
  (2, .invokevirtual 221, 3, 124, 1, 888, []),
  (5, .ifCond .ne 7, 3, 12, 0, 0, []),
  (8, .iconst (-1), 1, 0, 0, 0, []),
  (9, .goto 18, 3, 27, 0, 0, []),
  (12, .iload_n 2, 1, 0, 0, 0, []),
  (13, .iconst 0, 1, 0, 0, 0, []),
  (14, .iconst 2, 1, 0, 0, 0, []),
  (15, .invokestatic 117, 3, 118, 3, 830, []),
  (18, .ifCond .ne 8, 3, 26, 0, 0, []),
  (21, .bipush (-2), 2, 0, 0, 0, []),
  (23, .goto 4, 3, 27, 0, 0, []),
  (26, .iconst 0, 1, 0, 0, 0, []),
  (27, .istore_n 3, 1, 0, 0, 0, []),
  (28, .iload_n 3, 1, 0, 0, 0, []),
  (29, .ifCond .eq 9, 3, 38, 0, 0, []),
  (32, .aload_n 0, 1, 0, 0, 0, []),
  (33, .iload_n 3, 1, 0, 0, 0, []),
  (34, .invokevirtual 106, 3, 115, 1, 806, []),
  (37, .ireturn, 1, 0, 0, 0, []),
  (38, .aload_n 0, 1, 0, 0, 0, []),
  (39, .iconst 0, 1, 0, 0, 0, []),
  (40, .invokevirtual 224, 3, 149, 1, 924, []),
  (43, .pop, 1, 0, 0, 0, []),
  (44, .iload_n 2, 1, 0, 0, 0, []),
  (45, .ifCond .ne 12, 3, 57, 0, 0, []),
  (48, .aload_n 0, 1, 0, 0, 0, []),
  (49, .getfield 52, 3, 6, 24, 708, []),
  (52, .iload_n 1, 1, 0, 0, 0, []),
  (53, .iaload, 1, 0, 0, 0, []),
  (54, .goto 25, 3, 79, 0, 0, []),
  (57, .iload_n 2, 1, 0, 0, 0, []),
  (58, .iconst 1, 1, 0, 0, 0, []),
  (59, .if_icmp .ne 12, 3, 71, 0, 0, []),
  (62, .aload_n 0, 1, 0, 0, 0, []),
  (63, .getfield 55, 3, 6, 25, 709, []),
  (66, .iload_n 1, 1, 0, 0, 0, []),
  (67, .iaload, 1, 0, 0, 0, []),
  (68, .goto 11, 3, 79, 0, 0, []),
  (71, .aload_n 0, 1, 0, 0, 0, []),
  (72, .getfield 184, 3, 6, 29, 713, []),
  (75, .iload_n 1, 1, 0, 0, 0, []),
  (76, .ishr, 1, 0, 0, 0, []),
  (77, .iconst 1, 1, 0, 0, 0, []),
  (78, .iand, 1, 0, 0, 0, []),
  (79, .ireturn, 1, 0, 0, 0, [])]
def cd_Mo_moodAt : List (Nat × En) := [(0, .aload_n 0, 1, 0, 0, 0, []),
  (1, .iload_n 1, 1, 0, 0, 0, []),
  (2, .invokevirtual 92, 3, 122, 1, 860, []),
  (5, .ifCond .ne 7, 3, 12, 0, 0, []),
  (8, .iconst (-1), 1, 0, 0, 0, []),
  (9, .goto 10, 3, 19, 0, 0, []),
  (12, .iload_n 2, 1, 0, 0, 0, []),
  (13, .iconst 0, 1, 0, 0, 0, []),
  (14, .bipush 60, 2, 0, 0, 0, []),
  (16, .invokestatic 99, 3, 119, 3, 803, []),
  (19, .istore_n 3, 1, 0, 0, 0, []),
  (20, .iload_n 3, 1, 0, 0, 0, []),
  (21, .ifCond .eq 9, 3, 30, 0, 0, []),
  (24, .aload_n 0, 1, 0, 0, 0, []),
  (25, .iload_n 3, 1, 0, 0, 0, []),
  (26, .invokevirtual 106, 3, 115, 1, 806, []),
  (29, .ireturn, 1, 0, 0, 0, []),
  (30, .aload_n 0, 1, 0, 0, 0, []),
  (31, .iconst 0, 1, 0, 0, 0, []),
  (32, .invokevirtual 224, 3, 149, 1, 924, []),
  (35, .pop, 1, 0, 0, 0, []),
  (36, .aload_n 0, 1, 0, 0, 0, []),
  (37, .getfield 61, 3, 6, 27, 711, []),
  (40, .bipush 6, 2, 0, 0, 0, []),
  (42, .iload_n 2, 1, 0, 0, 0, []),
  (43, .imul, 1, 0, 0, 0, []),
  (44, .iload_n 1, 1, 0, 0, 0, []),
  (45, .iadd, 1, 0, 0, 0, []),
  (46, .iaload, 1, 0, 0, 0, []),
  (47, .ireturn, 1, 0, 0, 0, [])]
def cd_Mo_bill : List (Nat × En) := [(0, .aload_n 0, 1, 0, 0, 0, []),
  (1, .iload_n 1, 1, 0, 0, 0, []),
  (2, .invokevirtual 92, 3, 122, 1, 860, []),
  (5, .ifCond .ne 9, 3, 14, 0, 0, []),
  (8, .aload_n 0, 1, 0, 0, 0, []),
  (9, .iconst (-1), 1, 0, 0, 0, []),
  (10, .invokevirtual 106, 3, 115, 1, 806, []),
  (13, .ireturn, 1, 0, 0, 0, []),
  (14, .aload_n 0, 1, 0, 0, 0, []),
  (15, .iconst 0, 1, 0, 0, 0, []),
  (16, .invokevirtual 224, 3, 149, 1, 924, []),
  (19, .pop, 1, 0, 0, 0, []),
  (20, .aload_n 0, 1, 0, 0, 0, []),
  (21, .iload_n 1, 1, 0, 0, 0, []),
  (22, .invokevirtual 227, 3, 152, 1, 958, []),
  (25, .ireturn, 1, 0, 0, 0, [])]
def cd_Mo_without : List (Nat × En) := [(0, .aload_n 0, 1, 0, 0, 0, []),
  (1, .iload_n 1, 1, 0, 0, 0, []),
  (2, .invokevirtual 221, 3, 124, 1, 888, []),
  (5, .ifCond .ne 9, 3, 14, 0, 0, []),
  (8, .aload_n 0, 1, 0, 0, 0, []),
  (9, .iconst (-1), 1, 0, 0, 0, []),
  (10, .invokevirtual 236, 3, 116, 1, 986, []),
  (13, .ireturn, 1, 0, 0, 0, []),
  (14, .aload_n 0, 1, 0, 0, 0, []),
  (15, .iconst 0, 1, 0, 0, 0, []),
  (16, .invokevirtual 224, 3, 149, 1, 924, []),
  (19, .istore_n 2, 1, 0, 0, 0, []),
  (20, .aload_n 0, 1, 0, 0, 0, []),
  (21, .iconst 1, 1, 0, 0, 0, []),
  (22, .iload_n 1, 1, 0, 0, 0, []),
  (23, .ishl, 1, 0, 0, 0, []),
  (24, .invokevirtual 224, 3, 149, 1, 924, []),
  (27, .iload_n 2, 1, 0, 0, 0, []),
  (28, .isub, 1, 0, 0, 0, []),
  (29, .ireturn, 1, 0, 0, 0, [])]
def cd_Mo_moodsReady : List (Nat × En) := [(0, .aload_n 0, 1, 0, 0, 0, []),
  (1, .getfield 31, 3, 6, 6, 691, []),
  (4, .iload_n 1, 1, 0, 0, 0, []),
  (5, .iaload, 1, 0, 0, 0, []),
  (6, .istore_n 3, 1, 0, 0, 0, []),
  (7, .aload_n 0, 1, 0, 0, 0, []),
  (8, .getfield 31, 3, 6, 6, 691, []),
  (11, .iload_n 1, 1, 0, 0, 0, []),
  (12, .iload_n 2, 1, 0, 0, 0, []),
  (13, .iastore, 1, 0, 0, 0, []),
  (14, .aload_n 0, 1, 0, 0, 0, []),
  (15, .iconst 0, 1, 0, 0, 0, []),
  (16, .invokevirtual 224, 3, 149, 1, 924, []),
  (19, .istore 4, 2, 0, 0, 0, []),
  (21, .aload_n 0, 1, 0, 0, 0, []),
  (22, .getfield 31, 3, 6, 6, 691, []),
  (25, .iload_n 1, 1, 0, 0, 0, []),
  (26, .iload_n 3, 1, 0, 0, 0, []),
  (27, .iastore, 1, 0, 0, 0, []),
  (28, .iload 4, 2, 0, 0, 0, []),
  (30, .ireturn, 1, 0, 0, 0, [])]
def cd_Mo_bestMinute : List (Nat × En) := [(0, .aload_n 0, 1, 0, 0, 0, []),
  (1, .iload_n 1, 1, 0, 0, 0, []),
  (2, .invokevirtual 221, 3, 124, 1, 888, []),
  (5, .ifCond .ne 9, 3, 14, 0, 0, []),
  (8, .aload_n 0, 1, 0, 0, 0, []),
  (9, .iconst (-1), 1, 0, 0, 0, []),
  (10, .invokevirtual 106, 3, 115, 1, 806, []),
  (13, .ireturn, 1, 0, 0, 0, []),
  (14, .iconst 0, 1, 0, 0, 0, []),
  (15, .istore_n 2, 1, 0, 0, 0, []),
  (16, .aload_n 0, 1, 0, 0, 0, []),
  (17, .iload_n 1, 1, 0, 0, 0, []),
  (18, .iconst 0, 1, 0, 0, 0, []),
  (19, .invokevirtual 239, 3, 165, 2, 995, []),
  (22, .istore_n 3, 1, 0, 0, 0, []),
  (23, .iconst 1, 1, 0, 0, 0, []),
  (24, .istore 4, 2, 0, 0, 0, []),
  (26, .iload 4, 2, 0, 0, 0, []),
  (28, .bipush 60, 2, 0, 0, 0, []),
  (30, .if_icmp .ge 33, 3, 63, 0, 0, []),
  (33, .aload_n 0, 1, 0, 0, 0, []),
  (34, .iload_n 1, 1, 0, 0, 0, []),
  (35, .iload 4, 2, 0, 0, 0, []),
  (37, .invokevirtual 239, 3, 165, 2, 995, []),
  (40, .istore 5, 2, 0, 0, 0, []),
  (42, .iload 5, 2, 0, 0, 0, []),
  (44, .iload_n 3, 1, 0, 0, 0, []),
  (45, .if_icmp .gt 6, 3, 51, 0, 0, []),
  (48, .goto 9, 3, 57, 0, 0, []),
  (51, .iload 4, 2, 0, 0, 0, []),
  (53, .istore_n 2, 1, 0, 0, 0, []),
  (54, .iload 5, 2, 0, 0, 0, []),
  (56, .istore_n 3, 1, 0, 0, 0, []),
  (57, .iinc 4 1, 3, 0, 0, 0, []),
  (60, .goto (-34), 3, 26, 0, 0, []),
  (63, .iload_n 2, 1, 0, 0, 0, []),
  (64, .ireturn, 1, 0, 0, 0, [])]
def cd_Mo_enough : List (Nat × En) := [(0, .aload_n 0, 1, 0, 0, 0, []),
  (1, .getfield 79, 3, 6, 9, 694, []),
  (4, .istore_n 1, 1, 0, 0, 0, []),
  (5, .bipush (-9), 2, 0, 0, 0, []),
  (7, .istore_n 2, 1, 0, 0, 0, []),
  (8, .iconst 3, 1, 0, 0, 0, []),
  (9, .istore_n 3, 1, 0, 0, 0, []),
  (10, .iload_n 3, 1, 0, 0, 0, []),
  (11, .ifCond .le 37, 3, 48, 0, 0, []),
  (14, .aload_n 0, 1, 0, 0, 0, []),
  (15, .iload_n 3, 1, 0, 0, 0, []),
  (16, .putfield 79, 3, 6, 9, 694, []),
  (19, .aload_n 0, 1, 0, 0, 0, []),
  (20, .iconst 0, 1, 0, 0, 0, []),
  (21, .invokevirtual 224, 3, 149, 1, 924, []),
  (24, .pop, 1, 0, 0, 0, []),
  (25, .aload_n 0, 1, 0, 0, 0, []),
  (26, .invokevirtual 230, 3, 151, 0, 962, []),
  (29, .aload_n 0, 1, 0, 0, 0, []),
  (30, .getfield 96, 3, 6, 8, 693, []),
  (33, .if_icmp .ne 7, 3, 40, 0, 0, []),
  (36, .iload_n 3, 1, 0, 0, 0, []),
  (37, .goto 4, 3, 41, 0, 0, []),
  (40, .iload_n 2, 1, 0, 0, 0, []),
  (41, .istore_n 2, 1, 0, 0, 0, []),
  (42, .iinc 3 (-1), 3, 0, 0, 0, []),
  (45, .goto (-35), 3, 10, 0, 0, []),
  (48, .aload_n 0, 1, 0, 0, 0, []),
  (49, .iload_n 1, 1, 0, 0, 0, []),
  (50, .putfield 79, 3, 6, 9, 694, []),
  (53, .iload_n 2, 1, 0, 0, 0, []),
  (54, .ireturn, 1, 0, 0, 0, [])]
def cd_Mo_swap : List (Nat × En) := [(0, .aload_n 0, 1, 0, 0, 0, []),
  (1, .iconst 0, 1, 0, 0, 0, []),
  (2, .invokevirtual 224, 3, 149, 1, 924, []),
  (5, .istore_n 1, 1, 0, 0, 0, []),
  (6, .bipush (-9), 2, 0, 0, 0, []),
  (8, .istore_n 2, 1, 0, 0, 0, []),
  (9, .iconst 0, 1, 0, 0, 0, []),
  (10, .istore_n 3, 1, 0, 0, 0, []),
  (11, .iload_n 3, 1, 0, 0, 0, []),
  (12, .aload_n 0, 1, 0, 0, 0, []),
  (13, .getfield 89, 3, 6, 7, 692, []),
  (16, .if_icmp .ge 70, 3, 86, 0, 0, []),
  (19, .iload_n 3, 1, 0, 0, 0, []),
  (20, .iconst 1, 1, 0, 0, 0, []),
  (21, .iadd, 1, 0, 0, 0, []),
  (22, .istore 4, 2, 0, 0, 0, []),
  (24, .iload 4, 2, 0, 0, 0, []),
  (26, .aload_n 0, 1, 0, 0, 0, []),
  (27, .getfield 89, 3, 6, 7, 692, []),
  (30, .if_icmp .ge 50, 3, 80, 0, 0, []),
  (33, .aload_n 0, 1, 0, 0, 0, []),
  (34, .iload_n 3, 1, 0, 0, 0, []),
  (35, .iload 4, 2, 0, 0, 0, []),
  (37, .invokevirtual 143, 3, 145, 2, 868, []),
  (40, .aload_n 0, 1, 0, 0, 0, []),
  (41, .iconst 0, 1, 0, 0, 0, []),
  (42, .invokevirtual 224, 3, 149, 1, 924, []),
  (45, .istore 5, 2, 0, 0, 0, []),
  (47, .aload_n 0, 1, 0, 0, 0, []),
  (48, .iload_n 3, 1, 0, 0, 0, []),
  (49, .iload 4, 2, 0, 0, 0, []),
  (51, .invokevirtual 143, 3, 145, 2, 868, []),
  (54, .iload 5, 2, 0, 0, 0, []),
  (56, .iload_n 1, 1, 0, 0, 0, []),
  (57, .if_icmp .gt 6, 3, 63, 0, 0, []),
  (60, .goto 14, 3, 74, 0, 0, []),
  (63, .bipush 10, 2, 0, 0, 0, []),
  (65, .iload_n 3, 1, 0, 0, 0, []),
  (66, .imul, 1, 0, 0, 0, []),
  (67, .iload 4, 2, 0, 0, 0, []),
  (69, .iadd, 1, 0, 0, 0, []),
  (70, .istore_n 2, 1, 0, 0, 0, []),
  (71, .iload 5, 2, 0, 0, 0, []),
  (73, .istore_n 1, 1, 0, 0, 0, []),
  (74, .iinc 4 1, 3, 0, 0, 0, []),
  (77, .goto (-53), 3, 24, 0, 0, []),
  (80, .iinc 3 1, 3, 0, 0, 0, []),
  (83, .goto (-72), 3, 11, 0, 0, []),
  (86, .iload_n 2, 1, 0, 0, 0, []),
  (87, .ireturn, 1, 0, 0, 0, [])]
def cd_Mo_fit : List (Nat × En) := [(0, .aload_n 0, 1, 0, 0, 0, []),
  (1, .iconst 0, 1, 0, 0, 0, []),
  (2, .invokevirtual 224, 3, 149, 1, 924, []),
  (5, .istore_n 1, 1, 0, 0, 0, []),
  (6, .bipush (-9), 2, 0, 0, 0, []),
  (8, .istore_n 2, 1, 0, 0, 0, []),
  (9, .iconst 0, 1, 0, 0, 0, []),
  (10, .istore_n 3, 1, 0, 0, 0, []),
  (11, .iload_n 3, 1, 0, 0, 0, []),
  (12, .aload_n 0, 1, 0, 0, 0, []),
  (13, .getfield 96, 3, 6, 8, 693, []),
  (16, .if_icmp .ge 78, 3, 94, 0, 0, []),
  (19, .aload_n 0, 1, 0, 0, 0, []),
  (20, .getfield 25, 3, 6, 4, 689, []),
  (23, .iload_n 3, 1, 0, 0, 0, []),
  (24, .iaload, 1, 0, 0, 0, []),
  (25, .istore 4, 2, 0, 0, 0, []),
  (27, .iconst 0, 1, 0, 0, 0, []),
  (28, .istore 5, 2, 0, 0, 0, []),
  (30, .iload 5, 2, 0, 0, 0, []),
  (32, .aload_n 0, 1, 0, 0, 0, []),
  (33, .getfield 89, 3, 6, 7, 692, []),
  (36, .if_icmp .ge 44, 3, 80, 0, 0, []),
  (39, .aload_n 0, 1, 0, 0, 0, []),
  (40, .getfield 25, 3, 6, 4, 689, []),
  (43, .iload_n 3, 1, 0, 0, 0, []),
  (44, .iload 5, 2, 0, 0, 0, []),
  (46, .iastore, 1, 0, 0, 0, []),
  (47, .aload_n 0, 1, 0, 0, 0, []),
  (48, .iconst 0, 1, 0, 0, 0, []),
  (49, .invokevirtual 224, 3, 149, 1, 924, []),
  (52, .istore 6, 2, 0, 0, 0, []),
  (54, .iload 6, 2, 0, 0, 0, []),
  (56, .iload_n 1, 1, 0, 0, 0, []),
  (57, .if_icmp .gt 6, 3, 63, 0, 0, []),
  (60, .goto 14, 3, 74, 0, 0, []),
  (63, .bipush 10, 2, 0, 0, 0, []),
  (65, .iload_n 3, 1, 0, 0, 0, []),
  (66, .imul, 1, 0, 0, 0, []),
  (67, .iload 5, 2, 0, 0, 0, []),
  (69, .iadd, 1, 0, 0, 0, []),
  (70, .istore_n 2, 1, 0, 0, 0, []),
  (71, .iload 6, 2, 0, 0, 0, []),
  (73, .istore_n 1, 1, 0, 0, 0, []),
  (74, .iinc 5 1, 3, 0, 0, 0, []),
  (77, .goto (-47), 3, 30, 0, 0, []),
  (80, .aload_n 0, 1, 0, 0, 0, []),
  (81, .getfield 25, 3, 6, 4, 689, []),
  (84, .iload_n 3, 1, 0, 0, 0, []),
  (85, .iload 4, 2, 0, 0, 0, []),
  (87, .iastore, 1, 0, 0, 0, []),
  (88, .iinc 3 1, 3, 0, 0, 0, []),
  (91, .goto (-80), 3, 11, 0, 0, []),
  (94, .iload_n 2, 1, 0, 0, 0, []),
  (95, .ireturn, 1, 0, 0, 0, [])]
def cd_Mo_likedBy : List (Nat × En) := [(0, .iconst 0, 1, 0, 0, 0, []),
  (1, .istore_n 2, 1, 0, 0, 0, []),
  (2, .iconst 0, 1, 0, 0, 0, []),
  (3, .istore_n 3, 1, 0, 0, 0, []),
  (4, .iload_n 3, 1, 0, 0, 0, []),
  (5, .aload_n 0, 1, 0, 0, 0, []),
  (6, .getfield 89, 3, 6, 7, 692, []),
  (9, .if_icmp .ge 22, 3, 31, 0, 0, []),
  (12, .iload_n 2, 1, 0, 0, 0, []),
  (13, .aload_n 0, 1, 0, 0, 0, []),
  (14, .getfield 13, 3, 6, 0, 685, []),
  (17, .iload_n 3, 1, 0, 0, 0, []),
  (18, .iaload, 1, 0, 0, 0, []),
  (19, .iload_n 1, 1, 0, 0, 0, []),
  (20, .ishr, 1, 0, 0, 0, []),
  (21, .iconst 1, 1, 0, 0, 0, []),
  (22, .iand, 1, 0, 0, 0, []),
  (23, .iadd, 1, 0, 0, 0, []),
  (24, .istore_n 2, 1, 0, 0, 0, []),
  (25, .iinc 3 1, 3, 0, 0, 0, []),
  (28, .goto (-24), 3, 4, 0, 0, []),
  (31, .iload_n 2, 1, 0, 0, 0, []),
  (32, .ireturn, 1, 0, 0, 0, [])]
def cd_Mo_could : List (Nat × En) := [(0, .iload_n 1, 1, 0, 0, 0, []),
  (1, .iconst 0, 1, 0, 0, 0, []),
  (2, .iconst 1, 1, 0, 0, 0, []),
  (3, .invokestatic 117, 3, 118, 3, 830, []),
  (6, .ifCond .ne 10, 3, 16, 0, 0, []),
  (9, .aload_n 0, 1, 0, 0, 0, []),
  (10, .bipush (-2), 2, 0, 0, 0, []),
  (12, .invokevirtual 106, 3, 115, 1, 806, []),
  (15, .ireturn, 1, 0, 0, 0, []),
  (16, .iconst 0, 1, 0, 0, 0, []),
  (17, .istore_n 2, 1, 0, 0, 0, []),
  (18, .iconst 0, 1, 0, 0, 0, []),
  (19, .istore_n 3, 1, 0, 0, 0, []),
  (20, .iload_n 3, 1, 0, 0, 0, []),
  (21, .bipush 8, 2, 0, 0, 0, []),
  (23, .if_icmp .ge 28, 3, 51, 0, 0, []),
  (26, .aload_n 0, 1, 0, 0, 0, []),
  (27, .iload_n 3, 1, 0, 0, 0, []),
  (28, .invokevirtual 243, 3, 170, 1, 1015, []),
  (31, .iload_n 2, 1, 0, 0, 0, []),
  (32, .if_icmp .le 11, 3, 43, 0, 0, []),
  (35, .aload_n 0, 1, 0, 0, 0, []),
  (36, .iload_n 3, 1, 0, 0, 0, []),
  (37, .invokevirtual 243, 3, 170, 1, 1015, []),
  (40, .goto 4, 3, 44, 0, 0, []),
  (43, .iload_n 2, 1, 0, 0, 0, []),
  (44, .istore_n 2, 1, 0, 0, 0, []),
  (45, .iinc 3 1, 3, 0, 0, 0, []),
  (48, .goto (-28), 3, 20, 0, 0, []),
  (51, .iconst 0, 1, 0, 0, 0, []),
  (52, .istore_n 3, 1, 0, 0, 0, []),
  (53, .iconst 0, 1, 0, 0, 0, []),
  (54, .istore 4, 2, 0, 0, 0, []),
  (56, .iload 4, 2, 0, 0, 0, []),
  (58, .bipush 8, 2, 0, 0, 0, []),
  (60, .if_icmp .ge 30, 3, 90, 0, 0, []),
  (63, .iload_n 3, 1, 0, 0, 0, []),
  (64, .aload_n 0, 1, 0, 0, 0, []),
  (65, .iload 4, 2, 0, 0, 0, []),
  (67, .invokevirtual 243, 3, 170, 1, 1015, []),
  (70, .iload_n 2, 1, 0, 0, 0, []),
  (71, .if_icmp .ne 10, 3, 81, 0, 0, []),
  (74, .iconst 1, 1, 0, 0, 0, []),
  (75, .iload 4, 2, 0, 0, 0, []),
  (77, .ishl, 1, 0, 0, 0, []),
  (78, .goto 4, 3, 82, 0, 0, []),
  (81, .iconst 0, 1, 0, 0, 0, []),
  (82, .ior, 1, 0, 0, 0, []),
  (83, .istore_n 3, 1, 0, 0, 0, []),
  (84, .iinc 4 1, 3, 0, 0, 0, []),
  (87, .goto (-31), 3, 56, 0, 0, []),
  (90, .iload_n 1, 1, 0, 0, 0, []),
  (91, .ifCond .ne 7, 3, 98, 0, 0, []),
  (94, .iload_n 3, 1, 0, 0, 0, []),
  (95, .goto 4, 3, 99, 0, 0, []),
  (98, .iload_n 2, 1, 0, 0, 0, []),
  (99, .ireturn, 1, 0, 0, 0, [])]
def cd_Mo_dear : List (Nat × En) := [(0, .aload_n 0, 1, 0, 0, 0, []),
  (1, .getfield 96, 3, 6, 8, 693, []),
  (4, .ifCond .ne 8, 3, 12, 0, 0, []),
  (7, .bipush (-9), 2, 0, 0, 0, []),
  (9, .goto 4, 3, 13, 0, 0, []),
  (12, .iconst 0, 1, 0, 0, 0, []),
  (13, .istore_n 1, 1, 0, 0, 0, []),
  (14, .iconst 1, 1, 0, 0, 0, []),
  (15, .istore_n 2, 1, 0, 0, 0, []),
  (16, .iload_n 2, 1, 0, 0, 0, []),
  (17, .aload_n 0, 1, 0, 0, 0, []),
  (18, .getfield 96, 3, 6, 8, 693, []),
  (21, .if_icmp .ge 28, 3, 49, 0, 0, []),
  (24, .aload_n 0, 1, 0, 0, 0, []),
  (25, .iload_n 2, 1, 0, 0, 0, []),
  (26, .invokevirtual 218, 3, 143, 1, 896, []),
  (29, .aload_n 0, 1, 0, 0, 0, []),
  (30, .iload_n 1, 1, 0, 0, 0, []),
  (31, .invokevirtual 218, 3, 143, 1, 896, []),
  (34, .if_icmp .le 7, 3, 41, 0, 0, []),
  (37, .iload_n 2, 1, 0, 0, 0, []),
  (38, .goto 4, 3, 42, 0, 0, []),
  (41, .iload_n 1, 1, 0, 0, 0, []),
  (42, .istore_n 1, 1, 0, 0, 0, []),
  (43, .iinc 2 1, 3, 0, 0, 0, []),
  (46, .goto (-30), 3, 16, 0, 0, []),
  (49, .iload_n 1, 1, 0, 0, 0, []),
  (50, .ireturn, 1, 0, 0, 0, [])]
def cd_Mo_spare : List (Nat × En) := [(0, .iload_n 1, 1, 0, 0, 0, []),
  (1, .iconst 0, 1, 0, 0, 0, []),
  (2, .iconst 1, 1, 0, 0, 0, []),
  (3, .invokestatic 117, 3, 118, 3, 830, []),
  (6, .ifCond .ne 10, 3, 16, 0, 0, []),
  (9, .aload_n 0, 1, 0, 0, 0, []),
  (10, .bipush (-2), 2, 0, 0, 0, []),
  (12, .invokevirtual 106, 3, 115, 1, 806, []),
  (15, .ireturn, 1, 0, 0, 0, []),
  (16, .bipush (-9), 2, 0, 0, 0, []),
  (18, .istore_n 2, 1, 0, 0, 0, []),
  (19, .iconst 0, 1, 0, 0, 0, []),
  (20, .istore_n 3, 1, 0, 0, 0, []),
  (21, .iload_n 3, 1, 0, 0, 0, []),
  (22, .iconst 1, 1, 0, 0, 0, []),
  (23, .aload_n 0, 1, 0, 0, 0, []),
  (24, .getfield 96, 3, 6, 8, 693, []),
  (27, .ishl, 1, 0, 0, 0, []),
  (28, .if_icmp .ge 46, 3, 74, 0, 0, []),
  (31, .iload_n 2, 1, 0, 0, 0, []),
  (32, .ifCond .lt 17, 3, 49, 0, 0, []),
  (35, .iload_n 3, 1, 0, 0, 0, []),
  (36, .invokestatic 181, 3, 121, 1, 935, []),
  (39, .iload_n 2, 1, 0, 0, 0, []),
  (40, .invokestatic 181, 3, 121, 1, 935, []),
  (43, .if_icmp .lt 6, 3, 49, 0, 0, []),
  (46, .goto 22, 3, 68, 0, 0, []),
  (49, .aload_n 0, 1, 0, 0, 0, []),
  (50, .iload_n 3, 1, 0, 0, 0, []),
  (51, .invokevirtual 224, 3, 149, 1, 924, []),
  (54, .pop, 1, 0, 0, 0, []),
  (55, .aload_n 0, 1, 0, 0, 0, []),
  (56, .getfield 184, 3, 6, 29, 713, []),
  (59, .ifCond .ne 7, 3, 66, 0, 0, []),
  (62, .iload_n 3, 1, 0, 0, 0, []),
  (63, .goto 4, 3, 67, 0, 0, []),
  (66, .iload_n 2, 1, 0, 0, 0, []),
  (67, .istore_n 2, 1, 0, 0, 0, []),
  (68, .iinc 3 1, 3, 0, 0, 0, []),
  (71, .goto (-50), 3, 21, 0, 0, []),
  (74, .iload_n 1, 1, 0, 0, 0, []),
  (75, .ifCond .ne 7, 3, 82, 0, 0, []),
  (78, .iload_n 2, 1, 0, 0, 0, []),
  (79, .goto 7, 3, 86, 0, 0, []),
  (82, .iload_n 2, 1, 0, 0, 0, []),
  (83, .invokestatic 181, 3, 121, 1, 935, []),
  (86, .ireturn, 1, 0, 0, 0, [])]
def cd_Mo_cold : List (Nat × En) := [(0, .iconst 0, 1, 0, 0, 0, []),
  (1, .istore_n 1, 1, 0, 0, 0, []),
  (2, .aload_n 0, 1, 0, 0, 0, []),
  (3, .iconst 0, 1, 0, 0, 0, []),
  (4, .invokevirtual 224, 3, 149, 1, 924, []),
  (7, .istore_n 2, 1, 0, 0, 0, []),
  (8, .iconst 1, 1, 0, 0, 0, []),
  (9, .istore_n 3, 1, 0, 0, 0, []),
  (10, .iload_n 3, 1, 0, 0, 0, []),
  (11, .iconst 1, 1, 0, 0, 0, []),
  (12, .aload_n 0, 1, 0, 0, 0, []),
  (13, .getfield 96, 3, 6, 8, 693, []),
  (16, .ishl, 1, 0, 0, 0, []),
  (17, .if_icmp .ge 47, 3, 64, 0, 0, []),
  (20, .aload_n 0, 1, 0, 0, 0, []),
  (21, .iload_n 3, 1, 0, 0, 0, []),
  (22, .invokevirtual 224, 3, 149, 1, 924, []),
  (25, .istore 4, 2, 0, 0, 0, []),
  (27, .iload 4, 2, 0, 0, 0, []),
  (29, .iload_n 2, 1, 0, 0, 0, []),
  (30, .if_icmp .lt 28, 3, 58, 0, 0, []),
  (33, .iload 4, 2, 0, 0, 0, []),
  (35, .iload_n 2, 1, 0, 0, 0, []),
  (36, .if_icmp .ne 17, 3, 53, 0, 0, []),
  (39, .iload_n 3, 1, 0, 0, 0, []),
  (40, .invokestatic 181, 3, 121, 1, 935, []),
  (43, .iload_n 1, 1, 0, 0, 0, []),
  (44, .invokestatic 181, 3, 121, 1, 935, []),
  (47, .if_icmp .lt 6, 3, 53, 0, 0, []),
  (50, .goto 8, 3, 58, 0, 0, []),
  (53, .iload_n 3, 1, 0, 0, 0, []),
  (54, .istore_n 1, 1, 0, 0, 0, []),
  (55, .iload 4, 2, 0, 0, 0, []),
  (57, .istore_n 2, 1, 0, 0, 0, []),
  (58, .iinc 3 1, 3, 0, 0, 0, []),
  (61, .goto (-51), 3, 10, 0, 0, []),
  (64, .iload_n 1, 1, 0, 0, 0, []),
  (65, .ireturn, 1, 0, 0, 0, [])]
def cd_Mo_isOpenedAt : List (Nat × En) := [(0, .iconst 0, 1, 0, 0, 0, []),
  (1, .istore_n 2, 1, 0, 0, 0, []),
  (2, .iload_n 2, 1, 0, 0, 0, []),
  (3, .aload_n 0, 1, 0, 0, 0, []),
  (4, .getfield 96, 3, 6, 8, 693, []),
  (7, .if_icmp .ge 21, 3, 28, 0, 0, []),
  (10, .aload_n 0, 1, 0, 0, 0, []),
  (11, .getfield 55, 3, 6, 25, 709, []),
  (14, .iload_n 2, 1, 0, 0, 0, []),
  (15, .iaload, 1, 0, 0, 0, []),
  (16, .iload_n 1, 1, 0, 0, 0, []),
  (17, .if_icmp .ne 5, 3, 22, 0, 0, []),
  (20, .iconst 1, 1, 0, 0, 0, []),
  (21, .ireturn, 1, 1, 0, 0, []),
  (22, .iinc 2 1, 3, 0, 0, 0, []),
  (25, .goto (-23), 3, 2, 0, 0, []),
  (28, .iconst 0, 1, 0, 0, 0, []),
  (29, .ireturn, 1, 1, 0, 0, [])]
def cd_Mo_silence : List (Nat × En) := [(0, .iload_n 1, 1, 0, 0, 0, []),
  (1, .iconst 0, 1, 0, 0, 0, []),
  (2, .iconst 1, 1, 0, 0, 0, []),
  (3, .invokestatic 117, 3, 118, 3, 830, []),
  (6, .ifCond .ne 10, 3, 16, 0, 0, []),
  (9, .aload_n 0, 1, 0, 0, 0, []),
  (10, .bipush (-2), 2, 0, 0, 0, []),
  (12, .invokevirtual 106, 3, 115, 1, 806, []),
  (15, .ireturn, 1, 0, 0, 0, []),
  (16, .aload_n 0, 1, 0, 0, 0, []),
  (17, .iconst 0, 1, 0, 0, 0, []),
  (18, .invokevirtual 224, 3, 149, 1, 924, []),
  (21, .pop, 1, 0, 0, 0, []),
  (22, .iconst 0, 1, 0, 0, 0, []),
  (23, .istore_n 2, 1, 0, 0, 0, []),
  (24, .bipush (-9), 2, 0, 0, 0, []),
  (26, .istore_n 3, 1, 0, 0, 0, []),
  (27, .iconst 0, 1, 0, 0, 0, []),
  (28, .istore 4, 2, 0, 0, 0, []),
  (30, .iconst 0, 1, 0, 0, 0, []),
  (31, .istore 5, 2, 0, 0, 0, []),
  (33, .iload 5, 2, 0, 0, 0, []),
  (35, .bipush 60, 2, 0, 0, 0, []),
  (37, .if_icmp .gt 48, 3, 85, 0, 0, []),
  (40, .aload_n 0, 1, 0, 0, 0, []),
  (41, .iload 5, 2, 0, 0, 0, []),
  (43, .invokevirtual 246, 3, 175, 1, 1035, []),
  (46, .ifCond .eq 7, 3, 53, 0, 0, []),
  (49, .iconst 0, 1, 0, 0, 0, []),
  (50, .goto 7, 3, 57, 0, 0, []),
  (53, .iload 4, 2, 0, 0, 0, []),
  (55, .iconst 1, 1, 0, 0, 0, []),
  (56, .iadd, 1, 0, 0, 0, []),
  (57, .istore 4, 2, 0, 0, 0, []),
  (59, .iload 4, 2, 0, 0, 0, []),
  (61, .iload_n 2, 1, 0, 0, 0, []),
  (62, .if_icmp .gt 6, 3, 68, 0, 0, []),
  (65, .goto 14, 3, 79, 0, 0, []),
  (68, .iload 4, 2, 0, 0, 0, []),
  (70, .istore_n 2, 1, 0, 0, 0, []),
  (71, .iload 5, 2, 0, 0, 0, []),
  (73, .iconst 1, 1, 0, 0, 0, []),
  (74, .iadd, 1, 0, 0, 0, []),
  (75, .iload 4, 2, 0, 0, 0, []),
  (77, .isub, 1, 0, 0, 0, []),
  (78, .istore_n 3, 1, 0, 0, 0, []),
  (79, .iinc 5 1, 3, 0, 0, 0, []),
  (82, .goto (-49), 3, 33, 0, 0, []),
  (85, .iload_n 1, 1, 0, 0, 0, []),
  (86, .ifCond .ne 7, 3, 93, 0, 0, []),
  (89, .iload_n 2, 1, 0, 0, 0, []),
  (90, .goto 4, 3, 94, 0, 0, []),
  (93, .iload_n 3, 1, 0, 0, 0, []),
  (94, .ireturn, 1, 0, 0, 0, [])]
def cd_Mo_busy : List (Nat × En) := [(0, .iload_n 1, 1, 0, 0, 0, []),
  (1, .iconst 0, 1, 0, 0, 0, []),
  (2, .iconst 1, 1, 0, 0, 0, []),
  (3, .invokestatic 117, 3, 118, 3, 830, []),
  (6, .ifCond .ne 10, 3, 16, 0, 0, []),
  (9, .aload_n 0, 1, 0, 0, 0, []),
  (10, .bipush (-2), 2, 0, 0, 0, []),
  (12, .invokevirtual 106, 3, 115, 1, 806, []),
  (15, .ireturn, 1, 0, 0, 0, []),
  (16, .aload_n 0, 1, 0, 0, 0, []),
  (17, .iconst 0, 1, 0, 0, 0, []),
  (18, .invokevirtual 224, 3, 149, 1, 924, []),
  (21, .pop, 1, 0, 0, 0, []),
  (22, .iload_n 1, 1, 0, 0, 0, []),
  (23, .ifCond .ne 10, 3, 33, 0, 0, []),
  (26, .aload_n 0, 1, 0, 0, 0, []),
  (27, .getfield 202, 3, 6, 30, 714, []),
  (30, .goto 7, 3, 37, 0, 0, []),
  (33, .aload_n 0, 1, 0, 0, 0, []),
  (34, .getfield 205, 3, 6, 31, 715, []),
  (37, .ireturn, 1, 0, 0, 0, [])]
def cd_Mo_isSo : List (Nat × En) := [(0, .aload_n 0, 1, 0, 0, 0, []),
  (1, .iconst 0, 1, 0, 0, 0, []),
  (2, .invokevirtual 224, 3, 149, 1, 924, []),
  (5, .pop, 1, 0, 0, 0, []),
  (6, .iconst 0, 1, 0, 0, 0, []),
  (7, .istore_n 2, 1, 0, 0, 0, []),
  (8, .iload_n 2, 1, 0, 0, 0, []),
  (9, .aload_n 0, 1, 0, 0, 0, []),
  (10, .getfield 249, 3, 6, 33, 717, []),
  (13, .if_icmp .ge 31, 3, 44, 0, 0, []),
  (16, .aload_n 0, 1, 0, 0, 0, []),
  (17, .getfield 61, 3, 6, 27, 711, []),
  (20, .bipush 6, 2, 0, 0, 0, []),
  (22, .iload_n 2, 1, 0, 0, 0, []),
  (23, .imul, 1, 0, 0, 0, []),
  (24, .iload_n 1, 1, 0, 0, 0, []),
  (25, .iadd, 1, 0, 0, 0, []),
  (26, .iaload, 1, 0, 0, 0, []),
  (27, .aload_n 0, 1, 0, 0, 0, []),
  (28, .getfield 64, 3, 6, 32, 716, []),
  (31, .iload_n 2, 1, 0, 0, 0, []),
  (32, .iaload, 1, 0, 0, 0, []),
  (33, .if_icmp .eq 5, 3, 38, 0, 0, []),
  (36, .iconst 0, 1, 0, 0, 0, []),
  (37, .ireturn, 1, 1, 0, 0, []),
  (38, .iinc 2 1, 3, 0, 0, 0, []),
  (41, .goto (-33), 3, 8, 0, 0, []),
  (44, .iconst 1, 1, 0, 0, 0, []),
  (45, .ireturn, 1, 1, 0, 0, [])]
def cd_Mo_who : List (Nat × En) := [(0, .aload_n 0, 1, 0, 0, 0, []),
  (1, .iload_n 1, 1, 0, 0, 0, []),
  (2, .invokevirtual 92, 3, 122, 1, 860, []),
  (5, .ifCond .eq 11, 3, 16, 0, 0, []),
  (8, .aload_n 0, 1, 0, 0, 0, []),
  (9, .iload_n 2, 1, 0, 0, 0, []),
  (10, .invokevirtual 221, 3, 124, 1, 888, []),
  (13, .ifCond .ne 7, 3, 20, 0, 0, []),
  (16, .iconst (-1), 1, 0, 0, 0, []),
  (17, .goto 18, 3, 35, 0, 0, []),
  (20, .iload_n 3, 1, 0, 0, 0, []),
  (21, .iconst 0, 1, 0, 0, 0, []),
  (22, .iconst 1, 1, 0, 0, 0, []),
  (23, .invokestatic 117, 3, 118, 3, 830, []),
  (26, .ifCond .ne 8, 3, 34, 0, 0, []),
  (29, .bipush (-2), 2, 0, 0, 0, []),
  (31, .goto 4, 3, 35, 0, 0, []),
  (34, .iconst 0, 1, 0, 0, 0, []),
  (35, .istore 4, 2, 0, 0, 0, []),
  (37, .iload 4, 2, 0, 0, 0, []),
  (39, .ifCond .eq 10, 3, 49, 0, 0, []),
  (42, .aload_n 0, 1, 0, 0, 0, []),
  (43, .iload 4, 2, 0, 0, 0, []),
  (45, .invokevirtual 106, 3, 115, 1, 806, []),
  (48, .ireturn, 1, 0, 0, 0, []),
  (49, .aload_n 0, 1, 0, 0, 0, []),
  (50, .getfield 19, 3, 6, 2, 687, []),
  (53, .iload_n 2, 1, 0, 0, 0, []),
  (54, .iaload, 1, 0, 0, 0, []),
  (55, .istore 5, 2, 0, 0, 0, []),
  (57, .aload_n 0, 1, 0, 0, 0, []),
  (58, .getfield 28, 3, 6, 5, 690, []),
  (61, .iload_n 2, 1, 0, 0, 0, []),
  (62, .iaload, 1, 0, 0, 0, []),
  (63, .istore 6, 2, 0, 0, 0, []),
  (65, .iconst 0, 1, 0, 0, 0, []),
  (66, .istore 7, 2, 0, 0, 0, []),
  (68, .iconst 0, 1, 0, 0, 0, []),
  (69, .istore 8, 2, 0, 0, 0, []),
  (71, .iload 8, 2, 0, 0, 0, []),
  (73, .iload_n 3, 1, 0, 0, 0, []),
  (74, .ifCond .ne 8, 3, 82, 0, 0, []),
  (77, .bipush 6, 2, 0, 0, 0, []),
  (79, .goto 5, 3, 84, 0, 0, []),
  (82, .bipush 8, 2, 0, 0, 0, []),
  (84, .if_icmp .ge 53, 3, 137, 0, 0, []),
  (87, .iload_n 3, 1, 0, 0, 0, []),
  (88, .ifCond .ne 14, 3, 102, 0, 0, []),
  (91, .aload_n 0, 1, 0, 0, 0, []),
  (92, .getfield 19, 3, 6, 2, 687, []),
  (95, .iload_n 2, 1, 0, 0, 0, []),
  (96, .iload 8, 2, 0, 0, 0, []),
  (98, .iastore, 1, 0, 0, 0, []),
  (99, .goto 11, 3, 110, 0, 0, []),
  (102, .aload_n 0, 1, 0, 0, 0, []),
  (103, .getfield 28, 3, 6, 5, 690, []),
  (106, .iload_n 2, 1, 0, 0, 0, []),
  (107, .iload 8, 2, 0, 0, 0, []),
  (109, .iastore, 1, 0, 0, 0, []),
  (110, .iload 7, 2, 0, 0, 0, []),
  (112, .aload_n 0, 1, 0, 0, 0, []),
  (113, .iload_n 1, 1, 0, 0, 0, []),
  (114, .invokevirtual 252, 3, 178, 1, 1047, []),
  (117, .ifCond .eq 10, 3, 127, 0, 0, []),
  (120, .iconst 1, 1, 0, 0, 0, []),
  (121, .iload 8, 2, 0, 0, 0, []),
  (123, .ishl, 1, 0, 0, 0, []),
  (124, .goto 4, 3, 128, 0, 0, []),
  (127, .iconst 0, 1, 0, 0, 0, []),
  (128, .ior, 1, 0, 0, 0, []),
  (129, .istore 7, 2, 0, 0, 0, []),
  (131, .iinc 8 1, 3, 0, 0, 0, []),
  (134, .goto (-63), 3, 71, 0, 0, []),
  (137, .aload_n 0, 1, 0, 0, 0, []),
  (138, .getfield 19, 3, 6, 2, 687, []),
  (141, .iload_n 2, 1, 0, 0, 0, []),
  (142, .iload 5, 2, 0, 0, 0, []),
  (144, .iastore, 1, 0, 0, 0, []),
  (145, .aload_n 0, 1, 0, 0, 0, []),
  (146, .getfield 28, 3, 6, 5, 690, []),
  (149, .iload_n 2, 1, 0, 0, 0, []),
  (150, .iload 6, 2, 0, 0, 0, []),
  (152, .iastore, 1, 0, 0, 0, []),
  (153, .iload 7, 2, 0, 0, 0, []),
  (155, .ireturn, 1, 0, 0, 0, [])]
def cd_Mo_broughtBy : List (Nat × En) := [(0, .iconst 0, 1, 0, 0, 0, []),
  (1, .istore_n 2, 1, 0, 0, 0, []),
  (2, .iconst 0, 1, 0, 0, 0, []),
  (3, .istore_n 3, 1, 0, 0, 0, []),
  (4, .iload_n 3, 1, 0, 0, 0, []),
  (5, .aload_n 0, 1, 0, 0, 0, []),
  (6, .getfield 96, 3, 6, 8, 693, []),
  (9, .if_icmp .ge 29, 3, 38, 0, 0, []),
  (12, .iload_n 2, 1, 0, 0, 0, []),
  (13, .aload_n 0, 1, 0, 0, 0, []),
  (14, .getfield 25, 3, 6, 4, 689, []),
  (17, .iload_n 3, 1, 0, 0, 0, []),
  (18, .iaload, 1, 0, 0, 0, []),
  (19, .iload_n 1, 1, 0, 0, 0, []),
  (20, .if_icmp .ne 9, 3, 29, 0, 0, []),
  (23, .iconst 1, 1, 0, 0, 0, []),
  (24, .iload_n 3, 1, 0, 0, 0, []),
  (25, .ishl, 1, 0, 0, 0, []),
  (26, .goto 4, 3, 30, 0, 0, []),
  (29, .iconst 0, 1, 0, 0, 0, []),
  (30, .ior, 1, 0, 0, 0, []),
  (31, .istore_n 2, 1, 0, 0, 0, []),
  (32, .iinc 3 1, 3, 0, 0, 0, []),
  (35, .goto (-31), 3, 4, 0, 0, []),
  (38, .iload_n 2, 1, 0, 0, 0, []),
  (39, .ireturn, 1, 0, 0, 0, [])]
def cd_Mo_rests : List (Nat × En) := [(0, .aload_n 0, 1, 0, 0, 0, []),
  (1, .getfield 67, 3, 6, 34, 718, []),
  (4, .iload_n 1, 1, 0, 0, 0, []),
  (5, .iaload, 1, 0, 0, 0, []),
  (6, .aload_n 0, 1, 0, 0, 0, []),
  (7, .getfield 67, 3, 6, 34, 718, []),
  (10, .iload_n 1, 1, 0, 0, 0, []),
  (11, .iconst 2, 1, 0, 0, 0, []),
  (12, .ixor, 1, 0, 0, 0, []),
  (13, .iaload, 1, 0, 0, 0, []),
  (14, .if_icmp .lt 24, 3, 38, 0, 0, []),
  (17, .aload_n 0, 1, 0, 0, 0, []),
  (18, .getfield 70, 3, 6, 35, 719, []),
  (21, .iload_n 1, 1, 0, 0, 0, []),
  (22, .iaload, 1, 0, 0, 0, []),
  (23, .aload_n 0, 1, 0, 0, 0, []),
  (24, .getfield 70, 3, 6, 35, 719, []),
  (27, .iload_n 1, 1, 0, 0, 0, []),
  (28, .iconst 1, 1, 0, 0, 0, []),
  (29, .ixor, 1, 0, 0, 0, []),
  (30, .iaload, 1, 0, 0, 0, []),
  (31, .if_icmp .lt 7, 3, 38, 0, 0, []),
  (34, .iconst 1, 1, 0, 0, 0, []),
  (35, .goto 4, 3, 39, 0, 0, []),
  (38, .iconst 0, 1, 0, 0, 0, []),
  (39, .ireturn, 1, 1, 0, 0, [])]
def cd_Mo_haggle : List (Nat × En) := [(0, .aload_n 0, 1, 0, 0, 0, []),
  (1, .iload_n 1, 1, 0, 0, 0, []),
  (2, .iload_n 2, 1, 0, 0, 0, []),
  (3, .invokevirtual 140, 3, 123, 2, 864, []),
  (6, .ifCond .ne 9, 3, 15, 0, 0, []),
  (9, .aload_n 0, 1, 0, 0, 0, []),
  (10, .iconst (-1), 1, 0, 0, 0, []),
  (11, .invokevirtual 106, 3, 115, 1, 806, []),
  (14, .ireturn, 1, 0, 0, 0, []),
  (15, .iconst 0, 1, 0, 0, 0, []),
  (16, .istore_n 3, 1, 0, 0, 0, []),
  (17, .iload_n 3, 1, 0, 0, 0, []),
  (18, .iconst 4, 1, 0, 0, 0, []),
  (19, .if_icmp .ge 83, 3, 102, 0, 0, []),
  (22, .aload_n 0, 1, 0, 0, 0, []),
  (23, .iload_n 3, 1, 0, 0, 0, []),
  (24, .iconst 2, 1, 0, 0, 0, []),
  (25, .idiv, 1, 0, 0, 0, []),
  (26, .iconst 1, 1, 0, 0, 0, []),
  (27, .if_icmp .ne 11, 3, 38, 0, 0, []),
  (30, .aload_n 0, 1, 0, 0, 0, []),
  (31, .iload_n 1, 1, 0, 0, 0, []),
  (32, .invokevirtual 255, 3, 180, 1, 1055, []),
  (35, .goto 4, 3, 39, 0, 0, []),
  (38, .iconst 0, 1, 0, 0, 0, []),
  (39, .iload_n 3, 1, 0, 0, 0, []),
  (40, .iconst 2, 1, 0, 0, 0, []),
  (41, .irem, 1, 0, 0, 0, []),
  (42, .iconst 1, 1, 0, 0, 0, []),
  (43, .if_icmp .ne 11, 3, 54, 0, 0, []),
  (46, .aload_n 0, 1, 0, 0, 0, []),
  (47, .iload_n 2, 1, 0, 0, 0, []),
  (48, .invokevirtual 255, 3, 180, 1, 1055, []),
  (51, .goto 4, 3, 55, 0, 0, []),
  (54, .iconst 0, 1, 0, 0, 0, []),
  (55, .ior, 1, 0, 0, 0, []),
  (56, .invokevirtual 224, 3, 149, 1, 924, []),
  (59, .pop, 1, 0, 0, 0, []),
  (60, .aload_n 0, 1, 0, 0, 0, []),
  (61, .getfield 67, 3, 6, 34, 718, []),
  (64, .iload_n 3, 1, 0, 0, 0, []),
  (65, .aload_n 0, 1, 0, 0, 0, []),
  (66, .getfield 49, 3, 6, 23, 707, []),
  (69, .iload_n 1, 1, 0, 0, 0, []),
  (70, .iaload, 1, 0, 0, 0, []),
  (71, .aload_n 0, 1, 0, 0, 0, []),
  (72, .iload_n 1, 1, 0, 0, 0, []),
  (73, .invokevirtual 227, 3, 152, 1, 958, []),
  (76, .isub, 1, 0, 0, 0, []),
  (77, .iastore, 1, 0, 0, 0, []),
  (78, .aload_n 0, 1, 0, 0, 0, []),
  (79, .getfield 70, 3, 6, 35, 719, []),
  (82, .iload_n 3, 1, 0, 0, 0, []),
  (83, .aload_n 0, 1, 0, 0, 0, []),
  (84, .getfield 49, 3, 6, 23, 707, []),
  (87, .iload_n 2, 1, 0, 0, 0, []),
  (88, .iaload, 1, 0, 0, 0, []),
  (89, .aload_n 0, 1, 0, 0, 0, []),
  (90, .iload_n 2, 1, 0, 0, 0, []),
  (91, .invokevirtual 227, 3, 152, 1, 958, []),
  (94, .isub, 1, 0, 0, 0, []),
  (95, .iastore, 1, 0, 0, 0, []),
  (96, .iinc 3 1, 3, 0, 0, 0, []),
  (99, .goto (-82), 3, 17, 0, 0, []),
  (102, .iconst 0, 1, 0, 0, 0, []),
  (103, .istore_n 3, 1, 0, 0, 0, []),
  (104, .iload_n 3, 1, 0, 0, 0, []),
  (105, .iconst 4, 1, 0, 0, 0, []),
  (106, .if_icmp .ge 28, 3, 134, 0, 0, []),
  (109, .aload_n 0, 1, 0, 0, 0, []),
  (110, .iload_n 3, 1, 0, 0, 0, []),
  (111, .invokevirtual 258, 3, 181, 1, 1059, []),
  (114, .ifCond .eq 14, 3, 128, 0, 0, []),
  (117, .bipush 10, 2, 0, 0, 0, []),
  (119, .iload_n 3, 1, 0, 0, 0, []),
  (120, .iconst 2, 1, 0, 0, 0, []),
  (121, .idiv, 1, 0, 0, 0, []),
  (122, .imul, 1, 0, 0, 0, []),
  (123, .iload_n 3, 1, 0, 0, 0, []),
  (124, .iconst 2, 1, 0, 0, 0, []),
  (125, .irem, 1, 0, 0, 0, []),
  (126, .iadd, 1, 0, 0, 0, []),
  (127, .ireturn, 1, 0, 0, 0, []),
  (128, .iinc 3 1, 3, 0, 0, 0, []),
  (131, .goto (-27), 3, 104, 0, 0, []),
  (134, .bipush (-9), 2, 0, 0, 0, []),
  (136, .ireturn, 1, 0, 0, 0, [])]
def cd_Mo_payments : List (Nat × En) := [(0, .aload_n 0, 1, 0, 0, 0, []),
  (1, .iconst 0, 1, 0, 0, 0, []),
  (2, .invokevirtual 224, 3, 149, 1, 924, []),
  (5, .pop, 1, 0, 0, 0, []),
  (6, .aload_n 0, 1, 0, 0, 0, []),
  (7, .iconst (-1), 1, 0, 0, 0, []),
  (8, .invokevirtual 227, 3, 152, 1, 958, []),
  (11, .istore_n 1, 1, 0, 0, 0, []),
  (12, .iconst 0, 1, 0, 0, 0, []),
  (13, .istore_n 2, 1, 0, 0, 0, []),
  (14, .iconst 0, 1, 0, 0, 0, []),
  (15, .istore_n 3, 1, 0, 0, 0, []),
  (16, .iload_n 3, 1, 0, 0, 0, []),
  (17, .aload_n 0, 1, 0, 0, 0, []),
  (18, .getfield 89, 3, 6, 7, 692, []),
  (21, .if_icmp .ge 66, 3, 87, 0, 0, []),
  (24, .aload_n 0, 1, 0, 0, 0, []),
  (25, .getfield 73, 3, 6, 36, 720, []),
  (28, .iconst 1, 1, 0, 0, 0, []),
  (29, .iload_n 3, 1, 0, 0, 0, []),
  (30, .ishl, 1, 0, 0, 0, []),
  (31, .aload_n 0, 1, 0, 0, 0, []),
  (32, .iload_n 3, 1, 0, 0, 0, []),
  (33, .invokevirtual 227, 3, 152, 1, 958, []),
  (36, .iload_n 1, 1, 0, 0, 0, []),
  (37, .aload_n 0, 1, 0, 0, 0, []),
  (38, .getfield 89, 3, 6, 7, 692, []),
  (41, .idiv, 1, 0, 0, 0, []),
  (42, .isub, 1, 0, 0, 0, []),
  (43, .iload_n 3, 1, 0, 0, 0, []),
  (44, .iload_n 1, 1, 0, 0, 0, []),
  (45, .aload_n 0, 1, 0, 0, 0, []),
  (46, .getfield 89, 3, 6, 7, 692, []),
  (49, .irem, 1, 0, 0, 0, []),
  (50, .if_icmp .ge 7, 3, 57, 0, 0, []),
  (53, .iconst 1, 1, 0, 0, 0, []),
  (54, .goto 4, 3, 58, 0, 0, []),
  (57, .iconst 0, 1, 0, 0, 0, []),
  (58, .isub, 1, 0, 0, 0, []),
  (59, .iastore, 1, 0, 0, 0, []),
  (60, .iload_n 2, 1, 0, 0, 0, []),
  (61, .aload_n 0, 1, 0, 0, 0, []),
  (62, .getfield 73, 3, 6, 36, 720, []),
  (65, .iconst 1, 1, 0, 0, 0, []),
  (66, .iload_n 3, 1, 0, 0, 0, []),
  (67, .ishl, 1, 0, 0, 0, []),
  (68, .iaload, 1, 0, 0, 0, []),
  (69, .ifCond .eq 9, 3, 78, 0, 0, []),
  (72, .iconst 1, 1, 0, 0, 0, []),
  (73, .iload_n 3, 1, 0, 0, 0, []),
  (74, .ishl, 1, 0, 0, 0, []),
  (75, .goto 4, 3, 79, 0, 0, []),
  (78, .iconst 0, 1, 0, 0, 0, []),
  (79, .ior, 1, 0, 0, 0, []),
  (80, .istore_n 2, 1, 0, 0, 0, []),
  (81, .iinc 3 1, 3, 0, 0, 0, []),
  (84, .goto (-68), 3, 16, 0, 0, []),
  (87, .iconst 1, 1, 0, 0, 0, []),
  (88, .istore_n 3, 1, 0, 0, 0, []),
  (89, .iload_n 3, 1, 0, 0, 0, []),
  (90, .iconst 1, 1, 0, 0, 0, []),
  (91, .aload_n 0, 1, 0, 0, 0, []),
  (92, .getfield 89, 3, 6, 7, 692, []),
  (95, .ishl, 1, 0, 0, 0, []),
  (96, .if_icmp .ge 155, 3, 251, 0, 0, []),
  (99, .iload_n 3, 1, 0, 0, 0, []),
  (100, .iload_n 3, 1, 0, 0, 0, []),
  (101, .ineg, 1, 0, 0, 0, []),
  (102, .iand, 1, 0, 0, 0, []),
  (103, .istore 4, 2, 0, 0, 0, []),
  (105, .aload_n 0, 1, 0, 0, 0, []),
  (106, .getfield 73, 3, 6, 36, 720, []),
  (109, .iload_n 3, 1, 0, 0, 0, []),
  (110, .iload_n 3, 1, 0, 0, 0, []),
  (111, .iload 4, 2, 0, 0, 0, []),
  (113, .if_icmp .ne 12, 3, 125, 0, 0, []),
  (116, .aload_n 0, 1, 0, 0, 0, []),
  (117, .getfield 73, 3, 6, 36, 720, []),
  (120, .iload_n 3, 1, 0, 0, 0, []),
  (121, .iaload, 1, 0, 0, 0, []),
  (122, .goto 22, 3, 144, 0, 0, []),
  (125, .aload_n 0, 1, 0, 0, 0, []),
  (126, .getfield 73, 3, 6, 36, 720, []),
  (129, .iload 4, 2, 0, 0, 0, []),
  (131, .iaload, 1, 0, 0, 0, []),
  (132, .aload_n 0, 1, 0, 0, 0, []),
  (133, .getfield 73, 3, 6, 36, 720, []),
  (136, .iload_n 3, 1, 0, 0, 0, []),
  (137, .iload 4, 2, 0, 0, 0, []),
  (139, .iconst (-1), 1, 0, 0, 0, []),
  (140, .ixor, 1, 0, 0, 0, []),
  (141, .iand, 1, 0, 0, 0, []),
  (142, .iaload, 1, 0, 0, 0, []),
  (143, .iadd, 1, 0, 0, 0, []),
  (144, .iastore, 1, 0, 0, 0, []),
  (145, .aload_n 0, 1, 0, 0, 0, []),
  (146, .getfield 76, 3, 6, 37, 721, []),
  (149, .iload_n 3, 1, 0, 0, 0, []),
  (150, .aload_n 0, 1, 0, 0, 0, []),
  (151, .getfield 73, 3, 6, 36, 720, []),
  (154, .iload_n 3, 1, 0, 0, 0, []),
  (155, .iaload, 1, 0, 0, 0, []),
  (156, .ifCond .ne 15, 3, 171, 0, 0, []),
  (159, .iload_n 3, 1, 0, 0, 0, []),
  (160, .iload_n 2, 1, 0, 0, 0, []),
  (161, .iconst (-1), 1, 0, 0, 0, []),
  (162, .ixor, 1, 0, 0, 0, []),
  (163, .iand, 1, 0, 0, 0, []),
  (164, .ifCond .ne 7, 3, 171, 0, 0, []),
  (167, .iconst 1, 1, 0, 0, 0, []),
  (168, .goto 4, 3, 172, 0, 0, []),
  (171, .iconst 0, 1, 0, 0, 0, []),
  (172, .iastore, 1, 0, 0, 0, []),
  (173, .iload_n 3, 1, 0, 0, 0, []),
  (174, .iconst 1, 1, 0, 0, 0, []),
  (175, .isub, 1, 0, 0, 0, []),
  (176, .iload_n 3, 1, 0, 0, 0, []),
  (177, .iand, 1, 0, 0, 0, []),
  (178, .istore 5, 2, 0, 0, 0, []),
  (180, .iload 5, 2, 0, 0, 0, []),
  (182, .ifCond .le 63, 3, 245, 0, 0, []),
  (185, .aload_n 0, 1, 0, 0, 0, []),
  (186, .getfield 76, 3, 6, 37, 721, []),
  (189, .iload 5, 2, 0, 0, 0, []),
  (191, .iaload, 1, 0, 0, 0, []),
  (192, .aload_n 0, 1, 0, 0, 0, []),
  (193, .getfield 76, 3, 6, 37, 721, []),
  (196, .iload_n 3, 1, 0, 0, 0, []),
  (197, .iload 5, 2, 0, 0, 0, []),
  (199, .iconst (-1), 1, 0, 0, 0, []),
  (200, .ixor, 1, 0, 0, 0, []),
  (201, .iand, 1, 0, 0, 0, []),
  (202, .iaload, 1, 0, 0, 0, []),
  (203, .iadd, 1, 0, 0, 0, []),
  (204, .istore 6, 2, 0, 0, 0, []),
  (206, .aload_n 0, 1, 0, 0, 0, []),
  (207, .getfield 76, 3, 6, 37, 721, []),
  (210, .iload_n 3, 1, 0, 0, 0, []),
  (211, .iload 6, 2, 0, 0, 0, []),
  (213, .aload_n 0, 1, 0, 0, 0, []),
  (214, .getfield 76, 3, 6, 37, 721, []),
  (217, .iload_n 3, 1, 0, 0, 0, []),
  (218, .iaload, 1, 0, 0, 0, []),
  (219, .if_icmp .le 8, 3, 227, 0, 0, []),
  (222, .iload 6, 2, 0, 0, 0, []),
  (224, .goto 9, 3, 233, 0, 0, []),
  (227, .aload_n 0, 1, 0, 0, 0, []),
  (228, .getfield 76, 3, 6, 37, 721, []),
  (231, .iload_n 3, 1, 0, 0, 0, []),
  (232, .iaload, 1, 0, 0, 0, []),
  (233, .iastore, 1, 0, 0, 0, []),
  (234, .iload 5, 2, 0, 0, 0, []),
  (236, .iconst 1, 1, 0, 0, 0, []),
  (237, .isub, 1, 0, 0, 0, []),
  (238, .iload_n 3, 1, 0, 0, 0, []),
  (239, .iand, 1, 0, 0, 0, []),
  (240, .istore 5, 2, 0, 0, 0, []),
  (242, .goto (-62), 3, 180, 0, 0, []),
  (245, .iinc 3 1, 3, 0, 0, 0, []),
  (248, .goto (-159), 3, 89, 0, 0, []),
  (251, .iload_n 2, 1, 0, 0, 0, []),
  (252, .ifCond .ne 7, 3, 259, 0, 0, []),
  (255, .iconst 0, 1, 0, 0, 0, []),
  (256, .goto 14, 3, 270, 0, 0, []),
  (259, .iload_n 2, 1, 0, 0, 0, []),
  (260, .invokestatic 181, 3, 121, 1, 935, []),
  (263, .aload_n 0, 1, 0, 0, 0, []),
  (264, .getfield 76, 3, 6, 37, 721, []),
  (267, .iload_n 2, 1, 0, 0, 0, []),
  (268, .iaload, 1, 0, 0, 0, []),
  (269, .isub, 1, 0, 0, 0, []),
  (270, .ireturn, 1, 0, 0, 0, [])]
def cd_Mo_divisor : List (Nat × En) := [(0, .lload_n 0, 1, 0, 0, 0, []),
  (1, .lstore 4, 2, 0, 0, 0, []),
  (3, .lload_n 2, 1, 0, 0, 0, []),
  (4, .lstore 6, 2, 0, 0, 0, []),
  (6, .lload 6, 2, 0, 0, 0, []),
  (8, .lconst 0, 1, 0, 0, 0, []),
  (9, .lcmp, 1, 0, 0, 0, []),
  (10, .ifCond .eq 21, 3, 31, 0, 0, []),
  (13, .lload 4, 2, 0, 0, 0, []),
  (15, .lload 6, 2, 0, 0, 0, []),
  (17, .lrem, 1, 0, 0, 0, []),
  (18, .lstore 8, 2, 0, 0, 0, []),
  (20, .lload 6, 2, 0, 0, 0, []),
  (22, .lstore 4, 2, 0, 0, 0, []),
  (24, .lload 8, 2, 0, 0, 0, []),
  (26, .lstore 6, 2, 0, 0, 0, []),
  (28, .goto (-22), 3, 6, 0, 0, []),
  (31, .lload 4, 2, 0, 0, 0, []),
  (33, .lreturn, 1, 0, 0, 0, [])]
def cd_Mo_odds : List (Nat × En) := [(0, .iload_n 1, 1, 0, 0, 0, []),
  (1, .iconst 2, 1, 0, 0, 0, []),
  (2, .if_icmp .lt 7, 3, 9, 0, 0, []),
  (5, .iload_n 2, 1, 0, 0, 0, []),
  (6, .ifCond .ge 8, 3, 14, 0, 0, []),
  (9, .bipush (-4), 2, 0, 0, 0, []),
  (11, .goto 36, 3, 47, 0, 0, []),
  (14, .iload_n 1, 1, 0, 0, 0, []),
  (15, .bipush 20, 2, 0, 0, 0, []),
  (17, .if_icmp .gt 10, 3, 27, 0, 0, []),
  (20, .iload_n 2, 1, 0, 0, 0, []),
  (21, .sipush 240, 3, 0, 0, 0, []),
  (24, .if_icmp .le 8, 3, 32, 0, 0, []),
  (27, .bipush (-6), 2, 0, 0, 0, []),
  (29, .goto 18, 3, 47, 0, 0, []),
  (32, .iload_n 3, 1, 0, 0, 0, []),
  (33, .iconst 0, 1, 0, 0, 0, []),
  (34, .iconst 1, 1, 0, 0, 0, []),
  (35, .invokestatic 117, 3, 118, 3, 830, []),
  (38, .ifCond .ne 8, 3, 46, 0, 0, []),
  (41, .bipush (-2), 2, 0, 0, 0, []),
  (43, .goto 4, 3, 47, 0, 0, []),
  (46, .iconst 0, 1, 0, 0, 0, []),
  (47, .istore 4, 2, 0, 0, 0, []),
  (49, .iload 4, 2, 0, 0, 0, []),
  (51, .ifCond .eq 10, 3, 61, 0, 0, []),
  (54, .aload_n 0, 1, 0, 0, 0, []),
  (55, .iload 4, 2, 0, 0, 0, []),
  (57, .invokevirtual 261, 3, 117, 1, 1071, []),
  (60, .lreturn, 1, 0, 0, 0, []),
  (61, .lconst 0, 1, 0, 0, 0, []),
  (62, .lstore 5, 2, 0, 0, 0, []),
  (64, .lconst 1, 1, 0, 0, 0, []),
  (65, .lstore 7, 2, 0, 0, 0, []),
  (67, .iconst 0, 1, 0, 0, 0, []),
  (68, .istore 9, 2, 0, 0, 0, []),
  (70, .iload 9, 2, 0, 0, 0, []),
  (72, .aload_n 0, 1, 0, 0, 0, []),
  (73, .getfield 96, 3, 6, 8, 693, []),
  (76, .if_icmp .ge 16, 3, 92, 0, 0, []),
  (79, .lload 7, 2, 0, 0, 0, []),
  (81, .iload_n 1, 1, 0, 0, 0, []),
  (82, .i2l, 1, 0, 0, 0, []),
  (83, .lmul, 1, 0, 0, 0, []),
  (84, .lstore 7, 2, 0, 0, 0, []),
  (86, .iinc 9 1, 3, 0, 0, 0, []),
  (89, .goto (-19), 3, 70, 0, 0, []),
  (92, .iconst 0, 1, 0, 0, 0, []),
  (93, .istore 9, 2, 0, 0, 0, []),
  (95, .iload 9, 2, 0, 0, 0, []),
  (97, .iconst 1, 1, 0, 0, 0, []),
  (98, .aload_n 0, 1, 0, 0, 0, []),
  (99, .getfield 96, 3, 6, 8, 693, []),
  (102, .ishl, 1, 0, 0, 0, []),
  (103, .if_icmp .ge 74, 3, 177, 0, 0, []),
  (106, .lconst 1, 1, 0, 0, 0, []),
  (107, .lstore 10, 2, 0, 0, 0, []),
  (109, .iconst 0, 1, 0, 0, 0, []),
  (110, .istore 12, 2, 0, 0, 0, []),
  (112, .iload 12, 2, 0, 0, 0, []),
  (114, .aload_n 0, 1, 0, 0, 0, []),
  (115, .getfield 96, 3, 6, 8, 693, []),
  (118, .if_icmp .ge 32, 3, 150, 0, 0, []),
  (121, .lload 10, 2, 0, 0, 0, []),
  (123, .iload 9, 2, 0, 0, 0, []),
  (125, .iload 12, 2, 0, 0, 0, []),
  (127, .invokestatic 178, 3, 120, 2, 932, []),
  (130, .ifCond .eq 7, 3, 137, 0, 0, []),
  (133, .lconst 1, 1, 0, 0, 0, []),
  (134, .goto 7, 3, 141, 0, 0, []),
  (137, .iload_n 1, 1, 0, 0, 0, []),
  (138, .iconst 1, 1, 0, 0, 0, []),
  (139, .isub, 1, 0, 0, 0, []),
  (140, .i2l, 1, 0, 0, 0, []),
  (141, .lmul, 1, 0, 0, 0, []),
  (142, .lstore 10, 2, 0, 0, 0, []),
  (144, .iinc 12 1, 3, 0, 0, 0, []),
  (147, .goto (-35), 3, 112, 0, 0, []),
  (150, .lload 5, 2, 0, 0, 0, []),
  (152, .aload_n 0, 1, 0, 0, 0, []),
  (153, .iload 9, 2, 0, 0, 0, []),
  (155, .invokevirtual 224, 3, 149, 1, 924, []),
  (158, .iload_n 2, 1, 0, 0, 0, []),
  (159, .if_icmp .lt 8, 3, 167, 0, 0, []),
  (162, .lload 10, 2, 0, 0, 0, []),
  (164, .goto 4, 3, 168, 0, 0, []),
  (167, .lconst 0, 1, 0, 0, 0, []),
  (168, .ladd, 1, 0, 0, 0, []),
  (169, .lstore 5, 2, 0, 0, 0, []),
  (171, .iinc 9 1, 3, 0, 0, 0, []),
  (174, .goto (-79), 3, 95, 0, 0, []),
  (177, .iload_n 3, 1, 0, 0, 0, []),
  (178, .ifCond .ne 8, 3, 186, 0, 0, []),
  (181, .lload 5, 2, 0, 0, 0, []),
  (183, .goto 5, 3, 188, 0, 0, []),
  (186, .lload 7, 2, 0, 0, 0, []),
  (188, .lload 5, 2, 0, 0, 0, []),
  (190, .lload 7, 2, 0, 0, 0, []),
  (192, .invokestatic 265, 3, 184, 2, 1076, []),
  (195, .ldiv, 1, 0, 0, 0, []),
  (196, .lreturn, 1, 0, 0, 0, [])]
def cd_Mo_row : List (Nat × En) := [(0, .iload_n 1, 1, 0, 0, 0, []),
  (1, .iconst 0, 1, 0, 0, 0, []),
  (2, .bipush 99, 2, 0, 0, 0, []),
  (4, .invokestatic 99, 3, 119, 3, 803, []),
  (7, .istore_n 2, 1, 0, 0, 0, []),
  (8, .iload_n 2, 1, 0, 0, 0, []),
  (9, .ifCond .ne 15, 3, 24, 0, 0, []),
  (12, .aload_n 0, 1, 0, 0, 0, []),
  (13, .getfield 249, 3, 6, 33, 717, []),
  (16, .bipush 12, 2, 0, 0, 0, []),
  (18, .if_icmp .ne 6, 3, 24, 0, 0, []),
  (21, .bipush (-6), 2, 0, 0, 0, []),
  (23, .istore_n 2, 1, 0, 0, 0, []),
  (24, .iload_n 2, 1, 0, 0, 0, []),
  (25, .ifCond .eq 9, 3, 34, 0, 0, []),
  (28, .aload_n 0, 1, 0, 0, 0, []),
  (29, .iload_n 2, 1, 0, 0, 0, []),
  (30, .invokevirtual 106, 3, 115, 1, 806, []),
  (33, .ireturn, 1, 0, 0, 0, []),
  (34, .aload_n 0, 1, 0, 0, 0, []),
  (35, .getfield 64, 3, 6, 32, 716, []),
  (38, .aload_n 0, 1, 0, 0, 0, []),
  (39, .getfield 249, 3, 6, 33, 717, []),
  (42, .iload_n 1, 1, 0, 0, 0, []),
  (43, .iastore, 1, 0, 0, 0, []),
  (44, .aload_n 0, 1, 0, 0, 0, []),
  (45, .dup, 1, 0, 0, 0, []),
  (46, .getfield 249, 3, 6, 33, 717, []),
  (49, .iconst 1, 1, 0, 0, 0, []),
  (50, .iadd, 1, 0, 0, 0, []),
  (51, .putfield 249, 3, 6, 33, 717, []),
  (54, .aload_n 0, 1, 0, 0, 0, []),
  (55, .getfield 249, 3, 6, 33, 717, []),
  (58, .ireturn, 1, 0, 0, 0, [])]
def cd_Mo_openedBy : List (Nat × En) := [(0, .iconst 0, 1, 0, 0, 0, []),
  (1, .istore_n 2, 1, 0, 0, 0, []),
  (2, .iconst 0, 1, 0, 0, 0, []),
  (3, .istore_n 3, 1, 0, 0, 0, []),
  (4, .iload_n 3, 1, 0, 0, 0, []),
  (5, .aload_n 0, 1, 0, 0, 0, []),
  (6, .getfield 96, 3, 6, 8, 693, []),
  (9, .if_icmp .ge 31, 3, 40, 0, 0, []),
  (12, .iload_n 2, 1, 0, 0, 0, []),
  (13, .aload_n 0, 1, 0, 0, 0, []),
  (14, .getfield 55, 3, 6, 25, 709, []),
  (17, .iload_n 3, 1, 0, 0, 0, []),
  (18, .iaload, 1, 0, 0, 0, []),
  (19, .iconst 0, 1, 0, 0, 0, []),
  (20, .iload_n 1, 1, 0, 0, 0, []),
  (21, .invokestatic 117, 3, 118, 3, 830, []),
  (24, .ifCond .eq 7, 3, 31, 0, 0, []),
  (27, .iconst 1, 1, 0, 0, 0, []),
  (28, .goto 4, 3, 32, 0, 0, []),
  (31, .iconst 0, 1, 0, 0, 0, []),
  (32, .iadd, 1, 0, 0, 0, []),
  (33, .istore_n 2, 1, 0, 0, 0, []),
  (34, .iinc 3 1, 3, 0, 0, 0, []),
  (37, .goto (-33), 3, 4, 0, 0, []),
  (40, .iload_n 2, 1, 0, 0, 0, []),
  (41, .ireturn, 1, 0, 0, 0, [])]
def cd_Mo_judge : List (Nat × En) := [(0, .aload_n 0, 1, 0, 0, 0, []),
  (1, .getfield 249, 3, 6, 33, 717, []),
  (4, .istore_n 1, 1, 0, 0, 0, []),
  (5, .aload_n 0, 1, 0, 0, 0, []),
  (6, .iconst 0, 1, 0, 0, 0, []),
  (7, .putfield 249, 3, 6, 33, 717, []),
  (10, .aload_n 0, 1, 0, 0, 0, []),
  (11, .iconst 0, 1, 0, 0, 0, []),
  (12, .invokevirtual 224, 3, 149, 1, 924, []),
  (15, .pop, 1, 0, 0, 0, []),
  (16, .iconst 0, 1, 0, 0, 0, []),
  (17, .istore_n 2, 1, 0, 0, 0, []),
  (18, .iload_n 2, 1, 0, 0, 0, []),
  (19, .iload_n 1, 1, 0, 0, 0, []),
  (20, .if_icmp .ge 29, 3, 49, 0, 0, []),
  (23, .aload_n 0, 1, 0, 0, 0, []),
  (24, .iconst 5, 1, 0, 0, 0, []),
  (25, .iload_n 2, 1, 0, 0, 0, []),
  (26, .imul, 1, 0, 0, 0, []),
  (27, .iconst 5, 1, 0, 0, 0, []),
  (28, .iadd, 1, 0, 0, 0, []),
  (29, .invokevirtual 269, 3, 187, 1, 1087, []),
  (32, .aload_n 0, 1, 0, 0, 0, []),
  (33, .getfield 64, 3, 6, 32, 716, []),
  (36, .iload_n 2, 1, 0, 0, 0, []),
  (37, .iaload, 1, 0, 0, 0, []),
  (38, .if_icmp .eq 5, 3, 43, 0, 0, []),
  (41, .iload_n 2, 1, 0, 0, 0, []),
  (42, .ireturn, 1, 0, 0, 0, []),
  (43, .iinc 2 1, 3, 0, 0, 0, []),
  (46, .goto (-28), 3, 18, 0, 0, []),
  (49, .bipush (-9), 2, 0, 0, 0, []),
  (51, .ireturn, 1, 0, 0, 0, [])]
def cd_Mo_clear : List (Nat × En) := [(0, .aload_n 0, 1, 0, 0, 0, []),
  (1, .getfield 249, 3, 6, 33, 717, []),
  (4, .istore_n 1, 1, 0, 0, 0, []),
  (5, .aload_n 0, 1, 0, 0, 0, []),
  (6, .iconst 0, 1, 0, 0, 0, []),
  (7, .putfield 249, 3, 6, 33, 717, []),
  (10, .iload_n 1, 1, 0, 0, 0, []),
  (11, .ireturn, 1, 0, 0, 0, [])]
def cd_Mo_lots : List (Nat × En) := [(0, .iload_n 1, 1, 0, 0, 0, []),
  (1, .iconst 1, 1, 0, 0, 0, []),
  (2, .bipush 20, 2, 0, 0, 0, []),
  (4, .invokestatic 99, 3, 119, 3, 803, []),
  (7, .istore 4, 2, 0, 0, 0, []),
  (9, .iload 4, 2, 0, 0, 0, []),
  (11, .ifCond .ne 16, 3, 27, 0, 0, []),
  (14, .iload_n 3, 1, 0, 0, 0, []),
  (15, .iconst 0, 1, 0, 0, 0, []),
  (16, .iconst 1, 1, 0, 0, 0, []),
  (17, .invokestatic 117, 3, 118, 3, 830, []),
  (20, .ifCond .ne 7, 3, 27, 0, 0, []),
  (23, .bipush (-2), 2, 0, 0, 0, []),
  (25, .istore 4, 2, 0, 0, 0, []),
  (27, .iload 4, 2, 0, 0, 0, []),
  (29, .ifCond .eq 10, 3, 39, 0, 0, []),
  (32, .aload_n 0, 1, 0, 0, 0, []),
  (33, .iload 4, 2, 0, 0, 0, []),
  (35, .invokevirtual 106, 3, 115, 1, 806, []),
  (38, .ireturn, 1, 0, 0, 0, []),
  (39, .aload_n 0, 1, 0, 0, 0, []),
  (40, .iconst 1, 1, 0, 0, 0, []),
  (41, .iconst 1, 1, 0, 0, 0, []),
  (42, .invokevirtual 151, 3, 137, 2, 840, []),
  (45, .iload_n 2, 1, 0, 0, 0, []),
  (46, .istore 5, 2, 0, 0, 0, []),
  (48, .iconst 0, 1, 0, 0, 0, []),
  (49, .istore 6, 2, 0, 0, 0, []),
  (51, .iconst 0, 1, 0, 0, 0, []),
  (52, .istore 7, 2, 0, 0, 0, []),
  (54, .iconst 0, 1, 0, 0, 0, []),
  (55, .istore 8, 2, 0, 0, 0, []),
  (57, .iload 8, 2, 0, 0, 0, []),
  (59, .iload_n 1, 1, 0, 0, 0, []),
  (60, .if_icmp .ge 81, 3, 141, 0, 0, []),
  (63, .iconst 0, 1, 0, 0, 0, []),
  (64, .istore 9, 2, 0, 0, 0, []),
  (66, .iload 9, 2, 0, 0, 0, []),
  (68, .aload_n 0, 1, 0, 0, 0, []),
  (69, .getfield 96, 3, 6, 8, 693, []),
  (72, .if_icmp .ge 41, 3, 113, 0, 0, []),
  (75, .iload 5, 2, 0, 0, 0, []),
  (77, .ldc_w 272, 3, 0, 0, 1099, [(1664525, 0)]),
  (80, .imul, 1, 0, 0, 0, []),
  (81, .ldc_w 273, 3, 0, 0, 1100, [(1013904223, 0)]),
  (84, .iadd, 1, 0, 0, 0, []),
  (85, .istore 5, 2, 0, 0, 0, []),
  (87, .aload_n 0, 1, 0, 0, 0, []),
  (88, .getfield 31, 3, 6, 6, 691, []),
  (91, .iload 9, 2, 0, 0, 0, []),
  (93, .iload 5, 2, 0, 0, 0, []),
  (95, .ldc_w 274, 3, 0, 0, 1101, [(2147483647, 0)]),
  (98, .iand, 1, 0, 0, 0, []),
  (99, .sipush 256, 3, 0, 0, 0, []),
  (102, .idiv, 1, 0, 0, 0, []),
  (103, .bipush 60, 2, 0, 0, 0, []),
  (105, .irem, 1, 0, 0, 0, []),
  (106, .iastore, 1, 0, 0, 0, []),
  (107, .iinc 9 1, 3, 0, 0, 0, []),
  (110, .goto (-44), 3, 66, 0, 0, []),
  (113, .iload 6, 2, 0, 0, 0, []),
  (115, .aload_n 0, 1, 0, 0, 0, []),
  (116, .iconst 0, 1, 0, 0, 0, []),
  (117, .invokevirtual 224, 3, 149, 1, 924, []),
  (120, .iadd, 1, 0, 0, 0, []),
  (121, .istore 6, 2, 0, 0, 0, []),
  (123, .iload 7, 2, 0, 0, 0, []),
  (125, .aload_n 0, 1, 0, 0, 0, []),
  (126, .getfield 184, 3, 6, 29, 713, []),
  (129, .invokestatic 181, 3, 121, 1, 935, []),
  (132, .iadd, 1, 0, 0, 0, []),
  (133, .istore 7, 2, 0, 0, 0, []),
  (135, .iinc 8 1, 3, 0, 0, 0, []),
  (138, .goto (-81), 3, 57, 0, 0, []),
  (141, .aload_n 0, 1, 0, 0, 0, []),
  (142, .iconst 1, 1, 0, 0, 0, []),
  (143, .iconst 0, 1, 0, 0, 0, []),
  (144, .invokevirtual 151, 3, 137, 2, 840, []),
  (147, .iload_n 3, 1, 0, 0, 0, []),
  (148, .ifCond .ne 8, 3, 156, 0, 0, []),
  (151, .iload 6, 2, 0, 0, 0, []),
  (153, .goto 5, 3, 158, 0, 0, []),
  (156, .iload 7, 2, 0, 0, 0, []),
  (158, .ireturn, 1, 0, 0, 0, [])]
def cd_Mo_count : List (Nat × En) := [(0, .iload_n 1, 1, 0, 0, 0, []),
  (1, .bipush 11, 2, 0, 0, 0, []),
  (3, .bipush 16, 2, 0, 0, 0, []),
  (5, .invokestatic 117, 3, 118, 3, 830, []),
  (8, .ifCond .eq 13, 3, 21, 0, 0, []),
  (11, .aload_n 0, 1, 0, 0, 0, []),
  (12, .getfield 7, 3, 6, 11, 684, []),
  (15, .iload_n 1, 1, 0, 0, 0, []),
  (16, .bipush 10, 2, 0, 0, 0, []),
  (18, .isub, 1, 0, 0, 0, []),
  (19, .iaload, 1, 0, 0, 0, []),
  (20, .ireturn, 1, 0, 0, 0, []),
  (21, .iconst 0, 1, 0, 0, 0, []),
  (22, .istore_n 2, 1, 0, 0, 0, []),
  (23, .iload_n 1, 1, 0, 0, 0, []),
  (24, .tableswitch 131 0 7 #[48, 53, 58, 63, 68, 95, 121, 126], 48, 155, 0, 0, [(0, 72), (1, 77), (2, 82), (3, 87), (4, 92), (5, 119), (6, 145), (7, 150)]),
  (72, .aload_n 0, 1, 0, 0, 0, []),
  (73, .getfield 89, 3, 6, 7, 692, []),
  (76, .ireturn, 1, 0, 0, 0, []),
  (77, .aload_n 0, 1, 0, 0, 0, []),
  (78, .getfield 96, 3, 6, 8, 693, []),
  (81, .ireturn, 1, 0, 0, 0, []),
  (82, .aload_n 0, 1, 0, 0, 0, []),
  (83, .getfield 79, 3, 6, 9, 694, []),
  (86, .ireturn, 1, 0, 0, 0, []),
  (87, .aload_n 0, 1, 0, 0, 0, []),
  (88, .getfield 83, 3, 6, 10, 695, []),
  (91, .ireturn, 1, 0, 0, 0, []),
  (92, .iconst 0, 1, 0, 0, 0, []),
  (93, .istore_n 3, 1, 0, 0, 0, []),
  (94, .iload_n 3, 1, 0, 0, 0, []),
  (95, .aload_n 0, 1, 0, 0, 0, []),
  (96, .getfield 89, 3, 6, 7, 692, []),
  (99, .if_icmp .ge 18, 3, 117, 0, 0, []),
  (102, .iload_n 2, 1, 0, 0, 0, []),
  (103, .aload_n 0, 1, 0, 0, 0, []),
  (104, .getfield 16, 3, 6, 1, 686, []),
  (107, .iload_n 3, 1, 0, 0, 0, []),
  (108, .iaload, 1, 0, 0, 0, []),
  (109, .iadd, 1, 0, 0, 0, []),
  (110, .istore_n 2, 1, 0, 0, 0, []),
  (111, .iinc 3 1, 3, 0, 0, 0, []),
  (114, .goto (-20), 3, 94, 0, 0, []),
  (117, .iload_n 2, 1, 0, 0, 0, []),
  (118, .ireturn, 1, 0, 0, 0, []),
  (119, .iconst 0, 1, 0, 0, 0, []),
  (120, .istore_n 3, 1, 0, 0, 0, []),
  (121, .iload_n 3, 1, 0, 0, 0, []),
  (122, .aload_n 0, 1, 0, 0, 0, []),
  (123, .getfield 96, 3, 6, 8, 693, []),
  (126, .if_icmp .ge 17, 3, 143, 0, 0, []),
  (129, .iload_n 2, 1, 0, 0, 0, []),
  (130, .aload_n 0, 1, 0, 0, 0, []),
  (131, .iload_n 3, 1, 0, 0, 0, []),
  (132, .invokevirtual 218, 3, 143, 1, 896, []),
  (135, .iadd, 1, 0, 0, 0, []),
  (136, .istore_n 2, 1, 0, 0, 0, []),
  (137, .iinc 3 1, 3, 0, 0, 0, []),
  (140, .goto (-19), 3, 121, 0, 0, []),
  (143, .iload_n 2, 1, 0, 0, 0, []),
  (144, .ireturn, 1, 0, 0, 0, []),
  (145, .aload_n 0, 1, 0, 0, 0, []),
  (146, .getfield 249, 3, 6, 33, 717, []),
  (149, .ireturn, 1, 0, 0, 0, []),
  (150, .aload_n 0, 1, 0, 0, 0, []),
  (151, .getfield 103, 3, 6, 16, 700, []),
  (154, .ireturn, 1, 0, 0, 0, []),
  (155, .bipush (-9), 2, 0, 0, 0, []),
  (157, .ireturn, 1, 0, 0, 0, [])]
def cd_law : List (Nat × En) := [(16, .iconst 0, 1, 0, 0, 0, []),
  (17, .istore_n 3, 1, 0, 0, 0, []),
  (18, .iload_n 3, 1, 0, 0, 0, []),
  (19, .aload_n 0, 1, 0, 0, 0, []),
  (20, .arraylength, 1, 0, 0, 0, []),
  (21, .iconst 4, 1, 0, 0, 0, []),
  (22, .isub, 1, 0, 0, 0, []),
  (23, .if_icmp .gt 990, 3, 1013, 0, 0, []),
  (26, .aload_n 0, 1, 0, 0, 0, []),
  (27, .iload_n 3, 1, 0, 0, 0, []),
  (28, .iaload, 1, 0, 0, 0, []),
  (29, .bipush 63, 2, 0, 0, 0, []),
  (31, .iand, 1, 0, 0, 0, []),
  (32, .tableswitch 975 0 33 #[152, 175, 188, 221, 254, 287, 320, 353, 386, 409, 442, 475, 498, 521, 544, 557, 570, 583, 606, 619, 642, 655, 678, 701, 744, 777, 790, 834, 857, 870, 883, 926, 939, 952], 152, 1007, 0, 0, [(0, 184), (1, 207), (2, 220), (3, 253), (4, 286), (5, 319), (6, 352), (7, 385), (8, 418), (9, 441), (10, 474), (11, 507), (12, 530), (13, 553), (14, 576), (15, 589), (16, 602), (17, 615), (18, 638), (19, 651), (20, 674), (21, 687), (22, 710), (23, 733), (24, 776), (25, 809), (26, 822), (27, 866), (28, 889), (29, 902), (30, 915), (31, 958), (32, 971), (33, 984)]),
  (184, .aload_n 1, 1, 0, 0, 0, []),
  (185, .aload_n 0, 1, 0, 0, 0, []),
  (186, .iload_n 3, 1, 0, 0, 0, []),
  (187, .iconst 1, 1, 0, 0, 0, []),
  (188, .iadd, 1, 0, 0, 0, []),
  (189, .iaload, 1, 0, 0, 0, []),
  (190, .invokevirtual 13, 3, 72, 1, 191, []),
  (193, .aload_n 2, 1, 0, 0, 0, []),
  (194, .aload_n 0, 1, 0, 0, 0, []),
  (195, .iload_n 3, 1, 0, 0, 0, []),
  (196, .iconst 1, 1, 0, 0, 0, []),
  (197, .iadd, 1, 0, 0, 0, []),
  (198, .iaload, 1, 0, 0, 0, []),
  (199, .invokevirtual 17, 3, 125, 1, 799, []),
  (202, .if_icmp .eq 805, 3, 1007, 0, 0, []),
  (205, .iconst 0, 1, 0, 0, 0, []),
  (206, .ireturn, 1, 1, 0, 0, []),
  (207, .aload_n 1, 1, 0, 0, 0, []),
  (208, .invokevirtual 18, 3, 73, 0, 203, []),
  (211, .aload_n 2, 1, 0, 0, 0, []),
  (212, .invokevirtual 22, 3, 134, 0, 810, []),
  (215, .if_icmp .eq 792, 3, 1007, 0, 0, []),
  (218, .iconst 0, 1, 0, 0, 0, []),
  (219, .ireturn, 1, 1, 0, 0, []),
  (220, .aload_n 1, 1, 0, 0, 0, []),
  (221, .aload_n 0, 1, 0, 0, 0, []),
  (222, .iload_n 3, 1, 0, 0, 0, []),
  (223, .iconst 1, 1, 0, 0, 0, []),
  (224, .iadd, 1, 0, 0, 0, []),
  (225, .iaload, 1, 0, 0, 0, []),
  (226, .aload_n 0, 1, 0, 0, 0, []),
  (227, .iload_n 3, 1, 0, 0, 0, []),
  (228, .iconst 2, 1, 0, 0, 0, []),
  (229, .iadd, 1, 0, 0, 0, []),
  (230, .iaload, 1, 0, 0, 0, []),
  (231, .invokevirtual 23, 3, 74, 2, 278, []),
  (234, .aload_n 2, 1, 0, 0, 0, []),
  (235, .aload_n 0, 1, 0, 0, 0, []),
  (236, .iload_n 3, 1, 0, 0, 0, []),
  (237, .iconst 1, 1, 0, 0, 0, []),
  (238, .iadd, 1, 0, 0, 0, []),
  (239, .iaload, 1, 0, 0, 0, []),
  (240, .aload_n 0, 1, 0, 0, 0, []),
  (241, .iload_n 3, 1, 0, 0, 0, []),
  (242, .iconst 2, 1, 0, 0, 0, []),
  (243, .iadd, 1, 0, 0, 0, []),
  (244, .iaload, 1, 0, 0, 0, []),
  (245, .invokevirtual 27, 3, 153, 2, 880, []),
  (248, .if_icmp .eq 759, 3, 1007, 0, 0, []),
  (251, .iconst 0, 1, 0, 0, 0, []),
  (252, .ireturn, 1, 1, 0, 0, []),
  (253, .aload_n 1, 1, 0, 0, 0, []),
  (254, .aload_n 0, 1, 0, 0, 0, []),
  (255, .iload_n 3, 1, 0, 0, 0, []),
  (256, .iconst 1, 1, 0, 0, 0, []),
  (257, .iadd, 1, 0, 0, 0, []),
  (258, .iaload, 1, 0, 0, 0, []),
  (259, .aload_n 0, 1, 0, 0, 0, []),
  (260, .iload_n 3, 1, 0, 0, 0, []),
  (261, .iconst 2, 1, 0, 0, 0, []),
  (262, .iadd, 1, 0, 0, 0, []),
  (263, .iaload, 1, 0, 0, 0, []),
  (264, .invokevirtual 28, 3, 75, 2, 283, []),
  (267, .aload_n 2, 1, 0, 0, 0, []),
  (268, .aload_n 0, 1, 0, 0, 0, []),
  (269, .iload_n 3, 1, 0, 0, 0, []),
  (270, .iconst 1, 1, 0, 0, 0, []),
  (271, .iadd, 1, 0, 0, 0, []),
  (272, .iaload, 1, 0, 0, 0, []),
  (273, .aload_n 0, 1, 0, 0, 0, []),
  (274, .iload_n 3, 1, 0, 0, 0, []),
  (275, .iconst 2, 1, 0, 0, 0, []),
  (276, .iadd, 1, 0, 0, 0, []),
  (277, .iaload, 1, 0, 0, 0, []),
  (278, .invokevirtual 31, 3, 154, 2, 884, []),
  (281, .if_icmp .eq 726, 3, 1007, 0, 0, []),
  (284, .iconst 0, 1, 0, 0, 0, []),
  (285, .ireturn, 1, 1, 0, 0, []),
  (286, .aload_n 1, 1, 0, 0, 0, []),
  (287, .aload_n 0, 1, 0, 0, 0, []),
  (288, .iload_n 3, 1, 0, 0, 0, []),
  (289, .iconst 1, 1, 0, 0, 0, []),
  (290, .iadd, 1, 0, 0, 0, []),
  (291, .iaload, 1, 0, 0, 0, []),
  (292, .aload_n 0, 1, 0, 0, 0, []),
  (293, .iload_n 3, 1, 0, 0, 0, []),
  (294, .iconst 2, 1, 0, 0, 0, []),
  (295, .iadd, 1, 0, 0, 0, []),
  (296, .iaload, 1, 0, 0, 0, []),
  (297, .invokevirtual 32, 3, 76, 2, 310, []),
  (300, .aload_n 2, 1, 0, 0, 0, []),
  (301, .aload_n 0, 1, 0, 0, 0, []),
  (302, .iload_n 3, 1, 0, 0, 0, []),
  (303, .iconst 1, 1, 0, 0, 0, []),
  (304, .iadd, 1, 0, 0, 0, []),
  (305, .iaload, 1, 0, 0, 0, []),
  (306, .aload_n 0, 1, 0, 0, 0, []),
  (307, .iload_n 3, 1, 0, 0, 0, []),
  (308, .iconst 2, 1, 0, 0, 0, []),
  (309, .iadd, 1, 0, 0, 0, []),
  (310, .iaload, 1, 0, 0, 0, []),
  (311, .invokevirtual 35, 3, 155, 2, 904, []),
  (314, .if_icmp .eq 693, 3, 1007, 0, 0, []),
  (317, .iconst 0, 1, 0, 0, 0, []),
  (318, .ireturn, 1, 1, 0, 0, []),
  (319, .aload_n 1, 1, 0, 0, 0, []),
  (320, .aload_n 0, 1, 0, 0, 0, []),
  (321, .iload_n 3, 1, 0, 0, 0, []),
  (322, .iconst 1, 1, 0, 0, 0, []),
  (323, .iadd, 1, 0, 0, 0, []),
  (324, .iaload, 1, 0, 0, 0, []),
  (325, .aload_n 0, 1, 0, 0, 0, []),
  (326, .iload_n 3, 1, 0, 0, 0, []),
  (327, .iconst 2, 1, 0, 0, 0, []),
  (328, .iadd, 1, 0, 0, 0, []),
  (329, .iaload, 1, 0, 0, 0, []),
  (330, .invokevirtual 36, 3, 77, 2, 314, []),
  (333, .aload_n 2, 1, 0, 0, 0, []),
  (334, .aload_n 0, 1, 0, 0, 0, []),
  (335, .iload_n 3, 1, 0, 0, 0, []),
  (336, .iconst 1, 1, 0, 0, 0, []),
  (337, .iadd, 1, 0, 0, 0, []),
  (338, .iaload, 1, 0, 0, 0, []),
  (339, .aload_n 0, 1, 0, 0, 0, []),
  (340, .iload_n 3, 1, 0, 0, 0, []),
  (341, .iconst 2, 1, 0, 0, 0, []),
  (342, .iadd, 1, 0, 0, 0, []),
  (343, .iaload, 1, 0, 0, 0, []),
  (344, .invokevirtual 39, 3, 156, 2, 908, []),
  (347, .if_icmp .eq 660, 3, 1007, 0, 0, []),
  (350, .iconst 0, 1, 0, 0, 0, []),
  (351, .ireturn, 1, 1, 0, 0, []),
  (352, .aload_n 1, 1, 0, 0, 0, []),
  (353, .aload_n 0, 1, 0, 0, 0, []),
  (354, .iload_n 3, 1, 0, 0, 0, []),
  (355, .iconst 1, 1, 0, 0, 0, []),
  (356, .iadd, 1, 0, 0, 0, []),
  (357, .iaload, 1, 0, 0, 0, []),
  (358, .aload_n 0, 1, 0, 0, 0, []),
  (359, .iload_n 3, 1, 0, 0, 0, []),
  (360, .iconst 2, 1, 0, 0, 0, []),
  (361, .iadd, 1, 0, 0, 0, []),
  (362, .iaload, 1, 0, 0, 0, []),
  (363, .invokevirtual 40, 3, 78, 2, 318, []),
  (366, .aload_n 2, 1, 0, 0, 0, []),
  (367, .aload_n 0, 1, 0, 0, 0, []),
  (368, .iload_n 3, 1, 0, 0, 0, []),
  (369, .iconst 1, 1, 0, 0, 0, []),
  (370, .iadd, 1, 0, 0, 0, []),
  (371, .iaload, 1, 0, 0, 0, []),
  (372, .aload_n 0, 1, 0, 0, 0, []),
  (373, .iload_n 3, 1, 0, 0, 0, []),
  (374, .iconst 2, 1, 0, 0, 0, []),
  (375, .iadd, 1, 0, 0, 0, []),
  (376, .iaload, 1, 0, 0, 0, []),
  (377, .invokevirtual 43, 3, 157, 2, 912, []),
  (380, .if_icmp .eq 627, 3, 1007, 0, 0, []),
  (383, .iconst 0, 1, 0, 0, 0, []),
  (384, .ireturn, 1, 1, 0, 0, []),
  (385, .aload_n 1, 1, 0, 0, 0, []),
  (386, .aload_n 0, 1, 0, 0, 0, []),
  (387, .iload_n 3, 1, 0, 0, 0, []),
  (388, .iconst 1, 1, 0, 0, 0, []),
  (389, .iadd, 1, 0, 0, 0, []),
  (390, .iaload, 1, 0, 0, 0, []),
  (391, .aload_n 0, 1, 0, 0, 0, []),
  (392, .iload_n 3, 1, 0, 0, 0, []),
  (393, .iconst 2, 1, 0, 0, 0, []),
  (394, .iadd, 1, 0, 0, 0, []),
  (395, .iaload, 1, 0, 0, 0, []),
  (396, .invokevirtual 44, 3, 79, 2, 323, []),
  (399, .aload_n 2, 1, 0, 0, 0, []),
  (400, .aload_n 0, 1, 0, 0, 0, []),
  (401, .iload_n 3, 1, 0, 0, 0, []),
  (402, .iconst 1, 1, 0, 0, 0, []),
  (403, .iadd, 1, 0, 0, 0, []),
  (404, .iaload, 1, 0, 0, 0, []),
  (405, .aload_n 0, 1, 0, 0, 0, []),
  (406, .iload_n 3, 1, 0, 0, 0, []),
  (407, .iconst 2, 1, 0, 0, 0, []),
  (408, .iadd, 1, 0, 0, 0, []),
  (409, .iaload, 1, 0, 0, 0, []),
  (410, .invokevirtual 47, 3, 158, 2, 916, []),
  (413, .if_icmp .eq 594, 3, 1007, 0, 0, []),
  (416, .iconst 0, 1, 0, 0, 0, []),
  (417, .ireturn, 1, 1, 0, 0, []),
  (418, .aload_n 1, 1, 0, 0, 0, []),
  (419, .aload_n 0, 1, 0, 0, 0, []),
  (420, .iload_n 3, 1, 0, 0, 0, []),
  (421, .iconst 1, 1, 0, 0, 0, []),
  (422, .iadd, 1, 0, 0, 0, []),
  (423, .iaload, 1, 0, 0, 0, []),
  (424, .invokevirtual 48, 3, 80, 1, 327, []),
  (427, .aload_n 2, 1, 0, 0, 0, []),
  (428, .aload_n 0, 1, 0, 0, 0, []),
  (429, .iload_n 3, 1, 0, 0, 0, []),
  (430, .iconst 1, 1, 0, 0, 0, []),
  (431, .iadd, 1, 0, 0, 0, []),
  (432, .iaload, 1, 0, 0, 0, []),
  (433, .invokevirtual 51, 3, 160, 1, 920, []),
  (436, .if_icmp .eq 571, 3, 1007, 0, 0, []),
  (439, .iconst 0, 1, 0, 0, 0, []),
  (440, .ireturn, 1, 1, 0, 0, []),
  (441, .aload_n 1, 1, 0, 0, 0, []),
  (442, .aload_n 0, 1, 0, 0, 0, []),
  (443, .iload_n 3, 1, 0, 0, 0, []),
  (444, .iconst 1, 1, 0, 0, 0, []),
  (445, .iadd, 1, 0, 0, 0, []),
  (446, .iaload, 1, 0, 0, 0, []),
  (447, .aload_n 0, 1, 0, 0, 0, []),
  (448, .iload_n 3, 1, 0, 0, 0, []),
  (449, .iconst 2, 1, 0, 0, 0, []),
  (450, .iadd, 1, 0, 0, 0, []),
  (451, .iaload, 1, 0, 0, 0, []),
  (452, .invokevirtual 52, 3, 81, 2, 417, []),
  (455, .aload_n 2, 1, 0, 0, 0, []),
  (456, .aload_n 0, 1, 0, 0, 0, []),
  (457, .iload_n 3, 1, 0, 0, 0, []),
  (458, .iconst 1, 1, 0, 0, 0, []),
  (459, .iadd, 1, 0, 0, 0, []),
  (460, .iaload, 1, 0, 0, 0, []),
  (461, .aload_n 0, 1, 0, 0, 0, []),
  (462, .iload_n 3, 1, 0, 0, 0, []),
  (463, .iconst 2, 1, 0, 0, 0, []),
  (464, .iadd, 1, 0, 0, 0, []),
  (465, .iaload, 1, 0, 0, 0, []),
  (466, .invokevirtual 55, 3, 161, 2, 970, []),
  (469, .if_icmp .eq 538, 3, 1007, 0, 0, []),
  (472, .iconst 0, 1, 0, 0, 0, []),
  (473, .ireturn, 1, 1, 0, 0, []),
  (474, .aload_n 1, 1, 0, 0, 0, []),
  (475, .aload_n 0, 1, 0, 0, 0, []),
  (476, .iload_n 3, 1, 0, 0, 0, []),
  (477, .iconst 1, 1, 0, 0, 0, []),
  (478, .iadd, 1, 0, 0, 0, []),
  (479, .iaload, 1, 0, 0, 0, []),
  (480, .aload_n 0, 1, 0, 0, 0, []),
  (481, .iload_n 3, 1, 0, 0, 0, []),
  (482, .iconst 2, 1, 0, 0, 0, []),
  (483, .iadd, 1, 0, 0, 0, []),
  (484, .iaload, 1, 0, 0, 0, []),
  (485, .invokevirtual 56, 3, 82, 2, 421, []),
  (488, .aload_n 2, 1, 0, 0, 0, []),
  (489, .aload_n 0, 1, 0, 0, 0, []),
  (490, .iload_n 3, 1, 0, 0, 0, []),
  (491, .iconst 1, 1, 0, 0, 0, []),
  (492, .iadd, 1, 0, 0, 0, []),
  (493, .iaload, 1, 0, 0, 0, []),
  (494, .aload_n 0, 1, 0, 0, 0, []),
  (495, .iload_n 3, 1, 0, 0, 0, []),
  (496, .iconst 2, 1, 0, 0, 0, []),
  (497, .iadd, 1, 0, 0, 0, []),
  (498, .iaload, 1, 0, 0, 0, []),
  (499, .invokevirtual 59, 3, 162, 2, 974, []),
  (502, .if_icmp .eq 505, 3, 1007, 0, 0, []),
  (505, .iconst 0, 1, 0, 0, 0, []),
  (506, .ireturn, 1, 1, 0, 0, []),
  (507, .aload_n 1, 1, 0, 0, 0, []),
  (508, .aload_n 0, 1, 0, 0, 0, []),
  (509, .iload_n 3, 1, 0, 0, 0, []),
  (510, .iconst 1, 1, 0, 0, 0, []),
  (511, .iadd, 1, 0, 0, 0, []),
  (512, .iaload, 1, 0, 0, 0, []),
  (513, .invokevirtual 60, 3, 83, 1, 433, []),
  (516, .aload_n 2, 1, 0, 0, 0, []),
  (517, .aload_n 0, 1, 0, 0, 0, []),
  (518, .iload_n 3, 1, 0, 0, 0, []),
  (519, .iconst 1, 1, 0, 0, 0, []),
  (520, .iadd, 1, 0, 0, 0, []),
  (521, .iaload, 1, 0, 0, 0, []),
  (522, .invokevirtual 63, 3, 163, 1, 978, []),
  (525, .if_icmp .eq 482, 3, 1007, 0, 0, []),
  (528, .iconst 0, 1, 0, 0, 0, []),
  (529, .ireturn, 1, 1, 0, 0, []),
  (530, .aload_n 1, 1, 0, 0, 0, []),
  (531, .aload_n 0, 1, 0, 0, 0, []),
  (532, .iload_n 3, 1, 0, 0, 0, []),
  (533, .iconst 1, 1, 0, 0, 0, []),
  (534, .iadd, 1, 0, 0, 0, []),
  (535, .iaload, 1, 0, 0, 0, []),
  (536, .invokevirtual 64, 3, 84, 1, 438, []),
  (539, .aload_n 2, 1, 0, 0, 0, []),
  (540, .aload_n 0, 1, 0, 0, 0, []),
  (541, .iload_n 3, 1, 0, 0, 0, []),
  (542, .iconst 1, 1, 0, 0, 0, []),
  (543, .iadd, 1, 0, 0, 0, []),
  (544, .iaload, 1, 0, 0, 0, []),
  (545, .invokevirtual 67, 3, 164, 1, 982, []),
  (548, .if_icmp .eq 459, 3, 1007, 0, 0, []),
  (551, .iconst 0, 1, 0, 0, 0, []),
  (552, .ireturn, 1, 1, 0, 0, []),
  (553, .aload_n 1, 1, 0, 0, 0, []),
  (554, .aload_n 0, 1, 0, 0, 0, []),
  (555, .iload_n 3, 1, 0, 0, 0, []),
  (556, .iconst 1, 1, 0, 0, 0, []),
  (557, .iadd, 1, 0, 0, 0, []),
  (558, .iaload, 1, 0, 0, 0, []),
  (559, .invokevirtual 68, 3, 85, 1, 453, []),
  (562, .aload_n 2, 1, 0, 0, 0, []),
  (563, .aload_n 0, 1, 0, 0, 0, []),
  (564, .iload_n 3, 1, 0, 0, 0, []),
  (565, .iconst 1, 1, 0, 0, 0, []),
  (566, .iadd, 1, 0, 0, 0, []),
  (567, .iaload, 1, 0, 0, 0, []),
  (568, .invokevirtual 71, 3, 166, 1, 991, []),
  (571, .if_icmp .eq 436, 3, 1007, 0, 0, []),
  (574, .iconst 0, 1, 0, 0, 0, []),
  (575, .ireturn, 1, 1, 0, 0, []),
  (576, .aload_n 1, 1, 0, 0, 0, []),
  (577, .invokevirtual 72, 3, 86, 0, 462, []),
  (580, .aload_n 2, 1, 0, 0, 0, []),
  (581, .invokevirtual 75, 3, 167, 0, 999, []),
  (584, .if_icmp .eq 423, 3, 1007, 0, 0, []),
  (587, .iconst 0, 1, 0, 0, 0, []),
  (588, .ireturn, 1, 1, 0, 0, []),
  (589, .aload_n 1, 1, 0, 0, 0, []),
  (590, .invokevirtual 76, 3, 87, 0, 471, []),
  (593, .aload_n 2, 1, 0, 0, 0, []),
  (594, .invokevirtual 79, 3, 168, 0, 1003, []),
  (597, .if_icmp .eq 410, 3, 1007, 0, 0, []),
  (600, .iconst 0, 1, 0, 0, 0, []),
  (601, .ireturn, 1, 1, 0, 0, []),
  (602, .aload_n 1, 1, 0, 0, 0, []),
  (603, .invokevirtual 80, 3, 88, 0, 480, []),
  (606, .aload_n 2, 1, 0, 0, 0, []),
  (607, .invokevirtual 83, 3, 169, 0, 1007, []),
  (610, .if_icmp .eq 397, 3, 1007, 0, 0, []),
  (613, .iconst 0, 1, 0, 0, 0, []),
  (614, .ireturn, 1, 1, 0, 0, []),
  (615, .aload_n 1, 1, 0, 0, 0, []),
  (616, .aload_n 0, 1, 0, 0, 0, []),
  (617, .iload_n 3, 1, 0, 0, 0, []),
  (618, .iconst 1, 1, 0, 0, 0, []),
  (619, .iadd, 1, 0, 0, 0, []),
  (620, .iaload, 1, 0, 0, 0, []),
  (621, .invokevirtual 84, 3, 89, 1, 488, []),
  (624, .aload_n 2, 1, 0, 0, 0, []),
  (625, .aload_n 0, 1, 0, 0, 0, []),
  (626, .iload_n 3, 1, 0, 0, 0, []),
  (627, .iconst 1, 1, 0, 0, 0, []),
  (628, .iadd, 1, 0, 0, 0, []),
  (629, .iaload, 1, 0, 0, 0, []),
  (630, .invokevirtual 87, 3, 171, 1, 1011, []),
  (633, .if_icmp .eq 374, 3, 1007, 0, 0, []),
  (636, .iconst 0, 1, 0, 0, 0, []),
  (637, .ireturn, 1, 1, 0, 0, []),
  (638, .aload_n 1, 1, 0, 0, 0, []),
  (639, .invokevirtual 88, 3, 90, 0, 503, []),
  (642, .aload_n 2, 1, 0, 0, 0, []),
  (643, .invokevirtual 91, 3, 172, 0, 1019, []),
  (646, .if_icmp .eq 361, 3, 1007, 0, 0, []),
  (649, .iconst 0, 1, 0, 0, 0, []),
  (650, .ireturn, 1, 1, 0, 0, []),
  (651, .aload_n 1, 1, 0, 0, 0, []),
  (652, .aload_n 0, 1, 0, 0, 0, []),
  (653, .iload_n 3, 1, 0, 0, 0, []),
  (654, .iconst 1, 1, 0, 0, 0, []),
  (655, .iadd, 1, 0, 0, 0, []),
  (656, .iaload, 1, 0, 0, 0, []),
  (657, .invokevirtual 92, 3, 91, 1, 512, []),
  (660, .aload_n 2, 1, 0, 0, 0, []),
  (661, .aload_n 0, 1, 0, 0, 0, []),
  (662, .iload_n 3, 1, 0, 0, 0, []),
  (663, .iconst 1, 1, 0, 0, 0, []),
  (664, .iadd, 1, 0, 0, 0, []),
  (665, .iaload, 1, 0, 0, 0, []),
  (666, .invokevirtual 95, 3, 173, 1, 1023, []),
  (669, .if_icmp .eq 338, 3, 1007, 0, 0, []),
  (672, .iconst 0, 1, 0, 0, 0, []),
  (673, .ireturn, 1, 1, 0, 0, []),
  (674, .aload_n 1, 1, 0, 0, 0, []),
  (675, .invokevirtual 96, 3, 92, 0, 523, []),
  (678, .aload_n 2, 1, 0, 0, 0, []),
  (679, .invokevirtual 99, 3, 174, 0, 1027, []),
  (682, .if_icmp .eq 325, 3, 1007, 0, 0, []),
  (685, .iconst 0, 1, 0, 0, 0, []),
  (686, .ireturn, 1, 1, 0, 0, []),
  (687, .aload_n 1, 1, 0, 0, 0, []),
  (688, .aload_n 0, 1, 0, 0, 0, []),
  (689, .iload_n 3, 1, 0, 0, 0, []),
  (690, .iconst 1, 1, 0, 0, 0, []),
  (691, .iadd, 1, 0, 0, 0, []),
  (692, .iaload, 1, 0, 0, 0, []),
  (693, .invokevirtual 100, 3, 93, 1, 531, []),
  (696, .aload_n 2, 1, 0, 0, 0, []),
  (697, .aload_n 0, 1, 0, 0, 0, []),
  (698, .iload_n 3, 1, 0, 0, 0, []),
  (699, .iconst 1, 1, 0, 0, 0, []),
  (700, .iadd, 1, 0, 0, 0, []),
  (701, .iaload, 1, 0, 0, 0, []),
  (702, .invokevirtual 103, 3, 176, 1, 1031, []),
  (705, .if_icmp .eq 302, 3, 1007, 0, 0, []),
  (708, .iconst 0, 1, 0, 0, 0, []),
  (709, .ireturn, 1, 1, 0, 0, []),
  (710, .aload_n 1, 1, 0, 0, 0, []),
  (711, .aload_n 0, 1, 0, 0, 0, []),
  (712, .iload_n 3, 1, 0, 0, 0, []),
  (713, .iconst 1, 1, 0, 0, 0, []),
  (714, .iadd, 1, 0, 0, 0, []),
  (715, .iaload, 1, 0, 0, 0, []),
  (716, .invokevirtual 104, 3, 94, 1, 547, []),
  (719, .aload_n 2, 1, 0, 0, 0, []),
  (720, .aload_n 0, 1, 0, 0, 0, []),
  (721, .iload_n 3, 1, 0, 0, 0, []),
  (722, .iconst 1, 1, 0, 0, 0, []),
  (723, .iadd, 1, 0, 0, 0, []),
  (724, .iaload, 1, 0, 0, 0, []),
  (725, .invokevirtual 107, 3, 177, 1, 1039, []),
  (728, .if_icmp .eq 279, 3, 1007, 0, 0, []),
  (731, .iconst 0, 1, 0, 0, 0, []),
  (732, .ireturn, 1, 1, 0, 0, []),
  (733, .aload_n 1, 1, 0, 0, 0, []),
  (734, .aload_n 0, 1, 0, 0, 0, []),
  (735, .iload_n 3, 1, 0, 0, 0, []),
  (736, .iconst 1, 1, 0, 0, 0, []),
  (737, .iadd, 1, 0, 0, 0, []),
  (738, .iaload, 1, 0, 0, 0, []),
  (739, .aload_n 0, 1, 0, 0, 0, []),
  (740, .iload_n 3, 1, 0, 0, 0, []),
  (741, .iconst 2, 1, 0, 0, 0, []),
  (742, .iadd, 1, 0, 0, 0, []),
  (743, .iaload, 1, 0, 0, 0, []),
  (744, .aload_n 0, 1, 0, 0, 0, []),
  (745, .iload_n 3, 1, 0, 0, 0, []),
  (746, .iconst 3, 1, 0, 0, 0, []),
  (747, .iadd, 1, 0, 0, 0, []),
  (748, .iaload, 1, 0, 0, 0, []),
  (749, .invokevirtual 108, 3, 95, 3, 555, []),
  (752, .aload_n 2, 1, 0, 0, 0, []),
  (753, .aload_n 0, 1, 0, 0, 0, []),
  (754, .iload_n 3, 1, 0, 0, 0, []),
  (755, .iconst 1, 1, 0, 0, 0, []),
  (756, .iadd, 1, 0, 0, 0, []),
  (757, .iaload, 1, 0, 0, 0, []),
  (758, .aload_n 0, 1, 0, 0, 0, []),
  (759, .iload_n 3, 1, 0, 0, 0, []),
  (760, .iconst 2, 1, 0, 0, 0, []),
  (761, .iadd, 1, 0, 0, 0, []),
  (762, .iaload, 1, 0, 0, 0, []),
  (763, .aload_n 0, 1, 0, 0, 0, []),
  (764, .iload_n 3, 1, 0, 0, 0, []),
  (765, .iconst 3, 1, 0, 0, 0, []),
  (766, .iadd, 1, 0, 0, 0, []),
  (767, .iaload, 1, 0, 0, 0, []),
  (768, .invokevirtual 112, 3, 179, 3, 1043, []),
  (771, .if_icmp .eq 236, 3, 1007, 0, 0, []),
  (774, .iconst 0, 1, 0, 0, 0, []),
  (775, .ireturn, 1, 1, 0, 0, []),
  (776, .aload_n 1, 1, 0, 0, 0, []),
  (777, .aload_n 0, 1, 0, 0, 0, []),
  (778, .iload_n 3, 1, 0, 0, 0, []),
  (779, .iconst 1, 1, 0, 0, 0, []),
  (780, .iadd, 1, 0, 0, 0, []),
  (781, .iaload, 1, 0, 0, 0, []),
  (782, .aload_n 0, 1, 0, 0, 0, []),
  (783, .iload_n 3, 1, 0, 0, 0, []),
  (784, .iconst 2, 1, 0, 0, 0, []),
  (785, .iadd, 1, 0, 0, 0, []),
  (786, .iaload, 1, 0, 0, 0, []),
  (787, .invokevirtual 113, 3, 96, 2, 571, []),
  (790, .aload_n 2, 1, 0, 0, 0, []),
  (791, .aload_n 0, 1, 0, 0, 0, []),
  (792, .iload_n 3, 1, 0, 0, 0, []),
  (793, .iconst 1, 1, 0, 0, 0, []),
  (794, .iadd, 1, 0, 0, 0, []),
  (795, .iaload, 1, 0, 0, 0, []),
  (796, .aload_n 0, 1, 0, 0, 0, []),
  (797, .iload_n 3, 1, 0, 0, 0, []),
  (798, .iconst 2, 1, 0, 0, 0, []),
  (799, .iadd, 1, 0, 0, 0, []),
  (800, .iaload, 1, 0, 0, 0, []),
  (801, .invokevirtual 116, 3, 182, 2, 1051, []),
  (804, .if_icmp .eq 203, 3, 1007, 0, 0, []),
  (807, .iconst 0, 1, 0, 0, 0, []),
  (808, .ireturn, 1, 1, 0, 0, []),
  (809, .aload_n 1, 1, 0, 0, 0, []),
  (810, .invokevirtual 117, 3, 97, 0, 589, []),
  (813, .aload_n 2, 1, 0, 0, 0, []),
  (814, .invokevirtual 120, 3, 183, 0, 1063, []),
  (817, .if_icmp .eq 190, 3, 1007, 0, 0, []),
  (820, .iconst 0, 1, 0, 0, 0, []),
  (821, .ireturn, 1, 1, 0, 0, []),
  (822, .aload_n 1, 1, 0, 0, 0, []),
  (823, .aload_n 0, 1, 0, 0, 0, []),
  (824, .iload_n 3, 1, 0, 0, 0, []),
  (825, .iconst 1, 1, 0, 0, 0, []),
  (826, .iadd, 1, 0, 0, 0, []),
  (827, .iaload, 1, 0, 0, 0, []),
  (828, .aload_n 0, 1, 0, 0, 0, []),
  (829, .iload_n 3, 1, 0, 0, 0, []),
  (830, .iconst 2, 1, 0, 0, 0, []),
  (831, .iadd, 1, 0, 0, 0, []),
  (832, .iaload, 1, 0, 0, 0, []),
  (833, .aload_n 0, 1, 0, 0, 0, []),
  (834, .iload_n 3, 1, 0, 0, 0, []),
  (835, .iconst 3, 1, 0, 0, 0, []),
  (836, .iadd, 1, 0, 0, 0, []),
  (837, .iaload, 1, 0, 0, 0, []),
  (838, .invokevirtual 121, 3, 98, 3, 608, []),
  (841, .aload_n 2, 1, 0, 0, 0, []),
  (842, .aload_n 0, 1, 0, 0, 0, []),
  (843, .iload_n 3, 1, 0, 0, 0, []),
  (844, .iconst 1, 1, 0, 0, 0, []),
  (845, .iadd, 1, 0, 0, 0, []),
  (846, .iaload, 1, 0, 0, 0, []),
  (847, .aload_n 0, 1, 0, 0, 0, []),
  (848, .iload_n 3, 1, 0, 0, 0, []),
  (849, .iconst 2, 1, 0, 0, 0, []),
  (850, .iadd, 1, 0, 0, 0, []),
  (851, .iaload, 1, 0, 0, 0, []),
  (852, .aload_n 0, 1, 0, 0, 0, []),
  (853, .iload_n 3, 1, 0, 0, 0, []),
  (854, .iconst 3, 1, 0, 0, 0, []),
  (855, .iadd, 1, 0, 0, 0, []),
  (856, .iaload, 1, 0, 0, 0, []),
  (857, .invokevirtual 125, 3, 185, 3, 1067, []),
  (860, .lcmp, 1, 0, 0, 0, []),
  (861, .ifCond .eq 146, 3, 1007, 0, 0, []),
  (864, .iconst 0, 1, 0, 0, 0, []),
  (865, .ireturn, 1, 1, 0, 0, []),
  (866, .aload_n 1, 1, 0, 0, 0, []),
  (867, .aload_n 0, 1, 0, 0, 0, []),
  (868, .iload_n 3, 1, 0, 0, 0, []),
  (869, .iconst 1, 1, 0, 0, 0, []),
  (870, .iadd, 1, 0, 0, 0, []),
  (871, .iaload, 1, 0, 0, 0, []),
  (872, .invokevirtual 126, 3, 99, 1, 631, []),
  (875, .aload_n 2, 1, 0, 0, 0, []),
  (876, .aload_n 0, 1, 0, 0, 0, []),
  (877, .iload_n 3, 1, 0, 0, 0, []),
  (878, .iconst 1, 1, 0, 0, 0, []),
  (879, .iadd, 1, 0, 0, 0, []),
  (880, .iaload, 1, 0, 0, 0, []),
  (881, .invokevirtual 129, 3, 186, 1, 1079, []),
  (884, .if_icmp .eq 123, 3, 1007, 0, 0, []),
  (887, .iconst 0, 1, 0, 0, 0, []),
  (888, .ireturn, 1, 1, 0, 0, []),
  (889, .aload_n 1, 1, 0, 0, 0, []),
  (890, .invokevirtual 130, 3, 100, 0, 635, []),
  (893, .aload_n 2, 1, 0, 0, 0, []),
  (894, .invokevirtual 133, 3, 188, 0, 1083, []),
  (897, .if_icmp .eq 110, 3, 1007, 0, 0, []),
  (900, .iconst 0, 1, 0, 0, 0, []),
  (901, .ireturn, 1, 1, 0, 0, []),
  (902, .aload_n 1, 1, 0, 0, 0, []),
  (903, .invokevirtual 134, 3, 101, 0, 643, []),
  (906, .aload_n 2, 1, 0, 0, 0, []),
  (907, .invokevirtual 137, 3, 189, 0, 1091, []),
  (910, .if_icmp .eq 97, 3, 1007, 0, 0, []),
  (913, .iconst 0, 1, 0, 0, 0, []),
  (914, .ireturn, 1, 1, 0, 0, []),
  (915, .aload_n 1, 1, 0, 0, 0, []),
  (916, .aload_n 0, 1, 0, 0, 0, []),
  (917, .iload_n 3, 1, 0, 0, 0, []),
  (918, .iconst 1, 1, 0, 0, 0, []),
  (919, .iadd, 1, 0, 0, 0, []),
  (920, .iaload, 1, 0, 0, 0, []),
  (921, .aload_n 0, 1, 0, 0, 0, []),
  (922, .iload_n 3, 1, 0, 0, 0, []),
  (923, .iconst 2, 1, 0, 0, 0, []),
  (924, .iadd, 1, 0, 0, 0, []),
  (925, .iaload, 1, 0, 0, 0, []),
  (926, .aload_n 0, 1, 0, 0, 0, []),
  (927, .iload_n 3, 1, 0, 0, 0, []),
  (928, .iconst 3, 1, 0, 0, 0, []),
  (929, .iadd, 1, 0, 0, 0, []),
  (930, .iaload, 1, 0, 0, 0, []),
  (931, .invokevirtual 138, 3, 102, 3, 647, []),
  (934, .aload_n 2, 1, 0, 0, 0, []),
  (935, .aload_n 0, 1, 0, 0, 0, []),
  (936, .iload_n 3, 1, 0, 0, 0, []),
  (937, .iconst 1, 1, 0, 0, 0, []),
  (938, .iadd, 1, 0, 0, 0, []),
  (939, .iaload, 1, 0, 0, 0, []),
  (940, .aload_n 0, 1, 0, 0, 0, []),
  (941, .iload_n 3, 1, 0, 0, 0, []),
  (942, .iconst 2, 1, 0, 0, 0, []),
  (943, .iadd, 1, 0, 0, 0, []),
  (944, .iaload, 1, 0, 0, 0, []),
  (945, .aload_n 0, 1, 0, 0, 0, []),
  (946, .iload_n 3, 1, 0, 0, 0, []),
  (947, .iconst 3, 1, 0, 0, 0, []),
  (948, .iadd, 1, 0, 0, 0, []),
  (949, .iaload, 1, 0, 0, 0, []),
  (950, .invokevirtual 141, 3, 190, 3, 1095, []),
  (953, .if_icmp .eq 54, 3, 1007, 0, 0, []),
  (956, .iconst 0, 1, 0, 0, 0, []),
  (957, .ireturn, 1, 1, 0, 0, []),
  (958, .aload_n 1, 1, 0, 0, 0, []),
  (959, .invokevirtual 142, 3, 103, 0, 658, []),
  (962, .aload_n 2, 1, 0, 0, 0, []),
  (963, .invokevirtual 145, 3, 138, 0, 872, []),
  (966, .if_icmp .eq 41, 3, 1007, 0, 0, []),
  (969, .iconst 0, 1, 0, 0, 0, []),
  (970, .ireturn, 1, 1, 0, 0, []),
  (971, .aload_n 1, 1, 0, 0, 0, []),
  (972, .invokevirtual 146, 3, 104, 0, 662, []),
  (975, .aload_n 2, 1, 0, 0, 0, []),
  (976, .invokevirtual 149, 3, 139, 0, 876, []),
  (979, .if_icmp .eq 28, 3, 1007, 0, 0, []),
  (982, .iconst 0, 1, 0, 0, 0, []),
  (983, .ireturn, 1, 1, 0, 0, []),
  (984, .aload_n 1, 1, 0, 0, 0, []),
  (985, .aload_n 0, 1, 0, 0, 0, []),
  (986, .iload_n 3, 1, 0, 0, 0, []),
  (987, .iconst 1, 1, 0, 0, 0, []),
  (988, .iadd, 1, 0, 0, 0, []),
  (989, .iaload, 1, 0, 0, 0, []),
  (990, .invokevirtual 150, 3, 105, 1, 666, []),
  (993, .aload_n 2, 1, 0, 0, 0, []),
  (994, .aload_n 0, 1, 0, 0, 0, []),
  (995, .iload_n 3, 1, 0, 0, 0, []),
  (996, .iconst 1, 1, 0, 0, 0, []),
  (997, .iadd, 1, 0, 0, 0, []),
  (998, .iaload, 1, 0, 0, 0, []),
  (999, .invokevirtual 153, 3, 191, 1, 1102, []),
  (1002, .if_icmp .eq 5, 3, 1007, 0, 0, []),
  (1005, .iconst 0, 1, 0, 0, 0, []),
  (1006, .ireturn, 1, 1, 0, 0, []),
  (1007, .iinc 3 4, 3, 0, 0, 0, []),
  (1010, .goto (-992), 3, 18, 0, 0, []),
  (1013, .iconst 1, 1, 0, 0, 0, []),
  (1014, .ireturn, 1, 1, 0, 0, [])]
def nthD {α : Type} (l : List α) (k : Nat) (d : α) : α := match nth l k with
  | some x => x
  | none => d
def codeOf (k : Nat) : List (Nat × En) := cond (Nat.blt k 192) (cond (Nat.blt k 96) (cond (Nat.blt k 48) (cond (Nat.blt k 24) (cond (Nat.blt k 12) (cond (Nat.blt k 6) (cond (Nat.blt k 3) (cond (Nat.blt k 1) cd_In_bitCount (cond (Nat.blt k 2) cd_Mh_max cd_Mh_max2)) (cond (Nat.blt k 4) cd_Mh_min (cond (Nat.blt k 5) cd_Kd_minutesFor cd_Kd_moreMood))) (cond (Nat.blt k 9) (cond (Nat.blt k 7) cd_Kd_lessMood (cond (Nat.blt k 8) cd_Kd_price cd_Tb_copyFrom)) (cond (Nat.blt k 10) cd_Tb_hasGuest (cond (Nat.blt k 11) cd_Tb_hasTwo cd_Tb_hasRemark)))) (cond (Nat.blt k 18) (cond (Nat.blt k 15) (cond (Nat.blt k 13) cd_Tb_seat (cond (Nat.blt k 14) cd_Tb_bring cd_Tb_hire)) (cond (Nat.blt k 16) cd_Tb_charge (cond (Nat.blt k 17) cd_Tb_humour cd_Tb_changeSeats))) (cond (Nat.blt k 21) (cond (Nat.blt k 19) cd_Tb_minutesFor (cond (Nat.blt k 20) cd_Tb_priceOf cd_Tb_hearersOf)) (cond (Nat.blt k 22) cd_Tb_likersOf (cond (Nat.blt k 23) cd_Tb_moodsTogether cd_Tb_allPrices))))) (cond (Nat.blt k 36) (cond (Nat.blt k 30) (cond (Nat.blt k 27) (cond (Nat.blt k 25) cd_Tb_mostLikers (cond (Nat.blt k 26) cd_Tb_topicsLikedBy cd_Tb_dearest)) (cond (Nat.blt k 28) cd_Tb_broughtBy (cond (Nat.blt k 29) cd_Ev_run cd_Ev_begin))) (cond (Nat.blt k 33) (cond (Nat.blt k 31) cd_Ev_pass (cond (Nat.blt k 32) cd_Ev_open cd_Ev_changeMoods)) (cond (Nat.blt k 34) cd_Ev_takeWhatIsReady (cond (Nat.blt k 35) cd_Ev_nextToTake cd_Ev_busyAt)))) (cond (Nat.blt k 42) (cond (Nat.blt k 39) (cond (Nat.blt k 37) cd_Ev_minutesWithBusy (cond (Nat.blt k 38) cd_Ev_moodsTogether cd_Ev_billOf)) (cond (Nat.blt k 40) cd_Ev_wholeBill (cond (Nat.blt k 41) cd_Ev_openedBy cd_Ev_howManySentBack))) (cond (Nat.blt k 45) (cond (Nat.blt k 43) cd_Ev_lastOpening (cond (Nat.blt k 44) cd_Ev_isSilent cd_Ev_longestSilence)) (cond (Nat.blt k 46) cd_Ev_startOfSilence (cond (Nat.blt k 47) cd_Lt_add cd_Lt_at)))))) (cond (Nat.blt k 72) (cond (Nat.blt k 60) (cond (Nat.blt k 54) (cond (Nat.blt k 51) (cond (Nat.blt k 49) cd_Lt_sizeOf (cond (Nat.blt k 50) cd_Lt_kindOf cd_Lt_firstStray)) (cond (Nat.blt k 52) cd_Lt_strayFrom (cond (Nat.blt k 53) cd_Lt_fits cd_Lt_tell))) (cond (Nat.blt k 57) (cond (Nat.blt k 55) cd_Lt_number (cond (Nat.blt k 56) cd_Sh_fewestPayments cd_Sh_findWhoIsOver)) (cond (Nat.blt k 58) cd_Sh_mostGroups (cond (Nat.blt k 59) cd_Tr_moodsLeaving cd_Tr_moodBehind)))) (cond (Nat.blt k 66) (cond (Nat.blt k 63) (cond (Nat.blt k 61) cd_Tr_moreWithout (cond (Nat.blt k 62) cd_Tr_minuteOfMostMoods cd_Tr_leastWaiters)) (cond (Nat.blt k 64) cd_Tr_seatsOfMostMoods (cond (Nat.blt k 65) cd_Tr_bringerOfMostMoods cd_Tr_leftSoNothingIsSentBack))) (cond (Nat.blt k 69) (cond (Nat.blt k 67) cd_Tr_leftForMostMoods (cond (Nat.blt k 68) cd_Tr_isAsTold cd_Tr_firstSettledPair)) (cond (Nat.blt k 70) cd_Tr_worthOf (cond (Nat.blt k 71) cd_Tr_waysToReach cd_Tr_byLot))))) (cond (Nat.blt k 84) (cond (Nat.blt k 78) (cond (Nat.blt k 75) (cond (Nat.blt k 73) cd_X_letter (cond (Nat.blt k 74) cd_X_table cd_X_guest)) (cond (Nat.blt k 76) cd_X_remark (cond (Nat.blt k 77) cd_X_ready cd_X_mood))) (cond (Nat.blt k 81) (cond (Nat.blt k 79) cd_X_change (cond (Nat.blt k 80) cd_X_set cd_X_sums)) (cond (Nat.blt k 82) cd_X_of (cond (Nat.blt k 83) cd_X_moodAt cd_X_bill)))) (cond (Nat.blt k 90) (cond (Nat.blt k 87) (cond (Nat.blt k 85) cd_X_without (cond (Nat.blt k 86) cd_X_bestMinute cd_X_enough)) (cond (Nat.blt k 88) cd_X_swap (cond (Nat.blt k 89) cd_X_fit cd_X_could))) (cond (Nat.blt k 93) (cond (Nat.blt k 91) cd_X_dear (cond (Nat.blt k 92) cd_X_spare cd_X_cold)) (cond (Nat.blt k 94) cd_X_silence (cond (Nat.blt k 95) cd_X_busy cd_X_who))))))) (cond (Nat.blt k 144) (cond (Nat.blt k 120) (cond (Nat.blt k 108) (cond (Nat.blt k 102) (cond (Nat.blt k 99) (cond (Nat.blt k 97) cd_X_haggle (cond (Nat.blt k 98) cd_X_payments cd_X_odds)) (cond (Nat.blt k 100) cd_X_row (cond (Nat.blt k 101) cd_X_judge cd_X_clear))) (cond (Nat.blt k 105) (cond (Nat.blt k 103) cd_X_lots (cond (Nat.blt k 104) cd_X_image cd_X_on)) (cond (Nat.blt k 106) cd_X_count (cond (Nat.blt k 107) cd_X_refuse cd_X_refuseLong)))) (cond (Nat.blt k 114) (cond (Nat.blt k 111) (cond (Nat.blt k 109) cd_X_eveningNow (cond (Nat.blt k 110) cd_X_become cd_X_kindsAsTold)) (cond (Nat.blt k 112) cd_X_topicsAsTold (cond (Nat.blt k 113) cd_X_firstUntrue cd_X_power))) (cond (Nat.blt k 117) (cond (Nat.blt k 115) cd_X_greatestDivisor (cond (Nat.blt k 116) cd_Mo_no cd_Mo_lower)) (cond (Nat.blt k 118) cd_Mo_lowest (cond (Nat.blt k 119) cd_Mo_isIn cd_Mo_bound))))) (cond (Nat.blt k 132) (cond (Nat.blt k 126) (cond (Nat.blt k 123) (cond (Nat.blt k 121) cd_Mo_has (cond (Nat.blt k 122) cd_Mo_bits cd_Mo_isGuest)) (cond (Nat.blt k 124) cd_Mo_areTwo (cond (Nat.blt k 125) cd_Mo_isRemark cd_Mo_letter))) (cond (Nat.blt k 129) (cond (Nat.blt k 127) cd_Mo_next (cond (Nat.blt k 128) cd_Mo_readsDigits cd_Mo_kindOf)) (cond (Nat.blt k 130) cd_Mo_readsRemark (cond (Nat.blt k 131) cd_Mo_readsAll cd_Mo_statement)))) (cond (Nat.blt k 138) (cond (Nat.blt k 135) (cond (Nat.blt k 133) cd_Mo_comesRemark (cond (Nat.blt k 134) cd_Mo_comes cd_Mo_table)) (cond (Nat.blt k 136) cd_Mo_passes (cond (Nat.blt k 137) cd_Mo_passOne cd_Mo_passesAll))) (cond (Nat.blt k 141) (cond (Nat.blt k 139) cd_Mo_image (cond (Nat.blt k 140) cd_Mo_on cd_Mo_minutesOf)) (cond (Nat.blt k 142) cd_Mo_moreOf (cond (Nat.blt k 143) cd_Mo_lessOf cd_Mo_priceOf)))))) (cond (Nat.blt k 168) (cond (Nat.blt k 156) (cond (Nat.blt k 150) (cond (Nat.blt k 147) (cond (Nat.blt k 145) cd_Mo_hears (cond (Nat.blt k 146) cd_Mo_changes cd_Mo_opens)) (cond (Nat.blt k 148) cd_Mo_nextReady (cond (Nat.blt k 149) cd_Mo_takes cd_Mo_dines))) (cond (Nat.blt k 153) (cond (Nat.blt k 151) cd_Mo_all (cond (Nat.blt k 152) cd_Mo_openedMany cd_Mo_billOf)) (cond (Nat.blt k 154) cd_Mo_guest (cond (Nat.blt k 155) cd_Mo_remark cd_Mo_ready)))) (cond (Nat.blt k 162) (cond (Nat.blt k 159) (cond (Nat.blt k 157) cd_Mo_mood (cond (Nat.blt k 158) cd_Mo_change cd_Mo_set)) (cond (Nat.blt k 160) cd_Mo_lastOpened (cond (Nat.blt k 161) cd_Mo_sums cd_Mo_of))) (cond (Nat.blt k 165) (cond (Nat.blt k 163) cd_Mo_moodAt (cond (Nat.blt k 164) cd_Mo_bill cd_Mo_without)) (cond (Nat.blt k 166) cd_Mo_moodsReady (cond (Nat.blt k 167) cd_Mo_bestMinute cd_Mo_enough))))) (cond (Nat.blt k 180) (cond (Nat.blt k 174) (cond (Nat.blt k 171) (cond (Nat.blt k 169) cd_Mo_swap (cond (Nat.blt k 170) cd_Mo_fit cd_Mo_likedBy)) (cond (Nat.blt k 172) cd_Mo_could (cond (Nat.blt k 173) cd_Mo_dear cd_Mo_spare))) (cond (Nat.blt k 177) (cond (Nat.blt k 175) cd_Mo_cold (cond (Nat.blt k 176) cd_Mo_isOpenedAt cd_Mo_silence)) (cond (Nat.blt k 178) cd_Mo_busy (cond (Nat.blt k 179) cd_Mo_isSo cd_Mo_who)))) (cond (Nat.blt k 186) (cond (Nat.blt k 183) (cond (Nat.blt k 181) cd_Mo_broughtBy (cond (Nat.blt k 182) cd_Mo_rests cd_Mo_haggle)) (cond (Nat.blt k 184) cd_Mo_payments (cond (Nat.blt k 185) cd_Mo_divisor cd_Mo_odds))) (cond (Nat.blt k 189) (cond (Nat.blt k 187) cd_Mo_row (cond (Nat.blt k 188) cd_Mo_openedBy cd_Mo_judge)) (cond (Nat.blt k 190) cd_Mo_clear (cond (Nat.blt k 191) cd_Mo_lots cd_Mo_count)))))))) []
def maxOf (k : Nat) : Nat := nthD [1, 2, 4, 2, 2, 2, 2, 3, 3, 2, 3, 2, 3, 6, 2, 2, 3, 6, 2, 2, 5, 4, 3, 3, 3, 4, 4, 4, 3, 3, 3, 7, 4, 5, 6, 4, 4, 3, 4, 3, 4, 3, 3, 3, 4, 4, 2, 2, 1, 1, 4, 5, 3, 3, 5, 4, 6, 6, 2, 5, 3, 7, 3, 7, 7, 4, 7, 5, 13, 3, 7, 9, 2, 2, 3, 3, 4, 4, 3, 4, 3, 4, 3, 2, 2, 2, 1, 1, 1, 3, 1, 3, 1, 4, 2, 4, 3, 1, 10, 2, 2, 2, 4, 1, 1, 2, 3, 2, 1, 5, 6, 6, 3, 6, 11, 2, 2, 2, 3, 3, 2, 3, 2, 3, 2, 3, 1, 5, 1, 2, 3, 2, 2, 4, 3, 3, 3, 3, 1, 1, 2, 2, 2, 2, 2, 5, 6, 4, 5, 4, 3, 3, 4, 3, 3, 5, 5, 3, 5, 3, 3, 4, 4, 2, 3, 5, 6, 4, 6, 7, 4, 5, 3, 4, 5, 3, 6, 2, 3, 9, 4, 2, 4, 7, 10, 13, 3, 4, 3, 2, 10, 4] k 0
def clsNo (k : Nat) : Nat := nthD [98, 98, 98, 98, 98, 98, 98, 98, 1, 1, 1, 1, 1, 1, 1, 1, 1, 1, 1, 1, 1, 1, 1, 1, 1, 1, 1, 1, 3, 3, 3, 3, 3, 3, 3, 3, 3, 3, 3, 3, 3, 3, 3, 3, 3, 3, 2, 2, 2, 2, 2, 2, 2, 2, 2, 5, 5, 5, 4, 4, 4, 4, 4, 4, 4, 4, 4, 4, 4, 4, 4, 4, 0, 0, 0, 0, 0, 0, 0, 0, 0, 0, 0, 0, 0, 0, 0, 0, 0, 0, 0, 0, 0, 0, 0, 0, 0, 0, 0, 0, 0, 0, 0, 0, 0, 0, 0, 0, 0, 0, 0, 0, 0, 0, 0, 6, 6, 6, 6, 6, 6, 6, 6, 6, 6, 6, 6, 6, 6, 6, 6, 6, 6, 6, 6, 6, 6, 6, 6, 6, 6, 6, 6, 6, 6, 6, 6, 6, 6, 6, 6, 6, 6, 6, 6, 6, 6, 6, 6, 6, 6, 6, 6, 6, 6, 6, 6, 6, 6, 6, 6, 6, 6, 6, 6, 6, 6, 6, 6, 6, 6, 6, 6, 6, 6, 6, 6, 6, 6, 6, 6, 6] k 98
abbrev k_In_bitCount : Nat := 0
abbrev k_Mh_max : Nat := 1
abbrev k_Mh_max2 : Nat := 2
abbrev k_Mh_min : Nat := 3
abbrev k_Kd_minutesFor : Nat := 4
abbrev k_Kd_moreMood : Nat := 5
abbrev k_Kd_lessMood : Nat := 6
abbrev k_Kd_price : Nat := 7
abbrev k_Tb_copyFrom : Nat := 8
abbrev k_Tb_hasGuest : Nat := 9
abbrev k_Tb_hasTwo : Nat := 10
abbrev k_Tb_hasRemark : Nat := 11
abbrev k_Tb_seat : Nat := 12
abbrev k_Tb_bring : Nat := 13
abbrev k_Tb_hire : Nat := 14
abbrev k_Tb_charge : Nat := 15
abbrev k_Tb_humour : Nat := 16
abbrev k_Tb_changeSeats : Nat := 17
abbrev k_Tb_minutesFor : Nat := 18
abbrev k_Tb_priceOf : Nat := 19
abbrev k_Tb_hearersOf : Nat := 20
abbrev k_Tb_likersOf : Nat := 21
abbrev k_Tb_moodsTogether : Nat := 22
abbrev k_Tb_allPrices : Nat := 23
abbrev k_Tb_mostLikers : Nat := 24
abbrev k_Tb_topicsLikedBy : Nat := 25
abbrev k_Tb_dearest : Nat := 26
abbrev k_Tb_broughtBy : Nat := 27
abbrev k_Ev_run : Nat := 28
abbrev k_Ev_begin : Nat := 29
abbrev k_Ev_pass : Nat := 30
abbrev k_Ev_open : Nat := 31
abbrev k_Ev_changeMoods : Nat := 32
abbrev k_Ev_takeWhatIsReady : Nat := 33
abbrev k_Ev_nextToTake : Nat := 34
abbrev k_Ev_busyAt : Nat := 35
abbrev k_Ev_minutesWithBusy : Nat := 36
abbrev k_Ev_moodsTogether : Nat := 37
abbrev k_Ev_billOf : Nat := 38
abbrev k_Ev_wholeBill : Nat := 39
abbrev k_Ev_openedBy : Nat := 40
abbrev k_Ev_howManySentBack : Nat := 41
abbrev k_Ev_lastOpening : Nat := 42
abbrev k_Ev_isSilent : Nat := 43
abbrev k_Ev_longestSilence : Nat := 44
abbrev k_Ev_startOfSilence : Nat := 45
abbrev k_Lt_add : Nat := 46
abbrev k_Lt_at : Nat := 47
abbrev k_Lt_sizeOf : Nat := 48
abbrev k_Lt_kindOf : Nat := 49
abbrev k_Lt_firstStray : Nat := 50
abbrev k_Lt_strayFrom : Nat := 51
abbrev k_Lt_fits : Nat := 52
abbrev k_Lt_tell : Nat := 53
abbrev k_Lt_number : Nat := 54
abbrev k_Sh_fewestPayments : Nat := 55
abbrev k_Sh_findWhoIsOver : Nat := 56
abbrev k_Sh_mostGroups : Nat := 57
abbrev k_Tr_moodsLeaving : Nat := 58
abbrev k_Tr_moodBehind : Nat := 59
abbrev k_Tr_moreWithout : Nat := 60
abbrev k_Tr_minuteOfMostMoods : Nat := 61
abbrev k_Tr_leastWaiters : Nat := 62
abbrev k_Tr_seatsOfMostMoods : Nat := 63
abbrev k_Tr_bringerOfMostMoods : Nat := 64
abbrev k_Tr_leftSoNothingIsSentBack : Nat := 65
abbrev k_Tr_leftForMostMoods : Nat := 66
abbrev k_Tr_isAsTold : Nat := 67
abbrev k_Tr_firstSettledPair : Nat := 68
abbrev k_Tr_worthOf : Nat := 69
abbrev k_Tr_waysToReach : Nat := 70
abbrev k_Tr_byLot : Nat := 71
abbrev k_X_letter : Nat := 72
abbrev k_X_table : Nat := 73
abbrev k_X_guest : Nat := 74
abbrev k_X_remark : Nat := 75
abbrev k_X_ready : Nat := 76
abbrev k_X_mood : Nat := 77
abbrev k_X_change : Nat := 78
abbrev k_X_set : Nat := 79
abbrev k_X_sums : Nat := 80
abbrev k_X_of : Nat := 81
abbrev k_X_moodAt : Nat := 82
abbrev k_X_bill : Nat := 83
abbrev k_X_without : Nat := 84
abbrev k_X_bestMinute : Nat := 85
abbrev k_X_enough : Nat := 86
abbrev k_X_swap : Nat := 87
abbrev k_X_fit : Nat := 88
abbrev k_X_could : Nat := 89
abbrev k_X_dear : Nat := 90
abbrev k_X_spare : Nat := 91
abbrev k_X_cold : Nat := 92
abbrev k_X_silence : Nat := 93
abbrev k_X_busy : Nat := 94
abbrev k_X_who : Nat := 95
abbrev k_X_haggle : Nat := 96
abbrev k_X_payments : Nat := 97
abbrev k_X_odds : Nat := 98
abbrev k_X_row : Nat := 99
abbrev k_X_judge : Nat := 100
abbrev k_X_clear : Nat := 101
abbrev k_X_lots : Nat := 102
abbrev k_X_image : Nat := 103
abbrev k_X_on : Nat := 104
abbrev k_X_count : Nat := 105
abbrev k_X_refuse : Nat := 106
abbrev k_X_refuseLong : Nat := 107
abbrev k_X_eveningNow : Nat := 108
abbrev k_X_become : Nat := 109
abbrev k_X_kindsAsTold : Nat := 110
abbrev k_X_topicsAsTold : Nat := 111
abbrev k_X_firstUntrue : Nat := 112
abbrev k_X_power : Nat := 113
abbrev k_X_greatestDivisor : Nat := 114
abbrev k_Mo_no : Nat := 115
abbrev k_Mo_lower : Nat := 116
abbrev k_Mo_lowest : Nat := 117
abbrev k_Mo_isIn : Nat := 118
abbrev k_Mo_bound : Nat := 119
abbrev k_Mo_has : Nat := 120
abbrev k_Mo_bits : Nat := 121
abbrev k_Mo_isGuest : Nat := 122
abbrev k_Mo_areTwo : Nat := 123
abbrev k_Mo_isRemark : Nat := 124
abbrev k_Mo_letter : Nat := 125
abbrev k_Mo_next : Nat := 126
abbrev k_Mo_readsDigits : Nat := 127
abbrev k_Mo_kindOf : Nat := 128
abbrev k_Mo_readsRemark : Nat := 129
abbrev k_Mo_readsAll : Nat := 130
abbrev k_Mo_statement : Nat := 131
abbrev k_Mo_comesRemark : Nat := 132
abbrev k_Mo_comes : Nat := 133
abbrev k_Mo_table : Nat := 134
abbrev k_Mo_passes : Nat := 135
abbrev k_Mo_passOne : Nat := 136
abbrev k_Mo_passesAll : Nat := 137
abbrev k_Mo_image : Nat := 138
abbrev k_Mo_on : Nat := 139
abbrev k_Mo_minutesOf : Nat := 140
abbrev k_Mo_moreOf : Nat := 141
abbrev k_Mo_lessOf : Nat := 142
abbrev k_Mo_priceOf : Nat := 143
abbrev k_Mo_hears : Nat := 144
abbrev k_Mo_changes : Nat := 145
abbrev k_Mo_opens : Nat := 146
abbrev k_Mo_nextReady : Nat := 147
abbrev k_Mo_takes : Nat := 148
abbrev k_Mo_dines : Nat := 149
abbrev k_Mo_all : Nat := 150
abbrev k_Mo_openedMany : Nat := 151
abbrev k_Mo_billOf : Nat := 152
abbrev k_Mo_guest : Nat := 153
abbrev k_Mo_remark : Nat := 154
abbrev k_Mo_ready : Nat := 155
abbrev k_Mo_mood : Nat := 156
abbrev k_Mo_change : Nat := 157
abbrev k_Mo_set : Nat := 158
abbrev k_Mo_lastOpened : Nat := 159
abbrev k_Mo_sums : Nat := 160
abbrev k_Mo_of : Nat := 161
abbrev k_Mo_moodAt : Nat := 162
abbrev k_Mo_bill : Nat := 163
abbrev k_Mo_without : Nat := 164
abbrev k_Mo_moodsReady : Nat := 165
abbrev k_Mo_bestMinute : Nat := 166
abbrev k_Mo_enough : Nat := 167
abbrev k_Mo_swap : Nat := 168
abbrev k_Mo_fit : Nat := 169
abbrev k_Mo_likedBy : Nat := 170
abbrev k_Mo_could : Nat := 171
abbrev k_Mo_dear : Nat := 172
abbrev k_Mo_spare : Nat := 173
abbrev k_Mo_cold : Nat := 174
abbrev k_Mo_isOpenedAt : Nat := 175
abbrev k_Mo_silence : Nat := 176
abbrev k_Mo_busy : Nat := 177
abbrev k_Mo_isSo : Nat := 178
abbrev k_Mo_who : Nat := 179
abbrev k_Mo_broughtBy : Nat := 180
abbrev k_Mo_rests : Nat := 181
abbrev k_Mo_haggle : Nat := 182
abbrev k_Mo_payments : Nat := 183
abbrev k_Mo_divisor : Nat := 184
abbrev k_Mo_odds : Nat := 185
abbrev k_Mo_row : Nat := 186
abbrev k_Mo_openedBy : Nat := 187
abbrev k_Mo_judge : Nat := 188
abbrev k_Mo_clear : Nat := 189
abbrev k_Mo_lots : Nat := 190
abbrev k_Mo_count : Nat := 191
/-- a call of method k, its calls no deeper than d -/
def P : Nat → Nat → List AV → Sto → PQ → Prop
  | 0, _, _, _, _ => False
  | d + 1, k, args, σ, Q => (iniL (maxOf k) args).length = maxOf k ∧ ∀ X : Nat → Lo → List AV → Sto → Prop, Cl clsNo (P d) none (codeOf k) Q X → X 0 (iniL (maxOf k) args) [] σ
end
section
abbrev Rc : Type := MethodName × ByteArray × Option FieldType × Nat × Nat × Nat × Nat × Nat × Nat
def recs : List Rc := [(⟨"java/lang/Intege\x72", "bitCount", "(I)I"⟩, prog_10_method_49_code, (Option.some FieldType.int), 1, 1, 359, 9, 358, 0),
  (⟨"java/lang/Math", "max", "(II)I"⟩, prog_11_method_65_code, (Option.some FieldType.int), 2, 1, 375, 10, 374, 0),
  (⟨"java/lang/Math", "max", "(JJ)J"⟩, prog_11_method_66_code, (Option.some FieldType.long), 2, 1, 630, 10, 629, 0),
  (⟨"java/lang/Math", "min", "(II)I"⟩, prog_11_method_69_code, (Option.some FieldType.int), 2, 1, 372, 10, 371, 0),
  (⟨"CorkageOnRemarks$Kinds", "minutesFo\x72", "(II)I"⟩, prog_3_method_2_code, (Option.some FieldType.int), 2, 1, 298, 8, 297, 0),
  (⟨"CorkageOnRemarks$Kinds", "moreMood", "(II)I"⟩, prog_3_method_3_code, (Option.some FieldType.int), 2, 1, 365, 8, 364, 0),
  (⟨"CorkageOnRemarks$Kinds", "lessMood", "(II)I"⟩, prog_3_method_4_code, (Option.some FieldType.int), 2, 1, 378, 8, 377, 0),
  (⟨"CorkageOnRemarks$Kinds", "price", "(III)I"⟩, prog_3_method_5_code, (Option.some FieldType.int), 3, 1, 305, 8, 304, 0),
  (⟨"CorkageOnRemarks$Table", "copyFrom", "(LCorkageOnRemarks$Table;)V"⟩, prog_6_method_2_code, (Option.none : Option FieldType), 1, 0, 235, 2, 233, 234),
  (⟨"CorkageOnRemarks$Table", "hasGuest", "(I)Z"⟩, prog_6_method_3_code, (Option.some FieldType.boolean), 1, 0, 255, 2, 253, 254),
  (⟨"CorkageOnRemarks$Table", "hasTwo", "(II)Z"⟩, prog_6_method_4_code, (Option.some FieldType.boolean), 2, 0, 271, 2, 269, 270),
  (⟨"CorkageOnRemarks$Table", "hasRemark", "(I)Z"⟩, prog_6_method_5_code, (Option.some FieldType.boolean), 1, 0, 290, 2, 288, 289),
  (⟨"CorkageOnRemarks$Table", "seat", "(II)Z"⟩, prog_6_method_6_code, (Option.some FieldType.boolean), 2, 0, 247, 2, 245, 246),
  (⟨"CorkageOnRemarks$Table", "bring", "(IIIII)Z"⟩, prog_6_method_7_code, (Option.some FieldType.boolean), 5, 0, 251, 2, 249, 250),
  (⟨"CorkageOnRemarks$Table", "hire", "(I)Z"⟩, prog_6_method_8_code, (Option.some FieldType.boolean), 1, 0, 259, 2, 257, 258),
  (⟨"CorkageOnRemarks$Table", "charge", "(I)Z"⟩, prog_6_method_9_code, (Option.some FieldType.boolean), 1, 0, 263, 2, 261, 262),
  (⟨"CorkageOnRemarks$Table", "humou\x72", "(II)Z"⟩, prog_6_method_10_code, (Option.some FieldType.boolean), 2, 0, 275, 2, 273, 274),
  (⟨"CorkageOnRemarks$Table", "changeSeats", "(II)Z"⟩, prog_6_method_11_code, (Option.some FieldType.boolean), 2, 0, 267, 2, 265, 266),
  (⟨"CorkageOnRemarks$Table", "minutesFo\x72", "(I)I"⟩, prog_6_method_12_code, (Option.some FieldType.int), 1, 0, 294, 2, 292, 293),
  (⟨"CorkageOnRemarks$Table", "priceOf", "(I)I"⟩, prog_6_method_13_code, (Option.some FieldType.int), 1, 0, 302, 2, 300, 301),
  (⟨"CorkageOnRemarks$Table", "hearersOf", "(I)I"⟩, prog_6_method_14_code, (Option.some FieldType.int), 1, 0, 309, 2, 307, 308),
  (⟨"CorkageOnRemarks$Table", "likersOf", "(I)I"⟩, prog_6_method_15_code, (Option.some FieldType.int), 1, 0, 356, 2, 354, 355),
  (⟨"CorkageOnRemarks$Table", "moodsTogethe\x72", "()I"⟩, prog_6_method_16_code, (Option.some FieldType.int), 0, 0, 673, 2, 671, 672),
  (⟨"CorkageOnRemarks$Table", "allPrices", "()I"⟩, prog_6_method_17_code, (Option.some FieldType.int), 0, 0, 677, 2, 675, 676),
  (⟨"CorkageOnRemarks$Table", "mostLikers", "()I"⟩, prog_6_method_18_code, (Option.some FieldType.int), 0, 0, 495, 2, 493, 494),
  (⟨"CorkageOnRemarks$Table", "topicsLikedBy", "(I)I"⟩, prog_6_method_19_code, (Option.some FieldType.int), 1, 0, 502, 2, 500, 501),
  (⟨"CorkageOnRemarks$Table", "dearest", "()I"⟩, prog_6_method_20_code, (Option.some FieldType.int), 0, 0, 510, 2, 508, 509),
  (⟨"CorkageOnRemarks$Table", "broughtBy", "(I)I"⟩, prog_6_method_21_code, (Option.some FieldType.int), 1, 0, 583, 2, 581, 582),
  (⟨"CorkageOnRemarks$Evening", "run", "(I)V"⟩, prog_2_method_2_code, (Option.none : Option FieldType), 1, 0, 338, 5, 336, 337),
  (⟨"CorkageOnRemarks$Evening", "begin", "(I)V"⟩, prog_2_method_3_code, (Option.none : Option FieldType), 1, 0, 342, 5, 340, 341),
  (⟨"CorkageOnRemarks$Evening", "pass", "(I)V"⟩, prog_2_method_4_code, (Option.none : Option FieldType), 1, 0, 346, 5, 344, 345),
  (⟨"CorkageOnRemarks$Evening", "open", "(II)V"⟩, prog_2_method_5_code, (Option.none : Option FieldType), 2, 2, 350, 5, 349, 5),
  (⟨"CorkageOnRemarks$Evening", "changeMoods", "(II)V"⟩, prog_2_method_6_code, (Option.none : Option FieldType), 2, 2, 369, 5, 368, 6),
  (⟨"CorkageOnRemarks$Evening", "takeWhatIsReady", "(I)V"⟩, prog_2_method_7_code, (Option.none : Option FieldType), 1, 2, 382, 5, 381, 7),
  (⟨"CorkageOnRemarks$Evening", "nextToTake", "(I)I"⟩, prog_2_method_8_code, (Option.some FieldType.int), 1, 2, 390, 5, 389, 9),
  (⟨"CorkageOnRemarks$Evening", "busyAt", "(I)I"⟩, prog_2_method_9_code, (Option.some FieldType.int), 1, 2, 386, 5, 385, 8),
  (⟨"CorkageOnRemarks$Evening", "minutesWithBusy", "(I)I"⟩, prog_2_method_10_code, (Option.some FieldType.int), 1, 0, 554, 5, 552, 553),
  (⟨"CorkageOnRemarks$Evening", "moodsTogethe\x72", "()I"⟩, prog_2_method_11_code, (Option.some FieldType.int), 0, 0, 395, 5, 393, 394),
  (⟨"CorkageOnRemarks$Evening", "billOf", "(I)I"⟩, prog_2_method_12_code, (Option.some FieldType.int), 1, 0, 403, 5, 401, 402),
  (⟨"CorkageOnRemarks$Evening", "wholeBill", "()I"⟩, prog_2_method_13_code, (Option.some FieldType.int), 0, 0, 399, 5, 397, 398),
  (⟨"CorkageOnRemarks$Evening", "openedBy", "(I)I"⟩, prog_2_method_14_code, (Option.some FieldType.int), 1, 0, 408, 5, 406, 407),
  (⟨"CorkageOnRemarks$Evening", "howManySentBack", "()I"⟩, prog_2_method_15_code, (Option.some FieldType.int), 0, 0, 412, 5, 410, 411),
  (⟨"CorkageOnRemarks$Evening", "lastOpening", "()I"⟩, prog_2_method_16_code, (Option.some FieldType.int), 0, 0, 416, 5, 414, 415),
  (⟨"CorkageOnRemarks$Evening", "isSilent", "(I)Z"⟩, prog_2_method_17_code, (Option.some FieldType.boolean), 1, 2, 542, 5, 541, 11),
  (⟨"CorkageOnRemarks$Evening", "longestSilence", "()I"⟩, prog_2_method_18_code, (Option.some FieldType.int), 0, 0, 538, 5, 536, 537),
  (⟨"CorkageOnRemarks$Evening", "startOfSilence", "(I)I"⟩, prog_2_method_19_code, (Option.some FieldType.int), 1, 0, 546, 5, 544, 545),
  (⟨"CorkageOnRemarks$Letters", "add", "(I)V"⟩, prog_4_method_2_code, (Option.none : Option FieldType), 1, 0, 202, 3, 200, 201),
  (⟨"CorkageOnRemarks$Letters", "at", "(I)I"⟩, prog_4_method_3_code, (Option.some FieldType.int), 1, 0, 222, 3, 220, 221),
  (⟨"CorkageOnRemarks$Letters", "sizeOf", "(I)I"⟩, prog_4_method_4_code, (Option.some FieldType.int), 1, 1, 225, 3, 224, 0),
  (⟨"CorkageOnRemarks$Letters", "kindOf", "(I)I"⟩, prog_4_method_5_code, (Option.some FieldType.int), 1, 1, 231, 3, 230, 0),
  (⟨"CorkageOnRemarks$Letters", "firstStray", "()I"⟩, prog_4_method_6_code, (Option.some FieldType.int), 0, 0, 214, 3, 212, 213),
  (⟨"CorkageOnRemarks$Letters", "strayFrom", "(I)I"⟩, prog_4_method_7_code, (Option.some FieldType.int), 1, 2, 218, 3, 217, 2),
  (⟨"CorkageOnRemarks$Letters", "fits", "(III)Z"⟩, prog_4_method_8_code, (Option.some FieldType.boolean), 3, 1, 228, 3, 227, 0),
  (⟨"CorkageOnRemarks$Letters", "tell", "(LCorkageOnRemarks$Table;I)Z"⟩, prog_4_method_9_code, (Option.some FieldType.boolean), 2, 0, 239, 3, 237, 238),
  (⟨"CorkageOnRemarks$Letters", "numbe\x72", "(II)I"⟩, prog_4_method_10_code, (Option.some FieldType.int), 2, 2, 243, 3, 242, 3),
  (⟨"CorkageOnRemarks$Shares", "fewestPayments", "(ILCorkageOnRemarks$Evening;)I"⟩, prog_5_method_2_code, (Option.some FieldType.int), 2, 0, 596, 6, 594, 595),
  (⟨"CorkageOnRemarks$Shares", "findWhoIsOve\x72", "(ILCorkageOnRemarks$Evening;)V"⟩, prog_5_method_3_code, (Option.none : Option FieldType), 2, 2, 600, 6, 599, 15),
  (⟨"CorkageOnRemarks$Shares", "mostGroups", "(II)I"⟩, prog_5_method_4_code, (Option.some FieldType.int), 2, 2, 606, 6, 605, 16),
  (⟨"CorkageOnRemarks$Trials", "moodsLeaving", "(I)I"⟩, prog_7_method_2_code, (Option.some FieldType.int), 1, 2, 450, 4, 449, 10),
  (⟨"CorkageOnRemarks$Trials", "moodBehind", "(LCorkageOnRemarks$Table;II)I"⟩, prog_7_method_3_code, (Option.some FieldType.int), 3, 0, 428, 4, 426, 427),
  (⟨"CorkageOnRemarks$Trials", "moreWithout", "(LCorkageOnRemarks$Table;I)I"⟩, prog_7_method_4_code, (Option.some FieldType.int), 2, 0, 446, 4, 444, 445),
  (⟨"CorkageOnRemarks$Trials", "minuteOfMostMoods", "(LCorkageOnRemarks$Table;I)I"⟩, prog_7_method_5_code, (Option.some FieldType.int), 2, 0, 460, 4, 458, 459),
  (⟨"CorkageOnRemarks$Trials", "leastWaiters", "(LCorkageOnRemarks$Table;)I"⟩, prog_7_method_6_code, (Option.some FieldType.int), 1, 0, 469, 4, 467, 468),
  (⟨"CorkageOnRemarks$Trials", "seatsOfMostMoods", "(LCorkageOnRemarks$Table;)I"⟩, prog_7_method_7_code, (Option.some FieldType.int), 1, 0, 478, 4, 476, 477),
  (⟨"CorkageOnRemarks$Trials", "bringerOfMostMoods", "(LCorkageOnRemarks$Table;)I"⟩, prog_7_method_8_code, (Option.some FieldType.int), 1, 0, 487, 4, 485, 486),
  (⟨"CorkageOnRemarks$Trials", "leftSoNothingIsSentBack", "(LCorkageOnRemarks$Table;)I"⟩, prog_7_method_9_code, (Option.some FieldType.int), 1, 0, 519, 4, 517, 518),
  (⟨"CorkageOnRemarks$Trials", "leftForMostMoods", "(LCorkageOnRemarks$Table;)I"⟩, prog_7_method_10_code, (Option.some FieldType.int), 1, 0, 530, 4, 528, 529),
  (⟨"CorkageOnRemarks$Trials", "isAsTold", "(I[II)Z"⟩, prog_7_method_11_code, (Option.some FieldType.boolean), 3, 0, 566, 4, 564, 565),
  (⟨"CorkageOnRemarks$Trials", "firstSettledPai\x72", "(LCorkageOnRemarks$Table;II)I"⟩, prog_7_method_12_code, (Option.some FieldType.int), 3, 0, 579, 4, 577, 578),
  (⟨"CorkageOnRemarks$Trials", "worthOf", "(II)I"⟩, prog_7_method_13_code, (Option.some FieldType.int), 2, 2, 587, 4, 586, 14),
  (⟨"CorkageOnRemarks$Trials", "waysToReach", "(LCorkageOnRemarks$Table;II)J"⟩, prog_7_method_14_code, (Option.some FieldType.long), 3, 0, 620, 4, 618, 619),
  (⟨"CorkageOnRemarks$Trials", "byLot", "(LCorkageOnRemarks$Table;III)I"⟩, prog_7_method_15_code, (Option.some FieldType.int), 4, 0, 654, 4, 652, 653),
  (⟨"CorkageOnRemarks", "lette\x72", "(I)I"⟩, prog_1_method_2_code, (Option.some FieldType.int), 1, 0, 194, 1, 192, 193),
  (⟨"CorkageOnRemarks", "table", "()I"⟩, prog_1_method_3_code, (Option.some FieldType.int), 0, 0, 206, 1, 204, 205),
  (⟨"CorkageOnRemarks", "guest", "(II)I"⟩, prog_1_method_4_code, (Option.some FieldType.int), 2, 0, 281, 1, 279, 280),
  (⟨"CorkageOnRemarks", "remark", "(II)I"⟩, prog_1_method_5_code, (Option.some FieldType.int), 2, 0, 286, 1, 284, 285),
  (⟨"CorkageOnRemarks", "ready", "(II)I"⟩, prog_1_method_6_code, (Option.some FieldType.int), 2, 0, 313, 1, 311, 312),
  (⟨"CorkageOnRemarks", "mood", "(II)I"⟩, prog_1_method_7_code, (Option.some FieldType.int), 2, 0, 317, 1, 315, 316),
  (⟨"CorkageOnRemarks", "change", "(II)I"⟩, prog_1_method_8_code, (Option.some FieldType.int), 2, 0, 321, 1, 319, 320),
  (⟨"CorkageOnRemarks", "set", "(II)I"⟩, prog_1_method_9_code, (Option.some FieldType.int), 2, 0, 326, 1, 324, 325),
  (⟨"CorkageOnRemarks", "sums", "(I)I"⟩, prog_1_method_10_code, (Option.some FieldType.int), 1, 0, 330, 1, 328, 329),
  (⟨"CorkageOnRemarks", "of", "(II)I"⟩, prog_1_method_11_code, (Option.some FieldType.int), 2, 0, 420, 1, 418, 419),
  (⟨"CorkageOnRemarks", "moodAt", "(II)I"⟩, prog_1_method_12_code, (Option.some FieldType.int), 2, 0, 424, 1, 422, 423),
  (⟨"CorkageOnRemarks", "bill", "(I)I"⟩, prog_1_method_13_code, (Option.some FieldType.int), 1, 0, 436, 1, 434, 435),
  (⟨"CorkageOnRemarks", "without", "(I)I"⟩, prog_1_method_14_code, (Option.some FieldType.int), 1, 0, 441, 1, 439, 440),
  (⟨"CorkageOnRemarks", "bestMinute", "(I)I"⟩, prog_1_method_15_code, (Option.some FieldType.int), 1, 0, 456, 1, 454, 455),
  (⟨"CorkageOnRemarks", "enough", "()I"⟩, prog_1_method_16_code, (Option.some FieldType.int), 0, 0, 465, 1, 463, 464),
  (⟨"CorkageOnRemarks", "swap", "()I"⟩, prog_1_method_17_code, (Option.some FieldType.int), 0, 0, 474, 1, 472, 473),
  (⟨"CorkageOnRemarks", "fit", "()I"⟩, prog_1_method_18_code, (Option.some FieldType.int), 0, 0, 483, 1, 481, 482),
  (⟨"CorkageOnRemarks", "could", "(I)I"⟩, prog_1_method_19_code, (Option.some FieldType.int), 1, 0, 491, 1, 489, 490),
  (⟨"CorkageOnRemarks", "dea\x72", "()I"⟩, prog_1_method_20_code, (Option.some FieldType.int), 0, 0, 506, 1, 504, 505),
  (⟨"CorkageOnRemarks", "spare", "(I)I"⟩, prog_1_method_21_code, (Option.some FieldType.int), 1, 0, 515, 1, 513, 514),
  (⟨"CorkageOnRemarks", "cold", "()I"⟩, prog_1_method_22_code, (Option.some FieldType.int), 0, 0, 526, 1, 524, 525),
  (⟨"CorkageOnRemarks", "silence", "(I)I"⟩, prog_1_method_23_code, (Option.some FieldType.int), 1, 0, 534, 1, 532, 533),
  (⟨"CorkageOnRemarks", "busy", "(I)I"⟩, prog_1_method_24_code, (Option.some FieldType.int), 1, 0, 550, 1, 548, 549),
  (⟨"CorkageOnRemarks", "who", "(III)I"⟩, prog_1_method_25_code, (Option.some FieldType.int), 3, 0, 558, 1, 556, 557),
  (⟨"CorkageOnRemarks", "haggle", "(II)I"⟩, prog_1_method_26_code, (Option.some FieldType.int), 2, 0, 574, 1, 572, 573),
  (⟨"CorkageOnRemarks", "payments", "()I"⟩, prog_1_method_27_code, (Option.some FieldType.int), 0, 0, 592, 1, 590, 591),
  (⟨"CorkageOnRemarks", "odds", "(III)J"⟩, prog_1_method_28_code, (Option.some FieldType.long), 3, 0, 611, 1, 609, 610),
  (⟨"CorkageOnRemarks", "row", "(I)I"⟩, prog_1_method_29_code, (Option.some FieldType.int), 1, 0, 634, 1, 632, 633),
  (⟨"CorkageOnRemarks", "judge", "()I"⟩, prog_1_method_30_code, (Option.some FieldType.int), 0, 0, 638, 1, 636, 637),
  (⟨"CorkageOnRemarks", "clea\x72", "()I"⟩, prog_1_method_31_code, (Option.some FieldType.int), 0, 0, 646, 1, 644, 645),
  (⟨"CorkageOnRemarks", "lots", "(III)I"⟩, prog_1_method_32_code, (Option.some FieldType.int), 3, 0, 650, 1, 648, 649),
  (⟨"CorkageOnRemarks", "image", "()I"⟩, prog_1_method_33_code, (Option.some FieldType.int), 0, 0, 661, 1, 659, 660),
  (⟨"CorkageOnRemarks", "on", "()I"⟩, prog_1_method_34_code, (Option.some FieldType.int), 0, 0, 665, 1, 663, 664),
  (⟨"CorkageOnRemarks", "count", "(I)I"⟩, prog_1_method_35_code, (Option.some FieldType.int), 1, 0, 669, 1, 667, 668),
  (⟨"CorkageOnRemarks", "refuse", "(I)I"⟩, prog_1_method_36_code, (Option.some FieldType.int), 1, 2, 198, 1, 197, 0),
  (⟨"CorkageOnRemarks", "refuseLong", "(I)J"⟩, prog_1_method_37_code, (Option.some FieldType.long), 1, 2, 615, 1, 614, 17),
  (⟨"CorkageOnRemarks", "eveningNow", "()LCorkageOnRemarks$Evening;"⟩, prog_1_method_38_code, (Option.some (FieldType.object "CorkageOnRemarks$Evening")), 0, 2, 334, 1, 333, 4),
  (⟨"CorkageOnRemarks", "become", "()I"⟩, prog_1_method_39_code, (Option.some FieldType.int), 0, 2, 210, 1, 209, 1),
  (⟨"CorkageOnRemarks", "kindsAsTold", "(II)I"⟩, prog_1_method_40_code, (Option.some FieldType.int), 2, 2, 562, 1, 561, 12),
  (⟨"CorkageOnRemarks", "topicsAsTold", "(II)I"⟩, prog_1_method_41_code, (Option.some FieldType.int), 2, 2, 570, 1, 569, 13),
  (⟨"CorkageOnRemarks", "firstUntrue", "(LCorkageOnRemarks$Evening;)I"⟩, prog_1_method_42_code, (Option.some FieldType.int), 1, 2, 642, 1, 641, 18),
  (⟨"CorkageOnRemarks", "powe\x72", "(JI)J"⟩, prog_1_method_43_code, (Option.some FieldType.long), 2, 1, 623, 1, 622, 0),
  (⟨"CorkageOnRemarks", "greatestDiviso\x72", "(JJ)J"⟩, prog_1_method_44_code, (Option.some FieldType.long), 2, 1, 627, 1, 626, 0),
  (⟨"CorkageOnRemarksModel", "no", "(I)I"⟩, prog_9_method_2_code, (Option.some FieldType.int), 1, 2, 809, 7, 808, 19),
  (⟨"CorkageOnRemarksModel", "lowe\x72", "(I)I"⟩, prog_9_method_3_code, (Option.some FieldType.int), 1, 2, 989, 7, 988, 47),
  (⟨"CorkageOnRemarksModel", "lowest", "(I)J"⟩, prog_9_method_4_code, (Option.some FieldType.long), 1, 2, 1074, 7, 1073, 54),
  (⟨"CorkageOnRemarksModel", "isIn", "(III)Z"⟩, prog_9_method_5_code, (Option.some FieldType.boolean), 3, 1, 832, 7, 831, 0),
  (⟨"CorkageOnRemarksModel", "bound", "(III)I"⟩, prog_9_method_6_code, (Option.some FieldType.int), 3, 1, 805, 7, 804, 0),
  (⟨"CorkageOnRemarksModel", "has", "(II)Z"⟩, prog_9_method_7_code, (Option.some FieldType.boolean), 2, 1, 934, 7, 933, 0),
  (⟨"CorkageOnRemarksModel", "bits", "(I)I"⟩, prog_9_method_8_code, (Option.some FieldType.int), 1, 1, 937, 7, 936, 0),
  (⟨"CorkageOnRemarksModel", "isGuest", "(I)Z"⟩, prog_9_method_9_code, (Option.some FieldType.boolean), 1, 2, 863, 7, 862, 30),
  (⟨"CorkageOnRemarksModel", "areTwo", "(II)Z"⟩, prog_9_method_10_code, (Option.some FieldType.boolean), 2, 2, 867, 7, 866, 31),
  (⟨"CorkageOnRemarksModel", "isRemark", "(I)Z"⟩, prog_9_method_11_code, (Option.some FieldType.boolean), 1, 2, 891, 7, 890, 33),
  (⟨"CorkageOnRemarksModel", "lette\x72", "(I)I"⟩, prog_9_method_12_code, (Option.some FieldType.int), 1, 0, 802, 7, 800, 801),
  (⟨"CorkageOnRemarksModel", "next", "()I"⟩, prog_9_method_13_code, (Option.some FieldType.int), 0, 2, 821, 7, 820, 21),
  (⟨"CorkageOnRemarksModel", "readsDigits", "(II)Z"⟩, prog_9_method_14_code, (Option.some FieldType.boolean), 2, 2, 829, 7, 828, 23),
  (⟨"CorkageOnRemarksModel", "kindOf", "(I)I"⟩, prog_9_method_15_code, (Option.some FieldType.int), 1, 1, 839, 7, 838, 0),
  (⟨"CorkageOnRemarksModel", "readsRemark", "(I)Z"⟩, prog_9_method_16_code, (Option.some FieldType.boolean), 1, 2, 836, 7, 835, 24),
  (⟨"CorkageOnRemarksModel", "readsAll", "(II)Z"⟩, prog_9_method_17_code, (Option.some FieldType.boolean), 2, 2, 825, 7, 824, 22),
  (⟨"CorkageOnRemarksModel", "statement", "()Z"⟩, prog_9_method_18_code, (Option.some FieldType.boolean), 0, 2, 817, 7, 816, 20),
  (⟨"CorkageOnRemarksModel", "comesRemark", "(I)Z"⟩, prog_9_method_19_code, (Option.some FieldType.boolean), 1, 2, 859, 7, 858, 29),
  (⟨"CorkageOnRemarksModel", "comes", "(I)Z"⟩, prog_9_method_20_code, (Option.some FieldType.boolean), 1, 2, 855, 7, 854, 28),
  (⟨"CorkageOnRemarksModel", "table", "()I"⟩, prog_9_method_21_code, (Option.some FieldType.int), 0, 0, 813, 7, 811, 812),
  (⟨"CorkageOnRemarksModel", "passes", "([I)V"⟩, prog_9_method_22_code, (Option.none : Option FieldType), 1, 2, 847, 7, 846, 26),
  (⟨"CorkageOnRemarksModel", "passOne", "(I)I"⟩, prog_9_method_23_code, (Option.some FieldType.int), 1, 2, 851, 7, 850, 27),
  (⟨"CorkageOnRemarksModel", "passesAll", "(IZ)V"⟩, prog_9_method_24_code, (Option.none : Option FieldType), 2, 2, 843, 7, 842, 25),
  (⟨"CorkageOnRemarksModel", "image", "()I"⟩, prog_9_method_25_code, (Option.some FieldType.int), 0, 0, 875, 7, 873, 874),
  (⟨"CorkageOnRemarksModel", "on", "()I"⟩, prog_9_method_26_code, (Option.some FieldType.int), 0, 0, 879, 7, 877, 878),
  (⟨"CorkageOnRemarksModel", "minutesOf", "(I)I"⟩, prog_9_method_27_code, (Option.some FieldType.int), 1, 2, 895, 7, 894, 34),
  (⟨"CorkageOnRemarksModel", "moreOf", "(I)I"⟩, prog_9_method_28_code, (Option.some FieldType.int), 1, 2, 941, 7, 940, 39),
  (⟨"CorkageOnRemarksModel", "lessOf", "(I)I"⟩, prog_9_method_29_code, (Option.some FieldType.int), 1, 2, 945, 7, 944, 40),
  (⟨"CorkageOnRemarksModel", "priceOf", "(I)I"⟩, prog_9_method_30_code, (Option.some FieldType.int), 1, 2, 899, 7, 898, 35),
  (⟨"CorkageOnRemarksModel", "hears", "(I)I"⟩, prog_9_method_31_code, (Option.some FieldType.int), 1, 2, 903, 7, 902, 36),
  (⟨"CorkageOnRemarksModel", "changes", "(II)V"⟩, prog_9_method_32_code, (Option.none : Option FieldType), 2, 2, 871, 7, 870, 32),
  (⟨"CorkageOnRemarksModel", "opens", "(I)V"⟩, prog_9_method_33_code, (Option.none : Option FieldType), 1, 2, 931, 7, 930, 38),
  (⟨"CorkageOnRemarksModel", "nextReady", "(I)I"⟩, prog_9_method_34_code, (Option.some FieldType.int), 1, 2, 953, 7, 952, 42),
  (⟨"CorkageOnRemarksModel", "takes", "(I)V"⟩, prog_9_method_35_code, (Option.none : Option FieldType), 1, 2, 949, 7, 948, 41),
  (⟨"CorkageOnRemarksModel", "dines", "(I)I"⟩, prog_9_method_36_code, (Option.some FieldType.int), 1, 2, 927, 7, 926, 37),
  (⟨"CorkageOnRemarksModel", "all", "()I"⟩, prog_9_method_37_code, (Option.some FieldType.int), 0, 2, 957, 7, 956, 43),
  (⟨"CorkageOnRemarksModel", "openedMany", "()I"⟩, prog_9_method_38_code, (Option.some FieldType.int), 0, 2, 965, 7, 964, 45),
  (⟨"CorkageOnRemarksModel", "billOf", "(I)I"⟩, prog_9_method_39_code, (Option.some FieldType.int), 1, 2, 961, 7, 960, 44),
  (⟨"CorkageOnRemarksModel", "guest", "(II)I"⟩, prog_9_method_40_code, (Option.some FieldType.int), 2, 0, 883, 7, 881, 882),
  (⟨"CorkageOnRemarksModel", "remark", "(II)I"⟩, prog_9_method_41_code, (Option.some FieldType.int), 2, 0, 887, 7, 885, 886),
  (⟨"CorkageOnRemarksModel", "ready", "(II)I"⟩, prog_9_method_42_code, (Option.some FieldType.int), 2, 0, 907, 7, 905, 906),
  (⟨"CorkageOnRemarksModel", "mood", "(II)I"⟩, prog_9_method_43_code, (Option.some FieldType.int), 2, 0, 911, 7, 909, 910),
  (⟨"CorkageOnRemarksModel", "change", "(II)I"⟩, prog_9_method_44_code, (Option.some FieldType.int), 2, 0, 915, 7, 913, 914),
  (⟨"CorkageOnRemarksModel", "set", "(II)I"⟩, prog_9_method_45_code, (Option.some FieldType.int), 2, 0, 919, 7, 917, 918),
  (⟨"CorkageOnRemarksModel", "lastOpened", "()I"⟩, prog_9_method_46_code, (Option.some FieldType.int), 0, 2, 969, 7, 968, 46),
  (⟨"CorkageOnRemarksModel", "sums", "(I)I"⟩, prog_9_method_47_code, (Option.some FieldType.int), 1, 0, 923, 7, 921, 922),
  (⟨"CorkageOnRemarksModel", "of", "(II)I"⟩, prog_9_method_48_code, (Option.some FieldType.int), 2, 0, 973, 7, 971, 972),
  (⟨"CorkageOnRemarksModel", "moodAt", "(II)I"⟩, prog_9_method_49_code, (Option.some FieldType.int), 2, 0, 977, 7, 975, 976),
  (⟨"CorkageOnRemarksModel", "bill", "(I)I"⟩, prog_9_method_50_code, (Option.some FieldType.int), 1, 0, 981, 7, 979, 980),
  (⟨"CorkageOnRemarksModel", "without", "(I)I"⟩, prog_9_method_51_code, (Option.some FieldType.int), 1, 0, 985, 7, 983, 984),
  (⟨"CorkageOnRemarksModel", "moodsReady", "(II)I"⟩, prog_9_method_52_code, (Option.some FieldType.int), 2, 2, 998, 7, 997, 48),
  (⟨"CorkageOnRemarksModel", "bestMinute", "(I)I"⟩, prog_9_method_53_code, (Option.some FieldType.int), 1, 0, 994, 7, 992, 993),
  (⟨"CorkageOnRemarksModel", "enough", "()I"⟩, prog_9_method_54_code, (Option.some FieldType.int), 0, 0, 1002, 7, 1000, 1001),
  (⟨"CorkageOnRemarksModel", "swap", "()I"⟩, prog_9_method_55_code, (Option.some FieldType.int), 0, 0, 1006, 7, 1004, 1005),
  (⟨"CorkageOnRemarksModel", "fit", "()I"⟩, prog_9_method_56_code, (Option.some FieldType.int), 0, 0, 1010, 7, 1008, 1009),
  (⟨"CorkageOnRemarksModel", "likedBy", "(I)I"⟩, prog_9_method_57_code, (Option.some FieldType.int), 1, 2, 1018, 7, 1017, 49),
  (⟨"CorkageOnRemarksModel", "could", "(I)I"⟩, prog_9_method_58_code, (Option.some FieldType.int), 1, 0, 1014, 7, 1012, 1013),
  (⟨"CorkageOnRemarksModel", "dea\x72", "()I"⟩, prog_9_method_59_code, (Option.some FieldType.int), 0, 0, 1022, 7, 1020, 1021),
  (⟨"CorkageOnRemarksModel", "spare", "(I)I"⟩, prog_9_method_60_code, (Option.some FieldType.int), 1, 0, 1026, 7, 1024, 1025),
  (⟨"CorkageOnRemarksModel", "cold", "()I"⟩, prog_9_method_61_code, (Option.some FieldType.int), 0, 0, 1030, 7, 1028, 1029),
  (⟨"CorkageOnRemarksModel", "isOpenedAt", "(I)Z"⟩, prog_9_method_62_code, (Option.some FieldType.boolean), 1, 2, 1038, 7, 1037, 50),
  (⟨"CorkageOnRemarksModel", "silence", "(I)I"⟩, prog_9_method_63_code, (Option.some FieldType.int), 1, 0, 1034, 7, 1032, 1033),
  (⟨"CorkageOnRemarksModel", "busy", "(I)I"⟩, prog_9_method_64_code, (Option.some FieldType.int), 1, 0, 1042, 7, 1040, 1041),
  (⟨"CorkageOnRemarksModel", "isSo", "(I)Z"⟩, prog_9_method_65_code, (Option.some FieldType.boolean), 1, 2, 1050, 7, 1049, 51),
  (⟨"CorkageOnRemarksModel", "who", "(III)I"⟩, prog_9_method_66_code, (Option.some FieldType.int), 3, 0, 1046, 7, 1044, 1045),
  (⟨"CorkageOnRemarksModel", "broughtBy", "(I)I"⟩, prog_9_method_67_code, (Option.some FieldType.int), 1, 2, 1058, 7, 1057, 52),
  (⟨"CorkageOnRemarksModel", "rests", "(I)Z"⟩, prog_9_method_68_code, (Option.some FieldType.boolean), 1, 2, 1062, 7, 1061, 53),
  (⟨"CorkageOnRemarksModel", "haggle", "(II)I"⟩, prog_9_method_69_code, (Option.some FieldType.int), 2, 0, 1054, 7, 1052, 1053),
  (⟨"CorkageOnRemarksModel", "payments", "()I"⟩, prog_9_method_70_code, (Option.some FieldType.int), 0, 0, 1066, 7, 1064, 1065),
  (⟨"CorkageOnRemarksModel", "diviso\x72", "(JJ)J"⟩, prog_9_method_71_code, (Option.some FieldType.long), 2, 1, 1078, 7, 1077, 0),
  (⟨"CorkageOnRemarksModel", "odds", "(III)J"⟩, prog_9_method_72_code, (Option.some FieldType.long), 3, 0, 1070, 7, 1068, 1069),
  (⟨"CorkageOnRemarksModel", "row", "(I)I"⟩, prog_9_method_73_code, (Option.some FieldType.int), 1, 0, 1082, 7, 1080, 1081),
  (⟨"CorkageOnRemarksModel", "openedBy", "(I)I"⟩, prog_9_method_74_code, (Option.some FieldType.int), 1, 2, 1090, 7, 1089, 55),
  (⟨"CorkageOnRemarksModel", "judge", "()I"⟩, prog_9_method_75_code, (Option.some FieldType.int), 0, 0, 1086, 7, 1084, 1085),
  (⟨"CorkageOnRemarksModel", "clea\x72", "()I"⟩, prog_9_method_76_code, (Option.some FieldType.int), 0, 0, 1094, 7, 1092, 1093),
  (⟨"CorkageOnRemarksModel", "lots", "(III)I"⟩, prog_9_method_77_code, (Option.some FieldType.int), 3, 0, 1098, 7, 1096, 1097),
  (⟨"CorkageOnRemarksModel", "count", "(I)I"⟩, prog_9_method_78_code, (Option.some FieldType.int), 1, 0, 1105, 7, 1103, 1104)]
def rcD : Rc := (⟨"", "", ""⟩, ⟨#[]⟩, none, 0, 0, 0, 0, 0, 0)
def rc (k : Nat) : Rc := nthD recs k rcD
def yOf (k : Nat) : MethodName := (rc k).1
def bOf (k : Nat) : ByteArray := (rc k).2.1
def retOf (k : Nat) : Option FieldType := (rc k).2.2.1
def argN (k : Nat) : Nat := (rc k).2.2.2.1
def stOf (k : Nat) : Nat := (rc k).2.2.2.2.1
/-- what the tables say of method k -/
def okM (k : Nat) : Bool :=
  let r := rc k
  decide (tables_1[r.2.2.2.2.2.1]? = some (Cond.code r.1 r.2.1 (maxOf k) r.2.2.1))
  && decide (tables_1[r.2.2.2.2.2.2.1]? = some (Cond.initialized r.1.cls))
  && (Nat.beq k 1 || Nat.beq k 2 || Nat.beq k 3 || decide (plainName r.1.cls = true))
  && decide (r.1.cls ≠ "java/lang/invoke/MethodHandle" ∧ r.1.cls ≠ "java/lang/invoke/VarHandle" ∧ (parseMethodDescriptor r.1.desc).map (fun d => d.parameters.length) = some r.2.2.2.1)
  && Nat.ble (maxOf k) 15
  && (match r.2.2.2.2.1 with
    | 1 => decide (tables_1[r.2.2.2.2.2.2.2.1]? = some (Cond.static r.1))
    | 2 => decide (tables_1[r.2.2.2.2.2.2.2.1]? = some (Cond.instanceMethod r.1)) && decide ((lw_privs.map fun q => q.1)[r.2.2.2.2.2.2.2.2]? = some r.1)
    | _ => decide (tables_1[r.2.2.2.2.2.2.2.1]? = some (Cond.instanceMethod r.1)) && decide (tables_1[r.2.2.2.2.2.2.2.2]? = some (Cond.selects r.1.cls r.1 r.1)))
def fldT (a : Nat) : vw_C := nthD cls9 a ("", F_X, 0)
def lenOk (i : Instr) (len : Nat) : Bool := match i with
  | .bipush _ => Nat.beq len 2
  | .iload _ => Nat.beq len 2
  | .istore _ => Nat.beq len 2
  | .lload _ => Nat.beq len 2
  | .lstore _ => Nat.beq len 2
  | .aload _ => Nat.beq len 2
  | .astore _ => Nat.beq len 2
  | .ldc _ => Nat.beq len 2
  | .sipush _ => Nat.beq len 3
  | .iinc _ _ => Nat.beq len 3
  | .goto _ => Nat.beq len 3
  | .ifCond _ _ => Nat.beq len 3
  | .if_icmp _ _ => Nat.beq len 3
  | .getfield _ => Nat.beq len 3
  | .putfield _ => Nat.beq len 3
  | .invokevirtual _ => Nat.beq len 3
  | .invokestatic _ => Nat.beq len 3
  | .ldc_w _ => Nat.beq len 3
  | .ldc2_w _ => Nat.beq len 3
  | .tableswitch _ _ _ _ => true
  | .lookupswitch _ _ => true
  | _ => Nat.beq len 1
def resOk (own : String) (ret : Option FieldType) (pc : Nat) (i : Instr) (a b pos : Nat) (ks : List (Int × Nat)) : Bool := match i with
  | .iconst n => decide (-1 ≤ n ∧ n ≤ 5)
  | .bipush n => decide (-128 ≤ n ∧ n ≤ 127)
  | .sipush n => decide (-32768 ≤ n ∧ n ≤ 32767)
  | .iinc _ n => decide (-128 ≤ n ∧ n ≤ 127)
  | .ldc x => (match ks with
    | (v, _) :: _ => decide (tables_1[pos]? = some (Cond.constant own x (Int32.ofInt v))) && decide ((Int32.ofInt v).toInt = v)
    | [] => false)
  | .ldc_w x => (match ks with
    | (v, _) :: _ => decide (tables_1[pos]? = some (Cond.constant own x (Int32.ofInt v))) && decide ((Int32.ofInt v).toInt = v)
    | [] => false)
  | .ldc2_w x => (match ks with
    | (v, _) :: _ => decide (tables_1[pos]? = some (Cond.constantLong own x (Int64.ofInt v))) && decide ((Int64.ofInt v).toInt = v)
    | [] => false)
  | .goto off => decide ((pc : Int) + off = a)
  | .ifCond _ off => decide ((pc : Int) + off = a)
  | .if_icmp _ off => decide ((pc : Int) + off = a)
  | .tableswitch d lo hi offs => decide ((pc : Int) + d = a) && decide (ks.map (fun q => (q.2 : Int)) = offs.toList.map (fun f => (pc : Int) + f)) && decide (ks.map (fun q => q.1) = (List.range offs.size).map (fun (n : Nat) => lo + (n : Int))) && decide (hi = lo + (offs.size : Int) - 1)
  | .lookupswitch d ps => decide ((pc : Int) + d = a) && decide (ks.map (fun q => (q.1, (q.2 : Int))) = ps.toList.map (fun q => (q.1, (pc : Int) + q.2))) && (ps.toList.zip (ps.toList.drop 1)).all (fun (x, next) => x.1 < next.1)
  | .getfield x => Nat.blt a 7 && Nat.blt b (fldT a).2.2 && decide (tables_1[pos]? = some (Cond.fieldLink own x ((fldT a).2.1 b).1 ((fldT a).2.1 b).2.1 ((fldT a).2.1 b).2.2.1))
  | .putfield x => Nat.blt a 7 && Nat.blt b (fldT a).2.2 && decide (tables_1[pos]? = some (Cond.fieldLink own x ((fldT a).2.1 b).1 ((fldT a).2.1 b).2.1 ((fldT a).2.1 b).2.2.1)) && !((fldT a).2.1 b).2.2.2 && decide (((fldT a).2.1 b).2.2.1 = if isB a b = true then "Z" else "I")
  | .invokevirtual x => Nat.blt a 192 && Nat.beq b (argN a) && !(Nat.beq (stOf a) 1) && decide (tables_1[pos]? = some (Cond.methodLink own x (yOf a)))
  | .invokestatic x => Nat.blt a 192 && Nat.beq b (argN a) && Nat.beq (stOf a) 1 && (decide (tables_1[pos]? = some (Cond.methodLink own x (yOf a))) || decide (tables_1[pos]? = some (Cond.methodLinkNest own x (yOf a) "CorkageOnRemarks")))
  | .ireturn => cond (Nat.beq a 1) (decide (ret = some .boolean)) (decide (ret = some .int))
  | .lreturn => decide (ret = some .long)
  | .areturn => decide (ret = some (.object "CorkageOnRemarks$Evening"))
  | .return_ => decide (ret = none)
  | _ => true
def okE (own : String) (bytes : ByteArray) (ret : Option FieldType) (q : Nat × En) : Bool :=
  decide (decode bytes q.1 = .ok (q.2.1, q.2.2.1)) && lenOk q.2.1 q.2.2.1 && resOk own ret q.1 q.2.1 q.2.2.2.1 q.2.2.2.2.1 q.2.2.2.2.2.1 q.2.2.2.2.2.2
def okC (own : String) (bytes : ByteArray) (ret : Option FieldType) (cd : List (Nat × En)) : Bool := cd.all (okE own bytes ret)
def okK (k : Nat) : Bool := okC (yOf k).cls (bOf k) (retOf k) (codeOf k)
set_option maxRecDepth 100000 in
theorem okM_0 : ∀ k, k < 24 → okM (0 + k) = true := by decide +kernel
set_option maxRecDepth 100000 in
theorem okM_24 : ∀ k, k < 24 → okM (24 + k) = true := by decide +kernel
set_option maxRecDepth 100000 in
theorem okM_48 : ∀ k, k < 24 → okM (48 + k) = true := by decide +kernel
set_option maxRecDepth 100000 in
theorem okM_72 : ∀ k, k < 24 → okM (72 + k) = true := by decide +kernel
set_option maxRecDepth 100000 in
theorem okM_96 : ∀ k, k < 24 → okM (96 + k) = true := by decide +kernel
set_option maxRecDepth 100000 in
theorem okM_120 : ∀ k, k < 24 → okM (120 + k) = true := by decide +kernel
set_option maxRecDepth 100000 in
theorem okM_144 : ∀ k, k < 24 → okM (144 + k) = true := by decide +kernel
set_option maxRecDepth 100000 in
theorem okM_168 : ∀ k, k < 24 → okM (168 + k) = true := by decide +kernel
set_option maxRecDepth 100000 in
theorem okK_In_bitCount : okK 0 = true := by decide +kernel
set_option maxRecDepth 100000 in
theorem okK_Mh_max : okK 1 = true := by decide +kernel
set_option maxRecDepth 100000 in
theorem okK_Mh_max2 : okK 2 = true := by decide +kernel
set_option maxRecDepth 100000 in
theorem okK_Mh_min : okK 3 = true := by decide +kernel
set_option maxRecDepth 100000 in
theorem okK_Kd_minutesFor : okK 4 = true := by decide +kernel
set_option maxRecDepth 100000 in
theorem okK_Kd_moreMood : okK 5 = true := by decide +kernel
set_option maxRecDepth 100000 in
theorem okK_Kd_lessMood : okK 6 = true := by decide +kernel
set_option maxRecDepth 100000 in
theorem okK_Kd_price : okK 7 = true := by decide +kernel
set_option maxRecDepth 100000 in
theorem okK_Tb_copyFrom : okK 8 = true := by decide +kernel
set_option maxRecDepth 100000 in
theorem okK_Tb_hasGuest : okK 9 = true := by decide +kernel
set_option maxRecDepth 100000 in
theorem okK_Tb_hasTwo : okK 10 = true := by decide +kernel
set_option maxRecDepth 100000 in
theorem okK_Tb_hasRemark : okK 11 = true := by decide +kernel
set_option maxRecDepth 100000 in
theorem okK_Tb_seat : okK 12 = true := by decide +kernel
set_option maxRecDepth 100000 in
theorem okK_Tb_bring : okK 13 = true := by decide +kernel
set_option maxRecDepth 100000 in
theorem okK_Tb_hire : okK 14 = true := by decide +kernel
set_option maxRecDepth 100000 in
theorem okK_Tb_charge : okK 15 = true := by decide +kernel
set_option maxRecDepth 100000 in
theorem okK_Tb_humour : okK 16 = true := by decide +kernel
set_option maxRecDepth 100000 in
theorem okK_Tb_changeSeats : okK 17 = true := by decide +kernel
set_option maxRecDepth 100000 in
theorem okK_Tb_minutesFor : okK 18 = true := by decide +kernel
set_option maxRecDepth 100000 in
theorem okK_Tb_priceOf : okK 19 = true := by decide +kernel
set_option maxRecDepth 100000 in
theorem okK_Tb_hearersOf : okK 20 = true := by decide +kernel
set_option maxRecDepth 100000 in
theorem okK_Tb_likersOf : okK 21 = true := by decide +kernel
set_option maxRecDepth 100000 in
theorem okK_Tb_moodsTogether : okK 22 = true := by decide +kernel
set_option maxRecDepth 100000 in
theorem okK_Tb_allPrices : okK 23 = true := by decide +kernel
set_option maxRecDepth 100000 in
theorem okK_Tb_mostLikers : okK 24 = true := by decide +kernel
set_option maxRecDepth 100000 in
theorem okK_Tb_topicsLikedBy : okK 25 = true := by decide +kernel
set_option maxRecDepth 100000 in
theorem okK_Tb_dearest : okK 26 = true := by decide +kernel
set_option maxRecDepth 100000 in
theorem okK_Tb_broughtBy : okK 27 = true := by decide +kernel
set_option maxRecDepth 100000 in
theorem okK_Ev_run : okK 28 = true := by decide +kernel
set_option maxRecDepth 100000 in
theorem okK_Ev_begin : okK 29 = true := by decide +kernel
set_option maxRecDepth 100000 in
theorem okK_Ev_pass : okK 30 = true := by decide +kernel
set_option maxRecDepth 100000 in
theorem okK_Ev_open : okK 31 = true := by decide +kernel
set_option maxRecDepth 100000 in
theorem okK_Ev_changeMoods : okK 32 = true := by decide +kernel
set_option maxRecDepth 100000 in
theorem okK_Ev_takeWhatIsReady : okK 33 = true := by decide +kernel
set_option maxRecDepth 100000 in
theorem okK_Ev_nextToTake : okK 34 = true := by decide +kernel
set_option maxRecDepth 100000 in
theorem okK_Ev_busyAt : okK 35 = true := by decide +kernel
set_option maxRecDepth 100000 in
theorem okK_Ev_minutesWithBusy : okK 36 = true := by decide +kernel
set_option maxRecDepth 100000 in
theorem okK_Ev_moodsTogether : okK 37 = true := by decide +kernel
set_option maxRecDepth 100000 in
theorem okK_Ev_billOf : okK 38 = true := by decide +kernel
set_option maxRecDepth 100000 in
theorem okK_Ev_wholeBill : okK 39 = true := by decide +kernel
set_option maxRecDepth 100000 in
theorem okK_Ev_openedBy : okK 40 = true := by decide +kernel
set_option maxRecDepth 100000 in
theorem okK_Ev_howManySentBack : okK 41 = true := by decide +kernel
set_option maxRecDepth 100000 in
theorem okK_Ev_lastOpening : okK 42 = true := by decide +kernel
set_option maxRecDepth 100000 in
theorem okK_Ev_isSilent : okK 43 = true := by decide +kernel
set_option maxRecDepth 100000 in
theorem okK_Ev_longestSilence : okK 44 = true := by decide +kernel
set_option maxRecDepth 100000 in
theorem okK_Ev_startOfSilence : okK 45 = true := by decide +kernel
set_option maxRecDepth 100000 in
theorem okK_Lt_add : okK 46 = true := by decide +kernel
set_option maxRecDepth 100000 in
theorem okK_Lt_at : okK 47 = true := by decide +kernel
set_option maxRecDepth 100000 in
theorem okK_Lt_sizeOf : okK 48 = true := by decide +kernel
set_option maxRecDepth 100000 in
theorem okK_Lt_kindOf : okK 49 = true := by decide +kernel
set_option maxRecDepth 100000 in
theorem okK_Lt_firstStray : okK 50 = true := by decide +kernel
set_option maxRecDepth 100000 in
theorem okK_Lt_strayFrom : okK 51 = true := by decide +kernel
set_option maxRecDepth 100000 in
theorem okK_Lt_fits : okK 52 = true := by decide +kernel
set_option maxRecDepth 100000 in
theorem okK_Lt_tell : okK 53 = true := by decide +kernel
set_option maxRecDepth 100000 in
theorem okK_Lt_number : okK 54 = true := by decide +kernel
set_option maxRecDepth 100000 in
theorem okK_Sh_fewestPayments : okK 55 = true := by decide +kernel
set_option maxRecDepth 100000 in
theorem okK_Sh_findWhoIsOver : okK 56 = true := by decide +kernel
set_option maxRecDepth 100000 in
theorem okK_Sh_mostGroups : okK 57 = true := by decide +kernel
set_option maxRecDepth 100000 in
theorem okK_Tr_moodsLeaving : okK 58 = true := by decide +kernel
set_option maxRecDepth 100000 in
theorem okK_Tr_moodBehind : okK 59 = true := by decide +kernel
set_option maxRecDepth 100000 in
theorem okK_Tr_moreWithout : okK 60 = true := by decide +kernel
set_option maxRecDepth 100000 in
theorem okK_Tr_minuteOfMostMoods : okK 61 = true := by decide +kernel
set_option maxRecDepth 100000 in
theorem okK_Tr_leastWaiters : okK 62 = true := by decide +kernel
set_option maxRecDepth 100000 in
theorem okK_Tr_seatsOfMostMoods : okK 63 = true := by decide +kernel
set_option maxRecDepth 100000 in
theorem okK_Tr_bringerOfMostMoods : okK 64 = true := by decide +kernel
set_option maxRecDepth 100000 in
theorem okK_Tr_leftSoNothingIsSentBack : okK 65 = true := by decide +kernel
set_option maxRecDepth 100000 in
theorem okK_Tr_leftForMostMoods : okK 66 = true := by decide +kernel
set_option maxRecDepth 100000 in
theorem okK_Tr_isAsTold : okK 67 = true := by decide +kernel
set_option maxRecDepth 100000 in
theorem okK_Tr_firstSettledPair : okK 68 = true := by decide +kernel
set_option maxRecDepth 100000 in
theorem okK_Tr_worthOf : okK 69 = true := by decide +kernel
set_option maxRecDepth 100000 in
theorem okK_Tr_waysToReach : okK 70 = true := by decide +kernel
set_option maxRecDepth 100000 in
theorem okK_Tr_byLot : okK 71 = true := by decide +kernel
set_option maxRecDepth 100000 in
theorem okK_X_letter : okK 72 = true := by decide +kernel
set_option maxRecDepth 100000 in
theorem okK_X_table : okK 73 = true := by decide +kernel
set_option maxRecDepth 100000 in
theorem okK_X_guest : okK 74 = true := by decide +kernel
set_option maxRecDepth 100000 in
theorem okK_X_remark : okK 75 = true := by decide +kernel
set_option maxRecDepth 100000 in
theorem okK_X_ready : okK 76 = true := by decide +kernel
set_option maxRecDepth 100000 in
theorem okK_X_mood : okK 77 = true := by decide +kernel
set_option maxRecDepth 100000 in
theorem okK_X_change : okK 78 = true := by decide +kernel
set_option maxRecDepth 100000 in
theorem okK_X_set : okK 79 = true := by decide +kernel
set_option maxRecDepth 100000 in
theorem okK_X_sums : okK 80 = true := by decide +kernel
set_option maxRecDepth 100000 in
theorem okK_X_of : okK 81 = true := by decide +kernel
set_option maxRecDepth 100000 in
theorem okK_X_moodAt : okK 82 = true := by decide +kernel
set_option maxRecDepth 100000 in
theorem okK_X_bill : okK 83 = true := by decide +kernel
set_option maxRecDepth 100000 in
theorem okK_X_without : okK 84 = true := by decide +kernel
set_option maxRecDepth 100000 in
theorem okK_X_bestMinute : okK 85 = true := by decide +kernel
set_option maxRecDepth 100000 in
theorem okK_X_enough : okK 86 = true := by decide +kernel
set_option maxRecDepth 100000 in
theorem okK_X_swap : okK 87 = true := by decide +kernel
set_option maxRecDepth 100000 in
theorem okK_X_fit : okK 88 = true := by decide +kernel
set_option maxRecDepth 100000 in
theorem okK_X_could : okK 89 = true := by decide +kernel
set_option maxRecDepth 100000 in
theorem okK_X_dear : okK 90 = true := by decide +kernel
set_option maxRecDepth 100000 in
theorem okK_X_spare : okK 91 = true := by decide +kernel
set_option maxRecDepth 100000 in
theorem okK_X_cold : okK 92 = true := by decide +kernel
set_option maxRecDepth 100000 in
theorem okK_X_silence : okK 93 = true := by decide +kernel
set_option maxRecDepth 100000 in
theorem okK_X_busy : okK 94 = true := by decide +kernel
set_option maxRecDepth 100000 in
theorem okK_X_who : okK 95 = true := by decide +kernel
set_option maxRecDepth 100000 in
theorem okK_X_haggle : okK 96 = true := by decide +kernel
set_option maxRecDepth 100000 in
theorem okK_X_payments : okK 97 = true := by decide +kernel
set_option maxRecDepth 100000 in
theorem okK_X_odds : okK 98 = true := by decide +kernel
set_option maxRecDepth 100000 in
theorem okK_X_row : okK 99 = true := by decide +kernel
set_option maxRecDepth 100000 in
theorem okK_X_judge : okK 100 = true := by decide +kernel
set_option maxRecDepth 100000 in
theorem okK_X_clear : okK 101 = true := by decide +kernel
set_option maxRecDepth 100000 in
theorem okK_X_lots : okK 102 = true := by decide +kernel
set_option maxRecDepth 100000 in
theorem okK_X_image : okK 103 = true := by decide +kernel
set_option maxRecDepth 100000 in
theorem okK_X_on : okK 104 = true := by decide +kernel
set_option maxRecDepth 100000 in
theorem okK_X_count : okK 105 = true := by decide +kernel
set_option maxRecDepth 100000 in
theorem okK_X_refuse : okK 106 = true := by decide +kernel
set_option maxRecDepth 100000 in
theorem okK_X_refuseLong : okK 107 = true := by decide +kernel
set_option maxRecDepth 100000 in
theorem okK_X_eveningNow : okK 108 = true := by decide +kernel
set_option maxRecDepth 100000 in
theorem okK_X_become : okK 109 = true := by decide +kernel
set_option maxRecDepth 100000 in
theorem okK_X_kindsAsTold : okK 110 = true := by decide +kernel
set_option maxRecDepth 100000 in
theorem okK_X_topicsAsTold : okK 111 = true := by decide +kernel
set_option maxRecDepth 100000 in
theorem okK_X_firstUntrue : okK 112 = true := by decide +kernel
set_option maxRecDepth 100000 in
theorem okK_X_power : okK 113 = true := by decide +kernel
set_option maxRecDepth 100000 in
theorem okK_X_greatestDivisor : okK 114 = true := by decide +kernel
set_option maxRecDepth 100000 in
theorem okK_Mo_no : okK 115 = true := by decide +kernel
set_option maxRecDepth 100000 in
theorem okK_Mo_lower : okK 116 = true := by decide +kernel
set_option maxRecDepth 100000 in
theorem okK_Mo_lowest : okK 117 = true := by decide +kernel
set_option maxRecDepth 100000 in
theorem okK_Mo_isIn : okK 118 = true := by decide +kernel
set_option maxRecDepth 100000 in
theorem okK_Mo_bound : okK 119 = true := by decide +kernel
set_option maxRecDepth 100000 in
theorem okK_Mo_has : okK 120 = true := by decide +kernel
set_option maxRecDepth 100000 in
theorem okK_Mo_bits : okK 121 = true := by decide +kernel
set_option maxRecDepth 100000 in
theorem okK_Mo_isGuest : okK 122 = true := by decide +kernel
set_option maxRecDepth 100000 in
theorem okK_Mo_areTwo : okK 123 = true := by decide +kernel
set_option maxRecDepth 100000 in
theorem okK_Mo_isRemark : okK 124 = true := by decide +kernel
set_option maxRecDepth 100000 in
theorem okK_Mo_letter : okK 125 = true := by decide +kernel
set_option maxRecDepth 100000 in
theorem okK_Mo_next : okK 126 = true := by decide +kernel
set_option maxRecDepth 100000 in
theorem okK_Mo_readsDigits : okK 127 = true := by decide +kernel
set_option maxRecDepth 100000 in
theorem okK_Mo_kindOf : okK 128 = true := by decide +kernel
set_option maxRecDepth 100000 in
theorem okK_Mo_readsRemark : okK 129 = true := by decide +kernel
set_option maxRecDepth 100000 in
theorem okK_Mo_readsAll : okK 130 = true := by decide +kernel
set_option maxRecDepth 100000 in
theorem okK_Mo_statement : okK 131 = true := by decide +kernel
set_option maxRecDepth 100000 in
theorem okK_Mo_comesRemark : okK 132 = true := by decide +kernel
set_option maxRecDepth 100000 in
theorem okK_Mo_comes : okK 133 = true := by decide +kernel
set_option maxRecDepth 100000 in
theorem okK_Mo_table : okK 134 = true := by decide +kernel
set_option maxRecDepth 100000 in
theorem okK_Mo_passes : okK 135 = true := by decide +kernel
set_option maxRecDepth 100000 in
theorem okK_Mo_passOne : okK 136 = true := by decide +kernel
set_option maxRecDepth 100000 in
theorem okK_Mo_passesAll : okK 137 = true := by decide +kernel
set_option maxRecDepth 100000 in
theorem okK_Mo_image : okK 138 = true := by decide +kernel
set_option maxRecDepth 100000 in
theorem okK_Mo_on : okK 139 = true := by decide +kernel
set_option maxRecDepth 100000 in
theorem okK_Mo_minutesOf : okK 140 = true := by decide +kernel
set_option maxRecDepth 100000 in
theorem okK_Mo_moreOf : okK 141 = true := by decide +kernel
set_option maxRecDepth 100000 in
theorem okK_Mo_lessOf : okK 142 = true := by decide +kernel
set_option maxRecDepth 100000 in
theorem okK_Mo_priceOf : okK 143 = true := by decide +kernel
set_option maxRecDepth 100000 in
theorem okK_Mo_hears : okK 144 = true := by decide +kernel
set_option maxRecDepth 100000 in
theorem okK_Mo_changes : okK 145 = true := by decide +kernel
set_option maxRecDepth 100000 in
theorem okK_Mo_opens : okK 146 = true := by decide +kernel
set_option maxRecDepth 100000 in
theorem okK_Mo_nextReady : okK 147 = true := by decide +kernel
set_option maxRecDepth 100000 in
theorem okK_Mo_takes : okK 148 = true := by decide +kernel
set_option maxRecDepth 100000 in
theorem okK_Mo_dines : okK 149 = true := by decide +kernel
set_option maxRecDepth 100000 in
theorem okK_Mo_all : okK 150 = true := by decide +kernel
set_option maxRecDepth 100000 in
theorem okK_Mo_openedMany : okK 151 = true := by decide +kernel
set_option maxRecDepth 100000 in
theorem okK_Mo_billOf : okK 152 = true := by decide +kernel
set_option maxRecDepth 100000 in
theorem okK_Mo_guest : okK 153 = true := by decide +kernel
set_option maxRecDepth 100000 in
theorem okK_Mo_remark : okK 154 = true := by decide +kernel
set_option maxRecDepth 100000 in
theorem okK_Mo_ready : okK 155 = true := by decide +kernel
set_option maxRecDepth 100000 in
theorem okK_Mo_mood : okK 156 = true := by decide +kernel
set_option maxRecDepth 100000 in
theorem okK_Mo_change : okK 157 = true := by decide +kernel
set_option maxRecDepth 100000 in
theorem okK_Mo_set : okK 158 = true := by decide +kernel
set_option maxRecDepth 100000 in
theorem okK_Mo_lastOpened : okK 159 = true := by decide +kernel
set_option maxRecDepth 100000 in
theorem okK_Mo_sums : okK 160 = true := by decide +kernel
set_option maxRecDepth 100000 in
theorem okK_Mo_of : okK 161 = true := by decide +kernel
set_option maxRecDepth 100000 in
theorem okK_Mo_moodAt : okK 162 = true := by decide +kernel
set_option maxRecDepth 100000 in
theorem okK_Mo_bill : okK 163 = true := by decide +kernel
set_option maxRecDepth 100000 in
theorem okK_Mo_without : okK 164 = true := by decide +kernel
set_option maxRecDepth 100000 in
theorem okK_Mo_moodsReady : okK 165 = true := by decide +kernel
set_option maxRecDepth 100000 in
theorem okK_Mo_bestMinute : okK 166 = true := by decide +kernel
set_option maxRecDepth 100000 in
theorem okK_Mo_enough : okK 167 = true := by decide +kernel
set_option maxRecDepth 100000 in
theorem okK_Mo_swap : okK 168 = true := by decide +kernel
set_option maxRecDepth 100000 in
theorem okK_Mo_fit : okK 169 = true := by decide +kernel
set_option maxRecDepth 100000 in
theorem okK_Mo_likedBy : okK 170 = true := by decide +kernel
set_option maxRecDepth 100000 in
theorem okK_Mo_could : okK 171 = true := by decide +kernel
set_option maxRecDepth 100000 in
theorem okK_Mo_dear : okK 172 = true := by decide +kernel
set_option maxRecDepth 100000 in
theorem okK_Mo_spare : okK 173 = true := by decide +kernel
set_option maxRecDepth 100000 in
theorem okK_Mo_cold : okK 174 = true := by decide +kernel
set_option maxRecDepth 100000 in
theorem okK_Mo_isOpenedAt : okK 175 = true := by decide +kernel
set_option maxRecDepth 100000 in
theorem okK_Mo_silence : okK 176 = true := by decide +kernel
set_option maxRecDepth 100000 in
theorem okK_Mo_busy : okK 177 = true := by decide +kernel
set_option maxRecDepth 100000 in
theorem okK_Mo_isSo : okK 178 = true := by decide +kernel
set_option maxRecDepth 100000 in
theorem okK_Mo_who : okK 179 = true := by decide +kernel
set_option maxRecDepth 100000 in
theorem okK_Mo_broughtBy : okK 180 = true := by decide +kernel
set_option maxRecDepth 100000 in
theorem okK_Mo_rests : okK 181 = true := by decide +kernel
set_option maxRecDepth 100000 in
theorem okK_Mo_haggle : okK 182 = true := by decide +kernel
set_option maxRecDepth 100000 in
theorem okK_Mo_payments : okK 183 = true := by decide +kernel
set_option maxRecDepth 100000 in
theorem okK_Mo_divisor : okK 184 = true := by decide +kernel
set_option maxRecDepth 100000 in
theorem okK_Mo_odds : okK 185 = true := by decide +kernel
set_option maxRecDepth 100000 in
theorem okK_Mo_row : okK 186 = true := by decide +kernel
set_option maxRecDepth 100000 in
theorem okK_Mo_openedBy : okK 187 = true := by decide +kernel
set_option maxRecDepth 100000 in
theorem okK_Mo_judge : okK 188 = true := by decide +kernel
set_option maxRecDepth 100000 in
theorem okK_Mo_clear : okK 189 = true := by decide +kernel
set_option maxRecDepth 100000 in
theorem okK_Mo_lots : okK 190 = true := by decide +kernel
set_option maxRecDepth 100000 in
theorem okK_Mo_count : okK 191 = true := by decide +kernel
theorem okM_all (k : Nat) (h : k < 192) : okM k = true := by
  by_cases h24 : k < 24
  · have := okM_0 (k - 0) (by omega)
    rwa [show 0 + (k - 0) = k by omega] at this
  by_cases h48 : k < 48
  · have := okM_24 (k - 24) (by omega)
    rwa [show 24 + (k - 24) = k by omega] at this
  by_cases h72 : k < 72
  · have := okM_48 (k - 48) (by omega)
    rwa [show 48 + (k - 48) = k by omega] at this
  by_cases h96 : k < 96
  · have := okM_72 (k - 72) (by omega)
    rwa [show 72 + (k - 72) = k by omega] at this
  by_cases h120 : k < 120
  · have := okM_96 (k - 96) (by omega)
    rwa [show 96 + (k - 96) = k by omega] at this
  by_cases h144 : k < 144
  · have := okM_120 (k - 120) (by omega)
    rwa [show 120 + (k - 120) = k by omega] at this
  by_cases h168 : k < 168
  · have := okM_144 (k - 144) (by omega)
    rwa [show 144 + (k - 144) = k by omega] at this
  by_cases h192 : k < 192
  · have := okM_168 (k - 168) (by omega)
    rwa [show 168 + (k - 168) = k by omega] at this
  omega
theorem okK_all : ∀ k, k < 192 → okK k = true
  | 0, _ => okK_In_bitCount
  | 1, _ => okK_Mh_max
  | 2, _ => okK_Mh_max2
  | 3, _ => okK_Mh_min
  | 4, _ => okK_Kd_minutesFor
  | 5, _ => okK_Kd_moreMood
  | 6, _ => okK_Kd_lessMood
  | 7, _ => okK_Kd_price
  | 8, _ => okK_Tb_copyFrom
  | 9, _ => okK_Tb_hasGuest
  | 10, _ => okK_Tb_hasTwo
  | 11, _ => okK_Tb_hasRemark
  | 12, _ => okK_Tb_seat
  | 13, _ => okK_Tb_bring
  | 14, _ => okK_Tb_hire
  | 15, _ => okK_Tb_charge
  | 16, _ => okK_Tb_humour
  | 17, _ => okK_Tb_changeSeats
  | 18, _ => okK_Tb_minutesFor
  | 19, _ => okK_Tb_priceOf
  | 20, _ => okK_Tb_hearersOf
  | 21, _ => okK_Tb_likersOf
  | 22, _ => okK_Tb_moodsTogether
  | 23, _ => okK_Tb_allPrices
  | 24, _ => okK_Tb_mostLikers
  | 25, _ => okK_Tb_topicsLikedBy
  | 26, _ => okK_Tb_dearest
  | 27, _ => okK_Tb_broughtBy
  | 28, _ => okK_Ev_run
  | 29, _ => okK_Ev_begin
  | 30, _ => okK_Ev_pass
  | 31, _ => okK_Ev_open
  | 32, _ => okK_Ev_changeMoods
  | 33, _ => okK_Ev_takeWhatIsReady
  | 34, _ => okK_Ev_nextToTake
  | 35, _ => okK_Ev_busyAt
  | 36, _ => okK_Ev_minutesWithBusy
  | 37, _ => okK_Ev_moodsTogether
  | 38, _ => okK_Ev_billOf
  | 39, _ => okK_Ev_wholeBill
  | 40, _ => okK_Ev_openedBy
  | 41, _ => okK_Ev_howManySentBack
  | 42, _ => okK_Ev_lastOpening
  | 43, _ => okK_Ev_isSilent
  | 44, _ => okK_Ev_longestSilence
  | 45, _ => okK_Ev_startOfSilence
  | 46, _ => okK_Lt_add
  | 47, _ => okK_Lt_at
  | 48, _ => okK_Lt_sizeOf
  | 49, _ => okK_Lt_kindOf
  | 50, _ => okK_Lt_firstStray
  | 51, _ => okK_Lt_strayFrom
  | 52, _ => okK_Lt_fits
  | 53, _ => okK_Lt_tell
  | 54, _ => okK_Lt_number
  | 55, _ => okK_Sh_fewestPayments
  | 56, _ => okK_Sh_findWhoIsOver
  | 57, _ => okK_Sh_mostGroups
  | 58, _ => okK_Tr_moodsLeaving
  | 59, _ => okK_Tr_moodBehind
  | 60, _ => okK_Tr_moreWithout
  | 61, _ => okK_Tr_minuteOfMostMoods
  | 62, _ => okK_Tr_leastWaiters
  | 63, _ => okK_Tr_seatsOfMostMoods
  | 64, _ => okK_Tr_bringerOfMostMoods
  | 65, _ => okK_Tr_leftSoNothingIsSentBack
  | 66, _ => okK_Tr_leftForMostMoods
  | 67, _ => okK_Tr_isAsTold
  | 68, _ => okK_Tr_firstSettledPair
  | 69, _ => okK_Tr_worthOf
  | 70, _ => okK_Tr_waysToReach
  | 71, _ => okK_Tr_byLot
  | 72, _ => okK_X_letter
  | 73, _ => okK_X_table
  | 74, _ => okK_X_guest
  | 75, _ => okK_X_remark
  | 76, _ => okK_X_ready
  | 77, _ => okK_X_mood
  | 78, _ => okK_X_change
  | 79, _ => okK_X_set
  | 80, _ => okK_X_sums
  | 81, _ => okK_X_of
  | 82, _ => okK_X_moodAt
  | 83, _ => okK_X_bill
  | 84, _ => okK_X_without
  | 85, _ => okK_X_bestMinute
  | 86, _ => okK_X_enough
  | 87, _ => okK_X_swap
  | 88, _ => okK_X_fit
  | 89, _ => okK_X_could
  | 90, _ => okK_X_dear
  | 91, _ => okK_X_spare
  | 92, _ => okK_X_cold
  | 93, _ => okK_X_silence
  | 94, _ => okK_X_busy
  | 95, _ => okK_X_who
  | 96, _ => okK_X_haggle
  | 97, _ => okK_X_payments
  | 98, _ => okK_X_odds
  | 99, _ => okK_X_row
  | 100, _ => okK_X_judge
  | 101, _ => okK_X_clear
  | 102, _ => okK_X_lots
  | 103, _ => okK_X_image
  | 104, _ => okK_X_on
  | 105, _ => okK_X_count
  | 106, _ => okK_X_refuse
  | 107, _ => okK_X_refuseLong
  | 108, _ => okK_X_eveningNow
  | 109, _ => okK_X_become
  | 110, _ => okK_X_kindsAsTold
  | 111, _ => okK_X_topicsAsTold
  | 112, _ => okK_X_firstUntrue
  | 113, _ => okK_X_power
  | 114, _ => okK_X_greatestDivisor
  | 115, _ => okK_Mo_no
  | 116, _ => okK_Mo_lower
  | 117, _ => okK_Mo_lowest
  | 118, _ => okK_Mo_isIn
  | 119, _ => okK_Mo_bound
  | 120, _ => okK_Mo_has
  | 121, _ => okK_Mo_bits
  | 122, _ => okK_Mo_isGuest
  | 123, _ => okK_Mo_areTwo
  | 124, _ => okK_Mo_isRemark
  | 125, _ => okK_Mo_letter
  | 126, _ => okK_Mo_next
  | 127, _ => okK_Mo_readsDigits
  | 128, _ => okK_Mo_kindOf
  | 129, _ => okK_Mo_readsRemark
  | 130, _ => okK_Mo_readsAll
  | 131, _ => okK_Mo_statement
  | 132, _ => okK_Mo_comesRemark
  | 133, _ => okK_Mo_comes
  | 134, _ => okK_Mo_table
  | 135, _ => okK_Mo_passes
  | 136, _ => okK_Mo_passOne
  | 137, _ => okK_Mo_passesAll
  | 138, _ => okK_Mo_image
  | 139, _ => okK_Mo_on
  | 140, _ => okK_Mo_minutesOf
  | 141, _ => okK_Mo_moreOf
  | 142, _ => okK_Mo_lessOf
  | 143, _ => okK_Mo_priceOf
  | 144, _ => okK_Mo_hears
  | 145, _ => okK_Mo_changes
  | 146, _ => okK_Mo_opens
  | 147, _ => okK_Mo_nextReady
  | 148, _ => okK_Mo_takes
  | 149, _ => okK_Mo_dines
  | 150, _ => okK_Mo_all
  | 151, _ => okK_Mo_openedMany
  | 152, _ => okK_Mo_billOf
  | 153, _ => okK_Mo_guest
  | 154, _ => okK_Mo_remark
  | 155, _ => okK_Mo_ready
  | 156, _ => okK_Mo_mood
  | 157, _ => okK_Mo_change
  | 158, _ => okK_Mo_set
  | 159, _ => okK_Mo_lastOpened
  | 160, _ => okK_Mo_sums
  | 161, _ => okK_Mo_of
  | 162, _ => okK_Mo_moodAt
  | 163, _ => okK_Mo_bill
  | 164, _ => okK_Mo_without
  | 165, _ => okK_Mo_moodsReady
  | 166, _ => okK_Mo_bestMinute
  | 167, _ => okK_Mo_enough
  | 168, _ => okK_Mo_swap
  | 169, _ => okK_Mo_fit
  | 170, _ => okK_Mo_likedBy
  | 171, _ => okK_Mo_could
  | 172, _ => okK_Mo_dear
  | 173, _ => okK_Mo_spare
  | 174, _ => okK_Mo_cold
  | 175, _ => okK_Mo_isOpenedAt
  | 176, _ => okK_Mo_silence
  | 177, _ => okK_Mo_busy
  | 178, _ => okK_Mo_isSo
  | 179, _ => okK_Mo_who
  | 180, _ => okK_Mo_broughtBy
  | 181, _ => okK_Mo_rests
  | 182, _ => okK_Mo_haggle
  | 183, _ => okK_Mo_payments
  | 184, _ => okK_Mo_divisor
  | 185, _ => okK_Mo_odds
  | 186, _ => okK_Mo_row
  | 187, _ => okK_Mo_openedBy
  | 188, _ => okK_Mo_judge
  | 189, _ => okK_Mo_clear
  | 190, _ => okK_Mo_lots
  | 191, _ => okK_Mo_count
  | n + 192, h => absurd h (by omega)
end
section
/-! The small machine's steps are the machine's. -/
theorem w32_bm (x : Int) : w32 x = x.bmod (2 ^ 32) := by
  have h : Int.bmod x (2 ^ 32) = (if x % 4294967296 < (4294967296 + 1) / 2 then x % 4294967296 else x % 4294967296 - 4294967296) := rfl
  rw [h]; unfold w32; split <;> omega
theorem w64_bm (x : Int) : w64 x = x.bmod (2 ^ 64) := by
  have h : Int.bmod x (2 ^ 64) = (if x % 18446744073709551616 < (18446744073709551616 + 1) / 2 then x % 18446744073709551616 else x % 18446744073709551616 - 18446744073709551616) := rfl
  rw [h]; unfold w64; split <;> omega
def toI (τ : Nat → Nat → Int32) : Sto := fun c j => (τ c j).toInt
def upT (τ : Nat → Nat → Int32) (c i : Nat) (x : Int32) : Nat → Nat → Int32 := fun c' i' => if c' = c ∧ i' = i then x else τ c' i'
theorem toI_up (τ : Nat → Nat → Int32) (c i : Nat) (x : Int32) : sup (toI τ) c i x.toInt = toI (upT τ c i x) := by
  funext c' i'; simp only [toI, upT, sup]; split <;> rfl
theorem upT_ne {τ : Nat → Nat → Int32} {c i : Nat} {x : Int32} {c' : Nat} (h : c' ≠ c) : upT τ c i x c' = τ c' := by
  funext j; simp [upT, h]
theorem upT_eq {τ : Nat → Nat → Int32} {c i : Nat} {x : Int32} : upT τ c i x c = upd (τ c) i x := by
  funext j; simp [upT, upd]
def VR (ad : Nat → Nat) (v : AV) (w : Value) : Prop := match v with
  | .inl n => ∃ x : Int32, w = .int x ∧ x.toInt = n
  | .inr (.inl k) => w = .ref (ad k)
  | .inr (.inr n) => ∃ x : Int64, w = .long x ∧ x.toInt = n
def SR (ad : Nat → Nat) : List AV → List Value → Prop
  | [], vs => vs = []
  | v :: S, vs => ∃ w r, vs = w :: r ∧ VR ad v w ∧ SR ad S r
def OR (ad : Nat → Nat) (r : Option AV) (rv : Option Value) : Prop := match r, rv with
  | none, none => True
  | some v, some w => VR ad v w
  | _, _ => False
theorem SR_I {ad : Nat → Nat} {n : Int} {S : List AV} {vs : List Value} (h : SR ad (.inl n :: S) vs) : ∃ (x : Int32) (r : List Value), vs = .int x :: r ∧ x.toInt = n ∧ SR ad S r := by
  obtain ⟨w, r, rfl, ⟨x, rfl, hx⟩, h⟩ := h
  exact ⟨x, r, rfl, hx, h⟩
theorem SR_L {ad : Nat → Nat} {n : Int} {S : List AV} {vs : List Value} (h : SR ad (.inr (.inr n) :: S) vs) : ∃ (x : Int64) (r : List Value), vs = .long x :: r ∧ x.toInt = n ∧ SR ad S r := by
  obtain ⟨w, r, rfl, ⟨x, rfl, hx⟩, h⟩ := h
  exact ⟨x, r, rfl, hx, h⟩
theorem SR_R {ad : Nat → Nat} {k : Nat} {S : List AV} {vs : List Value} (h : SR ad (.inr (.inl k) :: S) vs) : ∃ (r : List Value), vs = .ref (ad k) :: r ∧ SR ad S r := by
  obtain ⟨w, r, rfl, rfl, h⟩ := h
  exact ⟨r, rfl, h⟩
theorem SR_i {ad : Nat → Nat} {n : Int} {S : List AV} {vs : List Value} (x : Int32) (hx : x.toInt = n) (h : SR ad S vs) : SR ad (.inl n :: S) (.int x :: vs) := ⟨_, _, rfl, ⟨x, rfl, hx⟩, h⟩
theorem SR_l {ad : Nat → Nat} {n : Int} {S : List AV} {vs : List Value} (x : Int64) (hx : x.toInt = n) (h : SR ad S vs) : SR ad (.inr (.inr n) :: S) (.long x :: vs) := ⟨_, _, rfl, ⟨x, rfl, hx⟩, h⟩
theorem SR_r {ad : Nat → Nat} {k : Nat} {S : List AV} {vs : List Value} (h : SR ad S vs) : SR ad (.inr (.inl k) :: S) (.ref (ad k) :: vs) := ⟨_, _, rfl, rfl, h⟩
theorem SR_len {ad : Nat → Nat} : ∀ {S : List AV} {vs : List Value}, SR ad S vs → S.length = vs.length
  | [], vs, h => by rw [show vs = [] from h]; rfl
  | v :: S, vs, h => by
    obtain ⟨w, r, rfl, -, h⟩ := h
    simp [SR_len h]
theorem SR_split {ad : Nat → Nat} : ∀ (b : Nat) {S : List AV} {vs : List Value}, SR ad S vs → SR ad (S.take b) (vs.take b) ∧ SR ad (S.drop b) (vs.drop b)
  | 0, S, vs, h => ⟨by simp [SR], by simpa using h⟩
  | b + 1, [], vs, h => by rw [show vs = [] from h]; exact ⟨by simp [SR], by simp [SR]⟩
  | b + 1, v :: S, vs, h => by
    obtain ⟨w, r, rfl, hw, h⟩ := h
    obtain ⟨h1, h2⟩ := SR_split b h
    exact ⟨⟨w, _, rfl, hw, h1⟩, h2⟩
theorem SR_app {ad : Nat → Nat} : ∀ {S S' : List AV} {vs vs' : List Value}, SR ad S vs → SR ad S' vs' → SR ad (S ++ S') (vs ++ vs')
  | [], S', vs, vs', h, h' => by rw [show vs = [] from h]; exact h'
  | v :: S, S', vs, vs', h, h' => by
    obtain ⟨w, r, rfl, hw, h⟩ := h
    exact ⟨w, _, rfl, hw, SR_app h h'⟩
theorem SR_rev {ad : Nat → Nat} : ∀ {S : List AV} {vs : List Value}, SR ad S vs → SR ad S.reverse vs.reverse
  | [], vs, h => by rw [show vs = [] from h]; rfl
  | v :: S, vs, h => by
    obtain ⟨w, r, rfl, hw, h⟩ := h
    rw [List.reverse_cons, List.reverse_cons]
    exact SR_app (SR_rev h) ⟨w, [], rfl, hw, rfl⟩
theorem SR_nth {ad : Nat → Nat} : ∀ (b : Nat) {S : List AV} {vs : List Value} {k : Nat}, SR ad S vs → nth S b = some (.inr (.inl k)) → vs.drop b = .ref (ad k) :: vs.drop (b + 1)
  | _, [], vs, k, h, h1 => by simp [nth] at h1
  | 0, v :: S, vs, k, h, h1 => by
    simp only [nth, Option.some.injEq] at h1
    subst h1
    obtain ⟨r, rfl, -⟩ := SR_R h
    rfl
  | b + 1, v :: S, vs, k, h, h1 => by
    obtain ⟨w, r, rfl, -, h⟩ := h
    exact SR_nth b h h1
theorem nth_get {α : Type} : ∀ (l : List α) (i : Nat), nth l i = l[i]?
  | [], i => by simp [nth]
  | a :: l, 0 => by simp [nth]
  | a :: l, i + 1 => by simp [nth, nth_get l i]
theorem nth_lt {α : Type} {l : List α} {i : Nat} {v : α} (h : nth l i = some v) : i < l.length := by
  rw [nth_get] at h
  exact (List.getElem?_eq_some_iff.mp h).1
theorem lk_mem : ∀ {cd : List (Nat × En)} {pc : Nat} {x : En}, lk cd pc = some x → (pc, x) ∈ cd
  | [], _, _, h => by simp [lk] at h
  | (q, y) :: t, pc, x, h => by
    unfold lk at h
    cases hq : Nat.beq q pc with
    | true =>
      rw [hq] at h
      have e1 : q = pc := Nat.eq_of_beq_eq_true hq
      simp only [cond_true, Option.some.injEq] at h
      subst e1; subst h
      exact List.mem_cons_self
    | false =>
      rw [hq] at h
      exact List.mem_cons_of_mem _ (lk_mem h)
/-- the locals: those that are known -/
def LR (ad : Nat → Nat) (nL : Nat) (L : Lo) (ls : Array Slot) : Prop := L.length = nL ∧ ∃ lv, lv_has ls nL lv ∧ ∀ i v, nth L i = some (some v) → ∃ w, (i, w) ∈ lv ∧ VR ad v w
theorem LR_none {ad : Nat → Nat} {nL : Nat} {L : Lo} {ls : Array Slot} (j : Nat) (h : LR ad nL L ls) : LR ad nL (L.set j none) ls := by
  obtain ⟨h1, lv, h2, h3⟩ := h
  refine ⟨by rw [List.length_set]; exact h1, lv, h2, fun i v hi => h3 i v ?_⟩
  rw [nth_get] at hi ⊢
  rw [List.getElem?_set] at hi
  split at hi
  · split at hi <;> simp at hi
  · exact hi
theorem LR_get {ad : Nat → Nat} {nL : Nat} {L : Lo} {ls : Array Slot} {i : Nat} {v : AV} (h : LR ad nL L ls) (hi : nth L i = some (some v)) : ∃ w, ls[i]? = some (.val w) ∧ VR ad v w := by
  obtain ⟨h1, lv, h2, h3⟩ := h
  obtain ⟨w, hw, hv⟩ := h3 i v hi
  exact ⟨w, h2.2.2 (i, w) hw, hv⟩
theorem LR_size {ad : Nat → Nat} {nL : Nat} {L : Lo} {ls : Array Slot} (h : LR ad nL L ls) : ls.size = nL := by
  obtain ⟨-, lv, h2, -⟩ := h
  exact h2.1
theorem VR_cat {ad : Nat → Nat} {v : AV} {w : Value} (h : VR ad v w) (hc : w.category = 2) : ∃ n, v = .inr (.inr n) := by
  match v, h with
  | .inl n, ⟨x, hx, _⟩ => rw [hx] at hc; simp [Value.category] at hc
  | .inr (.inl k), hx => rw [show w = Value.ref (ad k) from hx] at hc; simp [Value.category] at hc
  | .inr (.inr n), _ => exact ⟨n, rfl⟩
theorem kil_len (L : Lo) (i : Nat) : (kil L i).length = L.length := by
  unfold kil
  split
  · rfl
  · split
    · rw [List.length_set]
    · rfl
theorem kil_nth {L : Lo} {i j : Nat} {v : AV} (h : nth (kil L i) j = some (some v)) : nth L j = some (some v) ∧ ¬ (j + 1 = i ∧ ∃ n, v = .inr (.inr n)) := by
  unfold kil at h
  split at h
  · exact ⟨h, fun q => by omega⟩
  · rename_i j0
    split at h
    · rename_i n hn
      rw [nth_get, List.getElem?_set] at h
      split at h
      · split at h <;> simp at h
      · rename_i hne
        exact ⟨by rw [nth_get]; exact h, fun q => hne (by omega)⟩
    · rename_i hno
      refine ⟨h, fun q => ?_⟩
      obtain ⟨q1, n, rfl⟩ := q
      have e : j = j0 := by omega
      subst e
      exact hno n h
theorem LR_set1 {ad : Nat → Nat} {nL : Nat} {L : Lo} {ls : Array Slot} {i : Nat} {v : AV} {w : Value} (h : LR ad nL L ls) (hv : VR ad v w) : ∃ lv, lv_has ls nL lv ∧ ∀ ls' : Array Slot, lv_has ls' nL ((i, w) :: lv.filter (fun q => !(q.1 == i) && !(q.1 + 1 == i && q.2.category == 2))) → LR ad nL (set1 L i v) ls' := by
  obtain ⟨h1, lv, h2, h3⟩ := h
  refine ⟨lv, h2, fun ls' h' => ⟨by rw [set1, List.length_set, kil_len]; exact h1, _, h', fun j u hj => ?_⟩⟩
  rw [set1, nth_get, List.getElem?_set] at hj
  split at hj
  · rename_i e
    subst e
    split at hj
    · simp only [Option.some.injEq] at hj
      subst hj
      exact ⟨w, List.mem_cons_self, hv⟩
    · simp at hj
  · rename_i hne
    obtain ⟨g1, g2⟩ := kil_nth (by rw [nth_get]; exact hj)
    obtain ⟨z, hz, hzv⟩ := h3 j u g1
    refine ⟨z, List.mem_cons_of_mem _ (List.mem_filter.mpr ⟨hz, ?_⟩), hzv⟩
    have n1 : ¬ j = i := fun q => hne q.symm
    simp only [Bool.and_eq_true, Bool.not_eq_true', beq_eq_false_iff_ne, ne_eq, Bool.and_eq_false_iff]
    refine ⟨n1, ?_⟩
    by_cases q : j + 1 = i
    · right
      intro hc
      exact g2 ⟨q, VR_cat hzv hc⟩
    · left; exact q
theorem LR_set2 {ad : Nat → Nat} {nL : Nat} {L : Lo} {ls : Array Slot} {i : Nat} {v : AV} {w : Value} (h : LR ad nL L ls) (hv : VR ad v w) : ∃ lv, lv_has ls nL lv ∧ ∀ ls' : Array Slot, lv_has ls' nL ((i, w) :: lv.filter (fun q => !(q.1 == i) && (!(q.1 == i + 1) && !(q.1 + 1 == i && q.2.category == 2)))) → LR ad nL (set2 L i v) ls' := by
  obtain ⟨h1, lv, h2, h3⟩ := h
  refine ⟨lv, h2, fun ls' h' => ⟨by rw [set2, List.length_set, List.length_set, kil_len]; exact h1, _, h', fun j u hj => ?_⟩⟩
  rw [set2, nth_get, List.getElem?_set] at hj
  split at hj
  · split at hj <;> simp at hj
  · rename_i hne2
    rw [List.getElem?_set] at hj
    split at hj
    · rename_i e
      subst e
      split at hj
      · simp only [Option.some.injEq] at hj
        subst hj
        exact ⟨w, List.mem_cons_self, hv⟩
      · simp at hj
    · rename_i hne
      obtain ⟨g1, g2⟩ := kil_nth (by rw [nth_get]; exact hj)
      obtain ⟨z, hz, hzv⟩ := h3 j u g1
      refine ⟨z, List.mem_cons_of_mem _ (List.mem_filter.mpr ⟨hz, ?_⟩), hzv⟩
      have n1 : ¬ j = i := fun q => hne q.symm
      have n2 : ¬ j = i + 1 := fun q => hne2 q.symm
      simp only [Bool.and_eq_true, Bool.not_eq_true', beq_eq_false_iff_ne, ne_eq, Bool.and_eq_false_iff]
      refine ⟨n1, n2, ?_⟩
      by_cases q : j + 1 = i
      · right
        intro hc
        exact g2 ⟨q, VR_cat hzv hc⟩
      · left; exact q
/-! the world -/
def fval (ad : Nat → Nat) (τ : Nat → Nat → Int32) (c k : Nat) : Value := match rfs c k with
  | some c' => .ref (ad c')
  | none => .int (τ c k)
def celO (ad : Nat → Nat) (cI cB : ClassId) (τ : Nat → Nat → Int32) (c : Nat) : va_E := match nth shapes c with
  | some (.inl (ci, fl)) => .inr (ci, (List.range fl.length).map fun k => fval ad τ c k)
  | some (.inr (bo, n)) => .inl (cond bo cB cI, n, .inl (τ c))
  | none => .inr (0, [])
def wsf (ad : Nat → Nat) (cI cB : ClassId) (τ : Nat → Nat → Int32) : va_W := (List.range 63).map fun c => (ad c, celO ad cI cB τ c)
theorem wsf_at {ad : Nat → Nat} {cI cB : ClassId} {τ : Nat → Nat → Int32} {c : Nat} (hc : c < 63) : (wsf ad cI cB τ)[c]? = some (ad c, celO ad cI cB τ c) := by
  simp [wsf, List.getElem?_range, hc]
theorem celO_ne {ad : Nat → Nat} {cI cB : ClassId} {τ : Nat → Nat → Int32} {c i : Nat} {x : Int32} {c' : Nat} (h : c' ≠ c) : celO ad cI cB (upT τ c i x) c' = celO ad cI cB τ c' := by
  unfold celO fval
  rw [upT_ne h]
theorem wsf_up {ad : Nat → Nat} {cI cB : ClassId} {τ : Nat → Nat → Int32} {c i : Nat} {x : Int32} {E : va_E} (hc : c < 63) (hE : celO ad cI cB (upT τ c i x) c = E) : (wsf ad cI cB τ).set c (ad c, E) = wsf ad cI cB (upT τ c i x) := by
  apply List.ext_getElem?
  intro k
  rw [List.getElem?_set]
  have hlen : (wsf ad cI cB τ).length = 63 := by simp [wsf]
  by_cases hk : k < 63
  · rw [wsf_at hk, wsf_at hk]
    by_cases e : c = k
    · subst e
      rw [if_pos rfl, if_pos (by rw [hlen]; exact hk), hE]
    · rw [if_neg e, celO_ne (fun q => e q.symm)]
  · rw [if_neg (by omega)]
    rw [List.getElem?_eq_none (by rw [hlen]; omega), List.getElem?_eq_none (by simp [wsf]; omega)]
theorem sh_lt {c : Nat} {x : Sh} (h : nth shapes c = some x) : c < 63 := by
  have := nth_lt h
  exact Nat.lt_of_lt_of_le this (Nat.le_of_ble_eq_true rfl)
theorem cof_sh {c a : Nat} (h : cof c = a) (ha : a < 7) : ∃ fl, nth shapes c = some (.inl (a, fl)) := by
  unfold cof at h
  split at h
  · rename_i ci fl hx
    subst h
    exact ⟨fl, hx⟩
  · omega
def shOk (c : Nat) : Bool := match nth shapes c with
  | some (.inl (a, fl)) => Nat.blt a 7 && Nat.beq fl.length (fldT a).2.2
  | _ => true
theorem shOk_all : ∀ c, c < 63 → shOk c = true := by decide +kernel
theorem sh_len {c a : Nat} {fl : List (Option Nat)} (h : nth shapes c = some (.inl (a, fl))) : fl.length = (fldT a).2.2 := by
  have h1 := shOk_all c (sh_lt h)
  unfold shOk at h1
  rw [h] at h1
  simp only [Bool.and_eq_true] at h1
  exact Nat.eq_of_beq_eq_true h1.2
theorem cls9_get : ∀ {a : Nat}, a < 7 → cls9[a]? = some (fldT a)
  | 0, _ => rfl
  | 1, _ => rfl
  | 2, _ => rfl
  | 3, _ => rfl
  | 4, _ => rfl
  | 5, _ => rfl
  | 6, _ => rfl
  | n + 7, h => absurd h (by omega)
theorem fld_ok : ∀ {a : Nat}, a < 7 → (∀ w ∈ u_ws (fldT a).1 (fldT a).2.1 (fldT a).2.2, w ∈ lw_tbl) ∧ ∃ ty : Nat → FieldType, (∀ k, k < (fldT a).2.2 → parseFieldDescriptor ((fldT a).2.1 k).2.2.1 = some (ty k)) ∧ (∀ x, x < (fldT a).2.2 → ∀ y, y < (fldT a).2.2 → x ≠ y → ((fldT a).2.1 x).2.1 ≠ ((fldT a).2.1 y).2.1)
  | 0, _ => ⟨i_X, t_X, t_X_ok, n_X⟩
  | 1, _ => ⟨i_Tb, t_Tb, t_Tb_ok, n_Tb⟩
  | 2, _ => ⟨i_Lt, t_Lt, t_Lt_ok, n_Lt⟩
  | 3, _ => ⟨i_Ev, t_Ev, t_Ev_ok, n_Ev⟩
  | 4, _ => ⟨i_Tr, t_Tr, t_Tr_ok, n_Tr⟩
  | 5, _ => ⟨i_Sh, t_Sh, t_Sh_ok, n_Sh⟩
  | 6, _ => ⟨i_Mo, t_Mo, t_Mo_ok, n_Mo⟩
  | n + 7, h => absurd h (by omega)
def lw_g : List Cond := lw_tbl.filter goodWord
theorem g_mem {w : Cond} (h : w ∈ lw_tbl) (hg : goodWord w = true) : w ∈ lw_g := List.mem_filter.mpr ⟨h, hg⟩
theorem g_tab {i : Nat} {w : Cond} (h : tables_1[i]? = some w) (hg : goodWord w = true) : w ∈ lw_g := g_mem (List.mem_append_right _ (List.mem_of_getElem? h)) hg
theorem good_sub {Ts ws : List Cond} (hT : ∀ w ∈ lw_g, w ∈ Ts) (h : ∀ w ∈ ws, w ∈ lw_g) : GoodIn Ts ws := fun w hw => ⟨hT w (h w hw), good_of_word (List.mem_filter.mp (h w hw)).2⟩
theorem lay_good (C : String) (T : u_T) (k : Nat) : goodWord (u_lay C T k) = true := by
  unfold u_lay
  split <;> rfl
theorem uws_g {C : String} {T : u_T} {N : Nat} (h : ∀ w ∈ u_ws C T N, w ∈ lw_tbl) : ∀ w ∈ u_ws C T N, w ∈ lw_g := fun w hw => g_mem (h w hw) (by
  obtain ⟨k, -, rfl⟩ := List.mem_map.mp hw
  exact lay_good C T k)
def nestA (U : State) : Prop := ∀ o x y h, Cond.methodLinkNest o x y h ∈ lw_tbl → va_Nw (.methodLinkNest o x y h) U
theorem LR_set1H {ad : Nat → Nat} {nL : Nat} {L : Lo} {lv : List (Nat × Value)} {i : Nat} {v : AV} {w : Value} (h1 : L.length = nL) (h3 : ∀ i v, nth L i = some (some v) → ∃ w, (i, w) ∈ lv ∧ VR ad v w) (hv : VR ad v w) {ls' : Array Slot} (h' : lv_has ls' nL ((i, w) :: lv.filter (fun q => !(q.1 == i) && !(q.1 + 1 == i && q.2.category == 2)))) : LR ad nL (set1 L i v) ls' := by
  refine ⟨by rw [set1, List.length_set, kil_len]; exact h1, _, h', fun j u hj => ?_⟩
  rw [set1, nth_get, List.getElem?_set] at hj
  split at hj
  · rename_i e
    subst e
    split at hj
    · simp only [Option.some.injEq] at hj
      subst hj
      exact ⟨w, List.mem_cons_self, hv⟩
    · simp at hj
  · rename_i hne
    obtain ⟨g1, g2⟩ := kil_nth (by rw [nth_get]; exact hj)
    obtain ⟨z, hz, hzv⟩ := h3 j u g1
    refine ⟨z, List.mem_cons_of_mem _ (List.mem_filter.mpr ⟨hz, ?_⟩), hzv⟩
    have n1 : ¬ j = i := fun q => hne q.symm
    simp only [Bool.and_eq_true, Bool.not_eq_true', beq_eq_false_iff_ne, ne_eq, Bool.and_eq_false_iff]
    refine ⟨n1, ?_⟩
    by_cases q : j + 1 = i
    · right
      intro hc
      exact g2 ⟨q, VR_cat hzv hc⟩
    · left; exact q
theorem rem64 (x y : Int64) : (x - (x / y) * y).toInt = x.toInt.tmod y.toInt := by
  rw [← Int64.toInt_mod]
  have h1 := Int64.le_toInt (x % y)
  have h2 := Int64.toInt_lt (x % y)
  rw [Int64.toInt_sub, Int64.toInt_mul, Int64.toInt_div, Int.bmod_mul_bmod, Int.sub_bmod_bmod, Int.mul_comm (x.toInt.tdiv y.toInt), ← Int.tmod_def, ← Int64.toInt_mod]
  exact Int.bmod_eq_of_le_mul_two (by omega) (by omega)
theorem lcm_cmp (x y : Int64) : (lg_cmp x y).toInt = lcm3 x.toInt y.toInt := by
  unfold lg_cmp lcm3
  simp only [gt_iff_lt, Int64.lt_iff_toInt_lt, ← Int64.toInt_inj]
  split
  · rfl
  · split <;> rfl
theorem if_max (x y : Int32) : (if x < y then y else x).toInt = max x.toInt y.toInt := by
  simp only [Int32.lt_iff_toInt_lt]
  split <;> omega
theorem if_min (x y : Int32) : (if y < x then y else x).toInt = min x.toInt y.toInt := by
  simp only [Int32.lt_iff_toInt_lt]
  split <;> omega
theorem if_maxL (x y : Int64) : (if y < x then x else y).toInt = max x.toInt y.toInt := by
  simp only [Int64.lt_iff_toInt_lt]
  split <;> omega
theorem cat_le : ∀ (r : List Value), (r.map fun v => v.category).sum ≤ 2 * r.length
  | [] => by simp
  | v :: r => by
    have h1 := cat_le r
    have h2 : v.category ≤ 2 := by rcases lv_cat v with h | h <;> omega
    simp only [List.map_cons, List.sum_cons, List.length_cons]
    omega
theorem vp_of {j : Int32} {n : Nat} (h : 0 ≤ j.toInt ∧ j.toInt < n) : vp_in j n := by
  unfold vp_in
  rw [Int32.lt_iff_toInt_lt]
  have h0 : (0 : Int32).toInt = 0 := rfl
  have h1 : j.toNatClampNeg = j.toInt.toNat := rfl
  omega
theorem swt_in {ks : List (Int × Nat)} {d : Nat} {x : Int} {X : Nat → Prop} (h : swt ks d x X) : ((∀ q ∈ ks, q.1 ≠ x) ∧ X d) ∨ ∃ (n : Nat) (v : Int) (t : Nat), ks[n]? = some (v, t) ∧ x = v ∧ X t := by
  induction ks with
  | nil => exact Or.inl ⟨fun q hq => absurd hq List.not_mem_nil, h⟩
  | cons a r ih =>
    obtain ⟨v, t⟩ := a
    unfold swt at h
    split at h
    · rename_i e
      exact Or.inr ⟨0, v, t, rfl, e, h⟩
    · rename_i e
      rcases ih h with ⟨h1, h2⟩ | ⟨n, v', t', h1, h2, h3⟩
      · refine Or.inl ⟨fun q hq => ?_, h2⟩
        rcases List.mem_cons.mp hq with rfl | hq
        · exact fun z => e z.symm
        · exact h1 q hq
      · exact Or.inr ⟨n + 1, v', t', h1, h2, h3⟩
theorem swt_off {pc : Nat} {d x : Int} {a : Nat} (ht : (pc : Int) + d = a) {X : Nat → Prop} : ∀ {ks : List (Int × Nat)} {ps : List (Int × Int)}, ks.map (fun q => (q.1, (q.2 : Int))) = ps.map (fun q => (q.1, (pc : Int) + q.2)) → swt ks a x X → ∃ t : Nat, (pc : Int) + Op.lookupswitch.offset ps d x = t ∧ X t
  | [], [], _, h => ⟨a, ht, h⟩
  | [], _ :: _, h, _ => by simp at h
  | _ :: _, [], h, _ => by simp at h
  | (v, t) :: ks, (v', o) :: ps, h, hx => by
    simp only [List.map_cons, List.cons.injEq, Prod.mk.injEq] at h
    obtain ⟨⟨h1, h2⟩, h3⟩ := h
    subst h1
    unfold swt at hx
    rw [Op.lookupswitch.offset_cons]
    split at hx
    · rename_i e
      rw [if_pos e.symm]
      exact ⟨t, h2.symm, hx⟩
    · rename_i e
      rw [if_neg (fun z => e z.symm)]
      exact swt_off ht h3 hx
theorem arr_at {ad : Nat → Nat} {cI cB : ClassId} {τ : Nat → Nat → Int32} {k0 n : Nat} {bo : Bool} (h : alen k0 = some (bo, n)) : k0 < 63 ∧ (wsf ad cI cB τ)[k0]? = some (ad k0, .inl (cond bo cB cI, n, .inl (τ k0))) := by
  unfold alen at h
  split at h
  · rename_i x hx
    simp only [Option.some.injEq] at h
    subst h
    refine ⟨sh_lt hx, ?_⟩
    rw [wsf_at (sh_lt hx)]
    simp only [celO, hx]
  · simp at h
theorem arr_up {ad : Nat → Nat} {cI cB : ClassId} {τ : Nat → Nat → Int32} {k0 n i : Nat} {x : Int32} {bo : Bool} (h : alen k0 = some (bo, n)) : celO ad cI cB (upT τ k0 i x) k0 = .inl (cond bo cB cI, n, .inl (upd (τ k0) i x)) := by
  unfold alen at h
  split at h
  · rename_i y hy
    simp only [Option.some.injEq] at h
    subst h
    simp only [celO, hy, upT_eq]
  · simp at h
def smOk (c : Nat) : Bool := match alen c with
  | some (_, n) => Nat.ble n 1000
  | none => true
theorem smOk_all : ∀ c, c < 63 → smOk c = true := by decide +kernel
theorem alen_small {k0 n : Nat} {bo : Bool} (h : alen k0 = some (bo, n)) : n ≤ 1000 := by
  have h1 := smOk_all k0 (arr_at (ad := id) (cI := 0) (cB := 0) (τ := fun _ _ => 0) h).1
  unfold smOk at h1
  rw [h] at h1
  exact Nat.le_of_ble_eq_true h1
theorem mathW : ∀ (j : Nat), j = 1 ∨ j = 2 ∨ j = 3 → Cond.code (yOf j) (bOf j) (maxOf j) (retOf j) ∈ lw_g ∧ Cond.initialized (yOf j).cls ∈ lw_g ∧ Cond.static (yOf j) ∈ lw_g := by
  intro j hj
  have h := okM_all j (by omega)
  unfold okM at h
  have hs : (rc j).2.2.2.2.1 = 1 := by rcases hj with rfl | rfl | rfl <;> decide +kernel
  simp only [Bool.and_eq_true, decide_eq_true_eq, hs] at h
  obtain ⟨⟨⟨⟨⟨h1, h2⟩, -⟩, -⟩, -⟩, h3⟩ := h
  exact ⟨g_tab h1 rfl, g_tab h2 rfl, g_tab h3 rfl⟩
def wmO (k : Nat) : List Cond := Cond.code (yOf k) (bOf k) (maxOf k) (retOf k) :: lw_g
abbrev tyIB (cI cB : ClassId) : List (ClassId × FieldType) := [(cI, .int), (cB, .boolean)]
def QR (D : va_G) (ad : Nat → Nat) (cI cB : ClassId) (A : Nat → Prop) (xs : Nat → Int32) (Q : PQ) : Array Value → State → Outcome → State → Prop := fun _ st oc t =>
  (∃ (r : Option AV) (rv : Option Value) (τ : Nat → Nat → Int32), oc = .returned rv ∧ OR ad r rv ∧ Q r (toI τ) ∧ τ 63 = xs ∧ va_P D cls9 (wsf ad cI cB τ) t.heap) ∧ va_F A st t
def PU (D : va_G) (ad : Nat → Nat) (cI cB : ClassId) (τ : Nat → Nat → Int32) (U : State) : Prop := va_P D cls9 (wsf ad cI cB τ) U.heap ∧ va_K D cls9 (tyIB cI cB) U ∧ nestA U
def AMX (p : Program) (l : Launch) (e : Env) (R : Room) (s : State) (m : MethodId) (args : Array Value) (below : List Frame) (meth : Method) (c : Code) (cells slots : Nat) (Qe : State → Prop) (nL : Nat) (D : va_G) (ad : Nat → Nat) (cI cB : ClassId) (A0 : Nat → Prop) (H0 : Heap) (xs : Nat → Int32) : Nat → Lo → List AV → Sto → Prop := fun pc L S σ =>
  ∀ (H : Heap) (locs : List Loc) (ls : Array Slot) (vs : List Value) (τ : Nat → Nat → Int32), σ = toI τ → τ 63 = xs → LR ad nL L ls → SR ad S vs → va_P D cls9 (wsf ad cI cB τ) H → va_S A0 H0 H locs → W p l e R s m args below meth c H locs cells slots Qe (F0 m pc ls vs)
def AMC (p : Program) (R : Room) (s : State) (m : MethodId) (args : Array Value) (c : Code) (cells slots : Nat) (own : String) (bytes : ByteArray) (nL : Nat) (Ts : List Cond) (D : va_G) (ad : Nat → Nat) (cI cB : ClassId) (A A0 : Nat → Prop) (H0 : Heap) (xs : Nat → Int32) (sl : Option Nat) : Prop :=
  p.tables.exec = Jvm.exec ∧ c.code = bytes ∧ c.maxLocals = nL ∧ s.vm.findClass own = some m.cls ∧ (∀ w ∈ Ts, w.before args s = true) ∧ (∀ w ∈ lw_g, w ∈ Ts) ∧ va_K D cls9 (tyIB cI cB) s ∧ (∀ τ, va_D A0 (wsf ad cI cB τ)) ∧ ((∀ q, A q → A0 q) ∧ nestA s) ∧ (∀ n, sl = some n → (va_X (ad 63) n xs s H0 ∧ ad 63 < H0.size ∧ ¬ A0 (ad 63) ∧ n ≤ 2048)) ∧ (cells ≤ R.cells ∧ slots ≤ R.slots ∧ 1 ≤ R.frames ∧ 34 ≤ R.locals)
section AMs
variable {p : Program} {l : Launch} {e : Env} {R : Room} {s : State} {m : MethodId} {args : Array Value} {below : List Frame} {meth : Method} {c : Code} {cells slots : Nat} {Qe : State → Prop} {own : String} {bytes : ByteArray} {nL : Nat} {Ts : List Cond} {D : va_G} {ad : Nat → Nat} {cI cB : ClassId} {A A0 : Nat → Prop} {H0 : Heap} {xs : Nat → Int32} {sl : Option Nat}
variable {pc : Nat} {L : Lo} {S : List AV} {σ : Sto}
theorem a_iconst (hc : (AMC p R s m args c cells slots own bytes nL Ts D ad cI cB A A0 H0 xs sl)) {n : Int} (hd : decode bytes pc = .ok (.iconst n, 1)) (hn : -1 ≤ n ∧ n ≤ 5) (k : (AMX p l e R s m args below meth c cells slots Qe nL D ad cI cB A0 H0 xs) (pc + 1) L (vI n :: S) σ) : (AMX p l e R s m args below meth c cells slots Qe nL D ad cI cB A0 H0 xs) pc L S σ := by
  intro H locs ls vs0 τ hσ hxs hL hS0 hP hV
  exact lv_iconst hc.1 hc.2.1 hd rfl (k H locs ls _ τ hσ hxs hL (SR_i (Int32.ofInt n) (by rw [Int32.toInt_ofInt_of_le (by omega) (by omega)]) hS0) hP hV)
theorem a_bipush (hc : (AMC p R s m args c cells slots own bytes nL Ts D ad cI cB A A0 H0 xs sl)) {n : Int} (hd : decode bytes pc = .ok (.bipush n, 2)) (hn : -128 ≤ n ∧ n ≤ 127) (k : (AMX p l e R s m args below meth c cells slots Qe nL D ad cI cB A0 H0 xs) (pc + 2) L (vI n :: S) σ) : (AMX p l e R s m args below meth c cells slots Qe nL D ad cI cB A0 H0 xs) pc L S σ := by
  intro H locs ls vs0 τ hσ hxs hL hS0 hP hV
  exact lv_bipush hc.1 hc.2.1 hd rfl (k H locs ls _ τ hσ hxs hL (SR_i ((Int8.ofInt n).toInt32) (by rw [Int8.toInt_toInt32, Int8.toInt_ofInt_of_le (by omega) (by omega)]) hS0) hP hV)
theorem a_sipush (hc : (AMC p R s m args c cells slots own bytes nL Ts D ad cI cB A A0 H0 xs sl)) {n : Int} (hd : decode bytes pc = .ok (.sipush n, 3)) (hn : -32768 ≤ n ∧ n ≤ 32767) (k : (AMX p l e R s m args below meth c cells slots Qe nL D ad cI cB A0 H0 xs) (pc + 3) L (vI n :: S) σ) : (AMX p l e R s m args below meth c cells slots Qe nL D ad cI cB A0 H0 xs) pc L S σ := by
  intro H locs ls vs0 τ hσ hxs hL hS0 hP hV
  exact lv_sipush hc.1 hc.2.1 hd rfl (k H locs ls _ τ hσ hxs hL (SR_i ((Int16.ofInt n).toInt32) (by rw [Int16.toInt_toInt32, Int16.toInt_ofInt_of_le (by omega) (by omega)]) hS0) hP hV)
theorem a_lconst (hc : (AMC p R s m args c cells slots own bytes nL Ts D ad cI cB A A0 H0 xs sl)) {n : Fin 2} (hd : decode bytes pc = .ok (.lconst n, 1)) (k : (AMX p l e R s m args below meth c cells slots Qe nL D ad cI cB A0 H0 xs) (pc + 1) L (vL (Int.ofNat n.val) :: S) σ) : (AMX p l e R s m args below meth c cells slots Qe nL D ad cI cB A0 H0 xs) pc L S σ := by
  intro H locs ls vs0 τ hσ hxs hL hS0 hP hV
  exact lv_lconst hc.1 hc.2.1 hd rfl (k H locs ls _ τ hσ hxs hL (SR_l (Int64.ofNat n.val) (by rw [Int64.toInt_ofNat_of_lt (by have := n.isLt; omega)]; rfl) hS0) hP hV)
theorem a_ldc (hc : (AMC p R s m args c cells slots own bytes nL Ts D ad cI cB A A0 H0 xs sl)) {x : Nat} {v : Int} (hd : decode bytes pc = .ok (.ldc x, 2)) (hw : Cond.constant own x (Int32.ofInt v) ∈ lw_g) (hv : (Int32.ofInt v).toInt = v) (k : (AMX p l e R s m args below meth c cells slots Qe nL D ad cI cB A0 H0 xs) (pc + 2) L (vI v :: S) σ) : (AMX p l e R s m args below meth c cells slots Qe nL D ad cI cB A0 H0 xs) pc L S σ := by
  intro H locs ls vs0 τ hσ hxs hL hS0 hP hV
  exact lv_ldc hc.1 hc.2.1 hc.2.2.2.1 (hc.2.2.2.2.1 _ (hc.2.2.2.2.2.1 _ hw)) hd (k H locs ls _ τ hσ hxs hL (SR_i _ hv hS0) hP hV)
theorem a_ldc_w (hc : (AMC p R s m args c cells slots own bytes nL Ts D ad cI cB A A0 H0 xs sl)) {x : Nat} {v : Int} (hd : decode bytes pc = .ok (.ldc_w x, 3)) (hw : Cond.constant own x (Int32.ofInt v) ∈ lw_g) (hv : (Int32.ofInt v).toInt = v) (k : (AMX p l e R s m args below meth c cells slots Qe nL D ad cI cB A0 H0 xs) (pc + 3) L (vI v :: S) σ) : (AMX p l e R s m args below meth c cells slots Qe nL D ad cI cB A0 H0 xs) pc L S σ := by
  intro H locs ls vs0 τ hσ hxs hL hS0 hP hV
  exact lv_ldcw hc.1 hc.2.1 hc.2.2.2.1 (hc.2.2.2.2.1 _ (hc.2.2.2.2.2.1 _ hw)) hd (k H locs ls _ τ hσ hxs hL (SR_i _ hv hS0) hP hV)
theorem a_ldc2_w (hc : (AMC p R s m args c cells slots own bytes nL Ts D ad cI cB A A0 H0 xs sl)) {x : Nat} {v : Int} (hd : decode bytes pc = .ok (.ldc2_w x, 3)) (hw : Cond.constantLong own x (Int64.ofInt v) ∈ lw_g) (hv : (Int64.ofInt v).toInt = v) (k : (AMX p l e R s m args below meth c cells slots Qe nL D ad cI cB A0 H0 xs) (pc + 3) L (vL v :: S) σ) : (AMX p l e R s m args below meth c cells slots Qe nL D ad cI cB A0 H0 xs) pc L S σ := by
  intro H locs ls vs0 τ hσ hxs hL hS0 hP hV
  exact lv_ldc2 hc.1 hc.2.1 hc.2.2.2.1 (hc.2.2.2.2.1 _ (hc.2.2.2.2.2.1 _ hw)) hd (k H locs ls _ τ hσ hxs hL (SR_l _ hv hS0) hP hV)
theorem a_iload_n (hc : (AMC p R s m args c cells slots own bytes nL Ts D ad cI cB A A0 H0 xs sl)) {n : Fin 4} {v : Int} (hd : decode bytes pc = .ok (.iload_n n, 1)) (hv : nth L n.val = some (some (vI v))) (k : (AMX p l e R s m args below meth c cells slots Qe nL D ad cI cB A0 H0 xs) (pc + 1) L (vI v :: S) σ) : (AMX p l e R s m args below meth c cells slots Qe nL D ad cI cB A0 H0 xs) pc L S σ := by
  intro H locs ls vs0 τ hσ hxs hL hS0 hP hV
  obtain ⟨w, hw, hv⟩ := LR_get hL hv
  obtain ⟨x, rfl, hx⟩ := hv
  exact lv_iload_n hc.1 hc.2.1 hd rfl hw (k H locs ls _ τ hσ hxs hL (SR_i x hx hS0) hP hV)
theorem a_iload (hc : (AMC p R s m args c cells slots own bytes nL Ts D ad cI cB A A0 H0 xs sl)) {n : Nat} {v : Int} (hd : decode bytes pc = .ok (.iload n, 2)) (hv : nth L n = some (some (vI v))) (k : (AMX p l e R s m args below meth c cells slots Qe nL D ad cI cB A0 H0 xs) (pc + 2) L (vI v :: S) σ) : (AMX p l e R s m args below meth c cells slots Qe nL D ad cI cB A0 H0 xs) pc L S σ := by
  intro H locs ls vs0 τ hσ hxs hL hS0 hP hV
  obtain ⟨w, hw, hv⟩ := LR_get hL hv
  obtain ⟨x, rfl, hx⟩ := hv
  exact lv_iload hc.1 hc.2.1 hd hw (k H locs ls _ τ hσ hxs hL (SR_i x hx hS0) hP hV)
theorem a_lload_n (hc : (AMC p R s m args c cells slots own bytes nL Ts D ad cI cB A A0 H0 xs sl)) {n : Fin 4} {v : Int} (hd : decode bytes pc = .ok (.lload_n n, 1)) (hv : nth L n.val = some (some (vL v))) (k : (AMX p l e R s m args below meth c cells slots Qe nL D ad cI cB A0 H0 xs) (pc + 1) L (vL v :: S) σ) : (AMX p l e R s m args below meth c cells slots Qe nL D ad cI cB A0 H0 xs) pc L S σ := by
  intro H locs ls vs0 τ hσ hxs hL hS0 hP hV
  obtain ⟨w, hw, hv⟩ := LR_get hL hv
  obtain ⟨x, rfl, hx⟩ := hv
  exact lv_lload_n hc.1 hc.2.1 hd rfl hw (k H locs ls _ τ hσ hxs hL (SR_l x hx hS0) hP hV)
theorem a_lload (hc : (AMC p R s m args c cells slots own bytes nL Ts D ad cI cB A A0 H0 xs sl)) {n : Nat} {v : Int} (hd : decode bytes pc = .ok (.lload n, 2)) (hv : nth L n = some (some (vL v))) (k : (AMX p l e R s m args below meth c cells slots Qe nL D ad cI cB A0 H0 xs) (pc + 2) L (vL v :: S) σ) : (AMX p l e R s m args below meth c cells slots Qe nL D ad cI cB A0 H0 xs) pc L S σ := by
  intro H locs ls vs0 τ hσ hxs hL hS0 hP hV
  obtain ⟨w, hw, hv⟩ := LR_get hL hv
  obtain ⟨x, rfl, hx⟩ := hv
  exact lv_lload hc.1 hc.2.1 hd hw (k H locs ls _ τ hσ hxs hL (SR_l x hx hS0) hP hV)
theorem a_aload_n (hc : (AMC p R s m args c cells slots own bytes nL Ts D ad cI cB A A0 H0 xs sl)) {n : Fin 4} {v : Nat} (hd : decode bytes pc = .ok (.aload_n n, 1)) (hv : nth L n.val = some (some (vR v))) (k : (AMX p l e R s m args below meth c cells slots Qe nL D ad cI cB A0 H0 xs) (pc + 1) L (vR v :: S) σ) : (AMX p l e R s m args below meth c cells slots Qe nL D ad cI cB A0 H0 xs) pc L S σ := by
  intro H locs ls vs0 τ hσ hxs hL hS0 hP hV
  obtain ⟨w, hw, hv⟩ := LR_get hL hv
  obtain rfl := hv
  exact lv_aload_n hc.1 hc.2.1 hd rfl hw (k H locs ls _ τ hσ hxs hL (SR_r hS0) hP hV)
theorem a_aload (hc : (AMC p R s m args c cells slots own bytes nL Ts D ad cI cB A A0 H0 xs sl)) {n : Nat} {v : Nat} (hd : decode bytes pc = .ok (.aload n, 2)) (hv : nth L n = some (some (vR v))) (k : (AMX p l e R s m args below meth c cells slots Qe nL D ad cI cB A0 H0 xs) (pc + 2) L (vR v :: S) σ) : (AMX p l e R s m args below meth c cells slots Qe nL D ad cI cB A0 H0 xs) pc L S σ := by
  intro H locs ls vs0 τ hσ hxs hL hS0 hP hV
  obtain ⟨w, hw, hv⟩ := LR_get hL hv
  obtain rfl := hv
  exact lv_aload hc.1 hc.2.1 hd hw (k H locs ls _ τ hσ hxs hL (SR_r hS0) hP hV)
theorem a_istore_n (hc : (AMC p R s m args c cells slots own bytes nL Ts D ad cI cB A A0 H0 xs sl)) {n : Fin 4} {v : Int} (hd : decode bytes pc = .ok (.istore_n n, 1)) (hn : n.val < L.length) (k : (AMX p l e R s m args below meth c cells slots Qe nL D ad cI cB A0 H0 xs) (pc + 1) (set1 L n.val (vI v)) S σ) : (AMX p l e R s m args below meth c cells slots Qe nL D ad cI cB A0 H0 xs) pc L (vI v :: S) σ := by
  intro H locs ls vs0 τ hσ hxs hL hS0 hP hV
  obtain ⟨x, vs1, rfl, rfl, hS1⟩ := SR_I hS0
  obtain ⟨lv, h1, h2⟩ := LR_set1 (i := n.val) (v := vI _) hL ⟨x, rfl, rfl⟩
  exact lv_istore_n hc.1 hc.2.1 hd rfl h1 (by rw [← hL.1]; exact hn) rfl (fun ls' h' => k H locs ls' _ τ hσ hxs (h2 ls' h') hS1 hP hV)
theorem a_istore (hc : (AMC p R s m args c cells slots own bytes nL Ts D ad cI cB A A0 H0 xs sl)) {n : Nat} {v : Int} (hd : decode bytes pc = .ok (.istore n, 2)) (hn : n < L.length) (k : (AMX p l e R s m args below meth c cells slots Qe nL D ad cI cB A0 H0 xs) (pc + 2) (set1 L n (vI v)) S σ) : (AMX p l e R s m args below meth c cells slots Qe nL D ad cI cB A0 H0 xs) pc L (vI v :: S) σ := by
  intro H locs ls vs0 τ hσ hxs hL hS0 hP hV
  obtain ⟨x, vs1, rfl, rfl, hS1⟩ := SR_I hS0
  obtain ⟨lv, h1, h2⟩ := LR_set1 (i := n) (v := vI _) hL ⟨x, rfl, rfl⟩
  exact lv_istore hc.1 hc.2.1 hd h1 (by rw [← hL.1]; exact hn) rfl (fun ls' h' => k H locs ls' _ τ hσ hxs (h2 ls' h') hS1 hP hV)
theorem a_astore_n (hc : (AMC p R s m args c cells slots own bytes nL Ts D ad cI cB A A0 H0 xs sl)) {n : Fin 4} {v : Nat} (hd : decode bytes pc = .ok (.astore_n n, 1)) (hn : n.val < L.length) (k : (AMX p l e R s m args below meth c cells slots Qe nL D ad cI cB A0 H0 xs) (pc + 1) (set1 L n.val (vR v)) S σ) : (AMX p l e R s m args below meth c cells slots Qe nL D ad cI cB A0 H0 xs) pc L (vR v :: S) σ := by
  intro H locs ls vs0 τ hσ hxs hL hS0 hP hV
  obtain ⟨vs1, rfl, hS1⟩ := SR_R hS0
  obtain ⟨lv, h1, h2⟩ := LR_set1 (i := n.val) (v := vR _) hL rfl
  exact lv_astore_n hc.1 hc.2.1 hd rfl h1 (by rw [← hL.1]; exact hn) rfl (fun ls' h' => k H locs ls' _ τ hσ hxs (h2 ls' h') hS1 hP hV)
theorem a_astore (hc : (AMC p R s m args c cells slots own bytes nL Ts D ad cI cB A A0 H0 xs sl)) {n : Nat} {v : Nat} (hd : decode bytes pc = .ok (.astore n, 2)) (hn : n < L.length) (k : (AMX p l e R s m args below meth c cells slots Qe nL D ad cI cB A0 H0 xs) (pc + 2) (set1 L n (vR v)) S σ) : (AMX p l e R s m args below meth c cells slots Qe nL D ad cI cB A0 H0 xs) pc L (vR v :: S) σ := by
  intro H locs ls vs0 τ hσ hxs hL hS0 hP hV
  obtain ⟨vs1, rfl, hS1⟩ := SR_R hS0
  obtain ⟨lv, h1, h2⟩ := LR_set1 (i := n) (v := vR _) hL rfl
  exact lv_astore hc.1 hc.2.1 hd h1 (by rw [← hL.1]; exact hn) rfl (fun ls' h' => k H locs ls' _ τ hσ hxs (h2 ls' h') hS1 hP hV)
theorem a_lstore_n (hc : (AMC p R s m args c cells slots own bytes nL Ts D ad cI cB A A0 H0 xs sl)) {n : Fin 4} {v : Int} (hd : decode bytes pc = .ok (.lstore_n n, 1)) (hn : n.val + 1 < L.length) (k : (AMX p l e R s m args below meth c cells slots Qe nL D ad cI cB A0 H0 xs) (pc + 1) (set2 L n.val (vL v)) S σ) : (AMX p l e R s m args below meth c cells slots Qe nL D ad cI cB A0 H0 xs) pc L (vL v :: S) σ := by
  intro H locs ls vs0 τ hσ hxs hL hS0 hP hV
  obtain ⟨x, vs1, rfl, rfl, hS1⟩ := SR_L hS0
  obtain ⟨lv, h1, h2⟩ := LR_set2 (i := n.val) (v := vL _) hL ⟨x, rfl, rfl⟩
  exact lv_lstore_n hc.1 hc.2.1 hd rfl h1 (by rw [← hL.1]; exact hn) rfl (fun ls' h' => k H locs ls' _ τ hσ hxs (h2 ls' h') hS1 hP hV)
theorem a_lstore (hc : (AMC p R s m args c cells slots own bytes nL Ts D ad cI cB A A0 H0 xs sl)) {n : Nat} {v : Int} (hd : decode bytes pc = .ok (.lstore n, 2)) (hn : n + 1 < L.length) (k : (AMX p l e R s m args below meth c cells slots Qe nL D ad cI cB A0 H0 xs) (pc + 2) (set2 L n (vL v)) S σ) : (AMX p l e R s m args below meth c cells slots Qe nL D ad cI cB A0 H0 xs) pc L (vL v :: S) σ := by
  intro H locs ls vs0 τ hσ hxs hL hS0 hP hV
  obtain ⟨x, vs1, rfl, rfl, hS1⟩ := SR_L hS0
  obtain ⟨lv, h1, h2⟩ := LR_set2 (i := n) (v := vL _) hL ⟨x, rfl, rfl⟩
  exact lv_lstore hc.1 hc.2.1 hd h1 (by rw [← hL.1]; exact hn) rfl (fun ls' h' => k H locs ls' _ τ hσ hxs (h2 ls' h') hS1 hP hV)
theorem a_iinc (hc : (AMC p R s m args c cells slots own bytes nL Ts D ad cI cB A A0 H0 xs sl)) {n : Nat} {d v : Int} (hd : decode bytes pc = .ok (.iinc n d, 3)) (hr : -128 ≤ d ∧ d ≤ 127) (hv : nth L n = some (some (vI v))) (k : (AMX p l e R s m args below meth c cells slots Qe nL D ad cI cB A0 H0 xs) (pc + 3) (set1 L n (vI (w32 (v + d)))) S σ) : (AMX p l e R s m args below meth c cells slots Qe nL D ad cI cB A0 H0 xs) pc L S σ := by
  intro H locs ls vs0 τ hσ hxs hL hS0 hP hV
  obtain ⟨h1, lv, h2, h3⟩ := id hL
  obtain ⟨w, hw, x, rfl, rfl⟩ := h3 n _ hv
  obtain ⟨i, hi⟩ := List.getElem?_of_mem hw
  have hx : VR ad (vI (w32 (x.toInt + d))) (Value.int (x + Int32.ofInt d)) := ⟨_, rfl, by rw [Int32.toInt_add, w32_bm, Int32.toInt_ofInt_of_le (by omega) (by omega)]⟩
  refine lv_iinc hc.1 hc.2.1 hd h2 hi rfl (by rw [← h1]; exact nth_lt hv) rfl (fun ls' h' => k H locs ls' _ τ hσ hxs ?_ hS0 hP hV)
  exact LR_set1H h1 h3 hx h'
theorem a_iadd (hc : (AMC p R s m args c cells slots own bytes nL Ts D ad cI cB A A0 H0 xs sl)) {x y : Int} (hd : decode bytes pc = .ok (.iadd, 1)) (k : (AMX p l e R s m args below meth c cells slots Qe nL D ad cI cB A0 H0 xs) (pc + 1) L (vI (w32 (x + y)) :: S) σ) : (AMX p l e R s m args below meth c cells slots Qe nL D ad cI cB A0 H0 xs) pc L (vI y :: vI x :: S) σ := by
  intro H locs ls vs0 τ hσ hxs hL hS0 hP hV
  obtain ⟨y, vs1, rfl, rfl, hS1⟩ := SR_I hS0
  obtain ⟨x, vs2, rfl, rfl, hS2⟩ := SR_I hS1
  exact lv_iadd hc.1 hc.2.1 hd (k H locs ls _ τ hσ hxs hL (SR_i (x + y) (by rw [Int32.toInt_add, w32_bm]) hS2) hP hV)
theorem a_isub (hc : (AMC p R s m args c cells slots own bytes nL Ts D ad cI cB A A0 H0 xs sl)) {x y : Int} (hd : decode bytes pc = .ok (.isub, 1)) (k : (AMX p l e R s m args below meth c cells slots Qe nL D ad cI cB A0 H0 xs) (pc + 1) L (vI (w32 (x - y)) :: S) σ) : (AMX p l e R s m args below meth c cells slots Qe nL D ad cI cB A0 H0 xs) pc L (vI y :: vI x :: S) σ := by
  intro H locs ls vs0 τ hσ hxs hL hS0 hP hV
  obtain ⟨y, vs1, rfl, rfl, hS1⟩ := SR_I hS0
  obtain ⟨x, vs2, rfl, rfl, hS2⟩ := SR_I hS1
  exact lv_isub hc.1 hc.2.1 hd (k H locs ls _ τ hσ hxs hL (SR_i (x - y) (by rw [Int32.toInt_sub, w32_bm]) hS2) hP hV)
theorem a_imul (hc : (AMC p R s m args c cells slots own bytes nL Ts D ad cI cB A A0 H0 xs sl)) {x y : Int} (hd : decode bytes pc = .ok (.imul, 1)) (k : (AMX p l e R s m args below meth c cells slots Qe nL D ad cI cB A0 H0 xs) (pc + 1) L (vI (w32 (x * y)) :: S) σ) : (AMX p l e R s m args below meth c cells slots Qe nL D ad cI cB A0 H0 xs) pc L (vI y :: vI x :: S) σ := by
  intro H locs ls vs0 τ hσ hxs hL hS0 hP hV
  obtain ⟨y, vs1, rfl, rfl, hS1⟩ := SR_I hS0
  obtain ⟨x, vs2, rfl, rfl, hS2⟩ := SR_I hS1
  exact lv_imul hc.1 hc.2.1 hd (k H locs ls _ τ hσ hxs hL (SR_i (x * y) (by rw [Int32.toInt_mul, w32_bm]) hS2) hP hV)
theorem a_idiv (hc : (AMC p R s m args c cells slots own bytes nL Ts D ad cI cB A A0 H0 xs sl)) {x y : Int} (hd : decode bytes pc = .ok (.idiv, 1)) (hy : ¬ y = 0) (k : (AMX p l e R s m args below meth c cells slots Qe nL D ad cI cB A0 H0 xs) (pc + 1) L (vI (w32 (x.tdiv y)) :: S) σ) : (AMX p l e R s m args below meth c cells slots Qe nL D ad cI cB A0 H0 xs) pc L (vI y :: vI x :: S) σ := by
  intro H locs ls vs0 τ hσ hxs hL hS0 hP hV
  obtain ⟨y, vs1, rfl, rfl, hS1⟩ := SR_I hS0
  obtain ⟨x, vs2, rfl, rfl, hS2⟩ := SR_I hS1
  exact lv_idiv hc.1 hc.2.1 hd (fun q => hy (by rw [q]; rfl)) (k H locs ls _ τ hσ hxs hL (SR_i (x / y) (by rw [Int32.toInt_div, w32_bm]) hS2) hP hV)
theorem a_irem (hc : (AMC p R s m args c cells slots own bytes nL Ts D ad cI cB A A0 H0 xs sl)) {x y : Int} (hd : decode bytes pc = .ok (.irem, 1)) (hy : ¬ y = 0) (k : (AMX p l e R s m args below meth c cells slots Qe nL D ad cI cB A0 H0 xs) (pc + 1) L (vI (x.tmod y) :: S) σ) : (AMX p l e R s m args below meth c cells slots Qe nL D ad cI cB A0 H0 xs) pc L (vI y :: vI x :: S) σ := by
  intro H locs ls vs0 τ hσ hxs hL hS0 hP hV
  obtain ⟨y, vs1, rfl, rfl, hS1⟩ := SR_I hS0
  obtain ⟨x, vs2, rfl, rfl, hS2⟩ := SR_I hS1
  exact lv_irem hc.1 hc.2.1 hd (fun q => hy (by rw [q]; rfl)) (k H locs ls _ τ hσ hxs hL (SR_i (x - x / y * y) (rem_toInt x y) hS2) hP hV)
theorem a_iand (hc : (AMC p R s m args c cells slots own bytes nL Ts D ad cI cB A A0 H0 xs sl)) {x y : Int} (hd : decode bytes pc = .ok (.iand, 1)) (k : (AMX p l e R s m args below meth c cells slots Qe nL D ad cI cB A0 H0 xs) (pc + 1) L (vI (iand x y) :: S) σ) : (AMX p l e R s m args below meth c cells slots Qe nL D ad cI cB A0 H0 xs) pc L (vI y :: vI x :: S) σ := by
  intro H locs ls vs0 τ hσ hxs hL hS0 hP hV
  obtain ⟨y, vs1, rfl, rfl, hS1⟩ := SR_I hS0
  obtain ⟨x, vs2, rfl, rfl, hS2⟩ := SR_I hS1
  exact lv_iand hc.1 hc.2.1 hd (k H locs ls _ τ hσ hxs hL (SR_i (x &&& y) (by simp only [iand, Int32.ofInt_toInt]) hS2) hP hV)
theorem a_ior (hc : (AMC p R s m args c cells slots own bytes nL Ts D ad cI cB A A0 H0 xs sl)) {x y : Int} (hd : decode bytes pc = .ok (.ior, 1)) (k : (AMX p l e R s m args below meth c cells slots Qe nL D ad cI cB A0 H0 xs) (pc + 1) L (vI (ior x y) :: S) σ) : (AMX p l e R s m args below meth c cells slots Qe nL D ad cI cB A0 H0 xs) pc L (vI y :: vI x :: S) σ := by
  intro H locs ls vs0 τ hσ hxs hL hS0 hP hV
  obtain ⟨y, vs1, rfl, rfl, hS1⟩ := SR_I hS0
  obtain ⟨x, vs2, rfl, rfl, hS2⟩ := SR_I hS1
  exact lv_ior hc.1 hc.2.1 hd (k H locs ls _ τ hσ hxs hL (SR_i (x ||| y) (by simp only [ior, Int32.ofInt_toInt]) hS2) hP hV)
theorem a_ixor (hc : (AMC p R s m args c cells slots own bytes nL Ts D ad cI cB A A0 H0 xs sl)) {x y : Int} (hd : decode bytes pc = .ok (.ixor, 1)) (k : (AMX p l e R s m args below meth c cells slots Qe nL D ad cI cB A0 H0 xs) (pc + 1) L (vI (ixor x y) :: S) σ) : (AMX p l e R s m args below meth c cells slots Qe nL D ad cI cB A0 H0 xs) pc L (vI y :: vI x :: S) σ := by
  intro H locs ls vs0 τ hσ hxs hL hS0 hP hV
  obtain ⟨y, vs1, rfl, rfl, hS1⟩ := SR_I hS0
  obtain ⟨x, vs2, rfl, rfl, hS2⟩ := SR_I hS1
  exact lv_ixor hc.1 hc.2.1 hd (k H locs ls _ τ hσ hxs hL (SR_i (x ^^^ y) (by simp only [ixor, Int32.ofInt_toInt]) hS2) hP hV)
theorem a_ishl (hc : (AMC p R s m args c cells slots own bytes nL Ts D ad cI cB A A0 H0 xs sl)) {x y : Int} (hd : decode bytes pc = .ok (.ishl, 1)) (k : (AMX p l e R s m args below meth c cells slots Qe nL D ad cI cB A0 H0 xs) (pc + 1) L (vI (ishl x y) :: S) σ) : (AMX p l e R s m args below meth c cells slots Qe nL D ad cI cB A0 H0 xs) pc L (vI y :: vI x :: S) σ := by
  intro H locs ls vs0 τ hσ hxs hL hS0 hP hV
  obtain ⟨y, vs1, rfl, rfl, hS1⟩ := SR_I hS0
  obtain ⟨x, vs2, rfl, rfl, hS2⟩ := SR_I hS1
  exact lv_ishl hc.1 hc.2.1 hd (k H locs ls _ τ hσ hxs hL (SR_i (x <<< (y &&& 31)) (by simp only [ishl, Int32.ofInt_toInt]) hS2) hP hV)
theorem a_ishr (hc : (AMC p R s m args c cells slots own bytes nL Ts D ad cI cB A A0 H0 xs sl)) {x y : Int} (hd : decode bytes pc = .ok (.ishr, 1)) (k : (AMX p l e R s m args below meth c cells slots Qe nL D ad cI cB A0 H0 xs) (pc + 1) L (vI (ishr x y) :: S) σ) : (AMX p l e R s m args below meth c cells slots Qe nL D ad cI cB A0 H0 xs) pc L (vI y :: vI x :: S) σ := by
  intro H locs ls vs0 τ hσ hxs hL hS0 hP hV
  obtain ⟨y, vs1, rfl, rfl, hS1⟩ := SR_I hS0
  obtain ⟨x, vs2, rfl, rfl, hS2⟩ := SR_I hS1
  exact lv_ishr hc.1 hc.2.1 hd (k H locs ls _ τ hσ hxs hL (SR_i (x >>> (y &&& 31)) (by simp only [ishr, Int32.ofInt_toInt]) hS2) hP hV)
theorem a_iushr (hc : (AMC p R s m args c cells slots own bytes nL Ts D ad cI cB A A0 H0 xs sl)) {x y : Int} (hd : decode bytes pc = .ok (.iushr, 1)) (k : (AMX p l e R s m args below meth c cells slots Qe nL D ad cI cB A0 H0 xs) (pc + 1) L (vI (iushr x y) :: S) σ) : (AMX p l e R s m args below meth c cells slots Qe nL D ad cI cB A0 H0 xs) pc L (vI y :: vI x :: S) σ := by
  intro H locs ls vs0 τ hσ hxs hL hS0 hP hV
  obtain ⟨y, vs1, rfl, rfl, hS1⟩ := SR_I hS0
  obtain ⟨x, vs2, rfl, rfl, hS2⟩ := SR_I hS1
  exact lv_iushr hc.1 hc.2.1 hd rfl (k H locs ls _ τ hσ hxs hL (SR_i ((x.toUInt32 >>> (y.toUInt32 &&& Int32.toUInt32 31)).toInt32) (by simp only [iushr, Int32.ofInt_toInt]) hS2) hP hV)
theorem a_ladd (hc : (AMC p R s m args c cells slots own bytes nL Ts D ad cI cB A A0 H0 xs sl)) {x y : Int} (hd : decode bytes pc = .ok (.ladd, 1)) (k : (AMX p l e R s m args below meth c cells slots Qe nL D ad cI cB A0 H0 xs) (pc + 1) L (vL (w64 (x + y)) :: S) σ) : (AMX p l e R s m args below meth c cells slots Qe nL D ad cI cB A0 H0 xs) pc L (vL y :: vL x :: S) σ := by
  intro H locs ls vs0 τ hσ hxs hL hS0 hP hV
  obtain ⟨y, vs1, rfl, rfl, hS1⟩ := SR_L hS0
  obtain ⟨x, vs2, rfl, rfl, hS2⟩ := SR_L hS1
  exact lv_ladd hc.1 hc.2.1 hd (k H locs ls _ τ hσ hxs hL (SR_l (x + y) (by rw [Int64.toInt_add, w64_bm]) hS2) hP hV)
theorem a_lsub (hc : (AMC p R s m args c cells slots own bytes nL Ts D ad cI cB A A0 H0 xs sl)) {x y : Int} (hd : decode bytes pc = .ok (.lsub, 1)) (k : (AMX p l e R s m args below meth c cells slots Qe nL D ad cI cB A0 H0 xs) (pc + 1) L (vL (w64 (x - y)) :: S) σ) : (AMX p l e R s m args below meth c cells slots Qe nL D ad cI cB A0 H0 xs) pc L (vL y :: vL x :: S) σ := by
  intro H locs ls vs0 τ hσ hxs hL hS0 hP hV
  obtain ⟨y, vs1, rfl, rfl, hS1⟩ := SR_L hS0
  obtain ⟨x, vs2, rfl, rfl, hS2⟩ := SR_L hS1
  exact lv_lsub hc.1 hc.2.1 hd (k H locs ls _ τ hσ hxs hL (SR_l (x - y) (by rw [Int64.toInt_sub, w64_bm]) hS2) hP hV)
theorem a_lmul (hc : (AMC p R s m args c cells slots own bytes nL Ts D ad cI cB A A0 H0 xs sl)) {x y : Int} (hd : decode bytes pc = .ok (.lmul, 1)) (k : (AMX p l e R s m args below meth c cells slots Qe nL D ad cI cB A0 H0 xs) (pc + 1) L (vL (w64 (x * y)) :: S) σ) : (AMX p l e R s m args below meth c cells slots Qe nL D ad cI cB A0 H0 xs) pc L (vL y :: vL x :: S) σ := by
  intro H locs ls vs0 τ hσ hxs hL hS0 hP hV
  obtain ⟨y, vs1, rfl, rfl, hS1⟩ := SR_L hS0
  obtain ⟨x, vs2, rfl, rfl, hS2⟩ := SR_L hS1
  exact lv_lmul hc.1 hc.2.1 hd (k H locs ls _ τ hσ hxs hL (SR_l (x * y) (by rw [Int64.toInt_mul, w64_bm]) hS2) hP hV)
theorem a_ldiv (hc : (AMC p R s m args c cells slots own bytes nL Ts D ad cI cB A A0 H0 xs sl)) {x y : Int} (hd : decode bytes pc = .ok (.ldiv, 1)) (hy : ¬ y = 0) (k : (AMX p l e R s m args below meth c cells slots Qe nL D ad cI cB A0 H0 xs) (pc + 1) L (vL (w64 (x.tdiv y)) :: S) σ) : (AMX p l e R s m args below meth c cells slots Qe nL D ad cI cB A0 H0 xs) pc L (vL y :: vL x :: S) σ := by
  intro H locs ls vs0 τ hσ hxs hL hS0 hP hV
  obtain ⟨y, vs1, rfl, rfl, hS1⟩ := SR_L hS0
  obtain ⟨x, vs2, rfl, rfl, hS2⟩ := SR_L hS1
  exact lv_ldiv hc.1 hc.2.1 hd (fun q => hy (by rw [q]; rfl)) (k H locs ls _ τ hσ hxs hL (SR_l (x / y) (by rw [Int64.toInt_div, w64_bm]) hS2) hP hV)
theorem a_lrem (hc : (AMC p R s m args c cells slots own bytes nL Ts D ad cI cB A A0 H0 xs sl)) {x y : Int} (hd : decode bytes pc = .ok (.lrem, 1)) (hy : ¬ y = 0) (k : (AMX p l e R s m args below meth c cells slots Qe nL D ad cI cB A0 H0 xs) (pc + 1) L (vL (x.tmod y) :: S) σ) : (AMX p l e R s m args below meth c cells slots Qe nL D ad cI cB A0 H0 xs) pc L (vL y :: vL x :: S) σ := by
  intro H locs ls vs0 τ hσ hxs hL hS0 hP hV
  obtain ⟨y, vs1, rfl, rfl, hS1⟩ := SR_L hS0
  obtain ⟨x, vs2, rfl, rfl, hS2⟩ := SR_L hS1
  exact lv_lrem hc.1 hc.2.1 hd (fun q => hy (by rw [q]; rfl)) (k H locs ls _ τ hσ hxs hL (SR_l (x - x / y * y) (rem64 x y) hS2) hP hV)
theorem a_lcmp (hc : (AMC p R s m args c cells slots own bytes nL Ts D ad cI cB A A0 H0 xs sl)) {x y : Int} (hd : decode bytes pc = .ok (.lcmp, 1)) (k : (AMX p l e R s m args below meth c cells slots Qe nL D ad cI cB A0 H0 xs) (pc + 1) L (vI (lcm3 x y) :: S) σ) : (AMX p l e R s m args below meth c cells slots Qe nL D ad cI cB A0 H0 xs) pc L (vL y :: vL x :: S) σ := by
  intro H locs ls vs0 τ hσ hxs hL hS0 hP hV
  obtain ⟨y, vs1, rfl, rfl, hS1⟩ := SR_L hS0
  obtain ⟨x, vs2, rfl, rfl, hS2⟩ := SR_L hS1
  exact W.lcmp hc.1 hc.2.1 hd (k H locs ls _ τ hσ hxs hL (SR_i (lg_cmp x y) (lcm_cmp x y) hS2) hP hV)
theorem a_ineg (hc : (AMC p R s m args c cells slots own bytes nL Ts D ad cI cB A A0 H0 xs sl)) {x : Int} (hd : decode bytes pc = .ok (.ineg, 1)) (k : (AMX p l e R s m args below meth c cells slots Qe nL D ad cI cB A0 H0 xs) (pc + 1) L (vI (w32 (-x)) :: S) σ) : (AMX p l e R s m args below meth c cells slots Qe nL D ad cI cB A0 H0 xs) pc L (vI x :: S) σ := by
  intro H locs ls vs0 τ hσ hxs hL hS0 hP hV
  obtain ⟨x, vs1, rfl, rfl, hS1⟩ := SR_I hS0
  exact lv_ineg hc.1 hc.2.1 hd (k H locs ls _ τ hσ hxs hL (SR_i (-x) (by rw [Int32.toInt_neg, w32_bm]) hS1) hP hV)
theorem a_i2l (hc : (AMC p R s m args c cells slots own bytes nL Ts D ad cI cB A A0 H0 xs sl)) {x : Int} (hd : decode bytes pc = .ok (.i2l, 1)) (k : (AMX p l e R s m args below meth c cells slots Qe nL D ad cI cB A0 H0 xs) (pc + 1) L (vL x :: S) σ) : (AMX p l e R s m args below meth c cells slots Qe nL D ad cI cB A0 H0 xs) pc L (vI x :: S) σ := by
  intro H locs ls vs0 τ hσ hxs hL hS0 hP hV
  obtain ⟨x, vs1, rfl, rfl, hS1⟩ := SR_I hS0
  exact lv_i2l hc.1 hc.2.1 hd rfl (k H locs ls _ τ hσ hxs hL (SR_l x.toInt64 (Int32.toInt_toInt64 x) hS1) hP hV)
theorem a_dupI (hc : (AMC p R s m args c cells slots own bytes nL Ts D ad cI cB A A0 H0 xs sl)) {x : Int} (hd : decode bytes pc = .ok (.dup, 1)) (k : (AMX p l e R s m args below meth c cells slots Qe nL D ad cI cB A0 H0 xs) (pc + 1) L (vI x :: vI x :: S) σ) : (AMX p l e R s m args below meth c cells slots Qe nL D ad cI cB A0 H0 xs) pc L (vI x :: S) σ := by
  intro H locs ls vs0 τ hσ hxs hL hS0 hP hV
  obtain ⟨x, vs1, rfl, rfl, hS1⟩ := SR_I hS0
  exact lv_dup hc.1 hc.2.1 hd rfl (k H locs ls _ τ hσ hxs hL (SR_i x rfl (SR_i x rfl hS1)) hP hV)
theorem a_dupR (hc : (AMC p R s m args c cells slots own bytes nL Ts D ad cI cB A A0 H0 xs sl)) {x : Nat} (hd : decode bytes pc = .ok (.dup, 1)) (k : (AMX p l e R s m args below meth c cells slots Qe nL D ad cI cB A0 H0 xs) (pc + 1) L (vR x :: vR x :: S) σ) : (AMX p l e R s m args below meth c cells slots Qe nL D ad cI cB A0 H0 xs) pc L (vR x :: S) σ := by
  intro H locs ls vs0 τ hσ hxs hL hS0 hP hV
  obtain ⟨vs1, rfl, hS1⟩ := SR_R hS0
  exact lv_dup hc.1 hc.2.1 hd rfl (k H locs ls _ τ hσ hxs hL (SR_r (SR_r hS1)) hP hV)
theorem a_dup2 (hc : (AMC p R s m args c cells slots own bytes nL Ts D ad cI cB A A0 H0 xs sl)) {y : Int} {x : Nat} (hd : decode bytes pc = .ok (.dup2, 1)) (k : (AMX p l e R s m args below meth c cells slots Qe nL D ad cI cB A0 H0 xs) (pc + 1) L (vI y :: vR x :: vI y :: vR x :: S) σ) : (AMX p l e R s m args below meth c cells slots Qe nL D ad cI cB A0 H0 xs) pc L (vI y :: vR x :: S) σ := by
  intro H locs ls vs0 τ hσ hxs hL hS0 hP hV
  obtain ⟨y, vs1, rfl, rfl, hS1⟩ := SR_I hS0
  obtain ⟨vs2, rfl, hS2⟩ := SR_R hS1
  exact lv_dup2_11 hc.1 hc.2.1 hd rfl rfl (k H locs ls _ τ hσ hxs hL (SR_i y rfl (SR_r (SR_i y rfl (SR_r hS2)))) hP hV)
theorem a_popI (hc : (AMC p R s m args c cells slots own bytes nL Ts D ad cI cB A A0 H0 xs sl)) {x : Int} (hd : decode bytes pc = .ok (.pop, 1)) (k : (AMX p l e R s m args below meth c cells slots Qe nL D ad cI cB A0 H0 xs) (pc + 1) L S σ) : (AMX p l e R s m args below meth c cells slots Qe nL D ad cI cB A0 H0 xs) pc L (vI x :: S) σ := by
  intro H locs ls vs0 τ hσ hxs hL hS0 hP hV
  obtain ⟨x, vs1, rfl, rfl, hS1⟩ := SR_I hS0
  exact lv_pop hc.1 hc.2.1 hd rfl (k H locs ls _ τ hσ hxs hL hS1 hP hV)
theorem a_popR (hc : (AMC p R s m args c cells slots own bytes nL Ts D ad cI cB A A0 H0 xs sl)) {x : Nat} (hd : decode bytes pc = .ok (.pop, 1)) (k : (AMX p l e R s m args below meth c cells slots Qe nL D ad cI cB A0 H0 xs) (pc + 1) L S σ) : (AMX p l e R s m args below meth c cells slots Qe nL D ad cI cB A0 H0 xs) pc L (vR x :: S) σ := by
  intro H locs ls vs0 τ hσ hxs hL hS0 hP hV
  obtain ⟨vs1, rfl, hS1⟩ := SR_R hS0
  exact lv_pop hc.1 hc.2.1 hd rfl (k H locs ls _ τ hσ hxs hL hS1 hP hV)
theorem a_goto (hc : (AMC p R s m args c cells slots own bytes nL Ts D ad cI cB A A0 H0 xs sl)) {off : Int} {a : Nat} (hd : decode bytes pc = .ok (.goto off, 3)) (ht : (pc : Int) + off = a) (k : (AMX p l e R s m args below meth c cells slots Qe nL D ad cI cB A0 H0 xs) a L S σ) : (AMX p l e R s m args below meth c cells slots Qe nL D ad cI cB A0 H0 xs) pc L S σ := by
  intro H locs ls vs0 τ hσ hxs hL hS0 hP hV
  exact lv_goto hc.1 hc.2.1 hd ht (k H locs ls _ τ hσ hxs hL hS0 hP hV)
theorem a_if_eq (hc : (AMC p R s m args c cells slots own bytes nL Ts D ad cI cB A A0 H0 xs sl)) {off x : Int} {a : Nat} (hd : decode bytes pc = .ok (.ifCond .eq off, 3)) (ht : (pc : Int) + off = a) (k : if x = 0 then (AMX p l e R s m args below meth c cells slots Qe nL D ad cI cB A0 H0 xs) a L S σ else (AMX p l e R s m args below meth c cells slots Qe nL D ad cI cB A0 H0 xs) (pc + 3) L S σ) : (AMX p l e R s m args below meth c cells slots Qe nL D ad cI cB A0 H0 xs) pc L (vI x :: S) σ := by
  intro H locs ls vs0 τ hσ hxs hL hS0 hP hV
  obtain ⟨x, vs1, rfl, rfl, hS1⟩ := SR_I hS0
  refine lv_if_eq hc.1 hc.2.1 hd ht (fun q => ?_) (fun q => ?_)
  · rw [if_pos (show x.toInt = 0 from by rw [q]; rfl)] at k
    exact k H locs ls _ τ hσ hxs hL hS1 hP hV
  · rw [if_neg (show ¬ x.toInt = 0 from fun z => q (by first | exact Int32.lt_iff_toInt_lt.mpr z | exact Int32.toInt_inj.mp (z.trans (show (0 : Int32).toInt = 0 from rfl).symm)))] at k
    exact k H locs ls _ τ hσ hxs hL hS1 hP hV
theorem a_if_ne (hc : (AMC p R s m args c cells slots own bytes nL Ts D ad cI cB A A0 H0 xs sl)) {off x : Int} {a : Nat} (hd : decode bytes pc = .ok (.ifCond .ne off, 3)) (ht : (pc : Int) + off = a) (k : if x = 0 then (AMX p l e R s m args below meth c cells slots Qe nL D ad cI cB A0 H0 xs) (pc + 3) L S σ else (AMX p l e R s m args below meth c cells slots Qe nL D ad cI cB A0 H0 xs) a L S σ) : (AMX p l e R s m args below meth c cells slots Qe nL D ad cI cB A0 H0 xs) pc L (vI x :: S) σ := by
  intro H locs ls vs0 τ hσ hxs hL hS0 hP hV
  obtain ⟨x, vs1, rfl, rfl, hS1⟩ := SR_I hS0
  by_cases z : x.toInt = 0
  · rw [if_pos z] at k
    refine lv_if_ne hc.1 hc.2.1 hd ht (fun q => absurd z ?_) (fun q => k H locs ls _ τ hσ hxs hL hS1 hP hV)
    exact fun z => q (Int32.toInt_inj.mp (z.trans (show (0 : Int32).toInt = 0 from rfl).symm))
  · rw [if_neg z] at k
    refine lv_if_ne hc.1 hc.2.1 hd ht (fun q => k H locs ls _ τ hσ hxs hL hS1 hP hV) (fun q => absurd ?_ z)
    rw [q]; rfl
theorem a_if_lt (hc : (AMC p R s m args c cells slots own bytes nL Ts D ad cI cB A A0 H0 xs sl)) {off x : Int} {a : Nat} (hd : decode bytes pc = .ok (.ifCond .lt off, 3)) (ht : (pc : Int) + off = a) (k : if x < 0 then (AMX p l e R s m args below meth c cells slots Qe nL D ad cI cB A0 H0 xs) a L S σ else (AMX p l e R s m args below meth c cells slots Qe nL D ad cI cB A0 H0 xs) (pc + 3) L S σ) : (AMX p l e R s m args below meth c cells slots Qe nL D ad cI cB A0 H0 xs) pc L (vI x :: S) σ := by
  intro H locs ls vs0 τ hσ hxs hL hS0 hP hV
  obtain ⟨x, vs1, rfl, rfl, hS1⟩ := SR_I hS0
  refine lv_if_lt hc.1 hc.2.1 hd ht (fun q => ?_) (fun q => ?_)
  · rw [if_pos (show x.toInt < 0 from Int32.lt_iff_toInt_lt.mp q)] at k
    exact k H locs ls _ τ hσ hxs hL hS1 hP hV
  · rw [if_neg (show ¬ x.toInt < 0 from fun z => q (by first | exact Int32.lt_iff_toInt_lt.mpr z | exact Int32.toInt_inj.mp (z.trans (show (0 : Int32).toInt = 0 from rfl).symm)))] at k
    exact k H locs ls _ τ hσ hxs hL hS1 hP hV
theorem a_if_ge (hc : (AMC p R s m args c cells slots own bytes nL Ts D ad cI cB A A0 H0 xs sl)) {off x : Int} {a : Nat} (hd : decode bytes pc = .ok (.ifCond .ge off, 3)) (ht : (pc : Int) + off = a) (k : if x < 0 then (AMX p l e R s m args below meth c cells slots Qe nL D ad cI cB A0 H0 xs) (pc + 3) L S σ else (AMX p l e R s m args below meth c cells slots Qe nL D ad cI cB A0 H0 xs) a L S σ) : (AMX p l e R s m args below meth c cells slots Qe nL D ad cI cB A0 H0 xs) pc L (vI x :: S) σ := by
  intro H locs ls vs0 τ hσ hxs hL hS0 hP hV
  obtain ⟨x, vs1, rfl, rfl, hS1⟩ := SR_I hS0
  by_cases z : x.toInt < 0
  · rw [if_pos z] at k
    refine lv_if_ge hc.1 hc.2.1 hd ht (fun q => absurd z ?_) (fun q => k H locs ls _ τ hσ hxs hL hS1 hP hV)
    simp only [Int32.le_iff_toInt_le] at q; have : (0 : Int32).toInt = 0 := rfl; omega
  · rw [if_neg z] at k
    refine lv_if_ge hc.1 hc.2.1 hd ht (fun q => k H locs ls _ τ hσ hxs hL hS1 hP hV) (fun q => absurd ?_ z)
    simp only [Int32.le_iff_toInt_le] at q; have : (0 : Int32).toInt = 0 := rfl; omega
theorem a_if_gt (hc : (AMC p R s m args c cells slots own bytes nL Ts D ad cI cB A A0 H0 xs sl)) {off x : Int} {a : Nat} (hd : decode bytes pc = .ok (.ifCond .gt off, 3)) (ht : (pc : Int) + off = a) (k : if 0 < x then (AMX p l e R s m args below meth c cells slots Qe nL D ad cI cB A0 H0 xs) a L S σ else (AMX p l e R s m args below meth c cells slots Qe nL D ad cI cB A0 H0 xs) (pc + 3) L S σ) : (AMX p l e R s m args below meth c cells slots Qe nL D ad cI cB A0 H0 xs) pc L (vI x :: S) σ := by
  intro H locs ls vs0 τ hσ hxs hL hS0 hP hV
  obtain ⟨x, vs1, rfl, rfl, hS1⟩ := SR_I hS0
  refine lv_if_gt hc.1 hc.2.1 hd ht (fun q => ?_) (fun q => ?_)
  · rw [if_pos (show 0 < x.toInt from Int32.lt_iff_toInt_lt.mp q)] at k
    exact k H locs ls _ τ hσ hxs hL hS1 hP hV
  · rw [if_neg (show ¬ 0 < x.toInt from fun z => q (by first | exact Int32.lt_iff_toInt_lt.mpr z | exact Int32.toInt_inj.mp (z.trans (show (0 : Int32).toInt = 0 from rfl).symm)))] at k
    exact k H locs ls _ τ hσ hxs hL hS1 hP hV
theorem a_if_le (hc : (AMC p R s m args c cells slots own bytes nL Ts D ad cI cB A A0 H0 xs sl)) {off x : Int} {a : Nat} (hd : decode bytes pc = .ok (.ifCond .le off, 3)) (ht : (pc : Int) + off = a) (k : if 0 < x then (AMX p l e R s m args below meth c cells slots Qe nL D ad cI cB A0 H0 xs) (pc + 3) L S σ else (AMX p l e R s m args below meth c cells slots Qe nL D ad cI cB A0 H0 xs) a L S σ) : (AMX p l e R s m args below meth c cells slots Qe nL D ad cI cB A0 H0 xs) pc L (vI x :: S) σ := by
  intro H locs ls vs0 τ hσ hxs hL hS0 hP hV
  obtain ⟨x, vs1, rfl, rfl, hS1⟩ := SR_I hS0
  by_cases z : 0 < x.toInt
  · rw [if_pos z] at k
    refine lv_if_le hc.1 hc.2.1 hd ht (fun q => absurd z ?_) (fun q => k H locs ls _ τ hσ hxs hL hS1 hP hV)
    simp only [Int32.le_iff_toInt_le] at q; have : (0 : Int32).toInt = 0 := rfl; omega
  · rw [if_neg z] at k
    refine lv_if_le hc.1 hc.2.1 hd ht (fun q => k H locs ls _ τ hσ hxs hL hS1 hP hV) (fun q => absurd ?_ z)
    simp only [Int32.le_iff_toInt_le] at q; have : (0 : Int32).toInt = 0 := rfl; omega
theorem a_icmp_eq (hc : (AMC p R s m args c cells slots own bytes nL Ts D ad cI cB A A0 H0 xs sl)) {off x y : Int} {a : Nat} (hd : decode bytes pc = .ok (.if_icmp .eq off, 3)) (ht : (pc : Int) + off = a) (k : if x = y then (AMX p l e R s m args below meth c cells slots Qe nL D ad cI cB A0 H0 xs) a L S σ else (AMX p l e R s m args below meth c cells slots Qe nL D ad cI cB A0 H0 xs) (pc + 3) L S σ) : (AMX p l e R s m args below meth c cells slots Qe nL D ad cI cB A0 H0 xs) pc L (vI y :: vI x :: S) σ := by
  intro H locs ls vs0 τ hσ hxs hL hS0 hP hV
  obtain ⟨y, vs1, rfl, rfl, hS1⟩ := SR_I hS0
  obtain ⟨x, vs2, rfl, rfl, hS2⟩ := SR_I hS1
  by_cases z : x.toInt = y.toInt
  · rw [if_pos z] at k
    refine lv_icmp_eq hc.1 hc.2.1 hd ht (fun q => k H locs ls _ τ hσ hxs hL hS2 hP hV) (fun q => absurd z ?_)
    exact fun z => q (Int32.toInt_inj.mp z)
  · rw [if_neg z] at k
    refine lv_icmp_eq hc.1 hc.2.1 hd ht (fun q => absurd ?_ z) (fun q => k H locs ls _ τ hσ hxs hL hS2 hP hV)
    rw [q]
theorem a_icmp_ne (hc : (AMC p R s m args c cells slots own bytes nL Ts D ad cI cB A A0 H0 xs sl)) {off x y : Int} {a : Nat} (hd : decode bytes pc = .ok (.if_icmp .ne off, 3)) (ht : (pc : Int) + off = a) (k : if x = y then (AMX p l e R s m args below meth c cells slots Qe nL D ad cI cB A0 H0 xs) (pc + 3) L S σ else (AMX p l e R s m args below meth c cells slots Qe nL D ad cI cB A0 H0 xs) a L S σ) : (AMX p l e R s m args below meth c cells slots Qe nL D ad cI cB A0 H0 xs) pc L (vI y :: vI x :: S) σ := by
  intro H locs ls vs0 τ hσ hxs hL hS0 hP hV
  obtain ⟨y, vs1, rfl, rfl, hS1⟩ := SR_I hS0
  obtain ⟨x, vs2, rfl, rfl, hS2⟩ := SR_I hS1
  by_cases z : x.toInt = y.toInt
  · rw [if_pos z] at k
    refine lv_icmp_ne hc.1 hc.2.1 hd ht (fun q => absurd z ?_) (fun q => k H locs ls _ τ hσ hxs hL hS2 hP hV)
    exact fun z => q (Int32.toInt_inj.mp z)
  · rw [if_neg z] at k
    refine lv_icmp_ne hc.1 hc.2.1 hd ht (fun q => k H locs ls _ τ hσ hxs hL hS2 hP hV) (fun q => absurd ?_ z)
    rw [q]
theorem a_icmp_lt (hc : (AMC p R s m args c cells slots own bytes nL Ts D ad cI cB A A0 H0 xs sl)) {off x y : Int} {a : Nat} (hd : decode bytes pc = .ok (.if_icmp .lt off, 3)) (ht : (pc : Int) + off = a) (k : if x < y then (AMX p l e R s m args below meth c cells slots Qe nL D ad cI cB A0 H0 xs) a L S σ else (AMX p l e R s m args below meth c cells slots Qe nL D ad cI cB A0 H0 xs) (pc + 3) L S σ) : (AMX p l e R s m args below meth c cells slots Qe nL D ad cI cB A0 H0 xs) pc L (vI y :: vI x :: S) σ := by
  intro H locs ls vs0 τ hσ hxs hL hS0 hP hV
  obtain ⟨y, vs1, rfl, rfl, hS1⟩ := SR_I hS0
  obtain ⟨x, vs2, rfl, rfl, hS2⟩ := SR_I hS1
  by_cases z : x.toInt < y.toInt
  · rw [if_pos z] at k
    refine lv_icmp_lt hc.1 hc.2.1 hd ht (fun q => k H locs ls _ τ hσ hxs hL hS2 hP hV) (fun q => absurd z ?_)
    simp only [Int32.le_iff_toInt_le, Int32.lt_iff_toInt_lt] at q; omega
  · rw [if_neg z] at k
    refine lv_icmp_lt hc.1 hc.2.1 hd ht (fun q => absurd ?_ z) (fun q => k H locs ls _ τ hσ hxs hL hS2 hP hV)
    simp only [Int32.le_iff_toInt_le, Int32.lt_iff_toInt_lt] at q; omega
theorem a_icmp_ge (hc : (AMC p R s m args c cells slots own bytes nL Ts D ad cI cB A A0 H0 xs sl)) {off x y : Int} {a : Nat} (hd : decode bytes pc = .ok (.if_icmp .ge off, 3)) (ht : (pc : Int) + off = a) (k : if x < y then (AMX p l e R s m args below meth c cells slots Qe nL D ad cI cB A0 H0 xs) (pc + 3) L S σ else (AMX p l e R s m args below meth c cells slots Qe nL D ad cI cB A0 H0 xs) a L S σ) : (AMX p l e R s m args below meth c cells slots Qe nL D ad cI cB A0 H0 xs) pc L (vI y :: vI x :: S) σ := by
  intro H locs ls vs0 τ hσ hxs hL hS0 hP hV
  obtain ⟨y, vs1, rfl, rfl, hS1⟩ := SR_I hS0
  obtain ⟨x, vs2, rfl, rfl, hS2⟩ := SR_I hS1
  by_cases z : x.toInt < y.toInt
  · rw [if_pos z] at k
    refine lv_icmp_ge hc.1 hc.2.1 hd ht (fun q => absurd z ?_) (fun q => k H locs ls _ τ hσ hxs hL hS2 hP hV)
    simp only [Int32.le_iff_toInt_le, Int32.lt_iff_toInt_lt] at q; omega
  · rw [if_neg z] at k
    refine lv_icmp_ge hc.1 hc.2.1 hd ht (fun q => k H locs ls _ τ hσ hxs hL hS2 hP hV) (fun q => absurd ?_ z)
    simp only [Int32.le_iff_toInt_le, Int32.lt_iff_toInt_lt] at q; omega
theorem a_icmp_gt (hc : (AMC p R s m args c cells slots own bytes nL Ts D ad cI cB A A0 H0 xs sl)) {off x y : Int} {a : Nat} (hd : decode bytes pc = .ok (.if_icmp .gt off, 3)) (ht : (pc : Int) + off = a) (k : if y < x then (AMX p l e R s m args below meth c cells slots Qe nL D ad cI cB A0 H0 xs) a L S σ else (AMX p l e R s m args below meth c cells slots Qe nL D ad cI cB A0 H0 xs) (pc + 3) L S σ) : (AMX p l e R s m args below meth c cells slots Qe nL D ad cI cB A0 H0 xs) pc L (vI y :: vI x :: S) σ := by
  intro H locs ls vs0 τ hσ hxs hL hS0 hP hV
  obtain ⟨y, vs1, rfl, rfl, hS1⟩ := SR_I hS0
  obtain ⟨x, vs2, rfl, rfl, hS2⟩ := SR_I hS1
  by_cases z : y.toInt < x.toInt
  · rw [if_pos z] at k
    refine lv_icmp_gt hc.1 hc.2.1 hd ht (fun q => k H locs ls _ τ hσ hxs hL hS2 hP hV) (fun q => absurd z ?_)
    simp only [Int32.le_iff_toInt_le, Int32.lt_iff_toInt_lt] at q; omega
  · rw [if_neg z] at k
    refine lv_icmp_gt hc.1 hc.2.1 hd ht (fun q => absurd ?_ z) (fun q => k H locs ls _ τ hσ hxs hL hS2 hP hV)
    simp only [Int32.le_iff_toInt_le, Int32.lt_iff_toInt_lt] at q; omega
theorem a_icmp_le (hc : (AMC p R s m args c cells slots own bytes nL Ts D ad cI cB A A0 H0 xs sl)) {off x y : Int} {a : Nat} (hd : decode bytes pc = .ok (.if_icmp .le off, 3)) (ht : (pc : Int) + off = a) (k : if y < x then (AMX p l e R s m args below meth c cells slots Qe nL D ad cI cB A0 H0 xs) (pc + 3) L S σ else (AMX p l e R s m args below meth c cells slots Qe nL D ad cI cB A0 H0 xs) a L S σ) : (AMX p l e R s m args below meth c cells slots Qe nL D ad cI cB A0 H0 xs) pc L (vI y :: vI x :: S) σ := by
  intro H locs ls vs0 τ hσ hxs hL hS0 hP hV
  obtain ⟨y, vs1, rfl, rfl, hS1⟩ := SR_I hS0
  obtain ⟨x, vs2, rfl, rfl, hS2⟩ := SR_I hS1
  by_cases z : y.toInt < x.toInt
  · rw [if_pos z] at k
    refine lv_icmp_le hc.1 hc.2.1 hd ht (fun q => absurd z ?_) (fun q => k H locs ls _ τ hσ hxs hL hS2 hP hV)
    simp only [Int32.le_iff_toInt_le, Int32.lt_iff_toInt_lt] at q; omega
  · rw [if_neg z] at k
    refine lv_icmp_le hc.1 hc.2.1 hd ht (fun q => k H locs ls _ τ hσ hxs hL hS2 hP hV) (fun q => absurd ?_ z)
    simp only [Int32.le_iff_toInt_le, Int32.lt_iff_toInt_lt] at q; omega
theorem a_table (hc : (AMC p R s m args c cells slots own bytes nL Ts D ad cI cB A A0 H0 xs sl)) {d lo hi x : Int} {offs : Array Int} {len a : Nat} {ks : List (Int × Nat)} (hd : decode bytes pc = .ok (.tableswitch d lo hi offs, len)) (ht : (pc : Int) + d = a) (hk : ks.map (fun q => (q.2 : Int)) = offs.toList.map (fun f => (pc : Int) + f)) (hk2 : ks.map (fun q => q.1) = (List.range offs.size).map (fun (n : Nat) => lo + (n : Int))) (hh : hi = lo + (offs.size : Int) - 1) (k : swt ks a x fun t => (AMX p l e R s m args below meth c cells slots Qe nL D ad cI cB A0 H0 xs) t L S σ) : (AMX p l e R s m args below meth c cells slots Qe nL D ad cI cB A0 H0 xs) pc L (vI x :: S) σ := by
  intro H locs ls vs0 τ hσ hxs hL hS0 hP hV
  obtain ⟨x, vs1, rfl, rfl, hS1⟩ := SR_I hS0
  have hlen : ks.length = offs.size := by have := congrArg List.length hk2; simpa using this
  rcases swt_in k with ⟨h1, k⟩ | ⟨n, v, t, h1, rfl, k⟩
  · refine lv_tableOut hc.1 hc.2.1 hd ?_ ht (k H locs ls _ τ hσ hxs hL hS1 hP hV)
    by_cases g1 : x.toInt < lo
    · exact Or.inl g1
    · by_cases g2 : hi < x.toInt
      · exact Or.inr g2
      · exfalso
        have hn : (x.toInt - lo).toNat < ks.length := by omega
        refine h1 ks[(x.toInt - lo).toNat] (List.getElem_mem hn) ?_
        have e := congrArg (fun z => z[(x.toInt - lo).toNat]?) hk2
        simp only [List.getElem?_map, List.getElem?_eq_getElem hn, Option.map_some, List.getElem?_range (show (x.toInt - lo).toNat < offs.size by omega), Option.some.injEq] at e
        rw [e]; omega
  · have hn : n < ks.length := (List.getElem?_eq_some_iff.mp h1).1
    have e := congrArg (fun z => z[n]?) hk2
    simp only [List.getElem?_map, h1, Option.map_some, List.getElem?_range (show n < offs.size by omega), Option.some.injEq] at e
    have e2 := congrArg (fun z => z[n]?) hk
    simp only [List.getElem?_map, h1, Option.map_some, List.getElem?_eq_getElem (show n < offs.toList.length by simpa using (by omega : n < offs.size)), Option.some.injEq] at e2
    refine lv_tableIn hc.1 hc.2.1 hd (by omega) (by omega) (off := offs.toList[n]'(by simpa using (by omega : n < offs.size))) ?_ e2.symm (k H locs ls _ τ hσ hxs hL hS1 hP hV)
    rw [show (x.toInt - lo).toNat = n by omega]
    rw [← Array.getElem?_toList, List.getElem?_eq_getElem]
theorem a_lookup (hc : (AMC p R s m args c cells slots own bytes nL Ts D ad cI cB A A0 H0 xs sl)) {d x : Int} {ps : Array (Int × Int)} {len a : Nat} {ks : List (Int × Nat)} (hd : decode bytes pc = .ok (.lookupswitch d ps, len)) (ht : (pc : Int) + d = a) (hk : ks.map (fun q => (q.1, (q.2 : Int))) = ps.toList.map (fun q => (q.1, (pc : Int) + q.2))) (hs : (ps.toList.zip (ps.toList.drop 1)).all (fun (x, next) => x.1 < next.1) = true) (k : swt ks a x fun t => (AMX p l e R s m args below meth c cells slots Qe nL D ad cI cB A0 H0 xs) t L S σ) : (AMX p l e R s m args below meth c cells slots Qe nL D ad cI cB A0 H0 xs) pc L (vI x :: S) σ := by
  intro H locs ls vs0 τ hσ hxs hL hS0 hP hV
  obtain ⟨x, vs1, rfl, rfl, hS1⟩ := SR_I hS0
  obtain ⟨t, h1, k⟩ := swt_off (d := d) ht hk k
  exact lv_lookup hc.1 hc.2.1 hd hs rfl h1 (k H locs ls _ τ hσ hxs hL hS1 hP hV)
theorem a_getR (hc : (AMC p R s m args c cells slots own bytes nL Ts D ad cI cB A A0 H0 xs sl)) {x a b k0 k1 : Nat} (hd : decode bytes pc = .ok (.getfield x, 3)) (ha : a < 7) (hb : b < (fldT a).2.2) (hw : Cond.fieldLink own x ((fldT a).2.1 b).1 ((fldT a).2.1 b).2.1 ((fldT a).2.1 b).2.2.1 ∈ lw_g) (hco : cof k0 = a) (hr : rfs k0 b = some k1) (k : (AMX p l e R s m args below meth c cells slots Qe nL D ad cI cB A0 H0 xs) (pc + 3) L (vR k1 :: S) σ) : (AMX p l e R s m args below meth c cells slots Qe nL D ad cI cB A0 H0 xs) pc L (vR k0 :: S) σ := by
  intro H locs ls vs0 τ hσ hxs hL hS0 hP hV
  obtain ⟨vs1, rfl, hS1⟩ := SR_R hS0
  obtain ⟨fl, hfl⟩ := cof_sh hco ha
  have hc63 := sh_lt hfl
  have hlen := sh_len hfl
  have hat : (wsf ad cI cB τ)[k0]? = some (ad k0, .inr (a, (List.range fl.length).map fun k => fval ad τ k0 k)) := by rw [wsf_at hc63]; simp only [celO, hfl]
  obtain ⟨hin, ty, hty, hnm⟩ := fld_ok ha
  exact va_get hc.1 hc.2.1 hc.2.2.2.2.1 (fun w h => hc.2.2.2.2.2.1 w (uws_g hin w h)) hc.2.2.2.1 hc.2.2.2.2.2.2.1 hP k0 hat (cls9_get ha) b hb (hc.2.2.2.2.1 _ (hc.2.2.2.2.2.1 _ hw)) (fun _ h => h) (v := .ref (ad k1)) (by simp [List.getElem?_map, List.getElem?_range (show b < fl.length by omega), fval, hr]) hd (k H locs ls _ τ hσ hxs hL (SR_r hS1) hP hV)
theorem a_getI (hc : (AMC p R s m args c cells slots own bytes nL Ts D ad cI cB A A0 H0 xs sl)) {x a b k0 : Nat} (hd : decode bytes pc = .ok (.getfield x, 3)) (ha : a < 7) (hb : b < (fldT a).2.2) (hw : Cond.fieldLink own x ((fldT a).2.1 b).1 ((fldT a).2.1 b).2.1 ((fldT a).2.1 b).2.2.1 ∈ lw_g) (hco : cof k0 = a) (hr : rfs k0 b = none) (k : (AMX p l e R s m args below meth c cells slots Qe nL D ad cI cB A0 H0 xs) (pc + 3) L (vI (σ k0 b) :: S) σ) : (AMX p l e R s m args below meth c cells slots Qe nL D ad cI cB A0 H0 xs) pc L (vR k0 :: S) σ := by
  intro H locs ls vs0 τ hσ hxs hL hS0 hP hV
  obtain ⟨vs1, rfl, hS1⟩ := SR_R hS0
  obtain ⟨fl, hfl⟩ := cof_sh hco ha
  have hc63 := sh_lt hfl
  have hlen := sh_len hfl
  have hat : (wsf ad cI cB τ)[k0]? = some (ad k0, .inr (a, (List.range fl.length).map fun k => fval ad τ k0 k)) := by rw [wsf_at hc63]; simp only [celO, hfl]
  obtain ⟨hin, ty, hty, hnm⟩ := fld_ok ha
  exact va_get hc.1 hc.2.1 hc.2.2.2.2.1 (fun w h => hc.2.2.2.2.2.1 w (uws_g hin w h)) hc.2.2.2.1 hc.2.2.2.2.2.2.1 hP k0 hat (cls9_get ha) b hb (hc.2.2.2.2.1 _ (hc.2.2.2.2.2.1 _ hw)) (fun _ h => h) (v := .int (τ k0 b)) (by simp [List.getElem?_map, List.getElem?_range (show b < fl.length by omega), fval, hr]) hd (k H locs ls _ τ hσ hxs hL (SR_i (τ k0 b) (by rw [hσ]; rfl) hS1) hP hV)
theorem a_put (hc : (AMC p R s m args c cells slots own bytes nL Ts D ad cI cB A A0 H0 xs sl)) {x a b k0 : Nat} {v : Int} (hd : decode bytes pc = .ok (.putfield x, 3)) (ha : a < 7) (hb : b < (fldT a).2.2) (hw : Cond.fieldLink own x ((fldT a).2.1 b).1 ((fldT a).2.1 b).2.1 ((fldT a).2.1 b).2.2.1 ∈ lw_g) (hfin : ((fldT a).2.1 b).2.2.2 = false) (hdd : ((fldT a).2.1 b).2.2.1 = if isB a b = true then "Z" else "I") (hv : isB a b = true → v = 0 ∨ v = 1) (hco : cof k0 = a) (hr : rfs k0 b = none) (k : (AMX p l e R s m args below meth c cells slots Qe nL D ad cI cB A0 H0 xs) (pc + 3) L S (sup σ k0 b v)) : (AMX p l e R s m args below meth c cells slots Qe nL D ad cI cB A0 H0 xs) pc L (vI v :: vR k0 :: S) σ := by
  intro H locs ls vs0 τ hσ hxs hL hS0 hP hV
  obtain ⟨x, vs1, rfl, rfl, hS1⟩ := SR_I hS0
  obtain ⟨vs2, rfl, hS2⟩ := SR_R hS1
  obtain ⟨fl, hfl⟩ := cof_sh hco ha
  have hc63 := sh_lt hfl
  have hlen := sh_len hfl
  have hat : (wsf ad cI cB τ)[k0]? = some (ad k0, .inr (a, (List.range fl.length).map fun k => fval ad τ k0 k)) := by rw [wsf_at hc63]; simp only [celO, hfl]
  obtain ⟨hin, ty, hty, hnm⟩ := fld_ok ha
  have hty2 : ∃ ty0 : FieldType, parseFieldDescriptor ((fldT a).2.1 b).2.2.1 = some ty0 ∧ narrow ty0 (.int x) = .int x ∧ fits ty0 (.int x) = true := by
    rw [hdd]
    cases hB : isB a b with
    | true =>
      refine ⟨.boolean, by decide +kernel, ?_⟩
      rcases hv hB with h | h
      · rw [show x = 0 from Int32.toInt_inj.mp h]; exact ⟨by decide +kernel, by decide +kernel⟩
      · rw [show x = 1 from Int32.toInt_inj.mp h]; exact ⟨by decide +kernel, by decide +kernel⟩
    | false => exact ⟨.int, by decide +kernel, rfl, rfl⟩
  obtain ⟨ty0, hp0, hn0, hf0⟩ := hty2
  refine va_put hc.1 hc.2.1 hc.2.2.2.2.1 (fun w h => hc.2.2.2.2.2.1 w (uws_g hin w h)) ty hty hnm hc.2.2.2.1 hc.2.2.2.2.2.2.1 hP (hc.2.2.2.2.2.2.2.1 τ) hV k0 hat (cls9_get ha) b hb (hc.2.2.2.2.1 _ (hc.2.2.2.2.2.1 _ hw)) (fun _ h => h) hfin hp0 hn0 hf0 (by simp; omega) hd (fun H1 locs1 hP1 _ hV1 => ?_)
  refine k H1 locs1 ls _ (upT τ k0 b x) (by rw [hσ]; exact toI_up τ k0 b x) (by rw [upT_ne (by omega)]; exact hxs) hL hS2 ?_ hV1
  rw [← wsf_up hc63 (E := .inr (a, ((List.range fl.length).map fun k => fval ad τ k0 k).set b (.int x)))]
  · exact hP1
  · simp only [celO, hfl]
    congr 2
    apply List.ext_getElem?
    intro q
    rw [List.getElem?_set]
    by_cases hq : q < fl.length
    · by_cases e : b = q
      · subst e
        rw [if_pos rfl, if_pos (by simp; omega)]
        simp [List.getElem?_range, hq, fval, hr, upT]
      · rw [if_neg e]
        simp only [List.getElem?_map, List.getElem?_range hq, Option.map_some, fval, upT]
        have e2 : ¬ q = b := fun z => e z.symm
        simp only [e2, and_false, if_false]
    · rw [if_neg (by omega)]
      simp [List.getElem?_range, hq]
-- end of simple arms
theorem a_iald (hc : (AMC p R s m args c cells slots own bytes nL Ts D ad cI cB A A0 H0 xs sl)) {k0 n : Nat} {j : Int} (hd : decode bytes pc = .ok (.iaload, 1)) (hn : alen k0 = some (false, n)) (hj : 0 ≤ j ∧ j < n) (k : (AMX p l e R s m args below meth c cells slots Qe nL D ad cI cB A0 H0 xs) (pc + 1) L (vI (σ k0 j.toNat) :: S) σ) : (AMX p l e R s m args below meth c cells slots Qe nL D ad cI cB A0 H0 xs) pc L (vI j :: vR k0 :: S) σ := by
  intro H locs ls vs0 τ hσ hxs hL hS0 hP hV
  obtain ⟨j, vs1, rfl, rfl, hS1⟩ := SR_I hS0
  obtain ⟨vs2, rfl, hS2⟩ := SR_R hS1
  obtain ⟨hc63, hat⟩ := arr_at (ad := ad) (cI := cI) (cB := cB) (τ := τ) hn
  refine va_iald hc.1 hc.2.1 hc.2.2.2.2.2.2.1 hP k0 0 hat rfl (vp_of hj) hd (k H locs ls _ τ hσ hxs hL (SR_i (τ k0 j.toNatClampNeg) (by rw [hσ]; rfl) hS2) hP hV)
theorem a_scr (hc : (AMC p R s m args c cells slots own bytes nL Ts D ad cI cB A A0 H0 xs sl)) {n : Nat} {j : Int} (hd : decode bytes pc = .ok (.iaload, 1)) (hn : sl = some n) (hj : 0 ≤ j ∧ j < n) (k : (AMX p l e R s m args below meth c cells slots Qe nL D ad cI cB A0 H0 xs) (pc + 1) L (vI (σ 63 j.toNat) :: S) σ) : (AMX p l e R s m args below meth c cells slots Qe nL D ad cI cB A0 H0 xs) pc L (vI j :: vR 63 :: S) σ := by
  intro H locs ls vs0 τ hσ hxs hL hS0 hP hV
  obtain ⟨j, vs1, rfl, rfl, hS1⟩ := SR_I hS0
  obtain ⟨vs2, rfl, hS2⟩ := SR_R hS1
  obtain ⟨hX, hl1, hl2, -⟩ := hc.2.2.2.2.2.2.2.2.2.1 n hn
  exact va_sld hc.1 hc.2.1 hX hl1 hl2 hV (vp_of hj) hd (k H locs ls _ τ hσ hxs hL (SR_i (xs j.toNatClampNeg) (by rw [hσ, ← hxs]; rfl) hS2) hP hV)
theorem a_zald (hc : (AMC p R s m args c cells slots own bytes nL Ts D ad cI cB A A0 H0 xs sl)) {k0 n : Nat} {j : Int} (hd : decode bytes pc = .ok (.baload, 1)) (hn : alen k0 = some (true, n)) (hj : 0 ≤ j ∧ j < n) (k : (AMX p l e R s m args below meth c cells slots Qe nL D ad cI cB A0 H0 xs) (pc + 1) L (vI (σ k0 j.toNat) :: S) σ) : (AMX p l e R s m args below meth c cells slots Qe nL D ad cI cB A0 H0 xs) pc L (vI j :: vR k0 :: S) σ := by
  intro H locs ls vs0 τ hσ hxs hL hS0 hP hV
  obtain ⟨j, vs1, rfl, rfl, hS1⟩ := SR_I hS0
  obtain ⟨vs2, rfl, hS2⟩ := SR_R hS1
  obtain ⟨hc63, hat⟩ := arr_at (ad := ad) (cI := cI) (cB := cB) (τ := τ) hn
  refine va_zald hc.1 hc.2.1 hc.2.2.2.2.2.2.1 hP k0 1 hat rfl (vp_of hj) hd (k H locs ls _ τ hσ hxs hL (SR_i (τ k0 j.toNatClampNeg) (by rw [hσ]; rfl) hS2) hP hV)
theorem a_iast (hc : (AMC p R s m args c cells slots own bytes nL Ts D ad cI cB A A0 H0 xs sl)) {k0 n : Nat} {j v : Int} (hd : decode bytes pc = .ok (.iastore, 1)) (hn : alen k0 = some (false, n)) (hj : 0 ≤ j ∧ j < n) (k : (AMX p l e R s m args below meth c cells slots Qe nL D ad cI cB A0 H0 xs) (pc + 1) L S (sup σ k0 j.toNat v)) : (AMX p l e R s m args below meth c cells slots Qe nL D ad cI cB A0 H0 xs) pc L (vI v :: vI j :: vR k0 :: S) σ := by
  intro H locs ls vs0 τ hσ hxs hL hS0 hP hV
  obtain ⟨x, vs1, rfl, rfl, hS1⟩ := SR_I hS0
  obtain ⟨j, vs2, rfl, rfl, hS2⟩ := SR_I hS1
  obtain ⟨vs3, rfl, hS3⟩ := SR_R hS2
  obtain ⟨hc63, hat⟩ := arr_at (ad := ad) (cI := cI) (cB := cB) (τ := τ) hn
  refine va_iast hc.1 hc.2.1 hc.2.2.2.2.2.2.1 hP (hc.2.2.2.2.2.2.2.1 τ) hV k0 0 hat rfl (vp_of hj) hd (fun H1 locs1 hP1 _ hV1 => ?_)
  refine k H1 locs1 ls _ (upT τ k0 j.toNatClampNeg x) (by rw [hσ]; exact toI_up τ k0 j.toNatClampNeg x) (by rw [upT_ne (by omega)]; exact hxs) hL hS3 ?_ hV1
  rw [← wsf_up hc63 (E := .inl (cond false cB cI, n, .inl (upd (τ k0) j.toNatClampNeg x)))]
  · exact hP1
  · exact arr_up hn
theorem a_zast (hc : (AMC p R s m args c cells slots own bytes nL Ts D ad cI cB A A0 H0 xs sl)) {k0 n : Nat} {j v : Int} (hd : decode bytes pc = .ok (.bastore, 1)) (hn : alen k0 = some (true, n)) (hj : 0 ≤ j ∧ j < n) (hb : v = 0 ∨ v = 1) (k : (AMX p l e R s m args below meth c cells slots Qe nL D ad cI cB A0 H0 xs) (pc + 1) L S (sup σ k0 j.toNat v)) : (AMX p l e R s m args below meth c cells slots Qe nL D ad cI cB A0 H0 xs) pc L (vI v :: vI j :: vR k0 :: S) σ := by
  intro H locs ls vs0 τ hσ hxs hL hS0 hP hV
  obtain ⟨x, vs1, rfl, rfl, hS1⟩ := SR_I hS0
  obtain ⟨j, vs2, rfl, rfl, hS2⟩ := SR_I hS1
  obtain ⟨vs3, rfl, hS3⟩ := SR_R hS2
  obtain ⟨hc63, hat⟩ := arr_at (ad := ad) (cI := cI) (cB := cB) (τ := τ) hn
  have hnar : vp_nar .boolean x = x := by
    rcases hb with h | h
    · rw [show x = 0 from Int32.toInt_inj.mp h]; decide +kernel
    · rw [show x = 1 from Int32.toInt_inj.mp h]; decide +kernel
  refine va_zast hc.1 hc.2.1 hc.2.2.2.2.2.2.1 hP (hc.2.2.2.2.2.2.2.1 τ) hV k0 1 hat rfl (vp_of hj) hd (fun H1 locs1 hP1 _ hV1 => ?_)
  rw [hnar] at hP1
  refine k H1 locs1 ls _ (upT τ k0 j.toNatClampNeg x) (by rw [hσ]; exact toI_up τ k0 j.toNatClampNeg x) (by rw [upT_ne (by omega)]; exact hxs) hL hS3 ?_ hV1
  rw [← wsf_up hc63 (E := .inl (cond true cB cI, n, .inl (upd (τ k0) j.toNatClampNeg x)))]
  · exact hP1
  · exact arr_up hn
theorem a_alen (hc : (AMC p R s m args c cells slots own bytes nL Ts D ad cI cB A A0 H0 xs sl)) {k0 n : Nat} {bo : Bool} (hd : decode bytes pc = .ok (.arraylength, 1)) (hn : alen k0 = some (bo, n)) (k : (AMX p l e R s m args below meth c cells slots Qe nL D ad cI cB A0 H0 xs) (pc + 1) L (vI (Int.ofNat n) :: S) σ) : (AMX p l e R s m args below meth c cells slots Qe nL D ad cI cB A0 H0 xs) pc L (vR k0 :: S) σ := by
  intro H locs ls vs0 τ hσ hxs hL hS0 hP hV
  obtain ⟨vs1, rfl, hS1⟩ := SR_R hS0
  obtain ⟨hc63, hat⟩ := arr_at (ad := ad) (cI := cI) (cB := cB) (τ := τ) hn
  have hn2 := alen_small hn
  cases bo with
  | false => exact va_alen hc.1 hc.2.1 hc.2.2.2.2.2.2.1 hP k0 0 hat rfl rfl hd (k H locs ls _ τ hσ hxs hL (SR_i (Int32.ofNat n) (Int32.toInt_ofNat_of_lt (by omega)) hS1) hP hV)
  | true => exact va_alen hc.1 hc.2.1 hc.2.2.2.2.2.2.1 hP k0 1 hat rfl rfl hd (k H locs ls _ τ hσ hxs hL (SR_i (Int32.ofNat n) (Int32.toInt_ofNat_of_lt (by omega)) hS1) hP hV)
theorem a_slen (hc : (AMC p R s m args c cells slots own bytes nL Ts D ad cI cB A A0 H0 xs sl)) {n : Nat} (hd : decode bytes pc = .ok (.arraylength, 1)) (hn : sl = some n) (k : (AMX p l e R s m args below meth c cells slots Qe nL D ad cI cB A0 H0 xs) (pc + 1) L (vI (Int.ofNat n) :: S) σ) : (AMX p l e R s m args below meth c cells slots Qe nL D ad cI cB A0 H0 xs) pc L (vR 63 :: S) σ := by
  intro H locs ls vs0 τ hσ hxs hL hS0 hP hV
  obtain ⟨vs1, rfl, hS1⟩ := SR_R hS0
  obtain ⟨hX, hl1, hl2, hle⟩ := hc.2.2.2.2.2.2.2.2.2.1 n hn
  exact va_slen hc.1 hc.2.1 hX hl1 hl2 hV hd (k H locs ls _ τ hσ hxs hL (SR_i (Int32.ofNat n) (Int32.toInt_ofNat_of_lt (by omega)) hS1) hP hV)
theorem a_max (hc : (AMC p R s m args c cells slots own bytes nL Ts D ad cI cB A A0 H0 xs sl)) {x0 : Nat} {x y : Int} (hd : decode bytes pc = .ok (.invokestatic x0, 3)) (hw : Cond.methodLink own x0 (yOf 1) ∈ lw_g) (hlen : S.length ≤ 4) (k : (AMX p l e R s m args below meth c cells slots Qe nL D ad cI cB A0 H0 xs) (pc + 3) L (vI (max x y) :: S) σ) : (AMX p l e R s m args below meth c cells slots Qe nL D ad cI cB A0 H0 xs) pc L (vI y :: vI x :: S) σ := by
  intro H locs ls vs0 τ hσ hxs hL hS0 hP hV
  obtain ⟨y, vs1, rfl, rfl, hS1⟩ := SR_I hS0
  obtain ⟨x, vs2, rfl, rfl, hS2⟩ := SR_I hS1
  have hcat := cat_le vs2
  have hl2 := SR_len hS2
  obtain ⟨g1, g2, g3⟩ := mathW 1 (by omega)
  have T : ∀ w ∈ lw_g, w.before args s = true := fun w h => hc.2.2.2.2.1 w (hc.2.2.2.2.2.1 w h)
  exact va_mmax hc.1 hc.2.1 (hc.2.2.1.trans (LR_size hL).symm) hc.2.2.2.1 (T _ hw) (T _ g3) (T _ g2) (T _ g1) hc.2.2.2.2.2.2.2.2.2.2.2.2.1 (by have := hc.2.2.2.2.2.2.2.2.2.2.2.2.2; omega) hc.2.2.2.2.2.2.2.2.2.2.1 hc.2.2.2.2.2.2.2.2.2.2.2.1 hd (k H locs ls _ τ hσ hxs hL (SR_i (if x < y then y else x) (if_max x y) hS2) hP hV)
theorem a_min (hc : (AMC p R s m args c cells slots own bytes nL Ts D ad cI cB A A0 H0 xs sl)) {x0 : Nat} {x y : Int} (hd : decode bytes pc = .ok (.invokestatic x0, 3)) (hw : Cond.methodLink own x0 (yOf 3) ∈ lw_g) (hlen : S.length ≤ 4) (k : (AMX p l e R s m args below meth c cells slots Qe nL D ad cI cB A0 H0 xs) (pc + 3) L (vI (min x y) :: S) σ) : (AMX p l e R s m args below meth c cells slots Qe nL D ad cI cB A0 H0 xs) pc L (vI y :: vI x :: S) σ := by
  intro H locs ls vs0 τ hσ hxs hL hS0 hP hV
  obtain ⟨y, vs1, rfl, rfl, hS1⟩ := SR_I hS0
  obtain ⟨x, vs2, rfl, rfl, hS2⟩ := SR_I hS1
  have hcat := cat_le vs2
  have hl2 := SR_len hS2
  obtain ⟨g1, g2, g3⟩ := mathW 3 (by omega)
  have T : ∀ w ∈ lw_g, w.before args s = true := fun w h => hc.2.2.2.2.1 w (hc.2.2.2.2.2.1 w h)
  exact va_mmin hc.1 hc.2.1 (hc.2.2.1.trans (LR_size hL).symm) hc.2.2.2.1 (T _ hw) (T _ g3) (T _ g2) (T _ g1) hc.2.2.2.2.2.2.2.2.2.2.2.2.1 (by have := hc.2.2.2.2.2.2.2.2.2.2.2.2.2; omega) hc.2.2.2.2.2.2.2.2.2.2.1 hc.2.2.2.2.2.2.2.2.2.2.2.1 hd (k H locs ls _ τ hσ hxs hL (SR_i (if y < x then y else x) (if_min x y) hS2) hP hV)
theorem a_maxL (hc : (AMC p R s m args c cells slots own bytes nL Ts D ad cI cB A A0 H0 xs sl)) {x0 : Nat} {x y : Int} (hd : decode bytes pc = .ok (.invokestatic x0, 3)) (hw : Cond.methodLink own x0 (yOf 2) ∈ lw_g) (hlen : S.length ≤ 4) (k : (AMX p l e R s m args below meth c cells slots Qe nL D ad cI cB A0 H0 xs) (pc + 3) L (vL (max x y) :: S) σ) : (AMX p l e R s m args below meth c cells slots Qe nL D ad cI cB A0 H0 xs) pc L (vL y :: vL x :: S) σ := by
  intro H locs ls vs0 τ hσ hxs hL hS0 hP hV
  obtain ⟨y, vs1, rfl, rfl, hS1⟩ := SR_L hS0
  obtain ⟨x, vs2, rfl, rfl, hS2⟩ := SR_L hS1
  have hcat := cat_le vs2
  have hl2 := SR_len hS2
  obtain ⟨g1, g2, g3⟩ := mathW 2 (by omega)
  have T : ∀ w ∈ lw_g, w.before args s = true := fun w h => hc.2.2.2.2.1 w (hc.2.2.2.2.2.1 w h)
  exact va_mmax_long hc.1 hc.2.1 (hc.2.2.1.trans (LR_size hL).symm) hc.2.2.2.1 (T _ hw) (T _ g3) (T _ g2) (T _ g1) hc.2.2.2.2.2.2.2.2.2.2.2.2.1 (by have := hc.2.2.2.2.2.2.2.2.2.2.2.2.2; omega) hc.2.2.2.2.2.2.2.2.2.2.1 hc.2.2.2.2.2.2.2.2.2.2.2.1 hd (k H locs ls _ τ hσ hxs hL (SR_l (if y < x then x else y) (if_maxL x y) hS2) hP hV)
end AMs
end
section
/-! Calls, ends, and the whole: what the small machine says of a method is the method's contract. -/
def RI (bytes : ByteArray) (ret : Option FieldType) (pc : Nat) (rv : Option Value) : Prop :=
  (decode bytes pc = .ok (.ireturn, 1) ∧ ∃ x : Int32, rv = some (.int x) ∧ (ret = some .int ∨ (ret = some .boolean ∧ (x = 0 ∨ x = 1)))) ∨ (decode bytes pc = .ok (.lreturn, 1) ∧ ∃ x : Int64, rv = some (.long x) ∧ ret = some .long) ∨ (decode bytes pc = .ok (.areturn, 1) ∧ ∃ k : Nat, rv = some (.ref k) ∧ ret = some (.object "CorkageOnRemarks$Evening")) ∨ (decode bytes pc = .ok (.return_, 1) ∧ rv = none ∧ ret = none)
def AMR (p : Program) (l : Launch) (e : Env) (R : Room) (s : State) (m : MethodId) (args : Array Value) (below : List Frame) (meth : Method) (c : Code) (cells slots : Nat) (Qe : State → Prop) (bytes : ByteArray) (ret : Option FieldType) (D : va_G) (ad : Nat → Nat) (cI cB : ClassId) (A0 : Nat → Prop) (H0 : Heap) (xs : Nat → Int32) (Q : PQ) : Prop :=
  ∀ (pc : Nat) (H : Heap) (locs : List Loc) (ls : Array Slot) (τ : Nat → Nat → Int32) (r : Option AV) (rv : Option Value), Q r (toI τ) → OR ad r rv → τ 63 = xs → va_P D cls9 (wsf ad cI cB τ) H → va_S A0 H0 H locs → RI bytes ret pc rv → W p l e R s m args below meth c H locs cells slots Qe (F0 m pc ls rv.toList)
def rmD (d : Nat) : Room := { frames := d, cells := 0, slots := 0, locals := 34 * d }
theorem PU_blind {D : va_G} {ad : Nat → Nat} {cI cB : ClassId} {τ : Nat → Nat → Int32} {avs : List Value} : FrameBlind (va_Pc avs (PU D ad cI cB τ)) := by
  intro a U g mk ⟨h1, h2, h3, h4⟩
  exact ⟨h1, h2, va_K.moved (u := U) (U := U.calling g mk a) (Vm.Alike.refl U.vm) h3, fun o x y h hw => va_Nw.same rfl (u := U) (U := U.calling g mk a) rfl (h4 o x y h hw)⟩
theorem cof_lt (c : Nat) : cof c < 7 ∨ cof c = 99 := by
  unfold cof
  split
  · rename_i ci fl hx
    have h1 := shOk_all c (sh_lt hx)
    unfold shOk at h1
    rw [hx] at h1
    simp only [Bool.and_eq_true] at h1
    exact Or.inl (by have := h1.1; simp only [Nat.blt, Nat.ble_eq] at this; omega)
  · exact Or.inr rfl
def cnOk (a : Nat) : Bool := Nat.blt (clsNo a) 99 && (!(Nat.blt (clsNo a) 7) || decide ((fldT (clsNo a)).1 = (yOf a).cls))
theorem cnOk_all : ∀ a, a < 192 → cnOk a = true := by decide +kernel
theorem okM_facts {a : Nat} (ha : a < 192) : Cond.code (yOf a) (bOf a) (maxOf a) (retOf a) ∈ lw_g ∧ Cond.initialized (yOf a).cls ∈ lw_g ∧ ((yOf a).cls ≠ "java/lang/invoke/MethodHandle" ∧ (yOf a).cls ≠ "java/lang/invoke/VarHandle" ∧ (parseMethodDescriptor (yOf a).desc).map (fun d => d.parameters.length) = some (argN a)) ∧ maxOf a ≤ 15 ∧ (stOf a = 1 → Cond.static (yOf a) ∈ lw_g) ∧ (stOf a ≠ 1 → Cond.instanceMethod (yOf a) ∈ lw_g ∧ Cond.selects (yOf a).cls (yOf a) (yOf a) ∈ lw_g) ∧ (a = 1 ∨ a = 2 ∨ a = 3 ∨ plainName (yOf a).cls = true) := by
  have h := okM_all a ha
  unfold okM at h
  simp only [Bool.and_eq_true, decide_eq_true_eq] at h
  obtain ⟨⟨⟨⟨⟨h1, h2⟩, h3⟩, h4⟩, h5⟩, h6⟩ := h
  refine ⟨g_tab h1 rfl, g_tab h2 rfl, h4, Nat.le_of_ble_eq_true h5, fun hs => ?_, fun hs => ?_, ?_⟩
  · have hs : (rc a).2.2.2.2.1 = 1 := hs
    rw [hs] at h6
    simp only [decide_eq_true_eq] at h6
    exact g_tab h6 rfl
  · have hs : (rc a).2.2.2.2.1 ≠ 1 := hs
    split at h6
    · rename_i hx; exact absurd hx hs
    · simp only [Bool.and_eq_true, decide_eq_true_eq] at h6
      refine ⟨g_tab h6.1 rfl, g_mem (List.mem_append_left _ ?_) rfl⟩
      obtain ⟨q, hq, he⟩ := List.mem_map.mp (List.mem_of_getElem? h6.2)
      exact List.mem_map.mpr ⟨q, hq, by rw [he]; rfl⟩
    · simp only [Bool.and_eq_true, decide_eq_true_eq] at h6
      exact ⟨g_tab h6.1 rfl, g_tab h6.2 rfl⟩
  · simp only [Bool.or_eq_true, decide_eq_true_eq] at h3
    rcases h3 with ((h | h) | h) | h
    · exact Or.inl (Nat.eq_of_beq_eq_true h)
    · exact Or.inr (Or.inl (Nat.eq_of_beq_eq_true h))
    · exact Or.inr (Or.inr (Or.inl (Nat.eq_of_beq_eq_true h)))
    · exact Or.inr (Or.inr (Or.inr h))
theorem wm_sub {a : Nat} (ha : a < 192) : ∀ w ∈ wmO a, w ∈ lw_g := fun w hw => by
  rcases List.mem_cons.mp hw with rfl | h
  · exact (okM_facts ha).1
  · exact h
theorem mathN (j : Nat) (hj : j = 1 ∨ j = 2 ∨ j = 3) {o : String} {x pos : Nat} : ¬ tables_1[pos]? = some (Cond.methodLinkNest o x (yOf j) "CorkageOnRemarks") := by
  intro h
  have hm := List.mem_of_getElem? h
  have key : tables_1.all (fun w => match w with
    | .methodLinkNest _ _ y _ => decide (y ≠ yOf 1 ∧ y ≠ yOf 2 ∧ y ≠ yOf 3)
    | _ => true) = true := by decide +kernel
  have := List.all_eq_true.mp key _ hm
  simp only [decide_eq_true_eq] at this
  rcases hj with rfl | rfl | rfl
  · exact this.1 rfl
  · exact this.2.1 rfl
  · exact this.2.2 rfl
section AMt
variable {p : Program} {l : Launch} {e : Env} {R : Room} {s : State} {m : MethodId} {args : Array Value} {below : List Frame} {meth : Method} {c : Code} {cells slots : Nat} {Qe : State → Prop} {own : String} {bytes : ByteArray} {nL : Nat} {Ts : List Cond} {D : va_G} {ad : Nat → Nat} {cI cB : ClassId} {A A0 : Nat → Prop} {H0 : Heap} {xs : Nat → Int32} {sl : Option Nat}
variable {pc : Nat} {L : Lo} {S : List AV} {σ : Sto}
theorem after_run {H : Heap} {locs : List Loc} {ls : Array Slot} {st0 rest : List Value} {Q' : PQ} {aa : Array Value} (hr : va_Run p l e R s m args below meth c H locs cells slots 0 0 (F0 m pc ls st0) rest (QR D ad cI cB A xs Q' aa) A) (hV : va_S A0 H0 H locs) (hAA : ∀ q, A q → A0 q)
    (kk : ∀ (r : Option AV) (rv : Option Value) (τ' : Nat → Nat → Int32) (H1 : Heap) (locs1 : List Loc), OR ad r rv → Q' r (toI τ') → τ' 63 = xs → va_P D cls9 (wsf ad cI cB τ') H1 → va_S A0 H0 H1 locs1 → W p l e R s m args below meth c H1 locs1 cells slots Qe (F0 m (pc + 3) ls (rv.toList ++ rest))) : W p l e R s m args below meth c H locs cells slots Qe (F0 m pc ls st0) := by
  intro T hT X
  obtain ⟨v, st₀, t, T', L, h0, X', hL, e1, e2, ⟨⟨r, rv, τ', hv, hor, hq, hx, hp⟩, hz, hk⟩, st⟩ := hr T hT X
  cases hv
  rw [h0] at hz hk
  obtain ⟨t2, a1, b1⟩ := kk r v τ' T'.heap (locs ++ L) hor hq hx (by rw [e1]; exact hp) ⟨Nat.le_trans hV.1 (by rw [e1]; exact hz), fun q h1 h2 => by rw [e1, hk q (Nat.lt_of_lt_of_le h1 hV.1) (fun z => h2 (hAA q z))]; exact hV.2.1 q h1 h2, fun q hq => by
    rcases List.mem_append.mp hq with h | h
    · exact hV.2.2 q h
    · exact hAA _ (hL q h)⟩ T' rfl X'
  exact ⟨t2, st t2 a1, b1⟩
theorem SR_psh {r : Option AV} {rv : Option Value} {vs : List Value} (ho : OR ad r rv) (h : SR ad S vs) : SR ad (psh r S) (rv.toList ++ vs) := by
  match r, rv, ho with
  | none, none, _ => exact h
  | some v, some w, ho => exact ⟨w, vs, rfl, ho, h⟩
theorem a_invV (hc : (AMC p R s m args c cells slots own bytes nL Ts D ad cI cB A A0 H0 xs sl)) {x a b k0 : Nat} {rm : Room} (hd : decode bytes pc = .ok (.invokevirtual x, 3)) (ha : a < 192) (hb : b = argN a) (hst : stOf a ≠ 1) (hw : Cond.methodLink own x (yOf a) ∈ lw_g) (hrm : rm.cells = 0 ∧ rm.slots = 0 ∧ rm.frames + 1 ≤ R.frames ∧ 34 + rm.locals ≤ R.locals)
    (hM : ∀ avs τ, SR ad (vR k0 :: (S.take b).reverse) avs → σ = toI τ → τ 63 = xs → Met l (yOf a) (wmO a) rm (va_Pc avs (PU D ad cI cB τ)) (QR D ad cI cB A xs (fun r σ' => (AMX p l e R s m args below meth c cells slots Qe nL D ad cI cB A0 H0 xs) (pc + 3) L (psh r (S.drop (b + 1))) σ')) 0 0 A)
    (hk : nth S b = some (.inr (.inl k0))) (hlen : S.length ≤ b + 5) (hcl : cof k0 = clsNo a) : (AMX p l e R s m args below meth c cells slots Qe nL D ad cI cB A0 H0 xs) pc L S σ := by
  intro H locs ls vs τ hσ hxs hL hS hP hV
  have hdrop := SR_nth b hS hk
  obtain ⟨hS1, hS2⟩ := SR_split b hS
  have hS3 := (SR_split (b + 1) hS).2
  have hlv := SR_len hS
  have hbl := nth_lt hk
  obtain ⟨g1, g2, g3, g4, -, g6, -⟩ := okM_facts ha
  obtain ⟨g7, g8⟩ := g6 hst
  have hcn := cnOk_all a ha
  unfold cnOk at hcn
  simp only [Bool.and_eq_true, Bool.or_eq_true, Bool.not_eq_true', decide_eq_true_eq] at hcn
  have hlt : clsNo a < 7 := by
    rcases cof_lt k0 with h | h
    · omega
    · have := hcn.1
      simp only [Nat.blt, Nat.ble_eq] at this
      omega
  have hname : (fldT (clsNo a)).1 = (yOf a).cls := by
    rcases hcn.2 with h | h
    · exfalso
      have h2 : Nat.blt (clsNo a) 7 = true := by simp only [Nat.blt, Nat.ble_eq]; omega
      rw [h2] at h; cases h
    · exact h
  obtain ⟨fl, hfl⟩ := cof_sh hcl hlt
  have hc63 := sh_lt hfl
  have hat : (wsf ad cI cB τ)[k0]? = some (ad k0, .inr (clsNo a, (List.range fl.length).map fun k => fval ad τ k0 k)) := by rw [wsf_at hc63]; simp only [celO, hfl]
  have hrecv := va_recv hc.2.2.2.2.2.2.1 hP (cls9_get hlt) hat
  rw [hname] at hrecv
  have hargs : SR ad (vR k0 :: (S.take b).reverse) (.ref (ad k0) :: (vs.take b).reverse) := SR_r (SR_rev hS1)
  have hMM := hM _ τ hargs hσ hxs
  have hts := hc.2.2.2.2.1
  have hsub := hc.2.2.2.2.2.1
  have hg : GoodIn Ts (wsV own x (yOf a).cls (yOf a) (wmO a)) := good_sub hsub (fun w h => by
    unfold wsV at h
    rcases List.mem_append.mp h with h | h
    · simp only [List.mem_cons, List.not_mem_nil, or_false] at h
      rcases h with rfl | rfl | rfl | rfl
      · exact hw
      · exact g7
      · exact g8
      · exact g2
    · exact wm_sub ha w h)
  refine after_run (va_runV (As := (vs.take b).reverse) (rest := vs.drop (b + 1)) ⟨hc.1, hc.2.1, hc.2.2.1, hc.2.2.2.1, hts⟩ hMM (cwV b hts hg rfl hrm.1 hrm.2.1 ⟨rfl, g3.1, g3.2.1, by rw [hb]; exact g3.2.2⟩ ⟨hrm.2.2.1, by omega⟩)
    ⟨PU_blind, hrecv, fun U hU hW => ⟨rfl, by rw [hU]; exact hP, va_K.moved hW.alike hc.2.2.2.2.2.2.1, fun o y z h hz => va_Nw.warmM hW (hc.2.2.2.2.2.2.2.2.1.2 o y z h hz)⟩⟩ rfl (by rw [List.length_reverse, List.length_take]; omega) (LR_size hL) ?_ (lv_room (Nat.le_trans (cat_le _) (by rw [List.length_drop]; omega))) hd ⟨hc.2.2.2.2.2.2.2.2.2.2.1, hc.2.2.2.2.2.2.2.2.2.2.2.1⟩) hV hc.2.2.2.2.2.2.2.2.1.1 ?_
  · show vs = _
    rw [List.reverse_reverse, ← hdrop, List.take_append_drop]
  · intro r rv τ' H1 locs1 hor hq hx hp hv'
    exact hq H1 locs1 ls _ τ' rfl hx hL (SR_psh hor hS3) hp hv'
theorem a_invS (hc : (AMC p R s m args c cells slots own bytes nL Ts D ad cI cB A A0 H0 xs sl)) {x a b : Nat} {rm : Room} (hd : decode bytes pc = .ok (.invokestatic x, 3)) (ha : a < 192) (hb : b = argN a) (hst : stOf a = 1) (hw : Cond.methodLink own x (yOf a) ∈ lw_g ∨ Cond.methodLinkNest own x (yOf a) "CorkageOnRemarks" ∈ lw_tbl) (hrm : rm.cells = 0 ∧ rm.slots = 0 ∧ rm.frames + 1 ≤ R.frames ∧ 34 + rm.locals ≤ R.locals)
    (hM : ∀ avs τ, SR ad ((S.take b).reverse) avs → σ = toI τ → τ 63 = xs → Met l (yOf a) (wmO a) rm (va_Pc avs (PU D ad cI cB τ)) (QR D ad cI cB A xs (fun r σ' => (AMX p l e R s m args below meth c cells slots Qe nL D ad cI cB A0 H0 xs) (pc + 3) L (psh r (S.drop b)) σ')) 0 0 A)
    (hbl : b ≤ S.length) (hlen : S.length ≤ b + 4) : (AMX p l e R s m args below meth c cells slots Qe nL D ad cI cB A0 H0 xs) pc L S σ := by
  intro H locs ls vs τ hσ hxs hL hS hP hV
  obtain ⟨hS1, hS2⟩ := SR_split b hS
  have hlv := SR_len hS
  obtain ⟨g1, g2, g3, g4, g5, -, -⟩ := okM_facts ha
  have g7 := g5 hst
  have hMM := hM _ τ (SR_rev hS1) hσ hxs
  have hts := hc.2.2.2.2.1
  have hsub := hc.2.2.2.2.2.1
  have pre : PreS s H (va_Pc (vs.take b).reverse (PU D ad cI cB τ)) (vs.take b).reverse := ⟨PU_blind, fun U hU hW => ⟨rfl, by rw [hU]; exact hP, va_K.moved hW.alike hc.2.2.2.2.2.2.1, fun o y z h hz => va_Nw.warmM hW (hc.2.2.2.2.2.2.2.2.1.2 o y z h hz)⟩⟩
  have hstk : vs = (vs.take b).reverse.reverse ++ vs.drop b := by rw [List.reverse_reverse, List.take_append_drop]
  have fin : ∀ (r : Option AV) (rv : Option Value) (τ' : Nat → Nat → Int32) (H1 : Heap) (locs1 : List Loc), OR ad r rv → (AMX p l e R s m args below meth c cells slots Qe nL D ad cI cB A0 H0 xs) (pc + 3) L (psh r (S.drop b)) (toI τ') → τ' 63 = xs → va_P D cls9 (wsf ad cI cB τ') H1 → va_S A0 H0 H1 locs1 → W p l e R s m args below meth c H1 locs1 cells slots Qe (F0 m (pc + 3) ls (rv.toList ++ vs.drop b)) := by
    intro r rv τ' H1 locs1 hor hq hx hp hv'
    exact hq H1 locs1 ls _ τ' rfl hx hL (SR_psh hor hS2) hp hv'
  have hroom : 2 * (F0 m pc ls vs).monitorRoom + ((vs.drop b).map fun v => v.category).sum ≤ 8 := lv_room (Nat.le_trans (cat_le _) (by rw [List.length_drop]; omega))
  have hdd : (yOf a).cls ≠ "java/lang/invoke/MethodHandle" ∧ (yOf a).cls ≠ "java/lang/invoke/VarHandle" ∧ (parseMethodDescriptor (yOf a).desc).map (fun d => d.parameters.length) = some b := ⟨g3.1, g3.2.1, by rw [hb]; exact g3.2.2⟩
  have hn : (vs.take b).reverse.length = b := by rw [List.length_reverse, List.length_take]; omega
  rcases hw with hw | hw
  · have hg : GoodIn Ts (va_wsS own x (yOf a) (wmO a)) := good_sub hsub (fun w h => by
      unfold va_wsS at h
      rcases List.mem_append.mp h with h | h
      · simp only [List.mem_cons, List.not_mem_nil, or_false] at h
        rcases h with rfl | rfl | rfl
        · exact hw
        · exact g7
        · exact g2
      · exact wm_sub ha w h)
    exact after_run (va_runS (As := (vs.take b).reverse) (rest := vs.drop b) ⟨hc.1, hc.2.1, hc.2.2.1, hc.2.2.2.1, hts⟩ hMM (va_cwS b hts hg rfl hrm.1 hrm.2.1 hdd ⟨hrm.2.2.1, by omega⟩) pre rfl hn (LR_size hL) hstk hroom hd ⟨hc.2.2.2.2.2.2.2.2.2.2.1, hc.2.2.2.2.2.2.2.2.2.2.2.1⟩) hV hc.2.2.2.2.2.2.2.2.1.1 fin
  · have hg : GoodIn Ts (wmO a) := good_sub hsub (wm_sub ha)
    exact after_run (va_runSN (As := (vs.take b).reverse) (rest := vs.drop b) ⟨hc.1, hc.2.1, hc.2.2.1, hc.2.2.2.1, hts⟩ hMM ⟨va_cnB b hts hg rfl hrm.1 hrm.2.1 (hc.2.2.2.2.2.2.2.2.1.2 _ _ _ _ hw) (hts _ (hsub _ g2)) hdd ⟨hrm.2.2.1, by omega⟩, hts _ (hsub _ g7), trivial⟩ pre rfl hn (LR_size hL) hstk hroom hd ⟨hc.2.2.2.2.2.2.2.2.2.2.1, hc.2.2.2.2.2.2.2.2.2.2.2.1⟩) hV hc.2.2.2.2.2.2.2.2.1.1 fin
theorem p1_s {S : List AV} {k : Int → List AV → Prop} (h : p1I S k) : ∃ x st, S = vI x :: st ∧ k x st := by
  unfold p1I at h
  split at h
  · exact ⟨_, _, rfl, h⟩
  · exact h.elim
theorem p2_s {S : List AV} {k : Int → Int → List AV → Prop} (h : p2I S k) : ∃ x y st, S = vI y :: vI x :: st ∧ k x y st := by
  unfold p2I at h
  split at h
  · exact ⟨_, _, _, rfl, h⟩
  · exact h.elim
theorem p2l_s {S : List AV} {k : Int → Int → List AV → Prop} (h : p2L S k) : ∃ x y st, S = vL y :: vL x :: st ∧ k x y st := by
  unfold p2L at h
  split at h
  · exact ⟨_, _, _, rfl, h⟩
  · exact h.elim
theorem ldI_s {L : Lo} {i : Nat} {k : Int → Prop} (h : ldI L i k) : ∃ v, nth L i = some (some (vI v)) ∧ k v := by
  unfold ldI at h
  split at h
  · rename_i n hn; exact ⟨n, hn, h⟩
  · exact h.elim
theorem ldR_s {L : Lo} {i : Nat} {k : Nat → Prop} (h : ldR L i k) : ∃ v, nth L i = some (some (vR v)) ∧ k v := by
  unfold ldR at h
  split at h
  · rename_i n hn; exact ⟨n, hn, h⟩
  · exact h.elim
theorem ldL_s {L : Lo} {i : Nat} {k : Int → Prop} (h : ldL L i k) : ∃ v, nth L i = some (some (vL v)) ∧ k v := by
  unfold ldL at h
  split at h
  · rename_i n hn; exact ⟨n, hn, h⟩
  · exact h.elim
theorem cond_s {b : Bool} {P : Prop} (h : cond b P False) : b = true ∧ P := by
  cases b with
  | true => exact ⟨rfl, h⟩
  | false => exact h.elim
theorem blt_s {a b : Nat} (h : Nat.blt a b = true) : a < b := by
  simp only [Nat.blt, Nat.ble_eq] at h; omega
theorem ln_s {a b : Nat} (h : Nat.beq a b = true) : a = b := Nat.eq_of_beq_eq_true h
theorem alS_s {sl : Option Nat} {c n : Nat} {bo : Bool} (h : alenS sl c = some (bo, n)) : (c = 63 ∧ sl = some n ∧ bo = false) ∨ (c ≠ 63 ∧ alen c = some (bo, n)) := by
  unfold alenS at h
  cases hc : Nat.beq c 63 with
  | true =>
    rw [hc] at h
    simp only [cond_true] at h
    split at h
    · simp only [Option.some.injEq, Prod.mk.injEq] at h
      exact Or.inl ⟨ln_s hc, by rw [h.2], h.1.symm⟩
    · cases h
  | false =>
    rw [hc] at h
    exact Or.inr ⟨fun z => absurd hc (by rw [z]; decide), h⟩
set_option maxHeartbeats 4000000 in
theorem am_arm (hc : (AMC p R s m args c cells slots own bytes nL Ts D ad cI cB A A0 H0 xs sl)) {C : Nat → List AV → Sto → PQ → Prop} {rm : Room} {ret : Option FieldType} {Q : PQ} (hrm : rm.cells = 0 ∧ rm.slots = 0 ∧ rm.frames + 1 ≤ R.frames ∧ 34 + rm.locals ≤ R.locals)
    (hC : ∀ (j : Nat) (a : List AV) (σ : Sto) (Q' : PQ), j < 192 → ¬ (j = 1 ∨ j = 2 ∨ j = 3) → C j a σ Q' → ∀ avs τ, SR ad a avs → σ = toI τ → τ 63 = xs → Met l (yOf j) (wmO j) rm (va_Pc avs (PU D ad cI cB τ)) (QR D ad cI cB A xs Q') 0 0 A)
    (hR : AMR p l e R s m args below meth c cells slots Qe bytes ret D ad cI cB A0 H0 xs Q) (i : Instr) (len a b pos : Nat) (ks : List (Int × Nat)) (hd : decode bytes pc = .ok (i, len)) (hl : lenOk i len = true) (hr : resOk own ret pc i a b pos ks = true)
    (h : arm clsNo C sl (AMX p l e R s m args below meth c cells slots Qe nL D ad cI cB A0 H0 xs) Q pc L S σ i a b ks) : (AMX p l e R s m args below meth c cells slots Qe nL D ad cI cB A0 H0 xs) pc L S σ := by
  cases i
  case iconst n => exact a_iconst hc (by rw [ln_s hl] at hd; exact hd) (by simpa [resOk] using hr) h
  case bipush n => exact a_bipush hc (by rw [ln_s hl] at hd; exact hd) (by simpa [resOk] using hr) h
  case sipush n => exact a_sipush hc (by rw [ln_s hl] at hd; exact hd) (by simpa [resOk] using hr) h
  case lconst n => exact a_lconst hc (by rw [ln_s hl] at hd; exact hd) h
  case ldc x => 
    match ks, h, hr with
    | (v, _) :: _, h, hr =>
      simp only [resOk, Bool.and_eq_true, decide_eq_true_eq] at hr
      exact a_ldc hc (by rw [ln_s hl] at hd; exact hd) (g_tab hr.1 rfl) hr.2 h
    | [], h, _ => exact h.elim
  case ldc_w x => 
    match ks, h, hr with
    | (v, _) :: _, h, hr =>
      simp only [resOk, Bool.and_eq_true, decide_eq_true_eq] at hr
      exact a_ldc_w hc (by rw [ln_s hl] at hd; exact hd) (g_tab hr.1 rfl) hr.2 h
    | [], h, _ => exact h.elim
  case ldc2_w x => 
    match ks, h, hr with
    | (v, _) :: _, h, hr =>
      simp only [resOk, Bool.and_eq_true, decide_eq_true_eq] at hr
      exact a_ldc2_w hc (by rw [ln_s hl] at hd; exact hd) (g_tab hr.1 rfl) hr.2 h
    | [], h, _ => exact h.elim
  case iload_n n => 
    obtain ⟨v, hv, h⟩ := ldI_s h
    exact a_iload_n hc (by rw [ln_s hl] at hd; exact hd) hv h
  case iload n => 
    obtain ⟨v, hv, h⟩ := ldI_s h
    exact a_iload hc (by rw [ln_s hl] at hd; exact hd) hv h
  case lload_n n => 
    obtain ⟨v, hv, h⟩ := ldL_s h
    exact a_lload_n hc (by rw [ln_s hl] at hd; exact hd) hv h
  case lload n => 
    obtain ⟨v, hv, h⟩ := ldL_s h
    exact a_lload hc (by rw [ln_s hl] at hd; exact hd) hv h
  case aload_n n => 
    obtain ⟨v, hv, h⟩ := ldR_s h
    exact a_aload_n hc (by rw [ln_s hl] at hd; exact hd) hv h
  case aload n => 
    obtain ⟨v, hv, h⟩ := ldR_s h
    exact a_aload hc (by rw [ln_s hl] at hd; exact hd) hv h
  case istore_n n => 
    obtain ⟨x, st, rfl, h⟩ := p1_s h
    obtain ⟨h1, h⟩ := cond_s h
    exact a_istore_n hc (by rw [ln_s hl] at hd; exact hd) (blt_s h1) h
  case astore_n n => 
    match S, h with
    | .inr (.inl x) :: st, h =>
      obtain ⟨h1, h⟩ := cond_s h
      exact a_astore_n hc (by rw [ln_s hl] at hd; exact hd) (blt_s h1) h
    | .inl _ :: _, h => exact h.elim
    | .inr (.inr _) :: _, h => exact h.elim
    | [], h => exact h.elim
  case lstore_n n => 
    match S, h with
    | .inr (.inr x) :: st, h =>
      obtain ⟨h1, h⟩ := cond_s h
      exact a_lstore_n hc (by rw [ln_s hl] at hd; exact hd) (blt_s h1) h
    | .inl _ :: _, h => exact h.elim
    | .inr (.inl _) :: _, h => exact h.elim
    | [], h => exact h.elim
  case istore n => 
    obtain ⟨x, st, rfl, h⟩ := p1_s h
    obtain ⟨h1, h⟩ := cond_s h
    exact a_istore hc (by rw [ln_s hl] at hd; exact hd) (blt_s h1) h
  case astore n => 
    match S, h with
    | .inr (.inl x) :: st, h =>
      obtain ⟨h1, h⟩ := cond_s h
      exact a_astore hc (by rw [ln_s hl] at hd; exact hd) (blt_s h1) h
    | .inl _ :: _, h => exact h.elim
    | .inr (.inr _) :: _, h => exact h.elim
    | [], h => exact h.elim
  case lstore n => 
    match S, h with
    | .inr (.inr x) :: st, h =>
      obtain ⟨h1, h⟩ := cond_s h
      exact a_lstore hc (by rw [ln_s hl] at hd; exact hd) (blt_s h1) h
    | .inl _ :: _, h => exact h.elim
    | .inr (.inl _) :: _, h => exact h.elim
    | [], h => exact h.elim
  case iinc n k => 
    obtain ⟨v, hv, h⟩ := ldI_s h
    exact a_iinc hc (by rw [ln_s hl] at hd; exact hd) (by simpa [resOk] using hr) hv h
  case iadd => 
    obtain ⟨x, y, st, rfl, h⟩ := p2_s h
    exact a_iadd hc (by rw [ln_s hl] at hd; exact hd) h
  case isub => 
    obtain ⟨x, y, st, rfl, h⟩ := p2_s h
    exact a_isub hc (by rw [ln_s hl] at hd; exact hd) h
  case imul => 
    obtain ⟨x, y, st, rfl, h⟩ := p2_s h
    exact a_imul hc (by rw [ln_s hl] at hd; exact hd) h
  case iand => 
    obtain ⟨x, y, st, rfl, h⟩ := p2_s h
    exact a_iand hc (by rw [ln_s hl] at hd; exact hd) h
  case ior => 
    obtain ⟨x, y, st, rfl, h⟩ := p2_s h
    exact a_ior hc (by rw [ln_s hl] at hd; exact hd) h
  case ixor => 
    obtain ⟨x, y, st, rfl, h⟩ := p2_s h
    exact a_ixor hc (by rw [ln_s hl] at hd; exact hd) h
  case ishl => 
    obtain ⟨x, y, st, rfl, h⟩ := p2_s h
    exact a_ishl hc (by rw [ln_s hl] at hd; exact hd) h
  case ishr => 
    obtain ⟨x, y, st, rfl, h⟩ := p2_s h
    exact a_ishr hc (by rw [ln_s hl] at hd; exact hd) h
  case iushr => 
    obtain ⟨x, y, st, rfl, h⟩ := p2_s h
    exact a_iushr hc (by rw [ln_s hl] at hd; exact hd) h
  case idiv => 
    obtain ⟨x, y, st, rfl, h1, h⟩ := p2_s h
    exact a_idiv hc (by rw [ln_s hl] at hd; exact hd) h1 h
  case irem => 
    obtain ⟨x, y, st, rfl, h1, h⟩ := p2_s h
    exact a_irem hc (by rw [ln_s hl] at hd; exact hd) h1 h
  case ladd => 
    obtain ⟨x, y, st, rfl, h⟩ := p2l_s h
    exact a_ladd hc (by rw [ln_s hl] at hd; exact hd) h
  case lsub => 
    obtain ⟨x, y, st, rfl, h⟩ := p2l_s h
    exact a_lsub hc (by rw [ln_s hl] at hd; exact hd) h
  case lmul => 
    obtain ⟨x, y, st, rfl, h⟩ := p2l_s h
    exact a_lmul hc (by rw [ln_s hl] at hd; exact hd) h
  case lcmp => 
    obtain ⟨x, y, st, rfl, h⟩ := p2l_s h
    exact a_lcmp hc (by rw [ln_s hl] at hd; exact hd) h
  case ldiv => 
    obtain ⟨x, y, st, rfl, h1, h⟩ := p2l_s h
    exact a_ldiv hc (by rw [ln_s hl] at hd; exact hd) h1 h
  case lrem => 
    obtain ⟨x, y, st, rfl, h1, h⟩ := p2l_s h
    exact a_lrem hc (by rw [ln_s hl] at hd; exact hd) h1 h
  case ineg => 
    obtain ⟨x, st, rfl, h⟩ := p1_s h
    exact a_ineg hc (by rw [ln_s hl] at hd; exact hd) h
  case i2l => 
    obtain ⟨x, st, rfl, h⟩ := p1_s h
    exact a_i2l hc (by rw [ln_s hl] at hd; exact hd) h
  case dup => 
    match S, h with
    | .inl x :: st, h => exact a_dupI hc (by rw [ln_s hl] at hd; exact hd) h
    | .inr (.inl x) :: st, h => exact a_dupR hc (by rw [ln_s hl] at hd; exact hd) h
    | .inr (.inr _) :: _, h => exact h.elim
    | [], h => exact h.elim
  case pop => 
    match S, h with
    | .inl x :: st, h => exact a_popI hc (by rw [ln_s hl] at hd; exact hd) h
    | .inr (.inl x) :: st, h => exact a_popR hc (by rw [ln_s hl] at hd; exact hd) h
    | .inr (.inr _) :: _, h => exact h.elim
    | [], h => exact h.elim
  case dup2 => 
    match S, h with
    | .inl x :: .inr (.inl y) :: st, h => exact a_dup2 hc (by rw [ln_s hl] at hd; exact hd) h
    | .inl _ :: .inl _ :: _, h => exact h.elim
    | .inl _ :: .inr (.inr _) :: _, h => exact h.elim
    | [.inl _], h => exact h.elim
    | .inr _ :: _, h => exact h.elim
    | [], h => exact h.elim
  case goto off => exact a_goto hc (by rw [ln_s hl] at hd; exact hd) (by simpa [resOk] using hr) h
  case ifCond cn off => 
    cases cn
    all_goals obtain ⟨x, st, rfl, h⟩ := p1_s h
    · exact a_if_eq hc (by rw [ln_s hl] at hd; exact hd) (by simpa [resOk] using hr) h
    · exact a_if_ne hc (by rw [ln_s hl] at hd; exact hd) (by simpa [resOk] using hr) h
    · exact a_if_lt hc (by rw [ln_s hl] at hd; exact hd) (by simpa [resOk] using hr) h
    · exact a_if_ge hc (by rw [ln_s hl] at hd; exact hd) (by simpa [resOk] using hr) h
    · exact a_if_gt hc (by rw [ln_s hl] at hd; exact hd) (by simpa [resOk] using hr) h
    · exact a_if_le hc (by rw [ln_s hl] at hd; exact hd) (by simpa [resOk] using hr) h
  case if_icmp cn off => 
    cases cn
    all_goals obtain ⟨x, y, st, rfl, h⟩ := p2_s h
    · exact a_icmp_eq hc (by rw [ln_s hl] at hd; exact hd) (by simpa [resOk] using hr) h
    · exact a_icmp_ne hc (by rw [ln_s hl] at hd; exact hd) (by simpa [resOk] using hr) h
    · exact a_icmp_lt hc (by rw [ln_s hl] at hd; exact hd) (by simpa [resOk] using hr) h
    · exact a_icmp_ge hc (by rw [ln_s hl] at hd; exact hd) (by simpa [resOk] using hr) h
    · exact a_icmp_gt hc (by rw [ln_s hl] at hd; exact hd) (by simpa [resOk] using hr) h
    · exact a_icmp_le hc (by rw [ln_s hl] at hd; exact hd) (by simpa [resOk] using hr) h
  case tableswitch d lo hi offs => 
    obtain ⟨x, st, rfl, h⟩ := p1_s h
    simp only [resOk, Bool.and_eq_true, decide_eq_true_eq] at hr
    exact a_table hc hd hr.1.1.1 hr.1.1.2 hr.1.2 hr.2 h
  case lookupswitch d ps => 
    obtain ⟨x, st, rfl, h⟩ := p1_s h
    simp only [resOk, Bool.and_eq_true, decide_eq_true_eq] at hr
    exact a_lookup hc hd hr.1.1 hr.1.2 hr.2 h
  case getfield x => 
    simp only [resOk, Bool.and_eq_true, decide_eq_true_eq] at hr
    match S, h with
    | .inr (.inl k0) :: st, h =>
      obtain ⟨h1, h⟩ := cond_s h
      split at h
      · rename_i k1 hk1
        exact a_getR hc (by rw [ln_s hl] at hd; exact hd) (blt_s hr.1.1) (blt_s hr.1.2) (g_tab hr.2 rfl) (ln_s h1) hk1 h
      · rename_i hk1
        exact a_getI hc (by rw [ln_s hl] at hd; exact hd) (blt_s hr.1.1) (blt_s hr.1.2) (g_tab hr.2 rfl) (ln_s h1) hk1 h
    | .inl _ :: _, h => exact h.elim
    | .inr (.inr _) :: _, h => exact h.elim
    | [], h => exact h.elim
  case putfield x => 
    simp only [resOk, Bool.and_eq_true, decide_eq_true_eq, Bool.not_eq_true'] at hr
    match S, h with
    | .inl v :: .inr (.inl k0) :: st, h =>
      obtain ⟨h1, h⟩ := cond_s h
      split at h
      · exact h.elim
      · rename_i hk1
        cases hB : isB a b with
        | true =>
          rw [hB] at h
          exact a_put hc (by rw [ln_s hl] at hd; exact hd) (blt_s hr.1.1.1.1) (blt_s hr.1.1.1.2) (g_tab hr.1.1.2 rfl) hr.1.2 hr.2 (fun _ => h.1) (ln_s h1) hk1 h.2
        | false =>
          rw [hB] at h
          exact a_put hc (by rw [ln_s hl] at hd; exact hd) (blt_s hr.1.1.1.1) (blt_s hr.1.1.1.2) (g_tab hr.1.1.2 rfl) hr.1.2 hr.2 (fun q => by rw [hB] at q; cases q) (ln_s h1) hk1 h
    | .inl _ :: .inl _ :: _, h => exact h.elim
    | .inl _ :: .inr (.inr _) :: _, h => exact h.elim
    | [.inl _], h => exact h.elim
    | .inr _ :: _, h => exact h.elim
    | [], h => exact h.elim
  case iaload => 
    match S, h with
    | .inl j :: .inr (.inl k0) :: st, h =>
      simp only [arm] at h
      split at h
      · rename_i n hn
        rcases alS_s hn with ⟨rfl, h2, -⟩ | ⟨-, h2⟩
        · exact a_scr hc (by rw [ln_s hl] at hd; exact hd) h2 h.1 h.2
        · exact a_iald hc (by rw [ln_s hl] at hd; exact hd) h2 h.1 h.2
      · exact h.elim
    | .inl _ :: .inl _ :: _, h => exact h.elim
    | .inl _ :: .inr (.inr _) :: _, h => exact h.elim
    | [.inl _], h => exact h.elim
    | .inr _ :: _, h => exact h.elim
    | [], h => exact h.elim
  case baload => 
    match S, h with
    | .inl j :: .inr (.inl k0) :: st, h =>
      simp only [arm] at h
      split at h
      · rename_i n hn
        exact a_zald hc (by rw [ln_s hl] at hd; exact hd) hn h.1 h.2
      · exact h.elim
    | .inl _ :: .inl _ :: _, h => exact h.elim
    | .inl _ :: .inr (.inr _) :: _, h => exact h.elim
    | [.inl _], h => exact h.elim
    | .inr _ :: _, h => exact h.elim
    | [], h => exact h.elim
  case iastore => 
    match S, h with
    | .inl x :: .inl j :: .inr (.inl k0) :: st, h =>
      simp only [arm] at h
      split at h
      · rename_i n hn
        exact a_iast hc (by rw [ln_s hl] at hd; exact hd) hn h.1 h.2
      · exact h.elim
    | .inl _ :: .inl _ :: .inl _ :: _, h => exact h.elim
    | .inl _ :: .inl _ :: .inr (.inr _) :: _, h => exact h.elim
    | [.inl _, .inl _], h => exact h.elim
    | .inl _ :: .inr _ :: _, h => exact h.elim
    | [.inl _], h => exact h.elim
    | .inr _ :: _, h => exact h.elim
    | [], h => exact h.elim
  case bastore => 
    match S, h with
    | .inl x :: .inl j :: .inr (.inl k0) :: st, h =>
      simp only [arm] at h
      split at h
      · rename_i n hn
        exact a_zast hc (by rw [ln_s hl] at hd; exact hd) hn h.1.1 h.1.2 h.2
      · exact h.elim
    | .inl _ :: .inl _ :: .inl _ :: _, h => exact h.elim
    | .inl _ :: .inl _ :: .inr (.inr _) :: _, h => exact h.elim
    | [.inl _, .inl _], h => exact h.elim
    | .inl _ :: .inr _ :: _, h => exact h.elim
    | [.inl _], h => exact h.elim
    | .inr _ :: _, h => exact h.elim
    | [], h => exact h.elim
  case arraylength => 
    match S, h with
    | .inr (.inl k0) :: st, h =>
      simp only [arm] at h
      split at h
      · rename_i bo n hn
        rcases alS_s hn with ⟨rfl, h2, -⟩ | ⟨-, h2⟩
        · exact a_slen hc (by rw [ln_s hl] at hd; exact hd) h2 h
        · exact a_alen hc (by rw [ln_s hl] at hd; exact hd) h2 h
      · exact h.elim
    | .inl _ :: _, h => exact h.elim
    | .inr (.inr _) :: _, h => exact h.elim
    | [], h => exact h.elim
  case invokevirtual x => 
    simp only [resOk, Bool.and_eq_true, decide_eq_true_eq, Bool.not_eq_true'] at hr
    simp only [arm] at h
    split at h
    · rename_i k0 hk0
      obtain ⟨h1, h⟩ := cond_s h
      simp only [Bool.and_eq_true] at h1
      have ha := blt_s hr.1.1.1
      have hst : stOf a ≠ 1 := fun z => by rw [z] at hr; exact absurd hr.1.2 (by decide)
      exact a_invV hc (by rw [ln_s hl] at hd; exact hd) ha (ln_s hr.1.1.2) hst (g_tab hr.2 rfl) hrm (hC a _ σ _ ha (fun z => hst (by rcases z with rfl | rfl | rfl <;> decide +kernel)) h) hk0 (Nat.le_of_ble_eq_true h1.1) (ln_s h1.2)
    · exact h.elim
  case invokestatic x => 
    simp only [resOk, Bool.and_eq_true, Bool.or_eq_true, decide_eq_true_eq] at hr
    obtain ⟨h1, h⟩ := cond_s h
    simp only [Bool.and_eq_true] at h1
    have ha := blt_s hr.1.1.1
    have hb := ln_s hr.1.1.2
    have hbl := Nat.le_of_ble_eq_true h1.1
    have hlen := Nat.le_of_ble_eq_true h1.2
    by_cases e1 : a = 1
    · subst e1
      obtain ⟨x, y, st, rfl, h⟩ := p2_s h
      have e : b = 2 := hb.trans (by decide +kernel)
      refine a_max hc (by rw [ln_s hl] at hd; exact hd) (g_tab (hr.2.resolve_right (mathN 1 (by omega))) rfl) (by simp only [List.length_cons] at hlen; omega) h
    · by_cases e2 : a = 2
      · subst e2
        obtain ⟨x, y, st, rfl, h⟩ := p2l_s h
        have e : b = 2 := hb.trans (by decide +kernel)
        refine a_maxL hc (by rw [ln_s hl] at hd; exact hd) (g_tab (hr.2.resolve_right (mathN 2 (by omega))) rfl) (by simp only [List.length_cons] at hlen; omega) h
      · by_cases e3 : a = 3
        · subst e3
          obtain ⟨x, y, st, rfl, h⟩ := p2_s h
          have e : b = 2 := hb.trans (by decide +kernel)
          refine a_min hc (by rw [ln_s hl] at hd; exact hd) (g_tab (hr.2.resolve_right (mathN 3 (by omega))) rfl) (by simp only [List.length_cons] at hlen; omega) h
        · have f : ∀ n, a ≠ n → Nat.beq a n = false := fun n hn => by
            cases hq : Nat.beq a n with
            | true => exact absurd (ln_s hq) hn
            | false => rfl
          rw [f 1 e1, f 2 e2, f 3 e3] at h
          exact a_invS hc (by rw [ln_s hl] at hd; exact hd) ha hb (ln_s hr.1.2) (hr.2.imp (fun z => g_tab z rfl) (fun z => List.mem_append_right _ (List.mem_of_getElem? z))) hrm (hC a _ σ _ ha (fun z => by omega) h) hbl hlen
  case ireturn => 
    simp only [resOk] at hr
    match S, h with
    | [.inl x], h =>
      intro H locs ls vs τ hσ hxs hL hS hP hV
      obtain ⟨y, r, rfl, rfl, hS1⟩ := SR_I hS
      rw [show r = [] from hS1]
      cases ha : Nat.beq a 1 with
      | true =>
        rw [ha] at hr
        simp only [arm, ha, cond_true] at h
        simp only [cond_true, decide_eq_true_eq] at hr
        exact hR pc H locs ls τ (some (vI y.toInt)) (some (.int y)) (by rw [hσ] at h; exact h.2) ⟨y, rfl, rfl⟩ hxs hP hV (Or.inl ⟨by rw [ln_s hl] at hd; exact hd, y, rfl, Or.inr ⟨hr, h.1.imp (fun z => Int32.toInt_inj.mp z) (fun z => Int32.toInt_inj.mp z)⟩⟩)
      | false =>
        rw [ha] at hr
        simp only [arm, ha, cond_false] at h
        simp only [cond_false, decide_eq_true_eq] at hr
        exact hR pc H locs ls τ (some (vI y.toInt)) (some (.int y)) (by rw [hσ] at h; exact h) ⟨y, rfl, rfl⟩ hxs hP hV (Or.inl ⟨by rw [ln_s hl] at hd; exact hd, y, rfl, Or.inl hr⟩)
    | .inl _ :: _ :: _, h => exact h.elim
    | .inr _ :: _, h => exact h.elim
    | [], h => exact h.elim
  case lreturn => 
    simp only [resOk, decide_eq_true_eq] at hr
    match S, h with
    | [.inr (.inr x)], h =>
      intro H locs ls vs τ hσ hxs hL hS hP hV
      obtain ⟨y, r, rfl, rfl, hS1⟩ := SR_L hS
      rw [show r = [] from hS1]
      exact hR pc H locs ls τ (some (vL y.toInt)) (some (.long y)) (by rw [hσ] at h; exact h) ⟨y, rfl, rfl⟩ hxs hP hV (Or.inr (Or.inl ⟨by rw [ln_s hl] at hd; exact hd, y, rfl, hr⟩))
    | .inr (.inr _) :: _ :: _, h => exact h.elim
    | .inr (.inl _) :: _, h => exact h.elim
    | .inl _ :: _, h => exact h.elim
    | [], h => exact h.elim
  case areturn => 
    simp only [resOk, decide_eq_true_eq] at hr
    match S, h with
    | [.inr (.inl x)], h =>
      intro H locs ls vs τ hσ hxs hL hS hP hV
      obtain ⟨r, rfl, hS1⟩ := SR_R hS
      rw [show r = [] from hS1]
      exact hR pc H locs ls τ (some (vR x)) (some (.ref (ad x))) (by rw [hσ] at h; exact h) rfl hxs hP hV (Or.inr (Or.inr (Or.inl ⟨by rw [ln_s hl] at hd; exact hd, _, rfl, hr⟩)))
    | .inr (.inl _) :: _ :: _, h => exact h.elim
    | .inr (.inr _) :: _, h => exact h.elim
    | .inl _ :: _, h => exact h.elim
    | [], h => exact h.elim
  case return_ => 
    simp only [resOk, decide_eq_true_eq] at hr
    match S, h with
    | [], h =>
      intro H locs ls vs τ hσ hxs hL hS hP hV
      rw [show vs = [] from hS]
      exact hR pc H locs ls τ none none (by rw [hσ] at h; exact h) trivial hxs hP hV (Or.inr (Or.inr (Or.inr ⟨by rw [ln_s hl] at hd; exact hd, rfl, hr⟩)))
    | _ :: _, h => exact h.elim
  all_goals exact h.elim
theorem am_step (hc : (AMC p R s m args c cells slots own bytes nL Ts D ad cI cB A A0 H0 xs sl)) {C : Nat → List AV → Sto → PQ → Prop} {rm : Room} {ret : Option FieldType} {Q : PQ} {cd : List (Nat × En)} (hrm : rm.cells = 0 ∧ rm.slots = 0 ∧ rm.frames + 1 ≤ R.frames ∧ 34 + rm.locals ≤ R.locals)
    (hC : ∀ (j : Nat) (a : List AV) (σ : Sto) (Q' : PQ), j < 192 → ¬ (j = 1 ∨ j = 2 ∨ j = 3) → C j a σ Q' → ∀ avs τ, SR ad a avs → σ = toI τ → τ 63 = xs → Met l (yOf j) (wmO j) rm (va_Pc avs (PU D ad cI cB τ)) (QR D ad cI cB A xs Q') 0 0 A)
    (hR : AMR p l e R s m args below meth c cells slots Qe bytes ret D ad cI cB A0 H0 xs Q) (hk : okC own bytes ret cd = true) : Cl clsNo C sl cd Q (AMX p l e R s m args below meth c cells slots Qe nL D ad cI cB A0 H0 xs) := by
  refine ⟨fun pc L S σ h => ?_, fun j pc L S σ h => ?_⟩
  · split at h
    · exact h.elim
    · rename_i x hx
      have hk1 := List.all_eq_true.mp hk _ (lk_mem hx)
      obtain ⟨i, len, a, b, pos, ks⟩ := x
      simp only [okE, Bool.and_eq_true, decide_eq_true_eq] at hk1
      exact am_arm hc hrm hC hR i len a b pos ks hk1.1.1 hk1.1.2 hk1.2 h
  · intro H locs ls vs τ hσ hxs hL hS hP hV
    exact h H locs ls vs τ hσ hxs (LR_none j hL) hS hP hV
end AMt
theorem ini_ge : ∀ (args : List AV) (n : Nat) {ad : Nat → Nat} {vs : List Value}, SR ad args vs → (lg_sl vs).length ≤ (iniL n args).length
  | [], n, ad, vs, h => by rw [show vs = [] from h]; simp [lg_sl]
  | (.inl v) :: t, n, ad, vs, h => by
    obtain ⟨x, r, rfl, -, h⟩ := SR_I h
    have := ini_ge t (n - 1) h
    simp only [lg_sl, List.flatMap_cons, Value.category, iniL, List.length_append, List.length_cons] at this ⊢
    simp at this ⊢; omega
  | (.inr (.inl v)) :: t, n, ad, vs, h => by
    obtain ⟨r, rfl, h'⟩ := SR_R h
    have := ini_ge t (n - 1) h'
    simp only [lg_sl, List.flatMap_cons, Value.category, iniL, List.length_append, List.length_cons] at this ⊢
    simp at this ⊢; omega
  | (.inr (.inr v)) :: t, n, ad, vs, h => by
    obtain ⟨x, r, rfl, -, h⟩ := SR_L h
    have := ini_ge t (n - 2) h
    simp only [lg_sl, List.flatMap_cons, Value.category, iniL, List.length_append, List.length_cons] at this ⊢
    simp at this ⊢; omega
theorem ini_at : ∀ (args : List AV) (n o i : Nat) {ad : Nat → Nat} {vs : List Value} {v : AV}, SR ad args vs → nth (iniL n args) i = some (some v) → ∃ w, (o + i, w) ∈ lv_args o vs ∧ VR ad v w
  | [], n, o, i, ad, vs, v, h, hi => by
    rw [iniL, nth_get] at hi
    have := List.mem_of_getElem? hi
    simp at this
  | (.inl z) :: t, n, o, i, ad, vs, v, h, hi => by
    obtain ⟨x, r, rfl, hx, h⟩ := SR_I h
    cases i with
    | zero =>
      simp only [iniL, nth, Option.some.injEq] at hi
      subst hi
      exact ⟨.int x, by simp [lv_args], x, rfl, hx⟩
    | succ i =>
      simp only [iniL, nth] at hi
      obtain ⟨w, h1, h2⟩ := ini_at t (n - 1) (o + 1) i h hi
      exact ⟨w, by simp only [lv_args, Value.category]; exact List.mem_cons_of_mem _ (by rw [show o + (i + 1) = o + 1 + i by omega]; exact h1), h2⟩
  | (.inr (.inl z)) :: t, n, o, i, ad, vs, v, h, hi => by
    obtain ⟨r, rfl, h'⟩ := SR_R h
    cases i with
    | zero =>
      simp only [iniL, nth, Option.some.injEq] at hi
      subst hi
      exact ⟨.ref (ad z), by simp [lv_args], rfl⟩
    | succ i =>
      simp only [iniL, nth] at hi
      obtain ⟨w, h1, h2⟩ := ini_at t (n - 1) (o + 1) i h' hi
      exact ⟨w, by simp only [lv_args, Value.category]; exact List.mem_cons_of_mem _ (by rw [show o + (i + 1) = o + 1 + i by omega]; exact h1), h2⟩
  | (.inr (.inr z)) :: t, n, o, i, ad, vs, v, h, hi => by
    obtain ⟨x, r, rfl, hx, h⟩ := SR_L h
    match i, hi with
    | 0, hi =>
      simp only [iniL, nth, Option.some.injEq] at hi
      subst hi
      exact ⟨.long x, by simp [lv_args], x, rfl, hx⟩
    | 1, hi => simp [iniL, nth] at hi
    | i + 2, hi =>
      simp only [iniL, nth] at hi
      obtain ⟨w, h1, h2⟩ := ini_at t (n - 2) (o + 2) i h hi
      exact ⟨w, by simp only [lv_args, Value.category]; exact List.mem_cons_of_mem _ (by rw [show o + (i + 2) = o + 2 + i by omega]; exact h1), h2⟩
set_option maxHeartbeats 4000000 in
/-- what the small machine says of a method is so -/
theorem P_sound (l : Launch) (D : va_G) (ad : Nat → Nat) (cI cB : ClassId) (A : Nat → Prop) (xs : Nat → Int32) (hA : ∀ τ, va_D A (wsf ad cI cB τ)) : ∀ (d j : Nat) (a : List AV) (σ : Sto) (Q : PQ), j < 192 → ¬ (j = 1 ∨ j = 2 ∨ j = 3) → P d j a σ Q → ∀ avs τ, SR ad a avs → σ = toI τ → τ 63 = xs → Met l (yOf j) (wmO j) (rmD d) (va_Pc avs (PU D ad cI cB τ)) (QR D ad cI cB A xs Q) 0 0 A
  | 0, _, _, _, _, _, _, h => h.elim
  | d + 1, j, a, σ, Q, hj, hm, h => by
    obtain ⟨hlen, h⟩ := h
    intro avs τ hSR hσ hxs
    obtain ⟨g1, g2, g3, g4, g5, g6, g7⟩ := okM_facts hj
    have hplain : plainName (yOf j).cls = true := by
      rcases g7 with z | z | z | z
      · exact absurd (Or.inl z) hm
      · exact absurd (Or.inr (Or.inl z)) hm
      · exact absurd (Or.inr (Or.inr z)) hm
      · exact z
    refine Met.ofW (cc := bOf j) (maxL := maxOf j) (ret := retOf j) hplain rfl ?_
    intro p e s m args below meth c s₁ B hml hv
    obtain ⟨rfl, hP, hK, hN⟩ := hv
    have hr := B.returns
    have hts := atoms_spec (ws := wmO j) B.pre
    have hown : s.vm.findClass (yOf j).cls = some m.cls := findClass_of_methodNamed B.named
    have hlocks := B.notSynchronized
    have hc : AMC p (rmD (d + 1)) s m avs.toArray c 0 0 (yOf j).cls (bOf j) (maxOf j) (wmO j) D ad cI cB A A s.heap xs none :=
      ⟨B.exec, B.bytes, hml, hown, hts, fun w hw => List.mem_cons_of_mem _ hw, hK, hA, ⟨fun _ h => h, hN⟩, fun n h => (nomatch h), Nat.zero_le _, Nat.zero_le _, by show 1 ≤ d + 1; omega, by show 34 ≤ 34 * (d + 1); omega⟩
    have hge := ini_ge a (maxOf j) hSR
    have hl := lv_entry avs (n := maxOf j) (by omega)
    rw [lg_entry_eq]
    generalize (lg_sl avs ++ List.replicate (maxOf j - (lg_sl avs).length) Slot.unset).toArray = ls at hl ⊢
    have hLR : LR ad (maxOf j) (iniL (maxOf j) a) ls := ⟨hlen, _, hl, fun i v hi => by
      obtain ⟨w, h1, h2⟩ := ini_at a (maxOf j) 0 i hSR hi
      exact ⟨w, by rw [Nat.zero_add] at h1; exact h1, h2⟩⟩
    have hRet : AMR p l e (rmD (d + 1)) s m avs.toArray below meth c 0 0 (MQ below (QR D ad cI cB A xs Q) avs.toArray s 0 0 A) (bOf j) (retOf j) D ad cI cB A s.heap xs Q := by
      intro pc H locs ls τ r rv hq hor hx hp hv hRI
      have hq' : ∀ t : State, t.heap = H → s.WarmedH t.vm → QR D ad cI cB A xs Q avs.toArray s (.returned rv) t := fun t ht hW => ⟨⟨r, rv, τ, rfl, hor, hq, hx, by rw [ht]; exact hp⟩, hv.F ht⟩
      rcases hRI with ⟨hd, x, rfl, hty⟩ | ⟨hd, x, rfl, hty⟩ | ⟨hd, x, rfl, hty⟩ | ⟨hd, rfl, hty⟩
      · rcases hty with hty | ⟨hty, hx01⟩
        · exact W.iret B.exec B.bytes (hr.trans hty) hq' hv.2.2 hd
        · refine W.zret (ty := .boolean) B.exec B.bytes (hr.trans hty) ?_ hq' hv.2.2 hd
          rcases hx01 with rfl | rfl <;> decide +kernel
      · exact W.lret B.exec B.bytes (hr.trans hty) hq' hv.2.2 hd
      · exact W.aret B.exec B.bytes (hr.trans hty) (Or.inl ⟨_, rfl⟩) (Or.inr ⟨x, rfl⟩) hq' hv.2.2 hd
      · exact W.vret B.exec B.bytes (hr.trans hty) hq' hv.2.2 hd
    exact h _ (am_step hc (rm := rmD d) ⟨rfl, rfl, by show d + 1 ≤ d + 1; omega, by show 34 + 34 * d ≤ 34 * (d + 1); omega⟩ (fun j' a' σ' Q' h1 h2 h3 => P_sound l D ad cI cB A xs hA d j' a' σ' Q' h1 h2 h3) hRet (okK_all j hj)) s.heap [] ls [] τ hσ hxs hLR rfl hP va_S.rf
end
