section
-- ===== PART A: goes FIRST, ahead of the names: the tables' words, and 'selects' of the private methods out of them =====
/-- a private method of a class that the tables say can be made, by its rows of tables_1 -/
def lw_okq (q : MethodName × Nat) : Prop := (q.1.cls ≠ "java/lang/invoke/MethodHandle" ∧ q.1.cls ≠ "java/lang/invoke/VarHandle") ∧ Cond.instantiable q.1.cls q.2 ∈ tables_1 ∧ Cond.privateMethod q.1 ∈ tables_1 ∧ Cond.instanceMethod q.1 ∈ tables_1
theorem lw_p0 : lw_okq (⟨"RosetteShow", "textOf", "(I)LRosetteShow$Text;"⟩, 12) := ⟨⟨by decide +kernel, by decide +kernel⟩, List.mem_of_getElem? (i := 15) (by decide +kernel), List.mem_of_getElem? (i := 270) (by decide +kernel), List.mem_of_getElem? (i := 271) (by decide +kernel)⟩
theorem lw_p1 : lw_okq (⟨"RosetteShow", "found", "(I)I"⟩, 12) := ⟨⟨by decide +kernel, by decide +kernel⟩, List.mem_of_getElem? (i := 15) (by decide +kernel), List.mem_of_getElem? (i := 373) (by decide +kernel), List.mem_of_getElem? (i := 374) (by decide +kernel)⟩
theorem lw_p2 : lw_okq (⟨"RosetteShow", "runAsTold", "(I)V"⟩, 12) := ⟨⟨by decide +kernel, by decide +kernel⟩, List.mem_of_getElem? (i := 15) (by decide +kernel), List.mem_of_getElem? (i := 381) (by decide +kernel), List.mem_of_getElem? (i := 382) (by decide +kernel)⟩
theorem lw_p3 : lw_okq (⟨"RosetteShow", "planAsTold", "()V"⟩, 12) := ⟨⟨by decide +kernel, by decide +kernel⟩, List.mem_of_getElem? (i := 15) (by decide +kernel), List.mem_of_getElem? (i := 385) (by decide +kernel), List.mem_of_getElem? (i := 386) (by decide +kernel)⟩
theorem lw_p4 : lw_okq (⟨"RosetteShow", "chooseBrush", "(I)V"⟩, 12) := ⟨⟨by decide +kernel, by decide +kernel⟩, List.mem_of_getElem? (i := 15) (by decide +kernel), List.mem_of_getElem? (i := 510) (by decide +kernel), List.mem_of_getElem? (i := 511) (by decide +kernel)⟩
theorem lw_p5 : lw_okq (⟨"RosetteShow", "chooseRival", "(I)V"⟩, 12) := ⟨⟨by decide +kernel, by decide +kernel⟩, List.mem_of_getElem? (i := 15) (by decide +kernel), List.mem_of_getElem? (i := 522) (by decide +kernel), List.mem_of_getElem? (i := 523) (by decide +kernel)⟩
theorem lw_p6 : lw_okq (⟨"RosetteShow", "chooseJudge", "(II)V"⟩, 12) := ⟨⟨by decide +kernel, by decide +kernel⟩, List.mem_of_getElem? (i := 15) (by decide +kernel), List.mem_of_getElem? (i := 530) (by decide +kernel), List.mem_of_getElem? (i := 531) (by decide +kernel)⟩
theorem lw_p7 : lw_okq (⟨"RosetteShow", "sparedEvents", "()I"⟩, 12) := ⟨⟨by decide +kernel, by decide +kernel⟩, List.mem_of_getElem? (i := 15) (by decide +kernel), List.mem_of_getElem? (i := 538) (by decide +kernel), List.mem_of_getElem? (i := 539) (by decide +kernel)⟩
theorem lw_p8 : lw_okq (⟨"RosetteShow", "standsWithout", "(I)Z"⟩, 12) := ⟨⟨by decide +kernel, by decide +kernel⟩, List.mem_of_getElem? (i := 15) (by decide +kernel), List.mem_of_getElem? (i := 542) (by decide +kernel), List.mem_of_getElem? (i := 543) (by decide +kernel)⟩
theorem lw_p9 : lw_okq (⟨"RosetteShow", "tallyPlaces", "(I)V"⟩, 12) := ⟨⟨by decide +kernel, by decide +kernel⟩, List.mem_of_getElem? (i := 15) (by decide +kernel), List.mem_of_getElem? (i := 599) (by decide +kernel), List.mem_of_getElem? (i := 600) (by decide +kernel)⟩
theorem lw_p10 : lw_okq (⟨"RosetteShow", "greatestTally", "(I)I"⟩, 12) := ⟨⟨by decide +kernel, by decide +kernel⟩, List.mem_of_getElem? (i := 15) (by decide +kernel), List.mem_of_getElem? (i := 604) (by decide +kernel), List.mem_of_getElem? (i := 605) (by decide +kernel)⟩
theorem lw_p11 : lw_okq (⟨"RosetteShow", "weighBests", "(I)V"⟩, 12) := ⟨⟨by decide +kernel, by decide +kernel⟩, List.mem_of_getElem? (i := 15) (by decide +kernel), List.mem_of_getElem? (i := 614) (by decide +kernel), List.mem_of_getElem? (i := 615) (by decide +kernel)⟩
theorem lw_p12 : lw_okq (⟨"RosetteShow", "weightWithout", "(II)J"⟩, 12) := ⟨⟨by decide +kernel, by decide +kernel⟩, List.mem_of_getElem? (i := 15) (by decide +kernel), List.mem_of_getElem? (i := 618) (by decide +kernel), List.mem_of_getElem? (i := 619) (by decide +kernel)⟩
theorem lw_p13 : lw_okq (⟨"RosetteShow", "partOfFraction", "(JI)J"⟩, 12) := ⟨⟨by decide +kernel, by decide +kernel⟩, List.mem_of_getElem? (i := 15) (by decide +kernel), List.mem_of_getElem? (i := 622) (by decide +kernel), List.mem_of_getElem? (i := 623) (by decide +kernel)⟩
theorem lw_p14 : lw_okq (⟨"RosetteShow", "drawBox", "(II)V"⟩, 12) := ⟨⟨by decide +kernel, by decide +kernel⟩, List.mem_of_getElem? (i := 15) (by decide +kernel), List.mem_of_getElem? (i := 630) (by decide +kernel), List.mem_of_getElem? (i := 631) (by decide +kernel)⟩
theorem lw_p15 : lw_okq (⟨"RosetteShow", "digestWeeks", "(J)J"⟩, 12) := ⟨⟨by decide +kernel, by decide +kernel⟩, List.mem_of_getElem? (i := 15) (by decide +kernel), List.mem_of_getElem? (i := 698) (by decide +kernel), List.mem_of_getElem? (i := 699) (by decide +kernel)⟩
def lw_privs_1 : List (MethodName × Nat) := [(⟨"RosetteShow", "textOf", "(I)LRosetteShow$Text;"⟩, 12), (⟨"RosetteShow", "found", "(I)I"⟩, 12), (⟨"RosetteShow", "runAsTold", "(I)V"⟩, 12), (⟨"RosetteShow", "planAsTold", "()V"⟩, 12), (⟨"RosetteShow", "chooseBrush", "(I)V"⟩, 12), (⟨"RosetteShow", "chooseRival", "(I)V"⟩, 12), (⟨"RosetteShow", "chooseJudge", "(II)V"⟩, 12), (⟨"RosetteShow", "sparedEvents", "()I"⟩, 12), (⟨"RosetteShow", "standsWithout", "(I)Z"⟩, 12), (⟨"RosetteShow", "tallyPlaces", "(I)V"⟩, 12), (⟨"RosetteShow", "greatestTally", "(I)I"⟩, 12), (⟨"RosetteShow", "weighBests", "(I)V"⟩, 12), (⟨"RosetteShow", "weightWithout", "(II)J"⟩, 12), (⟨"RosetteShow", "partOfFraction", "(JI)J"⟩, 12), (⟨"RosetteShow", "drawBox", "(II)V"⟩, 12), (⟨"RosetteShow", "digestWeeks", "(J)J"⟩, 12)]
theorem lw_r1 : ∀ q ∈ lw_privs_1, lw_okq q := List.forall_mem_cons.mpr ⟨lw_p0, List.forall_mem_cons.mpr ⟨lw_p1, List.forall_mem_cons.mpr ⟨lw_p2, List.forall_mem_cons.mpr ⟨lw_p3, List.forall_mem_cons.mpr ⟨lw_p4, List.forall_mem_cons.mpr ⟨lw_p5, List.forall_mem_cons.mpr ⟨lw_p6, List.forall_mem_cons.mpr ⟨lw_p7, List.forall_mem_cons.mpr ⟨lw_p8, List.forall_mem_cons.mpr ⟨lw_p9, List.forall_mem_cons.mpr ⟨lw_p10, List.forall_mem_cons.mpr ⟨lw_p11, List.forall_mem_cons.mpr ⟨lw_p12, List.forall_mem_cons.mpr ⟨lw_p13, List.forall_mem_cons.mpr ⟨lw_p14, List.forall_mem_cons.mpr ⟨lw_p15, fun _ h => absurd h List.not_mem_nil⟩⟩⟩⟩⟩⟩⟩⟩⟩⟩⟩⟩⟩⟩⟩⟩
theorem lw_p16 : lw_okq (⟨"RosetteShow", "digestThing", "(JI)J"⟩, 12) := ⟨⟨by decide +kernel, by decide +kernel⟩, List.mem_of_getElem? (i := 15) (by decide +kernel), List.mem_of_getElem? (i := 702) (by decide +kernel), List.mem_of_getElem? (i := 703) (by decide +kernel)⟩
theorem lw_p17 : lw_okq (⟨"RosetteShow", "mixChoice", "(J)J"⟩, 12) := ⟨⟨by decide +kernel, by decide +kernel⟩, List.mem_of_getElem? (i := 15) (by decide +kernel), List.mem_of_getElem? (i := 708) (by decide +kernel), List.mem_of_getElem? (i := 709) (by decide +kernel)⟩
theorem lw_p18 : lw_okq (⟨"RosetteShow", "digestJudges", "(J)J"⟩, 12) := ⟨⟨by decide +kernel, by decide +kernel⟩, List.mem_of_getElem? (i := 15) (by decide +kernel), List.mem_of_getElem? (i := 714) (by decide +kernel), List.mem_of_getElem? (i := 715) (by decide +kernel)⟩
theorem lw_p19 : lw_okq (⟨"RosetteShow", "digestOwners", "(J)J"⟩, 12) := ⟨⟨by decide +kernel, by decide +kernel⟩, List.mem_of_getElem? (i := 15) (by decide +kernel), List.mem_of_getElem? (i := 719) (by decide +kernel), List.mem_of_getElem? (i := 720) (by decide +kernel)⟩
theorem lw_p20 : lw_okq (⟨"RosetteShowModel", "finds", "(I)I"⟩, 37) := ⟨⟨by decide +kernel, by decide +kernel⟩, List.mem_of_getElem? (i := 730) (by decide +kernel), List.mem_of_getElem? (i := 861) (by decide +kernel), List.mem_of_getElem? (i := 862) (by decide +kernel)⟩
theorem lw_p21 : lw_okq (⟨"RosetteShowModel", "lacks", "(III)I"⟩, 37) := ⟨⟨by decide +kernel, by decide +kernel⟩, List.mem_of_getElem? (i := 730) (by decide +kernel), List.mem_of_getElem? (i := 873) (by decide +kernel), List.mem_of_getElem? (i := 874) (by decide +kernel)⟩
theorem lw_p22 : lw_okq (⟨"RosetteShowModel", "readsText", "(I)I"⟩, 37) := ⟨⟨by decide +kernel, by decide +kernel⟩, List.mem_of_getElem? (i := 730) (by decide +kernel), List.mem_of_getElem? (i := 909) (by decide +kernel), List.mem_of_getElem? (i := 910) (by decide +kernel)⟩
theorem lw_p23 : lw_okq (⟨"RosetteShowModel", "readsThings", "()I"⟩, 37) := ⟨⟨by decide +kernel, by decide +kernel⟩, List.mem_of_getElem? (i := 730) (by decide +kernel), List.mem_of_getElem? (i := 913) (by decide +kernel), List.mem_of_getElem? (i := 914) (by decide +kernel)⟩
theorem lw_p24 : lw_okq (⟨"RosetteShowModel", "readsJudges", "()I"⟩, 37) := ⟨⟨by decide +kernel, by decide +kernel⟩, List.mem_of_getElem? (i := 730) (by decide +kernel), List.mem_of_getElem? (i := 923) (by decide +kernel), List.mem_of_getElem? (i := 924) (by decide +kernel)⟩
theorem lw_p25 : lw_okq (⟨"RosetteShowModel", "readsBox", "()I"⟩, 37) := ⟨⟨by decide +kernel, by decide +kernel⟩, List.mem_of_getElem? (i := 730) (by decide +kernel), List.mem_of_getElem? (i := 927) (by decide +kernel), List.mem_of_getElem? (i := 928) (by decide +kernel)⟩
theorem lw_p26 : lw_okq (⟨"RosetteShowModel", "clears", "(I)I"⟩, 37) := ⟨⟨by decide +kernel, by decide +kernel⟩, List.mem_of_getElem? (i := 730) (by decide +kernel), List.mem_of_getElem? (i := 931) (by decide +kernel), List.mem_of_getElem? (i := 932) (by decide +kernel)⟩
theorem lw_p27 : lw_okq (⟨"RosetteShowModel", "isThing", "(I)Z"⟩, 37) := ⟨⟨by decide +kernel, by decide +kernel⟩, List.mem_of_getElem? (i := 730) (by decide +kernel), List.mem_of_getElem? (i := 939) (by decide +kernel), List.mem_of_getElem? (i := 940) (by decide +kernel)⟩
theorem lw_p28 : lw_okq (⟨"RosetteShowModel", "isJudge", "(I)Z"⟩, 37) := ⟨⟨by decide +kernel, by decide +kernel⟩, List.mem_of_getElem? (i := 730) (by decide +kernel), List.mem_of_getElem? (i := 947) (by decide +kernel), List.mem_of_getElem? (i := 948) (by decide +kernel)⟩
theorem lw_p29 : lw_okq (⟨"RosetteShowModel", "find", "()V"⟩, 37) := ⟨⟨by decide +kernel, by decide +kernel⟩, List.mem_of_getElem? (i := 730) (by decide +kernel), List.mem_of_getElem? (i := 973) (by decide +kernel), List.mem_of_getElem? (i := 974) (by decide +kernel)⟩
theorem lw_p30 : lw_okq (⟨"RosetteShowModel", "lives", "()V"⟩, 37) := ⟨⟨by decide +kernel, by decide +kernel⟩, List.mem_of_getElem? (i := 730) (by decide +kernel), List.mem_of_getElem? (i := 977) (by decide +kernel), List.mem_of_getElem? (i := 978) (by decide +kernel)⟩
theorem lw_p31 : lw_okq (⟨"RosetteShowModel", "passes", "(I)V"⟩, 37) := ⟨⟨by decide +kernel, by decide +kernel⟩, List.mem_of_getElem? (i := 730) (by decide +kernel), List.mem_of_getElem? (i := 981) (by decide +kernel), List.mem_of_getElem? (i := 982) (by decide +kernel)⟩
def lw_privs_2 : List (MethodName × Nat) := [(⟨"RosetteShow", "digestThing", "(JI)J"⟩, 12), (⟨"RosetteShow", "mixChoice", "(J)J"⟩, 12), (⟨"RosetteShow", "digestJudges", "(J)J"⟩, 12), (⟨"RosetteShow", "digestOwners", "(J)J"⟩, 12), (⟨"RosetteShowModel", "finds", "(I)I"⟩, 37), (⟨"RosetteShowModel", "lacks", "(III)I"⟩, 37), (⟨"RosetteShowModel", "readsText", "(I)I"⟩, 37), (⟨"RosetteShowModel", "readsThings", "()I"⟩, 37), (⟨"RosetteShowModel", "readsJudges", "()I"⟩, 37), (⟨"RosetteShowModel", "readsBox", "()I"⟩, 37), (⟨"RosetteShowModel", "clears", "(I)I"⟩, 37), (⟨"RosetteShowModel", "isThing", "(I)Z"⟩, 37), (⟨"RosetteShowModel", "isJudge", "(I)Z"⟩, 37), (⟨"RosetteShowModel", "find", "()V"⟩, 37), (⟨"RosetteShowModel", "lives", "()V"⟩, 37), (⟨"RosetteShowModel", "passes", "(I)V"⟩, 37)]
theorem lw_r2 : ∀ q ∈ lw_privs_2, lw_okq q := List.forall_mem_cons.mpr ⟨lw_p16, List.forall_mem_cons.mpr ⟨lw_p17, List.forall_mem_cons.mpr ⟨lw_p18, List.forall_mem_cons.mpr ⟨lw_p19, List.forall_mem_cons.mpr ⟨lw_p20, List.forall_mem_cons.mpr ⟨lw_p21, List.forall_mem_cons.mpr ⟨lw_p22, List.forall_mem_cons.mpr ⟨lw_p23, List.forall_mem_cons.mpr ⟨lw_p24, List.forall_mem_cons.mpr ⟨lw_p25, List.forall_mem_cons.mpr ⟨lw_p26, List.forall_mem_cons.mpr ⟨lw_p27, List.forall_mem_cons.mpr ⟨lw_p28, List.forall_mem_cons.mpr ⟨lw_p29, List.forall_mem_cons.mpr ⟨lw_p30, List.forall_mem_cons.mpr ⟨lw_p31, fun _ h => absurd h List.not_mem_nil⟩⟩⟩⟩⟩⟩⟩⟩⟩⟩⟩⟩⟩⟩⟩⟩
theorem lw_p32 : lw_okq (⟨"RosetteShowModel", "happens", "(II)V"⟩, 37) := ⟨⟨by decide +kernel, by decide +kernel⟩, List.mem_of_getElem? (i := 730) (by decide +kernel), List.mem_of_getElem? (i := 988) (by decide +kernel), List.mem_of_getElem? (i := 989) (by decide +kernel)⟩
theorem lw_p33 : lw_okq (⟨"RosetteShowModel", "scores", "(I)V"⟩, 37) := ⟨⟨by decide +kernel, by decide +kernel⟩, List.mem_of_getElem? (i := 730) (by decide +kernel), List.mem_of_getElem? (i := 998) (by decide +kernel), List.mem_of_getElem? (i := 999) (by decide +kernel)⟩
theorem lw_p34 : lw_okq (⟨"RosetteShowModel", "scoreOf", "(II)I"⟩, 37) := ⟨⟨by decide +kernel, by decide +kernel⟩, List.mem_of_getElem? (i := 730) (by decide +kernel), List.mem_of_getElem? (i := 1002) (by decide +kernel), List.mem_of_getElem? (i := 1003) (by decide +kernel)⟩
theorem lw_p35 : lw_okq (⟨"RosetteShowModel", "places", "(I)V"⟩, 37) := ⟨⟨by decide +kernel, by decide +kernel⟩, List.mem_of_getElem? (i := 730) (by decide +kernel), List.mem_of_getElem? (i := 1006) (by decide +kernel), List.mem_of_getElem? (i := 1007) (by decide +kernel)⟩
theorem lw_p36 : lw_okq (⟨"RosetteShowModel", "bestBut", "(I)I"⟩, 37) := ⟨⟨by decide +kernel, by decide +kernel⟩, List.mem_of_getElem? (i := 730) (by decide +kernel), List.mem_of_getElem? (i := 1010) (by decide +kernel), List.mem_of_getElem? (i := 1011) (by decide +kernel)⟩
theorem lw_p37 : lw_okq (⟨"RosetteShowModel", "atBy", "(III)I"⟩, 37) := ⟨⟨by decide +kernel, by decide +kernel⟩, List.mem_of_getElem? (i := 730) (by decide +kernel), List.mem_of_getElem? (i := 1019) (by decide +kernel), List.mem_of_getElem? (i := 1020) (by decide +kernel)⟩
theorem lw_p38 : lw_okq (⟨"RosetteShowModel", "showOf", "(II)I"⟩, 37) := ⟨⟨by decide +kernel, by decide +kernel⟩, List.mem_of_getElem? (i := 730) (by decide +kernel), List.mem_of_getElem? (i := 1030) (by decide +kernel), List.mem_of_getElem? (i := 1031) (by decide +kernel)⟩
theorem lw_p39 : lw_okq (⟨"RosetteShowModel", "ownedBy", "(I)I"⟩, 37) := ⟨⟨by decide +kernel, by decide +kernel⟩, List.mem_of_getElem? (i := 730) (by decide +kernel), List.mem_of_getElem? (i := 1039) (by decide +kernel), List.mem_of_getElem? (i := 1040) (by decide +kernel)⟩
theorem lw_p40 : lw_okq (⟨"RosetteShowModel", "championNow", "()I"⟩, 37) := ⟨⟨by decide +kernel, by decide +kernel⟩, List.mem_of_getElem? (i := 730) (by decide +kernel), List.mem_of_getElem? (i := 1047) (by decide +kernel), List.mem_of_getElem? (i := 1048) (by decide +kernel)⟩
theorem lw_p41 : lw_okq (⟨"RosetteShowModel", "bestNow", "()I"⟩, 37) := ⟨⟨by decide +kernel, by decide +kernel⟩, List.mem_of_getElem? (i := 730) (by decide +kernel), List.mem_of_getElem? (i := 1055) (by decide +kernel), List.mem_of_getElem? (i := 1056) (by decide +kernel)⟩
theorem lw_p42 : lw_okq (⟨"RosetteShowModel", "leftBy", "(I)I"⟩, 37) := ⟨⟨by decide +kernel, by decide +kernel⟩, List.mem_of_getElem? (i := 730) (by decide +kernel), List.mem_of_getElem? (i := 1063) (by decide +kernel), List.mem_of_getElem? (i := 1064) (by decide +kernel)⟩
theorem lw_p43 : lw_okq (⟨"RosetteShowModel", "brushOf", "(II)I"⟩, 37) := ⟨⟨by decide +kernel, by decide +kernel⟩, List.mem_of_getElem? (i := 730) (by decide +kernel), List.mem_of_getElem? (i := 1071) (by decide +kernel), List.mem_of_getElem? (i := 1072) (by decide +kernel)⟩
theorem lw_p44 : lw_okq (⟨"RosetteShowModel", "rivalOf", "(II)I"⟩, 37) := ⟨⟨by decide +kernel, by decide +kernel⟩, List.mem_of_getElem? (i := 730) (by decide +kernel), List.mem_of_getElem? (i := 1079) (by decide +kernel), List.mem_of_getElem? (i := 1080) (by decide +kernel)⟩
theorem lw_p45 : lw_okq (⟨"RosetteShowModel", "sendOf", "(III)I"⟩, 37) := ⟨⟨by decide +kernel, by decide +kernel⟩, List.mem_of_getElem? (i := 730) (by decide +kernel), List.mem_of_getElem? (i := 1087) (by decide +kernel), List.mem_of_getElem? (i := 1088) (by decide +kernel)⟩
theorem lw_p46 : lw_okq (⟨"RosetteShowModel", "spareBy", "(I)I"⟩, 37) := ⟨⟨by decide +kernel, by decide +kernel⟩, List.mem_of_getElem? (i := 730) (by decide +kernel), List.mem_of_getElem? (i := 1096) (by decide +kernel), List.mem_of_getElem? (i := 1097) (by decide +kernel)⟩
theorem lw_p47 : lw_okq (⟨"RosetteShowModel", "isSpared", "(I)Z"⟩, 37) := ⟨⟨by decide +kernel, by decide +kernel⟩, List.mem_of_getElem? (i := 730) (by decide +kernel), List.mem_of_getElem? (i := 1100) (by decide +kernel), List.mem_of_getElem? (i := 1101) (by decide +kernel)⟩
def lw_privs_3 : List (MethodName × Nat) := [(⟨"RosetteShowModel", "happens", "(II)V"⟩, 37), (⟨"RosetteShowModel", "scores", "(I)V"⟩, 37), (⟨"RosetteShowModel", "scoreOf", "(II)I"⟩, 37), (⟨"RosetteShowModel", "places", "(I)V"⟩, 37), (⟨"RosetteShowModel", "bestBut", "(I)I"⟩, 37), (⟨"RosetteShowModel", "atBy", "(III)I"⟩, 37), (⟨"RosetteShowModel", "showOf", "(II)I"⟩, 37), (⟨"RosetteShowModel", "ownedBy", "(I)I"⟩, 37), (⟨"RosetteShowModel", "championNow", "()I"⟩, 37), (⟨"RosetteShowModel", "bestNow", "()I"⟩, 37), (⟨"RosetteShowModel", "leftBy", "(I)I"⟩, 37), (⟨"RosetteShowModel", "brushOf", "(II)I"⟩, 37), (⟨"RosetteShowModel", "rivalOf", "(II)I"⟩, 37), (⟨"RosetteShowModel", "sendOf", "(III)I"⟩, 37), (⟨"RosetteShowModel", "spareBy", "(I)I"⟩, 37), (⟨"RosetteShowModel", "isSpared", "(I)Z"⟩, 37)]
theorem lw_r3 : ∀ q ∈ lw_privs_3, lw_okq q := List.forall_mem_cons.mpr ⟨lw_p32, List.forall_mem_cons.mpr ⟨lw_p33, List.forall_mem_cons.mpr ⟨lw_p34, List.forall_mem_cons.mpr ⟨lw_p35, List.forall_mem_cons.mpr ⟨lw_p36, List.forall_mem_cons.mpr ⟨lw_p37, List.forall_mem_cons.mpr ⟨lw_p38, List.forall_mem_cons.mpr ⟨lw_p39, List.forall_mem_cons.mpr ⟨lw_p40, List.forall_mem_cons.mpr ⟨lw_p41, List.forall_mem_cons.mpr ⟨lw_p42, List.forall_mem_cons.mpr ⟨lw_p43, List.forall_mem_cons.mpr ⟨lw_p44, List.forall_mem_cons.mpr ⟨lw_p45, List.forall_mem_cons.mpr ⟨lw_p46, List.forall_mem_cons.mpr ⟨lw_p47, fun _ h => absurd h List.not_mem_nil⟩⟩⟩⟩⟩⟩⟩⟩⟩⟩⟩⟩⟩⟩⟩⟩
theorem lw_p48 : lw_okq (⟨"RosetteShowModel", "neverNow", "()I"⟩, 37) := ⟨⟨by decide +kernel, by decide +kernel⟩, List.mem_of_getElem? (i := 730) (by decide +kernel), List.mem_of_getElem? (i := 1116) (by decide +kernel), List.mem_of_getElem? (i := 1117) (by decide +kernel)⟩
theorem lw_p49 : lw_okq (⟨"RosetteShowModel", "isSeen", "()Z"⟩, 37) := ⟨⟨by decide +kernel, by decide +kernel⟩, List.mem_of_getElem? (i := 730) (by decide +kernel), List.mem_of_getElem? (i := 1120) (by decide +kernel), List.mem_of_getElem? (i := 1121) (by decide +kernel)⟩
theorem lw_p50 : lw_okq (⟨"RosetteShowModel", "placeOf", "(II)I"⟩, 37) := ⟨⟨by decide +kernel, by decide +kernel⟩, List.mem_of_getElem? (i := 730) (by decide +kernel), List.mem_of_getElem? (i := 1124) (by decide +kernel), List.mem_of_getElem? (i := 1125) (by decide +kernel)⟩
theorem lw_p51 : lw_okq (⟨"RosetteShowModel", "lookedOf", "(I)I"⟩, 37) := ⟨⟨by decide +kernel, by decide +kernel⟩, List.mem_of_getElem? (i := 730) (by decide +kernel), List.mem_of_getElem? (i := 1132) (by decide +kernel), List.mem_of_getElem? (i := 1133) (by decide +kernel)⟩
theorem lw_p52 : lw_okq (⟨"RosetteShowModel", "tastesOf", "(I)I"⟩, 37) := ⟨⟨by decide +kernel, by decide +kernel⟩, List.mem_of_getElem? (i := 730) (by decide +kernel), List.mem_of_getElem? (i := 1140) (by decide +kernel), List.mem_of_getElem? (i := 1141) (by decide +kernel)⟩
theorem lw_p53 : lw_okq (⟨"RosetteShowModel", "askOf", "(I)I"⟩, 37) := ⟨⟨by decide +kernel, by decide +kernel⟩, List.mem_of_getElem? (i := 730) (by decide +kernel), List.mem_of_getElem? (i := 1148) (by decide +kernel), List.mem_of_getElem? (i := 1149) (by decide +kernel)⟩
theorem lw_p54 : lw_okq (⟨"RosetteShowModel", "alike", "(II)I"⟩, 37) := ⟨⟨by decide +kernel, by decide +kernel⟩, List.mem_of_getElem? (i := 730) (by decide +kernel), List.mem_of_getElem? (i := 1152) (by decide +kernel), List.mem_of_getElem? (i := 1153) (by decide +kernel)⟩
theorem lw_p55 : lw_okq (⟨"RosetteShowModel", "chanceOf", "(III)J"⟩, 37) := ⟨⟨by decide +kernel, by decide +kernel⟩, List.mem_of_getElem? (i := 730) (by decide +kernel), List.mem_of_getElem? (i := 1161) (by decide +kernel), List.mem_of_getElem? (i := 1162) (by decide +kernel)⟩
theorem lw_p56 : lw_okq (⟨"RosetteShowModel", "yearsOf", "(III)I"⟩, 37) := ⟨⟨by decide +kernel, by decide +kernel⟩, List.mem_of_getElem? (i := 730) (by decide +kernel), List.mem_of_getElem? (i := 1177) (by decide +kernel), List.mem_of_getElem? (i := 1178) (by decide +kernel)⟩
theorem lw_p57 : lw_okq (⟨"RosetteShowModel", "lot", "(I)I"⟩, 37) := ⟨⟨by decide +kernel, by decide +kernel⟩, List.mem_of_getElem? (i := 730) (by decide +kernel), List.mem_of_getElem? (i := 1181) (by decide +kernel), List.mem_of_getElem? (i := 1182) (by decide +kernel)⟩
theorem lw_p58 : lw_okq (⟨"RosetteShowModel", "tellsThing", "(JI)J"⟩, 37) := ⟨⟨by decide +kernel, by decide +kernel⟩, List.mem_of_getElem? (i := 730) (by decide +kernel), List.mem_of_getElem? (i := 1204) (by decide +kernel), List.mem_of_getElem? (i := 1205) (by decide +kernel)⟩
theorem lw_p59 : lw_okq (⟨"RosetteShowModel", "tellsWeek", "(JII)J"⟩, 37) := ⟨⟨by decide +kernel, by decide +kernel⟩, List.mem_of_getElem? (i := 730) (by decide +kernel), List.mem_of_getElem? (i := 1208) (by decide +kernel), List.mem_of_getElem? (i := 1209) (by decide +kernel)⟩
theorem lw_p60 : lw_okq (⟨"RosetteShowModel", "tellsOwner", "(JI)J"⟩, 37) := ⟨⟨by decide +kernel, by decide +kernel⟩, List.mem_of_getElem? (i := 730) (by decide +kernel), List.mem_of_getElem? (i := 1212) (by decide +kernel), List.mem_of_getElem? (i := 1213) (by decide +kernel)⟩
def lw_privs_4 : List (MethodName × Nat) := [(⟨"RosetteShowModel", "neverNow", "()I"⟩, 37), (⟨"RosetteShowModel", "isSeen", "()Z"⟩, 37), (⟨"RosetteShowModel", "placeOf", "(II)I"⟩, 37), (⟨"RosetteShowModel", "lookedOf", "(I)I"⟩, 37), (⟨"RosetteShowModel", "tastesOf", "(I)I"⟩, 37), (⟨"RosetteShowModel", "askOf", "(I)I"⟩, 37), (⟨"RosetteShowModel", "alike", "(II)I"⟩, 37), (⟨"RosetteShowModel", "chanceOf", "(III)J"⟩, 37), (⟨"RosetteShowModel", "yearsOf", "(III)I"⟩, 37), (⟨"RosetteShowModel", "lot", "(I)I"⟩, 37), (⟨"RosetteShowModel", "tellsThing", "(JI)J"⟩, 37), (⟨"RosetteShowModel", "tellsWeek", "(JII)J"⟩, 37), (⟨"RosetteShowModel", "tellsOwner", "(JI)J"⟩, 37)]
theorem lw_r4 : ∀ q ∈ lw_privs_4, lw_okq q := List.forall_mem_cons.mpr ⟨lw_p48, List.forall_mem_cons.mpr ⟨lw_p49, List.forall_mem_cons.mpr ⟨lw_p50, List.forall_mem_cons.mpr ⟨lw_p51, List.forall_mem_cons.mpr ⟨lw_p52, List.forall_mem_cons.mpr ⟨lw_p53, List.forall_mem_cons.mpr ⟨lw_p54, List.forall_mem_cons.mpr ⟨lw_p55, List.forall_mem_cons.mpr ⟨lw_p56, List.forall_mem_cons.mpr ⟨lw_p57, List.forall_mem_cons.mpr ⟨lw_p58, List.forall_mem_cons.mpr ⟨lw_p59, List.forall_mem_cons.mpr ⟨lw_p60, fun _ h => absurd h List.not_mem_nil⟩⟩⟩⟩⟩⟩⟩⟩⟩⟩⟩⟩⟩
def lw_privs : List (MethodName × Nat) := lw_privs_1 ++ (lw_privs_2 ++ (lw_privs_3 ++ (lw_privs_4)))
def lw_tbl : List Cond := k2_sels lw_privs ++ tables_1
theorem lw_privs_ok : ∀ q ∈ lw_privs, lw_okq q := by
  show ∀ q ∈ lw_privs_1 ++ (lw_privs_2 ++ (lw_privs_3 ++ (lw_privs_4))), lw_okq q
  exact List.forall_mem_append.mpr ⟨lw_r1, List.forall_mem_append.mpr ⟨lw_r2, List.forall_mem_append.mpr ⟨lw_r3, lw_r4⟩⟩⟩
-- ===== end of PART A; then your names; then what follows =====
end
section
/-- words by their places -/
theorem mem_ps {big ws : List Cond} (ps : List Nat) (hp : ws = ps.filterMap (fun i => big[i]?)) : ∀ w ∈ ws, w ∈ big := by
  intro w hw
  rw [hp] at hw
  obtain ⟨i, -, hi⟩ := List.mem_filterMap.mp hw
  exact List.mem_of_getElem? hi
def RX0 : String := "RosetteShow$Choice"
def TX0 : u_T := fun k => match k with
  | 0 => ("RosetteShow$Choice", "which", "I", false)
  | _ => ("RosetteShow$Choice", "much", "I", false)
def tyX0 : Nat → FieldType := fun k => match k with
  | 0 => .int
  | _ => .int
abbrev wsX00 : List Cond := u_ws RX0 TX0 2
theorem nmX0 : ∀ a, a < 2 → ∀ b, b < 2 → a ≠ b → (TX0 a).2.1 ≠ (TX0 b).2.1 := by decide +kernel
theorem tyX0_ok : ∀ k, k < 2 → parseFieldDescriptor (TX0 k).2.2.1 = some (tyX0 k) := by decide +kernel
abbrev cX0_init : ByteArray := prog_2_method_1_code
def yX0_init : MethodName := ⟨RX0, "<init>", "()V"⟩
abbrev cX0_clear : ByteArray := prog_2_method_2_code
def yX0_clear : MethodName := ⟨RX0, "clear", "()V"⟩
abbrev cX0_offer : ByteArray := prog_2_method_3_code
def yX0_offer : MethodName := ⟨RX0, "offer", "(II)V"⟩
abbrev cX0_tell : ByteArray := prog_2_method_4_code
def yX0_tell : MethodName := ⟨RX0, "tell", "(I)I"⟩
def RX1 : String := "RosetteShow$Notes"
def TX1 : u_T := fun k => match k with
  | 0 => ("RosetteShow$Notes", "numbers", "[I", true)
  | _ => ("RosetteShow$Notes", "size", "I", false)
def tyX1 : Nat → FieldType := fun k => match k with
  | 0 => .array .int
  | _ => .int
abbrev wsX10 : List Cond := u_ws RX1 TX1 2
theorem nmX1 : ∀ a, a < 2 → ∀ b, b < 2 → a ≠ b → (TX1 a).2.1 ≠ (TX1 b).2.1 := by decide +kernel
theorem tyX1_ok : ∀ k, k < 2 → parseFieldDescriptor (TX1 k).2.2.1 = some (tyX1 k) := by decide +kernel
abbrev cX1_init : ByteArray := prog_3_method_1_code
def yX1_init : MethodName := ⟨RX1, "<init>", "()V"⟩
abbrev cX1_add : ByteArray := prog_3_method_2_code
def yX1_add : MethodName := ⟨RX1, "add", "(III)Z"⟩
abbrev cX1_part : ByteArray := prog_3_method_3_code
def yX1_part : MethodName := ⟨RX1, "part", "(II)I"⟩
def RX2 : String := "RosetteShow$Plan"
def TX2 : u_T := fun k => match k with
  | 0 => ("RosetteShow$Plan", "events", "LRosetteShow$Notes;", true)
  | 1 => ("RosetteShow$Plan", "things", "I", false)
  | 2 => ("RosetteShow$Plan", "sorts", "[I", true)
  | 3 => ("RosetteShow$Plan", "looks", "[I", true)
  | 4 => ("RosetteShow$Plan", "owners", "[I", true)
  | 5 => ("RosetteShow$Plan", "judges", "I", false)
  | 6 => ("RosetteShow$Plan", "tastes", "[I", true)
  | 7 => ("RosetteShow$Plan", "eyes", "[I", true)
  | 8 => ("RosetteShow$Plan", "friends", "[I", true)
  | 9 => ("RosetteShow$Plan", "turns", "[I", true)
  | 10 => ("RosetteShow$Plan", "absent", "I", false)
  | 11 => ("RosetteShow$Plan", "brushed", "I", false)
  | 12 => ("RosetteShow$Plan", "brushWeek", "I", false)
  | _ => ("RosetteShow$Plan", "alwaysKept", "I", false)
def tyX2 : Nat → FieldType := fun k => match k with
  | 0 => .object "RosetteShow$Notes"
  | 1 => .int
  | 2 => .array .int
  | 3 => .array .int
  | 4 => .array .int
  | 5 => .int
  | 6 => .array .int
  | 7 => .array .int
  | 8 => .array .int
  | 9 => .array .int
  | 10 => .int
  | 11 => .int
  | 12 => .int
  | _ => .int
abbrev wsX20 : List Cond := u_ws RX2 TX2 14
theorem nmX2 : ∀ a, a < 14 → ∀ b, b < 14 → a ≠ b → (TX2 a).2.1 ≠ (TX2 b).2.1 := by decide +kernel
theorem tyX2_ok : ∀ k, k < 14 → parseFieldDescriptor (TX2 k).2.2.1 = some (tyX2 k) := by decide +kernel
abbrev cX2_init : ByteArray := prog_4_method_1_code
def yX2_init : MethodName := ⟨RX2, "<init>", "(LRosetteShow$Notes;)V"⟩
abbrev cX2_take : ByteArray := prog_4_method_2_code
def yX2_take : MethodName := ⟨RX2, "take", "(LRosetteShow$Roll;LRosetteShow$Roll;LRosetteShow$Turns;)V"⟩
abbrev cX2_judgeIn : ByteArray := prog_4_method_3_code
def yX2_judgeIn : MethodName := ⟨RX2, "judgeIn", "(I)I"⟩
def RX3 : String := "RosetteShow$Roll"
def TX3 : u_T := fun k => match k with
  | 0 => ("RosetteShow$Text", "bytes", "[I", true)
  | 1 => ("RosetteShow$Text", "length", "I", false)
  | 2 => ("RosetteShow$Text", "faultPlace", "I", false)
  | _ => ("RosetteShow$Roll", "leastFigure", "I", true)
def tyX3 : Nat → FieldType := fun k => match k with
  | 0 => .array .int
  | 1 => .int
  | 2 => .int
  | _ => .int
abbrev wsX30 : List Cond := u_ws RX3 TX3 4
theorem nmX3 : ∀ a, a < 4 → ∀ b, b < 4 → a ≠ b → (TX3 a).2.1 ≠ (TX3 b).2.1 := by decide +kernel
theorem tyX3_ok : ∀ k, k < 4 → parseFieldDescriptor (TX3 k).2.2.1 = some (tyX3 k) := by decide +kernel
abbrev cX3_init : ByteArray := prog_5_method_1_code
def yX3_init : MethodName := ⟨RX3, "<init>", "(II)V"⟩
abbrev cX3_fits : ByteArray := prog_5_method_2_code
def yX3_fits : MethodName := ⟨RX3, "fits", "(II)Z"⟩
abbrev cX3_mayEndAt : ByteArray := prog_5_method_3_code
def yX3_mayEndAt : MethodName := ⟨RX3, "mayEndAt", "(I)Z"⟩
abbrev cX3_size : ByteArray := prog_5_method_4_code
def yX3_size : MethodName := ⟨RX3, "size", "()I"⟩
abbrev cX3_part : ByteArray := prog_5_method_5_code
def yX3_part : MethodName := ⟨RX3, "part", "(II)I"⟩
abbrev cX3_sortOf : ByteArray := prog_5_method_6_code
def yX3_sortOf : MethodName := ⟨RX3, "sortOf", "(I)I"⟩
def RX4 : String := "RosetteShow$Sheet"
def TX4 : u_T := fun k => match k with
  | 0 => ("RosetteShow$Sheet", "items", "[I", true)
  | 1 => ("RosetteShow$Sheet", "form", "I", false)
  | _ => ("RosetteShow$Sheet", "size", "I", false)
def tyX4 : Nat → FieldType := fun k => match k with
  | 0 => .array .int
  | 1 => .int
  | _ => .int
abbrev wsX40 : List Cond := u_ws RX4 TX4 3
theorem nmX4 : ∀ a, a < 3 → ∀ b, b < 3 → a ≠ b → (TX4 a).2.1 ≠ (TX4 b).2.1 := by decide +kernel
theorem tyX4_ok : ∀ k, k < 3 → parseFieldDescriptor (TX4 k).2.2.1 = some (tyX4 k) := by decide +kernel
abbrev cX4_init : ByteArray := prog_6_method_1_code
def yX4_init : MethodName := ⟨RX4, "<init>", "()V"⟩
abbrev cX4_isLost : ByteArray := prog_6_method_2_code
def yX4_isLost : MethodName := ⟨RX4, "isLost", "()Z"⟩
abbrev cX4_renew : ByteArray := prog_6_method_3_code
def yX4_renew : MethodName := ⟨RX4, "renew", "(II)V"⟩
abbrev cX4_findingAt : ByteArray := prog_6_method_4_code
def yX4_findingAt : MethodName := ⟨RX4, "findingAt", "(II)I"⟩
abbrev cX4_hasSpan : ByteArray := prog_6_method_5_code
def yX4_hasSpan : MethodName := ⟨RX4, "hasSpan", "(II)Z"⟩
abbrev cX4_put : ByteArray := prog_6_method_6_code
def yX4_put : MethodName := ⟨RX4, "put", "(II)V"⟩
def RX5 : String := "RosetteShow$Text"
def TX5 : u_T := fun k => match k with
  | _ => ("", "", "", false)
def tyX5 : Nat → FieldType := fun k => match k with
  | _ => .int
abbrev wsX50 : List Cond := u_ws RX5 TX5 0
theorem nmX5 : ∀ a, a < 0 → ∀ b, b < 0 → a ≠ b → (TX5 a).2.1 ≠ (TX5 b).2.1 := by decide +kernel
theorem tyX5_ok : ∀ k, k < 0 → parseFieldDescriptor (TX5 k).2.2.1 = some (tyX5 k) := by decide +kernel
abbrev cX5_init : ByteArray := prog_7_method_1_code
def yX5_init : MethodName := ⟨RX5, "<init>", "(I)V"⟩
abbrev cX5_append : ByteArray := prog_7_method_4_code
def yX5_append : MethodName := ⟨RX5, "append", "(I)Z"⟩
abbrev cX5_shorten : ByteArray := prog_7_method_5_code
def yX5_shorten : MethodName := ⟨RX5, "shorten", "(I)V"⟩
abbrev cX5_firstFault : ByteArray := prog_7_method_6_code
def yX5_firstFault : MethodName := ⟨RX5, "firstFault", "()I"⟩
abbrev cX5_isFigure : ByteArray := prog_7_method_7_code
def yX5_isFigure : MethodName := ⟨RX5, "isFigure", "(III)Z"⟩
def RX6 : String := "RosetteShow$Turns"
def TX6 : u_T := fun k => match k with
  | 0 => ("RosetteShow$Text", "bytes", "[I", true)
  | 1 => ("RosetteShow$Text", "length", "I", false)
  | _ => ("RosetteShow$Text", "faultPlace", "I", false)
def tyX6 : Nat → FieldType := fun k => match k with
  | 0 => .array .int
  | 1 => .int
  | _ => .int
abbrev wsX60 : List Cond := u_ws RX6 TX6 3
theorem nmX6 : ∀ a, a < 3 → ∀ b, b < 3 → a ≠ b → (TX6 a).2.1 ≠ (TX6 b).2.1 := by decide +kernel
theorem tyX6_ok : ∀ k, k < 3 → parseFieldDescriptor (TX6 k).2.2.1 = some (tyX6 k) := by decide +kernel
abbrev cX6_init : ByteArray := prog_8_method_1_code
def yX6_init : MethodName := ⟨RX6, "<init>", "()V"⟩
abbrev cX6_fits : ByteArray := prog_8_method_2_code
def yX6_fits : MethodName := ⟨RX6, "fits", "(II)Z"⟩
abbrev cX6_mayEndAt : ByteArray := prog_8_method_3_code
def yX6_mayEndAt : MethodName := ⟨RX6, "mayEndAt", "(I)Z"⟩
abbrev cX6_size : ByteArray := prog_8_method_4_code
def yX6_size : MethodName := ⟨RX6, "size", "()I"⟩
abbrev cX6_judgeAt : ByteArray := prog_8_method_5_code
def yX6_judgeAt : MethodName := ⟨RX6, "judgeAt", "(I)I"⟩
def RX7 : String := "RosetteShow$Year"
def TX7 : u_T := fun k => match k with
  | 0 => ("RosetteShow$Year", "looks", "[I", true)
  | 1 => ("RosetteShow$Year", "colours", "[I", true)
  | 2 => ("RosetteShow$Year", "firsts", "[I", true)
  | 3 => ("RosetteShow$Year", "scores", "[I", true)
  | 4 => ("RosetteShow$Year", "placed", "[I", true)
  | 5 => ("RosetteShow$Year", "fallen", "I", false)
  | 6 => ("RosetteShow$Year", "shown", "I", false)
  | 7 => ("RosetteShow$Year", "keptIn", "I", false)
  | _ => ("RosetteShow$Year", "rains", "Z", false)
def tyX7 : Nat → FieldType := fun k => match k with
  | 0 => .array .int
  | 1 => .array .int
  | 2 => .array .int
  | 3 => .array .int
  | 4 => .array .int
  | 5 => .int
  | 6 => .int
  | 7 => .int
  | _ => .boolean
abbrev wsX70 : List Cond := u_ws RX7 TX7 9
theorem nmX7 : ∀ a, a < 9 → ∀ b, b < 9 → a ≠ b → (TX7 a).2.1 ≠ (TX7 b).2.1 := by decide +kernel
theorem tyX7_ok : ∀ k, k < 9 → parseFieldDescriptor (TX7 k).2.2.1 = some (tyX7 k) := by decide +kernel
abbrev cX7_init : ByteArray := prog_9_method_1_code
def yX7_init : MethodName := ⟨RX7, "<init>", "()V"⟩
abbrev cX7_run : ByteArray := prog_9_method_2_code
def yX7_run : MethodName := ⟨RX7, "run", "(LRosetteShow$Plan;I)V"⟩
abbrev cX7_begin : ByteArray := prog_9_method_3_code
def yX7_begin : MethodName := ⟨RX7, "begin", "(LRosetteShow$Plan;)V"⟩
abbrev cX7_doEvents : ByteArray := prog_9_method_4_code
def yX7_doEvents : MethodName := ⟨RX7, "doEvents", "(LRosetteShow$Plan;I)V"⟩
abbrev cX7_happen : ByteArray := prog_9_method_5_code
def yX7_happen : MethodName := ⟨RX7, "happen", "(II)V"⟩
abbrev cX7_scoreAll : ByteArray := prog_9_method_6_code
def yX7_scoreAll : MethodName := ⟨RX7, "scoreAll", "(LRosetteShow$Plan;I)V"⟩
abbrev cX7_scoreBy : ByteArray := prog_9_method_7_code
def yX7_scoreBy : MethodName := ⟨RX7, "scoreBy", "(LRosetteShow$Plan;II)I"⟩
abbrev cX7_placeAll : ByteArray := prog_9_method_8_code
def yX7_placeAll : MethodName := ⟨RX7, "placeAll", "(LRosetteShow$Plan;I)V"⟩
abbrev cX7_topWithout : ByteArray := prog_9_method_9_code
def yX7_topWithout : MethodName := ⟨RX7, "topWithout", "(II)I"⟩
abbrev cX7_pin : ByteArray := prog_9_method_10_code
def yX7_pin : MethodName := ⟨RX7, "pin", "(III)V"⟩
abbrev cX7_placedAt : ByteArray := prog_9_method_11_code
def yX7_placedAt : MethodName := ⟨RX7, "placedAt", "(II)I"⟩
abbrev cX7_placeOf : ByteArray := prog_9_method_12_code
def yX7_placeOf : MethodName := ⟨RX7, "placeOf", "(II)I"⟩
abbrev cX7_bearsOut : ByteArray := prog_9_method_13_code
def yX7_bearsOut : MethodName := ⟨RX7, "bearsOut", "(LRosetteShow$Notes;I)Z"⟩
abbrev cX7_tellOf : ByteArray := prog_9_method_14_code
def yX7_tellOf : MethodName := ⟨RX7, "tellOf", "(II)I"⟩
abbrev cX7_coloursOf : ByteArray := prog_9_method_15_code
def yX7_coloursOf : MethodName := ⟨RX7, "coloursOf", "(LRosetteShow$Plan;I)I"⟩
abbrev cX7_mostColoured : ByteArray := prog_9_method_16_code
def yX7_mostColoured : MethodName := ⟨RX7, "mostColoured", "(I)I"⟩
abbrev cX7_neverPlaced : ByteArray := prog_9_method_17_code
def yX7_neverPlaced : MethodName := ⟨RX7, "neverPlaced", "(I)I"⟩
def RX8 : String := "RosetteShow"
def TX8 : u_T := fun k => match k with
  | 0 => ("RosetteShow", "things", "LRosetteShow$Roll;", true)
  | 1 => ("RosetteShow", "judges", "LRosetteShow$Roll;", true)
  | 2 => ("RosetteShow", "box", "LRosetteShow$Turns;", true)
  | 3 => ("RosetteShow", "events", "LRosetteShow$Notes;", true)
  | 4 => ("RosetteShow", "sightings", "LRosetteShow$Notes;", true)
  | 5 => ("RosetteShow", "sheets", "[LRosetteShow$Sheet;", true)
  | 6 => ("RosetteShow", "latestFinding", "I", false)
  | 7 => ("RosetteShow", "plan", "LRosetteShow$Plan;", true)
  | 8 => ("RosetteShow", "year", "LRosetteShow$Year;", true)
  | 9 => ("RosetteShow", "choice", "LRosetteShow$Choice;", true)
  | 10 => ("RosetteShow", "weights", "[J", true)
  | _ => ("RosetteShow", "tally", "[I", true)
def tyX8 : Nat → FieldType := fun k => match k with
  | 0 => .object "RosetteShow$Roll"
  | 1 => .object "RosetteShow$Roll"
  | 2 => .object "RosetteShow$Turns"
  | 3 => .object "RosetteShow$Notes"
  | 4 => .object "RosetteShow$Notes"
  | 5 => .array (.object "RosetteShow$Sheet")
  | 6 => .int
  | 7 => .object "RosetteShow$Plan"
  | 8 => .object "RosetteShow$Year"
  | 9 => .object "RosetteShow$Choice"
  | 10 => .array .long
  | _ => .array .int
abbrev wsX80 : List Cond := u_ws RX8 TX8 12
theorem nmX8 : ∀ a, a < 12 → ∀ b, b < 12 → a ≠ b → (TX8 a).2.1 ≠ (TX8 b).2.1 := by decide +kernel
theorem tyX8_ok : ∀ k, k < 12 → parseFieldDescriptor (TX8 k).2.2.1 = some (tyX8 k) := by decide +kernel
abbrev cX8_init : ByteArray := prog_1_method_1_code
def yX8_init : MethodName := ⟨RX8, "<init>", "()V"⟩
abbrev cX8_type : ByteArray := prog_1_method_2_code
def yX8_type : MethodName := ⟨RX8, "type", "(II)I"⟩
abbrev cX8_wipe : ByteArray := prog_1_method_3_code
def yX8_wipe : MethodName := ⟨RX8, "wipe", "(I)I"⟩
abbrev cX8_undo : ByteArray := prog_1_method_4_code
def yX8_undo : MethodName := ⟨RX8, "undo", "(I)I"⟩
abbrev cX8_fault : ByteArray := prog_1_method_5_code
def yX8_fault : MethodName := ⟨RX8, "fault", "(I)I"⟩
abbrev cX8_thing : ByteArray := prog_1_method_6_code
def yX8_thing : MethodName := ⟨RX8, "thing", "(II)I"⟩
abbrev cX8_judge : ByteArray := prog_1_method_7_code
def yX8_judge : MethodName := ⟨RX8, "judge", "(II)I"⟩
abbrev cX8_event : ByteArray := prog_1_method_8_code
def yX8_event : MethodName := ⟨RX8, "event", "(III)I"⟩
abbrev cX8_back : ByteArray := prog_1_method_9_code
def yX8_back : MethodName := ⟨RX8, "back", "()I"⟩
abbrev cX8_read : ByteArray := prog_1_method_10_code
def yX8_read : MethodName := ⟨RX8, "read", "(I)I"⟩
abbrev cX8_place : ByteArray := prog_1_method_11_code
def yX8_place : MethodName := ⟨RX8, "place", "(II)I"⟩
abbrev cX8_at : ByteArray := prog_1_method_12_code
def yX8_at : MethodName := ⟨RX8, "at", "(III)I"⟩
abbrev cX8_show : ByteArray := prog_1_method_13_code
def yX8_show : MethodName := ⟨RX8, "show", "(II)I"⟩
abbrev cX8_owned : ByteArray := prog_1_method_14_code
def yX8_owned : MethodName := ⟨RX8, "owned", "(I)I"⟩
abbrev cX8_champion : ByteArray := prog_1_method_15_code
def yX8_champion : MethodName := ⟨RX8, "champion", "()I"⟩
abbrev cX8_best : ByteArray := prog_1_method_16_code
def yX8_best : MethodName := ⟨RX8, "best", "()I"⟩
abbrev cX8_left : ByteArray := prog_1_method_17_code
def yX8_left : MethodName := ⟨RX8, "left", "(I)I"⟩
abbrev cX8_brush : ByteArray := prog_1_method_18_code
def yX8_brush : MethodName := ⟨RX8, "brush", "(II)I"⟩
abbrev cX8_rival : ByteArray := prog_1_method_19_code
def yX8_rival : MethodName := ⟨RX8, "rival", "(II)I"⟩
abbrev cX8_send : ByteArray := prog_1_method_20_code
def yX8_send : MethodName := ⟨RX8, "send", "(III)I"⟩
abbrev cX8_spare : ByteArray := prog_1_method_21_code
def yX8_spare : MethodName := ⟨RX8, "spare", "(I)I"⟩
abbrev cX8_seen : ByteArray := prog_1_method_22_code
def yX8_seen : MethodName := ⟨RX8, "seen", "(III)I"⟩
abbrev cX8_forget : ByteArray := prog_1_method_23_code
def yX8_forget : MethodName := ⟨RX8, "forget", "()I"⟩
abbrev cX8_never : ByteArray := prog_1_method_24_code
def yX8_never : MethodName := ⟨RX8, "never", "()I"⟩
abbrev cX8_looked : ByteArray := prog_1_method_25_code
def yX8_looked : MethodName := ⟨RX8, "looked", "(I)I"⟩
abbrev cX8_tastes : ByteArray := prog_1_method_26_code
def yX8_tastes : MethodName := ⟨RX8, "tastes", "(I)I"⟩
abbrev cX8_ask : ByteArray := prog_1_method_27_code
def yX8_ask : MethodName := ⟨RX8, "ask", "(I)I"⟩
abbrev cX8_chance : ByteArray := prog_1_method_28_code
def yX8_chance : MethodName := ⟨RX8, "chance", "(III)J"⟩
abbrev cX8_years : ByteArray := prog_1_method_29_code
def yX8_years : MethodName := ⟨RX8, "years", "(III)I"⟩
abbrev cX8_sheet : ByteArray := prog_1_method_30_code
def yX8_sheet : MethodName := ⟨RX8, "sheet", "(III)I"⟩
abbrev cX8_lose : ByteArray := prog_1_method_31_code
def yX8_lose : MethodName := ⟨RX8, "lose", "(I)I"⟩
abbrev cX8_lay : ByteArray := prog_1_method_32_code
def yX8_lay : MethodName := ⟨RX8, "lay", "(IIII)I"⟩
abbrev cX8_get : ByteArray := prog_1_method_33_code
def yX8_get : MethodName := ⟨RX8, "get", "(III)I"⟩
abbrev cX8_copy : ByteArray := prog_1_method_34_code
def yX8_copy : MethodName := ⟨RX8, "copy", "(IIIII)I"⟩
abbrev cX8_write : ByteArray := prog_1_method_35_code
def yX8_write : MethodName := ⟨RX8, "write", "(II)I"⟩
abbrev cX8_count : ByteArray := prog_1_method_36_code
def yX8_count : MethodName := ⟨RX8, "count", "(I)I"⟩
abbrev cX8_digest : ByteArray := prog_1_method_37_code
def yX8_digest : MethodName := ⟨RX8, "digest", "()J"⟩
abbrev cX8_digestWeeks : ByteArray := prog_1_method_38_code
def yX8_digestWeeks : MethodName := ⟨RX8, "digestWeeks", "(J)J"⟩
abbrev cX8_digestThing : ByteArray := prog_1_method_39_code
def yX8_digestThing : MethodName := ⟨RX8, "digestThing", "(JI)J"⟩
abbrev cX8_digestJudges : ByteArray := prog_1_method_40_code
def yX8_digestJudges : MethodName := ⟨RX8, "digestJudges", "(J)J"⟩
abbrev cX8_digestOwners : ByteArray := prog_1_method_41_code
def yX8_digestOwners : MethodName := ⟨RX8, "digestOwners", "(J)J"⟩
abbrev cX8_mixChoice : ByteArray := prog_1_method_42_code
def yX8_mixChoice : MethodName := ⟨RX8, "mixChoice", "(J)J"⟩
abbrev cX8_mix : ByteArray := prog_1_method_43_code
def yX8_mix : MethodName := ⟨RX8, "mix", "(JJ)J"⟩
abbrev cX8_isIn : ByteArray := prog_1_method_44_code
def yX8_isIn : MethodName := ⟨RX8, "isIn", "(II)Z"⟩
abbrev cX8_mayHappen : ByteArray := prog_1_method_45_code
def yX8_mayHappen : MethodName := ⟨RX8, "mayHappen", "(III)Z"⟩
abbrev cX8_textOf : ByteArray := prog_1_method_46_code
def yX8_textOf : MethodName := ⟨RX8, "textOf", "(I)LRosetteShow$Text;"⟩
abbrev cX8_found : ByteArray := prog_1_method_47_code
def yX8_found : MethodName := ⟨RX8, "found", "(I)I"⟩
abbrev cX8_planAsTold : ByteArray := prog_1_method_48_code
def yX8_planAsTold : MethodName := ⟨RX8, "planAsTold", "()V"⟩
abbrev cX8_runAsTold : ByteArray := prog_1_method_49_code
def yX8_runAsTold : MethodName := ⟨RX8, "runAsTold", "(I)V"⟩
abbrev cX8_chooseBrush : ByteArray := prog_1_method_50_code
def yX8_chooseBrush : MethodName := ⟨RX8, "chooseBrush", "(I)V"⟩
abbrev cX8_chooseRival : ByteArray := prog_1_method_51_code
def yX8_chooseRival : MethodName := ⟨RX8, "chooseRival", "(I)V"⟩
abbrev cX8_chooseJudge : ByteArray := prog_1_method_52_code
def yX8_chooseJudge : MethodName := ⟨RX8, "chooseJudge", "(II)V"⟩
abbrev cX8_sparedEvents : ByteArray := prog_1_method_53_code
def yX8_sparedEvents : MethodName := ⟨RX8, "sparedEvents", "()I"⟩
abbrev cX8_standsWithout : ByteArray := prog_1_method_54_code
def yX8_standsWithout : MethodName := ⟨RX8, "standsWithout", "(I)Z"⟩
abbrev cX8_tallyPlaces : ByteArray := prog_1_method_55_code
def yX8_tallyPlaces : MethodName := ⟨RX8, "tallyPlaces", "(I)V"⟩
abbrev cX8_greatestTally : ByteArray := prog_1_method_56_code
def yX8_greatestTally : MethodName := ⟨RX8, "greatestTally", "(I)I"⟩
abbrev cX8_weighBests : ByteArray := prog_1_method_57_code
def yX8_weighBests : MethodName := ⟨RX8, "weighBests", "(I)V"⟩
abbrev cX8_weightWithout : ByteArray := prog_1_method_58_code
def yX8_weightWithout : MethodName := ⟨RX8, "weightWithout", "(II)J"⟩
abbrev cX8_partOfFraction : ByteArray := prog_1_method_59_code
def yX8_partOfFraction : MethodName := ⟨RX8, "partOfFraction", "(JI)J"⟩
abbrev cX8_drawBox : ByteArray := prog_1_method_60_code
def yX8_drawBox : MethodName := ⟨RX8, "drawBox", "(II)V"⟩
def RX9 : String := "RosetteShowModel"
def TX9 : u_T := fun k => match k with
  | 0 => ("RosetteShowModel", "forms", "[I", true)
  | 1 => ("RosetteShowModel", "sizes", "[I", true)
  | 2 => ("RosetteShowModel", "items", "[I", true)
  | 3 => ("RosetteShowModel", "moved", "[I", true)
  | 4 => ("RosetteShowModel", "latest", "I", false)
  | 5 => ("RosetteShowModel", "bytes", "[I", true)
  | 6 => ("RosetteShowModel", "typed", "[I", true)
  | 7 => ("RosetteShowModel", "things", "I", false)
  | 8 => ("RosetteShowModel", "thing", "[I", true)
  | 9 => ("RosetteShowModel", "judges", "I", false)
  | 10 => ("RosetteShowModel", "judge", "[I", true)
  | 11 => ("RosetteShowModel", "told", "I", false)
  | 12 => ("RosetteShowModel", "box", "[I", true)
  | 13 => ("RosetteShowModel", "events", "I", false)
  | 14 => ("RosetteShowModel", "event", "[I", true)
  | 15 => ("RosetteShowModel", "gone", "I", false)
  | 16 => ("RosetteShowModel", "oddWeek", "I", false)
  | 17 => ("RosetteShowModel", "oddThing", "I", false)
  | 18 => ("RosetteShowModel", "kept", "I", false)
  | 19 => ("RosetteShowModel", "looks", "[I", true)
  | 20 => ("RosetteShowModel", "colour", "[I", true)
  | 21 => ("RosetteShowModel", "firsts", "[I", true)
  | 22 => ("RosetteShowModel", "fell", "[Z", true)
  | 23 => ("RosetteShowModel", "score", "[I", true)
  | 24 => ("RosetteShowModel", "home", "[Z", true)
  | 25 => ("RosetteShowModel", "rains", "Z", false)
  | 26 => ("RosetteShowModel", "placed", "I", false)
  | 27 => ("RosetteShowModel", "looksBy", "[I", true)
  | 28 => ("RosetteShowModel", "colourBy", "[I", true)
  | 29 => ("RosetteShowModel", "firstsBy", "[I", true)
  | 30 => ("RosetteShowModel", "fellBy", "[I", true)
  | 31 => ("RosetteShowModel", "scoreBy", "[I", true)
  | 32 => ("RosetteShowModel", "placeBy", "[I", true)
  | 33 => ("RosetteShowModel", "sights", "I", false)
  | 34 => ("RosetteShowModel", "sight", "[I", true)
  | 35 => ("RosetteShowModel", "ways", "[I", true)
  | _ => ("RosetteShowModel", "drawn", "I", false)
def tyX9 : Nat → FieldType := fun k => match k with
  | 0 => .array .int
  | 1 => .array .int
  | 2 => .array .int
  | 3 => .array .int
  | 4 => .int
  | 5 => .array .int
  | 6 => .array .int
  | 7 => .int
  | 8 => .array .int
  | 9 => .int
  | 10 => .array .int
  | 11 => .int
  | 12 => .array .int
  | 13 => .int
  | 14 => .array .int
  | 15 => .int
  | 16 => .int
  | 17 => .int
  | 18 => .int
  | 19 => .array .int
  | 20 => .array .int
  | 21 => .array .int
  | 22 => .array .boolean
  | 23 => .array .int
  | 24 => .array .boolean
  | 25 => .boolean
  | 26 => .int
  | 27 => .array .int
  | 28 => .array .int
  | 29 => .array .int
  | 30 => .array .int
  | 31 => .array .int
  | 32 => .array .int
  | 33 => .int
  | 34 => .array .int
  | 35 => .array .int
  | _ => .int
abbrev wsX90 : List Cond := u_ws RX9 TX9 37
theorem nmX9 : ∀ a, a < 37 → ∀ b, b < 37 → a ≠ b → (TX9 a).2.1 ≠ (TX9 b).2.1 := by decide +kernel
theorem tyX9_ok : ∀ k, k < 37 → parseFieldDescriptor (TX9 k).2.2.1 = some (tyX9 k) := by decide +kernel
abbrev cX9_init : ByteArray := prog_11_method_1_code
def yX9_init : MethodName := ⟨RX9, "<init>", "()V"⟩
abbrev cX9_in : ByteArray := prog_11_method_3_code
def yX9_in : MethodName := ⟨RX9, "in", "(JJJ)Z"⟩
abbrev cX9_no : ByteArray := prog_11_method_4_code
def yX9_no : MethodName := ⟨RX9, "no", "(I)J"⟩
abbrev cX9_isTwo : ByteArray := prog_11_method_5_code
def yX9_isTwo : MethodName := ⟨RX9, "isTwo", "(I)Z"⟩
abbrev cX9_isIn : ByteArray := prog_11_method_6_code
def yX9_isIn : MethodName := ⟨RX9, "isIn", "(II)Z"⟩
abbrev cX9_ones : ByteArray := prog_11_method_7_code
def yX9_ones : MethodName := ⟨RX9, "ones", "(I)I"⟩
abbrev cX9_lesser : ByteArray := prog_11_method_8_code
def yX9_lesser : MethodName := ⟨RX9, "lesser", "(II)I"⟩
abbrev cX9_greater : ByteArray := prog_11_method_9_code
def yX9_greater : MethodName := ⟨RX9, "greater", "(II)I"⟩
abbrev cX9_part : ByteArray := prog_11_method_10_code
def yX9_part : MethodName := ⟨RX9, "part", "(JJI)J"⟩
abbrev cX9_finds : ByteArray := prog_11_method_11_code
def yX9_finds : MethodName := ⟨RX9, "finds", "(I)I"⟩
abbrev cX9_isSheet : ByteArray := prog_11_method_12_code
def yX9_isSheet : MethodName := ⟨RX9, "isSheet", "(I)Z"⟩
abbrev cX9_sheet : ByteArray := prog_11_method_13_code
def yX9_sheet : MethodName := ⟨RX9, "sheet", "(III)I"⟩
abbrev cX9_lose : ByteArray := prog_11_method_14_code
def yX9_lose : MethodName := ⟨RX9, "lose", "(I)I"⟩
abbrev cX9_lacks : ByteArray := prog_11_method_15_code
def yX9_lacks : MethodName := ⟨RX9, "lacks", "(III)I"⟩
abbrev cX9_cut : ByteArray := prog_11_method_16_code
def yX9_cut : MethodName := ⟨RX9, "cut", "(II)I"⟩
abbrev cX9_lay : ByteArray := prog_11_method_17_code
def yX9_lay : MethodName := ⟨RX9, "lay", "(IIII)I"⟩
abbrev cX9_get : ByteArray := prog_11_method_18_code
def yX9_get : MethodName := ⟨RX9, "get", "(III)I"⟩
abbrev cX9_copy : ByteArray := prog_11_method_19_code
def yX9_copy : MethodName := ⟨RX9, "copy", "(IIIII)I"⟩
abbrev cX9_isText : ByteArray := prog_11_method_20_code
def yX9_isText : MethodName := ⟨RX9, "isText", "(I)Z"⟩
abbrev cX9_type : ByteArray := prog_11_method_21_code
def yX9_type : MethodName := ⟨RX9, "type", "(II)I"⟩
abbrev cX9_wipe : ByteArray := prog_11_method_22_code
def yX9_wipe : MethodName := ⟨RX9, "wipe", "(I)I"⟩
abbrev cX9_undo : ByteArray := prog_11_method_23_code
def yX9_undo : MethodName := ⟨RX9, "undo", "(I)I"⟩
abbrev cX9_figureOf : ByteArray := prog_11_method_24_code
def yX9_figureOf : MethodName := ⟨RX9, "figureOf", "(III)I"⟩
abbrev cX9_byteOf : ByteArray := prog_11_method_25_code
def yX9_byteOf : MethodName := ⟨RX9, "byteOf", "(III)I"⟩
abbrev cX9_readsThings : ByteArray := prog_11_method_26_code
def yX9_readsThings : MethodName := ⟨RX9, "readsThings", "()I"⟩
abbrev cX9_readsJudges : ByteArray := prog_11_method_27_code
def yX9_readsJudges : MethodName := ⟨RX9, "readsJudges", "()I"⟩
abbrev cX9_clears : ByteArray := prog_11_method_28_code
def yX9_clears : MethodName := ⟨RX9, "clears", "(I)I"⟩
abbrev cX9_readsBox : ByteArray := prog_11_method_29_code
def yX9_readsBox : MethodName := ⟨RX9, "readsBox", "()I"⟩
abbrev cX9_readsText : ByteArray := prog_11_method_30_code
def yX9_readsText : MethodName := ⟨RX9, "readsText", "(I)I"⟩
abbrev cX9_fault : ByteArray := prog_11_method_31_code
def yX9_fault : MethodName := ⟨RX9, "fault", "(I)I"⟩
abbrev cX9_isThing : ByteArray := prog_11_method_32_code
def yX9_isThing : MethodName := ⟨RX9, "isThing", "(I)Z"⟩
abbrev cX9_isJudge : ByteArray := prog_11_method_33_code
def yX9_isJudge : MethodName := ⟨RX9, "isJudge", "(I)Z"⟩
abbrev cX9_isWeek : ByteArray := prog_11_method_34_code
def yX9_isWeek : MethodName := ⟨RX9, "isWeek", "(I)Z"⟩
abbrev cX9_thing : ByteArray := prog_11_method_35_code
def yX9_thing : MethodName := ⟨RX9, "thing", "(II)I"⟩
abbrev cX9_judge : ByteArray := prog_11_method_36_code
def yX9_judge : MethodName := ⟨RX9, "judge", "(II)I"⟩
abbrev cX9_event : ByteArray := prog_11_method_37_code
def yX9_event : MethodName := ⟨RX9, "event", "(III)I"⟩
abbrev cX9_back : ByteArray := prog_11_method_38_code
def yX9_back : MethodName := ⟨RX9, "back", "()I"⟩
abbrev cX9_read : ByteArray := prog_11_method_39_code
def yX9_read : MethodName := ⟨RX9, "read", "(I)I"⟩
abbrev cX9_happens : ByteArray := prog_11_method_40_code
def yX9_happens : MethodName := ⟨RX9, "happens", "(II)V"⟩
abbrev cX9_scoreOf : ByteArray := prog_11_method_41_code
def yX9_scoreOf : MethodName := ⟨RX9, "scoreOf", "(II)I"⟩
abbrev cX9_scores : ByteArray := prog_11_method_42_code
def yX9_scores : MethodName := ⟨RX9, "scores", "(I)V"⟩
abbrev cX9_bestBut : ByteArray := prog_11_method_43_code
def yX9_bestBut : MethodName := ⟨RX9, "bestBut", "(I)I"⟩
abbrev cX9_places : ByteArray := prog_11_method_44_code
def yX9_places : MethodName := ⟨RX9, "places", "(I)V"⟩
abbrev cX9_passes : ByteArray := prog_11_method_45_code
def yX9_passes : MethodName := ⟨RX9, "passes", "(I)V"⟩
abbrev cX9_lives : ByteArray := prog_11_method_46_code
def yX9_lives : MethodName := ⟨RX9, "lives", "()V"⟩
abbrev cX9_find : ByteArray := prog_11_method_47_code
def yX9_find : MethodName := ⟨RX9, "find", "()V"⟩
abbrev cX9_place : ByteArray := prog_11_method_48_code
def yX9_place : MethodName := ⟨RX9, "place", "(II)I"⟩
abbrev cX9_atBy : ByteArray := prog_11_method_49_code
def yX9_atBy : MethodName := ⟨RX9, "atBy", "(III)I"⟩
abbrev cX9_at : ByteArray := prog_11_method_50_code
def yX9_at : MethodName := ⟨RX9, "at", "(III)I"⟩
abbrev cX9_showOf : ByteArray := prog_11_method_51_code
def yX9_showOf : MethodName := ⟨RX9, "showOf", "(II)I"⟩
abbrev cX9_show : ByteArray := prog_11_method_52_code
def yX9_show : MethodName := ⟨RX9, "show", "(II)I"⟩
abbrev cX9_ownedBy : ByteArray := prog_11_method_53_code
def yX9_ownedBy : MethodName := ⟨RX9, "ownedBy", "(I)I"⟩
abbrev cX9_owned : ByteArray := prog_11_method_54_code
def yX9_owned : MethodName := ⟨RX9, "owned", "(I)I"⟩
abbrev cX9_championNow : ByteArray := prog_11_method_55_code
def yX9_championNow : MethodName := ⟨RX9, "championNow", "()I"⟩
abbrev cX9_champion : ByteArray := prog_11_method_56_code
def yX9_champion : MethodName := ⟨RX9, "champion", "()I"⟩
abbrev cX9_bestNow : ByteArray := prog_11_method_57_code
def yX9_bestNow : MethodName := ⟨RX9, "bestNow", "()I"⟩
abbrev cX9_best : ByteArray := prog_11_method_58_code
def yX9_best : MethodName := ⟨RX9, "best", "()I"⟩
abbrev cX9_leftBy : ByteArray := prog_11_method_59_code
def yX9_leftBy : MethodName := ⟨RX9, "leftBy", "(I)I"⟩
abbrev cX9_left : ByteArray := prog_11_method_60_code
def yX9_left : MethodName := ⟨RX9, "left", "(I)I"⟩
abbrev cX9_brushOf : ByteArray := prog_11_method_61_code
def yX9_brushOf : MethodName := ⟨RX9, "brushOf", "(II)I"⟩
abbrev cX9_brush : ByteArray := prog_11_method_62_code
def yX9_brush : MethodName := ⟨RX9, "brush", "(II)I"⟩
abbrev cX9_rivalOf : ByteArray := prog_11_method_63_code
def yX9_rivalOf : MethodName := ⟨RX9, "rivalOf", "(II)I"⟩
abbrev cX9_rival : ByteArray := prog_11_method_64_code
def yX9_rival : MethodName := ⟨RX9, "rival", "(II)I"⟩
abbrev cX9_sendOf : ByteArray := prog_11_method_65_code
def yX9_sendOf : MethodName := ⟨RX9, "sendOf", "(III)I"⟩
abbrev cX9_send : ByteArray := prog_11_method_66_code
def yX9_send : MethodName := ⟨RX9, "send", "(III)I"⟩
abbrev cX9_isSpared : ByteArray := prog_11_method_67_code
def yX9_isSpared : MethodName := ⟨RX9, "isSpared", "(I)Z"⟩
abbrev cX9_spareBy : ByteArray := prog_11_method_68_code
def yX9_spareBy : MethodName := ⟨RX9, "spareBy", "(I)I"⟩
abbrev cX9_spare : ByteArray := prog_11_method_69_code
def yX9_spare : MethodName := ⟨RX9, "spare", "(I)I"⟩
abbrev cX9_seen : ByteArray := prog_11_method_70_code
def yX9_seen : MethodName := ⟨RX9, "seen", "(III)I"⟩
abbrev cX9_forget : ByteArray := prog_11_method_71_code
def yX9_forget : MethodName := ⟨RX9, "forget", "()I"⟩
abbrev cX9_placeOf : ByteArray := prog_11_method_72_code
def yX9_placeOf : MethodName := ⟨RX9, "placeOf", "(II)I"⟩
abbrev cX9_isSeen : ByteArray := prog_11_method_73_code
def yX9_isSeen : MethodName := ⟨RX9, "isSeen", "()Z"⟩
abbrev cX9_neverNow : ByteArray := prog_11_method_74_code
def yX9_neverNow : MethodName := ⟨RX9, "neverNow", "()I"⟩
abbrev cX9_never : ByteArray := prog_11_method_75_code
def yX9_never : MethodName := ⟨RX9, "never", "()I"⟩
abbrev cX9_lookedOf : ByteArray := prog_11_method_76_code
def yX9_lookedOf : MethodName := ⟨RX9, "lookedOf", "(I)I"⟩
abbrev cX9_looked : ByteArray := prog_11_method_77_code
def yX9_looked : MethodName := ⟨RX9, "looked", "(I)I"⟩
abbrev cX9_tastesOf : ByteArray := prog_11_method_78_code
def yX9_tastesOf : MethodName := ⟨RX9, "tastesOf", "(I)I"⟩
abbrev cX9_tastes : ByteArray := prog_11_method_79_code
def yX9_tastes : MethodName := ⟨RX9, "tastes", "(I)I"⟩
abbrev cX9_alike : ByteArray := prog_11_method_80_code
def yX9_alike : MethodName := ⟨RX9, "alike", "(II)I"⟩
abbrev cX9_askOf : ByteArray := prog_11_method_81_code
def yX9_askOf : MethodName := ⟨RX9, "askOf", "(I)I"⟩
abbrev cX9_ask : ByteArray := prog_11_method_82_code
def yX9_ask : MethodName := ⟨RX9, "ask", "(I)I"⟩
abbrev cX9_chanceOf : ByteArray := prog_11_method_83_code
def yX9_chanceOf : MethodName := ⟨RX9, "chanceOf", "(III)J"⟩
abbrev cX9_chance : ByteArray := prog_11_method_84_code
def yX9_chance : MethodName := ⟨RX9, "chance", "(III)J"⟩
abbrev cX9_lot : ByteArray := prog_11_method_85_code
def yX9_lot : MethodName := ⟨RX9, "lot", "(I)I"⟩
abbrev cX9_yearsOf : ByteArray := prog_11_method_86_code
def yX9_yearsOf : MethodName := ⟨RX9, "yearsOf", "(III)I"⟩
abbrev cX9_years : ByteArray := prog_11_method_87_code
def yX9_years : MethodName := ⟨RX9, "years", "(III)I"⟩
abbrev cX9_write : ByteArray := prog_11_method_88_code
def yX9_write : MethodName := ⟨RX9, "write", "(II)I"⟩
abbrev cX9_count : ByteArray := prog_11_method_89_code
def yX9_count : MethodName := ⟨RX9, "count", "(I)I"⟩
abbrev cX9_tellsWeek : ByteArray := prog_11_method_90_code
def yX9_tellsWeek : MethodName := ⟨RX9, "tellsWeek", "(JII)J"⟩
abbrev cX9_tellsThing : ByteArray := prog_11_method_91_code
def yX9_tellsThing : MethodName := ⟨RX9, "tellsThing", "(JI)J"⟩
abbrev cX9_tellsOwner : ByteArray := prog_11_method_92_code
def yX9_tellsOwner : MethodName := ⟨RX9, "tellsOwner", "(JI)J"⟩
abbrev cX9_digest : ByteArray := prog_11_method_93_code
def yX9_digest : MethodName := ⟨RX9, "digest", "()J"⟩
def RJ6 : String := "java/lang/Integer"
def TJ6 : u_T := fun k => match k with
  | _ => ("", "", "", false)
def tyJ6 : Nat → FieldType := fun k => match k with
  | _ => .int
abbrev wsJ60 : List Cond := u_ws RJ6 TJ6 0
theorem nmJ6 : ∀ a, a < 0 → ∀ b, b < 0 → a ≠ b → (TJ6 a).2.1 ≠ (TJ6 b).2.1 := by decide +kernel
theorem tyJ6_ok : ∀ k, k < 0 → parseFieldDescriptor (TJ6 k).2.2.1 = some (tyJ6 k) := by decide +kernel
abbrev cJ6_highestOneBit_0f7a4 : ByteArray := prog_12_method_45_code
def yJ6_highestOneBit_0f7a4 : MethodName := ⟨RJ6, "highestOneBit", "(I)I"⟩
abbrev cJ6_lowestOneBit_0f7a4 : ByteArray := prog_12_method_46_code
def yJ6_lowestOneBit_0f7a4 : MethodName := ⟨RJ6, "lowestOneBit", "(I)I"⟩
abbrev cJ6_numberOfLeadingZeros_0f7a4 : ByteArray := prog_12_method_47_code
def yJ6_numberOfLeadingZeros_0f7a4 : MethodName := ⟨RJ6, "numberOfLeadingZeros", "(I)I"⟩
abbrev cJ6_numberOfTrailingZeros_0f7a4 : ByteArray := prog_12_method_48_code
def yJ6_numberOfTrailingZeros_0f7a4 : MethodName := ⟨RJ6, "numberOfTrailingZeros", "(I)I"⟩
abbrev cJ6_bitCount_0f7a4 : ByteArray := prog_12_method_49_code
def yJ6_bitCount_0f7a4 : MethodName := ⟨RJ6, "bitCount", "(I)I"⟩
def RJ9 : String := "java/lang/Math"
def TJ9 : u_T := fun k => match k with
  | _ => ("", "", "", false)
def tyJ9 : Nat → FieldType := fun k => match k with
  | _ => .int
abbrev wsJ90 : List Cond := u_ws RJ9 TJ9 0
theorem nmJ9 : ∀ a, a < 0 → ∀ b, b < 0 → a ≠ b → (TJ9 a).2.1 ≠ (TJ9 b).2.1 := by decide +kernel
theorem tyJ9_ok : ∀ k, k < 0 → parseFieldDescriptor (TJ9 k).2.2.1 = some (tyJ9 k) := by decide +kernel
abbrev cJ9_max_7cf53 : ByteArray := prog_13_method_65_code
def yJ9_max_7cf53 : MethodName := ⟨RJ9, "max", "(II)I"⟩
abbrev cJ9_min_7cf53 : ByteArray := prog_13_method_69_code
def yJ9_min_7cf53 : MethodName := ⟨RJ9, "min", "(II)I"⟩
def RJ10 : String := "java/lang/System"
def TJ10 : u_T := fun k => match k with
  | _ => ("", "", "", false)
def tyJ10 : Nat → FieldType := fun k => match k with
  | _ => .int
abbrev wsJ100 : List Cond := u_ws RJ10 TJ10 0
theorem nmJ10 : ∀ a, a < 0 → ∀ b, b < 0 → a ≠ b → (TJ10 a).2.1 ≠ (TJ10 b).2.1 := by decide +kernel
theorem tyJ10_ok : ∀ k, k < 0 → parseFieldDescriptor (TJ10 k).2.2.1 = some (tyJ10 k) := by decide +kernel
def RL : String := "RosetteShowLaw"
abbrev cL_law : ByteArray := code
def yL_law : MethodName := ⟨RL, "law", "([I)Z"⟩
abbrev vwCl : List vw_C := [(RX0, TX0, 2), (RX1, TX1, 2), (RX2, TX2, 14), (RX3, TX3, 4), (RX4, TX4, 3), (RX6, TX6, 3), (RX7, TX7, 9), (RX8, TX8, 12), (RX9, TX9, 37)]
theorem inX0 : ∀ w ∈ wsX00, w ∈ lw_tbl := mem_ps [265, 267] (by decide +kernel)
theorem inX1 : ∀ w ∈ wsX10, w ∈ lw_tbl := mem_ps [142, 144] (by decide +kernel)
theorem inX2 : ∀ w ∈ wsX20, w ∈ lw_tbl := mem_ps [190, 192, 194, 196, 198, 200, 202, 204, 206, 208, 210, 212, 214, 216] (by decide +kernel)
theorem inX3 : ∀ w ∈ wsX30, w ∈ lw_tbl := mem_ps [114, 116, 118, 112] (by decide +kernel)
theorem inX4 : ∀ w ∈ wsX40, w ∈ lw_tbl := mem_ps [281, 283, 285] (by decide +kernel)
theorem inX6 : ∀ w ∈ wsX60, w ∈ lw_tbl := mem_ps [128, 129, 130] (by decide +kernel)
theorem inX7 : ∀ w ∈ wsX70, w ∈ lw_tbl := mem_ps [237, 239, 241, 243, 245, 247, 249, 251, 253] (by decide +kernel)
theorem inX8 : ∀ w ∈ wsX80, w ∈ lw_tbl := mem_ps [301, 303, 305, 307, 309, 311, 313, 315, 317, 319, 321, 323] (by decide +kernel)
theorem inX9 : ∀ w ∈ wsX90, w ∈ lw_tbl := mem_ps [833, 835, 837, 839, 841, 843, 845, 847, 849, 851, 853, 855, 857, 859, 861, 863, 865, 867, 869, 871, 873, 875, 877, 879, 881, 883, 885, 887, 889, 891, 893, 895, 897, 899, 901, 903, 905] (by decide +kernel)
end
section
theorem dX0_init_0 : decode cX0_init 0 = .ok (.aload_n 0, 1) := by decide +kernel
theorem dX0_init_1 : decode cX0_init 1 = .ok (.invokespecial 3, 3) := by decide +kernel
theorem dX0_init_4 : decode cX0_init 4 = .ok (.aload_n 0, 1) := by decide +kernel
theorem dX0_init_5 : decode cX0_init 5 = .ok (.iconst (-1), 1) := by decide +kernel
theorem dX0_init_6 : decode cX0_init 6 = .ok (.putfield 9, 3) := by decide +kernel
theorem dX0_init_9 : decode cX0_init 9 = .ok (.aload_n 0, 1) := by decide +kernel
theorem dX0_init_10 : decode cX0_init 10 = .ok (.iconst (-1), 1) := by decide +kernel
theorem dX0_init_11 : decode cX0_init 11 = .ok (.putfield 15, 3) := by decide +kernel
theorem dX0_init_14 : decode cX0_init 14 = .ok (.return_, 1) := by decide +kernel
theorem dX0_clear_0 : decode cX0_clear 0 = .ok (.aload_n 0, 1) := by decide +kernel
theorem dX0_clear_1 : decode cX0_clear 1 = .ok (.iconst (-1), 1) := by decide +kernel
theorem dX0_clear_2 : decode cX0_clear 2 = .ok (.putfield 9, 3) := by decide +kernel
theorem dX0_clear_5 : decode cX0_clear 5 = .ok (.aload_n 0, 1) := by decide +kernel
theorem dX0_clear_6 : decode cX0_clear 6 = .ok (.iconst (-1), 1) := by decide +kernel
theorem dX0_clear_7 : decode cX0_clear 7 = .ok (.putfield 15, 3) := by decide +kernel
theorem dX0_clear_10 : decode cX0_clear 10 = .ok (.return_, 1) := by decide +kernel
theorem dX0_offer_0 : decode cX0_offer 0 = .ok (.aload_n 0, 1) := by decide +kernel
theorem dX0_offer_1 : decode cX0_offer 1 = .ok (.getfield 9, 3) := by decide +kernel
theorem dX0_offer_4 : decode cX0_offer 4 = .ok (.iconst (-1), 1) := by decide +kernel
theorem dX0_offer_5 : decode cX0_offer 5 = .ok (.if_icmp .eq 11, 3) := by decide +kernel
theorem dX0_offer_8 : decode cX0_offer 8 = .ok (.iload_n 2, 1) := by decide +kernel
theorem dX0_offer_9 : decode cX0_offer 9 = .ok (.aload_n 0, 1) := by decide +kernel
theorem dX0_offer_10 : decode cX0_offer 10 = .ok (.getfield 15, 3) := by decide +kernel
theorem dX0_offer_13 : decode cX0_offer 13 = .ok (.if_icmp .le 13, 3) := by decide +kernel
theorem dX0_offer_16 : decode cX0_offer 16 = .ok (.aload_n 0, 1) := by decide +kernel
theorem dX0_offer_17 : decode cX0_offer 17 = .ok (.iload_n 1, 1) := by decide +kernel
theorem dX0_offer_18 : decode cX0_offer 18 = .ok (.putfield 9, 3) := by decide +kernel
theorem dX0_offer_21 : decode cX0_offer 21 = .ok (.aload_n 0, 1) := by decide +kernel
theorem dX0_offer_22 : decode cX0_offer 22 = .ok (.iload_n 2, 1) := by decide +kernel
theorem dX0_offer_23 : decode cX0_offer 23 = .ok (.putfield 15, 3) := by decide +kernel
theorem dX0_offer_26 : decode cX0_offer 26 = .ok (.return_, 1) := by decide +kernel
theorem dX0_tell_0 : decode cX0_tell 0 = .ok (.iload_n 1, 1) := by decide +kernel
theorem dX0_tell_1 : decode cX0_tell 1 = .ok (.ifCond .ne 10, 3) := by decide +kernel
theorem dX0_tell_4 : decode cX0_tell 4 = .ok (.aload_n 0, 1) := by decide +kernel
theorem dX0_tell_5 : decode cX0_tell 5 = .ok (.getfield 9, 3) := by decide +kernel
theorem dX0_tell_8 : decode cX0_tell 8 = .ok (.goto 7, 3) := by decide +kernel
theorem dX0_tell_11 : decode cX0_tell 11 = .ok (.aload_n 0, 1) := by decide +kernel
theorem dX0_tell_12 : decode cX0_tell 12 = .ok (.getfield 15, 3) := by decide +kernel
theorem dX0_tell_15 : decode cX0_tell 15 = .ok (.ireturn, 1) := by decide +kernel
theorem dX1_init_0 : decode cX1_init 0 = .ok (.aload_n 0, 1) := by decide +kernel
theorem dX1_init_1 : decode cX1_init 1 = .ok (.invokespecial 3, 3) := by decide +kernel
theorem dX1_init_4 : decode cX1_init 4 = .ok (.aload_n 0, 1) := by decide +kernel
theorem dX1_init_5 : decode cX1_init 5 = .ok (.bipush 24, 2) := by decide +kernel
theorem dX1_init_7 : decode cX1_init 7 = .ok (.newarray .int, 2) := by decide +kernel
theorem dX1_init_9 : decode cX1_init 9 = .ok (.putfield 9, 3) := by decide +kernel
theorem dX1_init_12 : decode cX1_init 12 = .ok (.aload_n 0, 1) := by decide +kernel
theorem dX1_init_13 : decode cX1_init 13 = .ok (.iconst 0, 1) := by decide +kernel
theorem dX1_init_14 : decode cX1_init 14 = .ok (.putfield 15, 3) := by decide +kernel
theorem dX1_init_17 : decode cX1_init 17 = .ok (.return_, 1) := by decide +kernel
theorem dX1_add_0 : decode cX1_add 0 = .ok (.aload_n 0, 1) := by decide +kernel
theorem dX1_add_1 : decode cX1_add 1 = .ok (.getfield 15, 3) := by decide +kernel
theorem dX1_add_4 : decode cX1_add 4 = .ok (.bipush 8, 2) := by decide +kernel
theorem dX1_add_6 : decode cX1_add 6 = .ok (.if_icmp .lt 5, 3) := by decide +kernel
theorem dX1_add_9 : decode cX1_add 9 = .ok (.iconst 0, 1) := by decide +kernel
theorem dX1_add_10 : decode cX1_add 10 = .ok (.ireturn, 1) := by decide +kernel
theorem dX1_add_11 : decode cX1_add 11 = .ok (.aload_n 0, 1) := by decide +kernel
theorem dX1_add_12 : decode cX1_add 12 = .ok (.getfield 9, 3) := by decide +kernel
theorem dX1_add_15 : decode cX1_add 15 = .ok (.iconst 3, 1) := by decide +kernel
theorem dX1_add_16 : decode cX1_add 16 = .ok (.aload_n 0, 1) := by decide +kernel
theorem dX1_add_17 : decode cX1_add 17 = .ok (.getfield 15, 3) := by decide +kernel
theorem dX1_add_20 : decode cX1_add 20 = .ok (.imul, 1) := by decide +kernel
theorem dX1_add_21 : decode cX1_add 21 = .ok (.iload_n 1, 1) := by decide +kernel
theorem dX1_add_22 : decode cX1_add 22 = .ok (.iastore, 1) := by decide +kernel
theorem dX1_add_23 : decode cX1_add 23 = .ok (.aload_n 0, 1) := by decide +kernel
theorem dX1_add_24 : decode cX1_add 24 = .ok (.getfield 9, 3) := by decide +kernel
theorem dX1_add_27 : decode cX1_add 27 = .ok (.iconst 3, 1) := by decide +kernel
theorem dX1_add_28 : decode cX1_add 28 = .ok (.aload_n 0, 1) := by decide +kernel
theorem dX1_add_29 : decode cX1_add 29 = .ok (.getfield 15, 3) := by decide +kernel
theorem dX1_add_32 : decode cX1_add 32 = .ok (.imul, 1) := by decide +kernel
theorem dX1_add_33 : decode cX1_add 33 = .ok (.iconst 1, 1) := by decide +kernel
theorem dX1_add_34 : decode cX1_add 34 = .ok (.iadd, 1) := by decide +kernel
theorem dX1_add_35 : decode cX1_add 35 = .ok (.iload_n 2, 1) := by decide +kernel
theorem dX1_add_36 : decode cX1_add 36 = .ok (.iastore, 1) := by decide +kernel
theorem dX1_add_37 : decode cX1_add 37 = .ok (.aload_n 0, 1) := by decide +kernel
theorem dX1_add_38 : decode cX1_add 38 = .ok (.getfield 9, 3) := by decide +kernel
theorem dX1_add_41 : decode cX1_add 41 = .ok (.iconst 3, 1) := by decide +kernel
theorem dX1_add_42 : decode cX1_add 42 = .ok (.aload_n 0, 1) := by decide +kernel
theorem dX1_add_43 : decode cX1_add 43 = .ok (.getfield 15, 3) := by decide +kernel
theorem dX1_add_46 : decode cX1_add 46 = .ok (.imul, 1) := by decide +kernel
theorem dX1_add_47 : decode cX1_add 47 = .ok (.iconst 2, 1) := by decide +kernel
theorem dX1_add_48 : decode cX1_add 48 = .ok (.iadd, 1) := by decide +kernel
theorem dX1_add_49 : decode cX1_add 49 = .ok (.iload_n 3, 1) := by decide +kernel
theorem dX1_add_50 : decode cX1_add 50 = .ok (.iastore, 1) := by decide +kernel
theorem dX1_add_51 : decode cX1_add 51 = .ok (.aload_n 0, 1) := by decide +kernel
theorem dX1_add_52 : decode cX1_add 52 = .ok (.dup, 1) := by decide +kernel
theorem dX1_add_53 : decode cX1_add 53 = .ok (.getfield 15, 3) := by decide +kernel
theorem dX1_add_56 : decode cX1_add 56 = .ok (.iconst 1, 1) := by decide +kernel
theorem dX1_add_57 : decode cX1_add 57 = .ok (.iadd, 1) := by decide +kernel
theorem dX1_add_58 : decode cX1_add 58 = .ok (.putfield 15, 3) := by decide +kernel
theorem dX1_add_61 : decode cX1_add 61 = .ok (.iconst 1, 1) := by decide +kernel
theorem dX1_add_62 : decode cX1_add 62 = .ok (.ireturn, 1) := by decide +kernel
theorem dX1_part_0 : decode cX1_part 0 = .ok (.aload_n 0, 1) := by decide +kernel
theorem dX1_part_1 : decode cX1_part 1 = .ok (.getfield 9, 3) := by decide +kernel
theorem dX1_part_4 : decode cX1_part 4 = .ok (.iconst 3, 1) := by decide +kernel
theorem dX1_part_5 : decode cX1_part 5 = .ok (.iload_n 1, 1) := by decide +kernel
theorem dX1_part_6 : decode cX1_part 6 = .ok (.imul, 1) := by decide +kernel
theorem dX1_part_7 : decode cX1_part 7 = .ok (.iload_n 2, 1) := by decide +kernel
theorem dX1_part_8 : decode cX1_part 8 = .ok (.iadd, 1) := by decide +kernel
theorem dX1_part_9 : decode cX1_part 9 = .ok (.iaload, 1) := by decide +kernel
theorem dX1_part_10 : decode cX1_part 10 = .ok (.ireturn, 1) := by decide +kernel
theorem dX2_init_0 : decode cX2_init 0 = .ok (.aload_n 0, 1) := by decide +kernel
theorem dX2_init_1 : decode cX2_init 1 = .ok (.invokespecial 3, 3) := by decide +kernel
theorem dX2_init_4 : decode cX2_init 4 = .ok (.aload_n 0, 1) := by decide +kernel
theorem dX2_init_5 : decode cX2_init 5 = .ok (.iconst 0, 1) := by decide +kernel
theorem dX2_init_6 : decode cX2_init 6 = .ok (.putfield 9, 3) := by decide +kernel
theorem dX2_init_9 : decode cX2_init 9 = .ok (.aload_n 0, 1) := by decide +kernel
theorem dX2_init_10 : decode cX2_init 10 = .ok (.bipush 10, 2) := by decide +kernel
theorem dX2_init_12 : decode cX2_init 12 = .ok (.newarray .int, 2) := by decide +kernel
theorem dX2_init_14 : decode cX2_init 14 = .ok (.putfield 15, 3) := by decide +kernel
theorem dX2_init_17 : decode cX2_init 17 = .ok (.aload_n 0, 1) := by decide +kernel
theorem dX2_init_18 : decode cX2_init 18 = .ok (.bipush 10, 2) := by decide +kernel
theorem dX2_init_20 : decode cX2_init 20 = .ok (.newarray .int, 2) := by decide +kernel
theorem dX2_init_22 : decode cX2_init 22 = .ok (.putfield 19, 3) := by decide +kernel
theorem dX2_init_25 : decode cX2_init 25 = .ok (.aload_n 0, 1) := by decide +kernel
theorem dX2_init_26 : decode cX2_init 26 = .ok (.bipush 10, 2) := by decide +kernel
theorem dX2_init_28 : decode cX2_init 28 = .ok (.newarray .int, 2) := by decide +kernel
theorem dX2_init_30 : decode cX2_init 30 = .ok (.putfield 22, 3) := by decide +kernel
theorem dX2_init_33 : decode cX2_init 33 = .ok (.aload_n 0, 1) := by decide +kernel
theorem dX2_init_34 : decode cX2_init 34 = .ok (.iconst 0, 1) := by decide +kernel
theorem dX2_init_35 : decode cX2_init 35 = .ok (.putfield 25, 3) := by decide +kernel
theorem dX2_init_38 : decode cX2_init 38 = .ok (.aload_n 0, 1) := by decide +kernel
theorem dX2_init_39 : decode cX2_init 39 = .ok (.iconst 4, 1) := by decide +kernel
theorem dX2_init_40 : decode cX2_init 40 = .ok (.newarray .int, 2) := by decide +kernel
theorem dX2_init_42 : decode cX2_init 42 = .ok (.putfield 28, 3) := by decide +kernel
theorem dX2_init_45 : decode cX2_init 45 = .ok (.aload_n 0, 1) := by decide +kernel
theorem dX2_init_46 : decode cX2_init 46 = .ok (.iconst 4, 1) := by decide +kernel
theorem dX2_init_47 : decode cX2_init 47 = .ok (.newarray .int, 2) := by decide +kernel
theorem dX2_init_49 : decode cX2_init 49 = .ok (.putfield 31, 3) := by decide +kernel
theorem dX2_init_52 : decode cX2_init 52 = .ok (.aload_n 0, 1) := by decide +kernel
theorem dX2_init_53 : decode cX2_init 53 = .ok (.iconst 4, 1) := by decide +kernel
theorem dX2_init_54 : decode cX2_init 54 = .ok (.newarray .int, 2) := by decide +kernel
theorem dX2_init_56 : decode cX2_init 56 = .ok (.putfield 34, 3) := by decide +kernel
theorem dX2_init_59 : decode cX2_init 59 = .ok (.aload_n 0, 1) := by decide +kernel
theorem dX2_init_60 : decode cX2_init 60 = .ok (.bipush 12, 2) := by decide +kernel
theorem dX2_init_62 : decode cX2_init 62 = .ok (.newarray .int, 2) := by decide +kernel
theorem dX2_init_64 : decode cX2_init 64 = .ok (.putfield 37, 3) := by decide +kernel
theorem dX2_init_67 : decode cX2_init 67 = .ok (.aload_n 0, 1) := by decide +kernel
theorem dX2_init_68 : decode cX2_init 68 = .ok (.iconst 0, 1) := by decide +kernel
theorem dX2_init_69 : decode cX2_init 69 = .ok (.putfield 40, 3) := by decide +kernel
theorem dX2_init_72 : decode cX2_init 72 = .ok (.aload_n 0, 1) := by decide +kernel
theorem dX2_init_73 : decode cX2_init 73 = .ok (.iconst (-1), 1) := by decide +kernel
theorem dX2_init_74 : decode cX2_init 74 = .ok (.putfield 43, 3) := by decide +kernel
theorem dX2_init_77 : decode cX2_init 77 = .ok (.aload_n 0, 1) := by decide +kernel
theorem dX2_init_78 : decode cX2_init 78 = .ok (.iconst (-1), 1) := by decide +kernel
theorem dX2_init_79 : decode cX2_init 79 = .ok (.putfield 46, 3) := by decide +kernel
theorem dX2_init_82 : decode cX2_init 82 = .ok (.aload_n 0, 1) := by decide +kernel
theorem dX2_init_83 : decode cX2_init 83 = .ok (.iconst (-1), 1) := by decide +kernel
theorem dX2_init_84 : decode cX2_init 84 = .ok (.putfield 49, 3) := by decide +kernel
theorem dX2_init_87 : decode cX2_init 87 = .ok (.aload_n 0, 1) := by decide +kernel
theorem dX2_init_88 : decode cX2_init 88 = .ok (.aload_n 1, 1) := by decide +kernel
theorem dX2_init_89 : decode cX2_init 89 = .ok (.putfield 52, 3) := by decide +kernel
theorem dX2_init_92 : decode cX2_init 92 = .ok (.return_, 1) := by decide +kernel
theorem dX2_take_0 : decode cX2_take 0 = .ok (.aload_n 0, 1) := by decide +kernel
theorem dX2_take_1 : decode cX2_take 1 = .ok (.aload_n 1, 1) := by decide +kernel
theorem dX2_take_2 : decode cX2_take 2 = .ok (.invokevirtual 56, 3) := by decide +kernel
theorem dX2_take_5 : decode cX2_take 5 = .ok (.putfield 9, 3) := by decide +kernel
theorem dX2_take_8 : decode cX2_take 8 = .ok (.iconst 0, 1) := by decide +kernel
theorem dX2_take_9 : decode cX2_take 9 = .ok (.istore 4, 2) := by decide +kernel
theorem dX2_take_11 : decode cX2_take 11 = .ok (.iload 4, 2) := by decide +kernel
theorem dX2_take_13 : decode cX2_take 13 = .ok (.aload_n 0, 1) := by decide +kernel
theorem dX2_take_14 : decode cX2_take 14 = .ok (.getfield 9, 3) := by decide +kernel
theorem dX2_take_17 : decode cX2_take 17 = .ok (.if_icmp .ge 51, 3) := by decide +kernel
theorem dX2_take_20 : decode cX2_take 20 = .ok (.aload_n 0, 1) := by decide +kernel
theorem dX2_take_21 : decode cX2_take 21 = .ok (.getfield 15, 3) := by decide +kernel
theorem dX2_take_24 : decode cX2_take 24 = .ok (.iload 4, 2) := by decide +kernel
theorem dX2_take_26 : decode cX2_take 26 = .ok (.aload_n 1, 1) := by decide +kernel
theorem dX2_take_27 : decode cX2_take 27 = .ok (.iload 4, 2) := by decide +kernel
theorem dX2_take_29 : decode cX2_take 29 = .ok (.iconst 0, 1) := by decide +kernel
theorem dX2_take_30 : decode cX2_take 30 = .ok (.invokevirtual 62, 3) := by decide +kernel
theorem dX2_take_33 : decode cX2_take 33 = .ok (.iastore, 1) := by decide +kernel
theorem dX2_take_34 : decode cX2_take 34 = .ok (.aload_n 0, 1) := by decide +kernel
theorem dX2_take_35 : decode cX2_take 35 = .ok (.getfield 19, 3) := by decide +kernel
theorem dX2_take_38 : decode cX2_take 38 = .ok (.iload 4, 2) := by decide +kernel
theorem dX2_take_40 : decode cX2_take 40 = .ok (.aload_n 1, 1) := by decide +kernel
theorem dX2_take_41 : decode cX2_take 41 = .ok (.iload 4, 2) := by decide +kernel
theorem dX2_take_43 : decode cX2_take 43 = .ok (.iconst 1, 1) := by decide +kernel
theorem dX2_take_44 : decode cX2_take 44 = .ok (.invokevirtual 62, 3) := by decide +kernel
theorem dX2_take_47 : decode cX2_take 47 = .ok (.iastore, 1) := by decide +kernel
theorem dX2_take_48 : decode cX2_take 48 = .ok (.aload_n 0, 1) := by decide +kernel
theorem dX2_take_49 : decode cX2_take 49 = .ok (.getfield 22, 3) := by decide +kernel
theorem dX2_take_52 : decode cX2_take 52 = .ok (.iload 4, 2) := by decide +kernel
theorem dX2_take_54 : decode cX2_take 54 = .ok (.aload_n 1, 1) := by decide +kernel
theorem dX2_take_55 : decode cX2_take 55 = .ok (.iload 4, 2) := by decide +kernel
theorem dX2_take_57 : decode cX2_take 57 = .ok (.iconst 2, 1) := by decide +kernel
theorem dX2_take_58 : decode cX2_take 58 = .ok (.invokevirtual 62, 3) := by decide +kernel
theorem dX2_take_61 : decode cX2_take 61 = .ok (.iastore, 1) := by decide +kernel
theorem dX2_take_62 : decode cX2_take 62 = .ok (.iinc 4 1, 3) := by decide +kernel
theorem dX2_take_65 : decode cX2_take 65 = .ok (.goto (-54), 3) := by decide +kernel
theorem dX2_take_68 : decode cX2_take 68 = .ok (.aload_n 0, 1) := by decide +kernel
theorem dX2_take_69 : decode cX2_take 69 = .ok (.aload_n 2, 1) := by decide +kernel
theorem dX2_take_70 : decode cX2_take 70 = .ok (.invokevirtual 56, 3) := by decide +kernel
theorem dX2_take_73 : decode cX2_take 73 = .ok (.putfield 25, 3) := by decide +kernel
theorem dX2_take_76 : decode cX2_take 76 = .ok (.iconst 0, 1) := by decide +kernel
theorem dX2_take_77 : decode cX2_take 77 = .ok (.istore 4, 2) := by decide +kernel
theorem dX2_take_79 : decode cX2_take 79 = .ok (.iload 4, 2) := by decide +kernel
theorem dX2_take_81 : decode cX2_take 81 = .ok (.aload_n 0, 1) := by decide +kernel
theorem dX2_take_82 : decode cX2_take 82 = .ok (.getfield 25, 3) := by decide +kernel
theorem dX2_take_85 : decode cX2_take 85 = .ok (.if_icmp .ge 51, 3) := by decide +kernel
theorem dX2_take_88 : decode cX2_take 88 = .ok (.aload_n 0, 1) := by decide +kernel
theorem dX2_take_89 : decode cX2_take 89 = .ok (.getfield 28, 3) := by decide +kernel
theorem dX2_take_92 : decode cX2_take 92 = .ok (.iload 4, 2) := by decide +kernel
theorem dX2_take_94 : decode cX2_take 94 = .ok (.aload_n 2, 1) := by decide +kernel
theorem dX2_take_95 : decode cX2_take 95 = .ok (.iload 4, 2) := by decide +kernel
theorem dX2_take_97 : decode cX2_take 97 = .ok (.iconst 0, 1) := by decide +kernel
theorem dX2_take_98 : decode cX2_take 98 = .ok (.invokevirtual 62, 3) := by decide +kernel
theorem dX2_take_101 : decode cX2_take 101 = .ok (.iastore, 1) := by decide +kernel
theorem dX2_take_102 : decode cX2_take 102 = .ok (.aload_n 0, 1) := by decide +kernel
theorem dX2_take_103 : decode cX2_take 103 = .ok (.getfield 31, 3) := by decide +kernel
theorem dX2_take_106 : decode cX2_take 106 = .ok (.iload 4, 2) := by decide +kernel
theorem dX2_take_108 : decode cX2_take 108 = .ok (.aload_n 2, 1) := by decide +kernel
theorem dX2_take_109 : decode cX2_take 109 = .ok (.iload 4, 2) := by decide +kernel
theorem dX2_take_111 : decode cX2_take 111 = .ok (.iconst 1, 1) := by decide +kernel
theorem dX2_take_112 : decode cX2_take 112 = .ok (.invokevirtual 62, 3) := by decide +kernel
theorem dX2_take_115 : decode cX2_take 115 = .ok (.iastore, 1) := by decide +kernel
theorem dX2_take_116 : decode cX2_take 116 = .ok (.aload_n 0, 1) := by decide +kernel
theorem dX2_take_117 : decode cX2_take 117 = .ok (.getfield 34, 3) := by decide +kernel
theorem dX2_take_120 : decode cX2_take 120 = .ok (.iload 4, 2) := by decide +kernel
theorem dX2_take_122 : decode cX2_take 122 = .ok (.aload_n 2, 1) := by decide +kernel
theorem dX2_take_123 : decode cX2_take 123 = .ok (.iload 4, 2) := by decide +kernel
theorem dX2_take_125 : decode cX2_take 125 = .ok (.iconst 2, 1) := by decide +kernel
theorem dX2_take_126 : decode cX2_take 126 = .ok (.invokevirtual 62, 3) := by decide +kernel
theorem dX2_take_129 : decode cX2_take 129 = .ok (.iastore, 1) := by decide +kernel
theorem dX2_take_130 : decode cX2_take 130 = .ok (.iinc 4 1, 3) := by decide +kernel
theorem dX2_take_133 : decode cX2_take 133 = .ok (.goto (-54), 3) := by decide +kernel
theorem dX2_take_136 : decode cX2_take 136 = .ok (.iconst 0, 1) := by decide +kernel
theorem dX2_take_137 : decode cX2_take 137 = .ok (.istore 4, 2) := by decide +kernel
theorem dX2_take_139 : decode cX2_take 139 = .ok (.iload 4, 2) := by decide +kernel
theorem dX2_take_141 : decode cX2_take 141 = .ok (.bipush 12, 2) := by decide +kernel
theorem dX2_take_143 : decode cX2_take 143 = .ok (.if_icmp .ge 22, 3) := by decide +kernel
theorem dX2_take_146 : decode cX2_take 146 = .ok (.aload_n 0, 1) := by decide +kernel
theorem dX2_take_147 : decode cX2_take 147 = .ok (.getfield 37, 3) := by decide +kernel
theorem dX2_take_150 : decode cX2_take 150 = .ok (.iload 4, 2) := by decide +kernel
theorem dX2_take_152 : decode cX2_take 152 = .ok (.aload_n 3, 1) := by decide +kernel
theorem dX2_take_153 : decode cX2_take 153 = .ok (.iload 4, 2) := by decide +kernel
theorem dX2_take_155 : decode cX2_take 155 = .ok (.invokevirtual 66, 3) := by decide +kernel
theorem dX2_take_158 : decode cX2_take 158 = .ok (.iastore, 1) := by decide +kernel
theorem dX2_take_159 : decode cX2_take 159 = .ok (.iinc 4 1, 3) := by decide +kernel
theorem dX2_take_162 : decode cX2_take 162 = .ok (.goto (-23), 3) := by decide +kernel
theorem dX2_take_165 : decode cX2_take 165 = .ok (.aload_n 0, 1) := by decide +kernel
theorem dX2_take_166 : decode cX2_take 166 = .ok (.iconst 0, 1) := by decide +kernel
theorem dX2_take_167 : decode cX2_take 167 = .ok (.putfield 40, 3) := by decide +kernel
theorem dX2_take_170 : decode cX2_take 170 = .ok (.aload_n 0, 1) := by decide +kernel
theorem dX2_take_171 : decode cX2_take 171 = .ok (.iconst (-1), 1) := by decide +kernel
theorem dX2_take_172 : decode cX2_take 172 = .ok (.putfield 43, 3) := by decide +kernel
theorem dX2_take_175 : decode cX2_take 175 = .ok (.aload_n 0, 1) := by decide +kernel
theorem dX2_take_176 : decode cX2_take 176 = .ok (.iconst (-1), 1) := by decide +kernel
theorem dX2_take_177 : decode cX2_take 177 = .ok (.putfield 46, 3) := by decide +kernel
theorem dX2_take_180 : decode cX2_take 180 = .ok (.aload_n 0, 1) := by decide +kernel
theorem dX2_take_181 : decode cX2_take 181 = .ok (.iconst (-1), 1) := by decide +kernel
theorem dX2_take_182 : decode cX2_take 182 = .ok (.putfield 49, 3) := by decide +kernel
theorem dX2_take_185 : decode cX2_take 185 = .ok (.return_, 1) := by decide +kernel
theorem dX2_judgeIn_0 : decode cX2_judgeIn 0 = .ok (.aload_n 0, 1) := by decide +kernel
theorem dX2_judgeIn_1 : decode cX2_judgeIn 1 = .ok (.getfield 37, 3) := by decide +kernel
theorem dX2_judgeIn_4 : decode cX2_judgeIn 4 = .ok (.iload_n 1, 1) := by decide +kernel
theorem dX2_judgeIn_5 : decode cX2_judgeIn 5 = .ok (.iaload, 1) := by decide +kernel
theorem dX2_judgeIn_6 : decode cX2_judgeIn 6 = .ok (.aload_n 0, 1) := by decide +kernel
theorem dX2_judgeIn_7 : decode cX2_judgeIn 7 = .ok (.getfield 25, 3) := by decide +kernel
theorem dX2_judgeIn_10 : decode cX2_judgeIn 10 = .ok (.if_icmp .ge 12, 3) := by decide +kernel
theorem dX2_judgeIn_13 : decode cX2_judgeIn 13 = .ok (.aload_n 0, 1) := by decide +kernel
theorem dX2_judgeIn_14 : decode cX2_judgeIn 14 = .ok (.getfield 37, 3) := by decide +kernel
theorem dX2_judgeIn_17 : decode cX2_judgeIn 17 = .ok (.iload_n 1, 1) := by decide +kernel
theorem dX2_judgeIn_18 : decode cX2_judgeIn 18 = .ok (.iaload, 1) := by decide +kernel
theorem dX2_judgeIn_19 : decode cX2_judgeIn 19 = .ok (.goto 4, 3) := by decide +kernel
theorem dX2_judgeIn_22 : decode cX2_judgeIn 22 = .ok (.iconst (-1), 1) := by decide +kernel
theorem dX2_judgeIn_23 : decode cX2_judgeIn 23 = .ok (.ireturn, 1) := by decide +kernel
theorem dX3_init_0 : decode cX3_init 0 = .ok (.aload_n 0, 1) := by decide +kernel
theorem dX3_init_1 : decode cX3_init 1 = .ok (.iconst 4, 1) := by decide +kernel
theorem dX3_init_2 : decode cX3_init 2 = .ok (.iload_n 1, 1) := by decide +kernel
theorem dX3_init_3 : decode cX3_init 3 = .ok (.imul, 1) := by decide +kernel
theorem dX3_init_4 : decode cX3_init 4 = .ok (.iconst 1, 1) := by decide +kernel
theorem dX3_init_5 : decode cX3_init 5 = .ok (.isub, 1) := by decide +kernel
theorem dX3_init_6 : decode cX3_init 6 = .ok (.invokespecial 3, 3) := by decide +kernel
theorem dX3_init_9 : decode cX3_init 9 = .ok (.aload_n 0, 1) := by decide +kernel
theorem dX3_init_10 : decode cX3_init 10 = .ok (.iload_n 2, 1) := by decide +kernel
theorem dX3_init_11 : decode cX3_init 11 = .ok (.putfield 9, 3) := by decide +kernel
theorem dX3_init_14 : decode cX3_init 14 = .ok (.return_, 1) := by decide +kernel
theorem dX3_fits_0 : decode cX3_fits 0 = .ok (.iload_n 1, 1) := by decide +kernel
theorem dX3_fits_1 : decode cX3_fits 1 = .ok (.iconst 4, 1) := by decide +kernel
theorem dX3_fits_2 : decode cX3_fits 2 = .ok (.irem, 1) := by decide +kernel
theorem dX3_fits_3 : decode cX3_fits 3 = .ok (.tableswitch 57 0 2 #[25, 39, 50], 25) := by decide +kernel
theorem dX3_fits_28 : decode cX3_fits 28 = .ok (.iload_n 2, 1) := by decide +kernel
theorem dX3_fits_29 : decode cX3_fits 29 = .ok (.invokestatic 15, 3) := by decide +kernel
theorem dX3_fits_32 : decode cX3_fits 32 = .ok (.iconst (-1), 1) := by decide +kernel
theorem dX3_fits_33 : decode cX3_fits 33 = .ok (.if_icmp .eq 7, 3) := by decide +kernel
theorem dX3_fits_36 : decode cX3_fits 36 = .ok (.iconst 1, 1) := by decide +kernel
theorem dX3_fits_37 : decode cX3_fits 37 = .ok (.goto 4, 3) := by decide +kernel
theorem dX3_fits_40 : decode cX3_fits 40 = .ok (.iconst 0, 1) := by decide +kernel
theorem dX3_fits_41 : decode cX3_fits 41 = .ok (.ireturn, 1) := by decide +kernel
theorem dX3_fits_42 : decode cX3_fits 42 = .ok (.iload_n 2, 1) := by decide +kernel
theorem dX3_fits_43 : decode cX3_fits 43 = .ok (.aload_n 0, 1) := by decide +kernel
theorem dX3_fits_44 : decode cX3_fits 44 = .ok (.getfield 9, 3) := by decide +kernel
theorem dX3_fits_47 : decode cX3_fits 47 = .ok (.bipush 9, 2) := by decide +kernel
theorem dX3_fits_49 : decode cX3_fits 49 = .ok (.invokestatic 19, 3) := by decide +kernel
theorem dX3_fits_52 : decode cX3_fits 52 = .ok (.ireturn, 1) := by decide +kernel
theorem dX3_fits_53 : decode cX3_fits 53 = .ok (.iload_n 2, 1) := by decide +kernel
theorem dX3_fits_54 : decode cX3_fits 54 = .ok (.iconst 0, 1) := by decide +kernel
theorem dX3_fits_55 : decode cX3_fits 55 = .ok (.iconst 5, 1) := by decide +kernel
theorem dX3_fits_56 : decode cX3_fits 56 = .ok (.invokestatic 19, 3) := by decide +kernel
theorem dX3_fits_59 : decode cX3_fits 59 = .ok (.ireturn, 1) := by decide +kernel
theorem dX3_fits_60 : decode cX3_fits 60 = .ok (.iload_n 2, 1) := by decide +kernel
theorem dX3_fits_61 : decode cX3_fits 61 = .ok (.bipush 59, 2) := by decide +kernel
theorem dX3_fits_63 : decode cX3_fits 63 = .ok (.if_icmp .ne 7, 3) := by decide +kernel
theorem dX3_fits_66 : decode cX3_fits 66 = .ok (.iconst 1, 1) := by decide +kernel
theorem dX3_fits_67 : decode cX3_fits 67 = .ok (.goto 4, 3) := by decide +kernel
theorem dX3_fits_70 : decode cX3_fits 70 = .ok (.iconst 0, 1) := by decide +kernel
theorem dX3_fits_71 : decode cX3_fits 71 = .ok (.ireturn, 1) := by decide +kernel
theorem dX3_mayEndAt_0 : decode cX3_mayEndAt 0 = .ok (.iload_n 1, 1) := by decide +kernel
theorem dX3_mayEndAt_1 : decode cX3_mayEndAt 1 = .ok (.ifCond .eq 10, 3) := by decide +kernel
theorem dX3_mayEndAt_4 : decode cX3_mayEndAt 4 = .ok (.iload_n 1, 1) := by decide +kernel
theorem dX3_mayEndAt_5 : decode cX3_mayEndAt 5 = .ok (.iconst 4, 1) := by decide +kernel
theorem dX3_mayEndAt_6 : decode cX3_mayEndAt 6 = .ok (.irem, 1) := by decide +kernel
theorem dX3_mayEndAt_7 : decode cX3_mayEndAt 7 = .ok (.iconst 3, 1) := by decide +kernel
theorem dX3_mayEndAt_8 : decode cX3_mayEndAt 8 = .ok (.if_icmp .ne 7, 3) := by decide +kernel
theorem dX3_mayEndAt_11 : decode cX3_mayEndAt 11 = .ok (.iconst 1, 1) := by decide +kernel
theorem dX3_mayEndAt_12 : decode cX3_mayEndAt 12 = .ok (.goto 4, 3) := by decide +kernel
theorem dX3_mayEndAt_15 : decode cX3_mayEndAt 15 = .ok (.iconst 0, 1) := by decide +kernel
theorem dX3_mayEndAt_16 : decode cX3_mayEndAt 16 = .ok (.ireturn, 1) := by decide +kernel
theorem dX3_size_0 : decode cX3_size 0 = .ok (.aload_n 0, 1) := by decide +kernel
theorem dX3_size_1 : decode cX3_size 1 = .ok (.getfield 23, 3) := by decide +kernel
theorem dX3_size_4 : decode cX3_size 4 = .ok (.iconst (-1), 1) := by decide +kernel
theorem dX3_size_5 : decode cX3_size 5 = .ok (.if_icmp .ne 14, 3) := by decide +kernel
theorem dX3_size_8 : decode cX3_size 8 = .ok (.aload_n 0, 1) := by decide +kernel
theorem dX3_size_9 : decode cX3_size 9 = .ok (.getfield 26, 3) := by decide +kernel
theorem dX3_size_12 : decode cX3_size 12 = .ok (.iconst 1, 1) := by decide +kernel
theorem dX3_size_13 : decode cX3_size 13 = .ok (.iadd, 1) := by decide +kernel
theorem dX3_size_14 : decode cX3_size 14 = .ok (.iconst 4, 1) := by decide +kernel
theorem dX3_size_15 : decode cX3_size 15 = .ok (.idiv, 1) := by decide +kernel
theorem dX3_size_16 : decode cX3_size 16 = .ok (.goto 4, 3) := by decide +kernel
theorem dX3_size_19 : decode cX3_size 19 = .ok (.iconst 0, 1) := by decide +kernel
theorem dX3_size_20 : decode cX3_size 20 = .ok (.ireturn, 1) := by decide +kernel
theorem dX3_part_0 : decode cX3_part 0 = .ok (.aload_n 0, 1) := by decide +kernel
theorem dX3_part_1 : decode cX3_part 1 = .ok (.getfield 29, 3) := by decide +kernel
theorem dX3_part_4 : decode cX3_part 4 = .ok (.iconst 4, 1) := by decide +kernel
theorem dX3_part_5 : decode cX3_part 5 = .ok (.iload_n 1, 1) := by decide +kernel
theorem dX3_part_6 : decode cX3_part 6 = .ok (.imul, 1) := by decide +kernel
theorem dX3_part_7 : decode cX3_part 7 = .ok (.iload_n 2, 1) := by decide +kernel
theorem dX3_part_8 : decode cX3_part 8 = .ok (.iadd, 1) := by decide +kernel
theorem dX3_part_9 : decode cX3_part 9 = .ok (.iaload, 1) := by decide +kernel
theorem dX3_part_10 : decode cX3_part 10 = .ok (.istore_n 3, 1) := by decide +kernel
theorem dX3_part_11 : decode cX3_part 11 = .ok (.iload_n 2, 1) := by decide +kernel
theorem dX3_part_12 : decode cX3_part 12 = .ok (.ifCond .ne 10, 3) := by decide +kernel
theorem dX3_part_15 : decode cX3_part 15 = .ok (.iload_n 3, 1) := by decide +kernel
theorem dX3_part_16 : decode cX3_part 16 = .ok (.invokestatic 15, 3) := by decide +kernel
theorem dX3_part_19 : decode cX3_part 19 = .ok (.goto 7, 3) := by decide +kernel
theorem dX3_part_22 : decode cX3_part 22 = .ok (.iload_n 3, 1) := by decide +kernel
theorem dX3_part_23 : decode cX3_part 23 = .ok (.bipush 48, 2) := by decide +kernel
theorem dX3_part_25 : decode cX3_part 25 = .ok (.isub, 1) := by decide +kernel
theorem dX3_part_26 : decode cX3_part 26 = .ok (.ireturn, 1) := by decide +kernel
theorem dX3_sortOf_0 : decode cX3_sortOf 0 = .ok (.iload_n 0, 1) := by decide +kernel
theorem dX3_sortOf_1 : decode cX3_sortOf 1 = .ok (.lookupswitch 41 #[(99, 37), (115, 35), (119, 39)], 35) := by decide +kernel
theorem dX3_sortOf_36 : decode cX3_sortOf 36 = .ok (.iconst 0, 1) := by decide +kernel
theorem dX3_sortOf_37 : decode cX3_sortOf 37 = .ok (.ireturn, 1) := by decide +kernel
theorem dX3_sortOf_38 : decode cX3_sortOf 38 = .ok (.iconst 1, 1) := by decide +kernel
theorem dX3_sortOf_39 : decode cX3_sortOf 39 = .ok (.ireturn, 1) := by decide +kernel
theorem dX3_sortOf_40 : decode cX3_sortOf 40 = .ok (.iconst 2, 1) := by decide +kernel
theorem dX3_sortOf_41 : decode cX3_sortOf 41 = .ok (.ireturn, 1) := by decide +kernel
theorem dX3_sortOf_42 : decode cX3_sortOf 42 = .ok (.iconst (-1), 1) := by decide +kernel
theorem dX3_sortOf_43 : decode cX3_sortOf 43 = .ok (.ireturn, 1) := by decide +kernel
theorem dX4_init_0 : decode cX4_init 0 = .ok (.aload_n 0, 1) := by decide +kernel
theorem dX4_init_1 : decode cX4_init 1 = .ok (.invokespecial 3, 3) := by decide +kernel
theorem dX4_init_4 : decode cX4_init 4 = .ok (.aload_n 0, 1) := by decide +kernel
theorem dX4_init_5 : decode cX4_init 5 = .ok (.bipush 60, 2) := by decide +kernel
theorem dX4_init_7 : decode cX4_init 7 = .ok (.newarray .int, 2) := by decide +kernel
theorem dX4_init_9 : decode cX4_init 9 = .ok (.putfield 9, 3) := by decide +kernel
theorem dX4_init_12 : decode cX4_init 12 = .ok (.aload_n 0, 1) := by decide +kernel
theorem dX4_init_13 : decode cX4_init 13 = .ok (.iconst (-1), 1) := by decide +kernel
theorem dX4_init_14 : decode cX4_init 14 = .ok (.putfield 15, 3) := by decide +kernel
theorem dX4_init_17 : decode cX4_init 17 = .ok (.aload_n 0, 1) := by decide +kernel
theorem dX4_init_18 : decode cX4_init 18 = .ok (.iconst 0, 1) := by decide +kernel
theorem dX4_init_19 : decode cX4_init 19 = .ok (.putfield 19, 3) := by decide +kernel
theorem dX4_init_22 : decode cX4_init 22 = .ok (.return_, 1) := by decide +kernel
theorem dX4_isLost_0 : decode cX4_isLost 0 = .ok (.aload_n 0, 1) := by decide +kernel
theorem dX4_isLost_1 : decode cX4_isLost 1 = .ok (.getfield 15, 3) := by decide +kernel
theorem dX4_isLost_4 : decode cX4_isLost 4 = .ok (.iconst (-1), 1) := by decide +kernel
theorem dX4_isLost_5 : decode cX4_isLost 5 = .ok (.if_icmp .ne 7, 3) := by decide +kernel
theorem dX4_isLost_8 : decode cX4_isLost 8 = .ok (.iconst 1, 1) := by decide +kernel
theorem dX4_isLost_9 : decode cX4_isLost 9 = .ok (.goto 4, 3) := by decide +kernel
theorem dX4_isLost_12 : decode cX4_isLost 12 = .ok (.iconst 0, 1) := by decide +kernel
theorem dX4_isLost_13 : decode cX4_isLost 13 = .ok (.ireturn, 1) := by decide +kernel
theorem dX4_renew_0 : decode cX4_renew 0 = .ok (.aload_n 0, 1) := by decide +kernel
theorem dX4_renew_1 : decode cX4_renew 1 = .ok (.iload_n 1, 1) := by decide +kernel
theorem dX4_renew_2 : decode cX4_renew 2 = .ok (.putfield 15, 3) := by decide +kernel
theorem dX4_renew_5 : decode cX4_renew 5 = .ok (.aload_n 0, 1) := by decide +kernel
theorem dX4_renew_6 : decode cX4_renew 6 = .ok (.iload_n 2, 1) := by decide +kernel
theorem dX4_renew_7 : decode cX4_renew 7 = .ok (.putfield 19, 3) := by decide +kernel
theorem dX4_renew_10 : decode cX4_renew 10 = .ok (.iconst 0, 1) := by decide +kernel
theorem dX4_renew_11 : decode cX4_renew 11 = .ok (.istore_n 3, 1) := by decide +kernel
theorem dX4_renew_12 : decode cX4_renew 12 = .ok (.iload_n 3, 1) := by decide +kernel
theorem dX4_renew_13 : decode cX4_renew 13 = .ok (.bipush 60, 2) := by decide +kernel
theorem dX4_renew_15 : decode cX4_renew 15 = .ok (.if_icmp .ge 16, 3) := by decide +kernel
theorem dX4_renew_18 : decode cX4_renew 18 = .ok (.aload_n 0, 1) := by decide +kernel
theorem dX4_renew_19 : decode cX4_renew 19 = .ok (.getfield 9, 3) := by decide +kernel
theorem dX4_renew_22 : decode cX4_renew 22 = .ok (.iload_n 3, 1) := by decide +kernel
theorem dX4_renew_23 : decode cX4_renew 23 = .ok (.iconst 0, 1) := by decide +kernel
theorem dX4_renew_24 : decode cX4_renew 24 = .ok (.iastore, 1) := by decide +kernel
theorem dX4_renew_25 : decode cX4_renew 25 = .ok (.iinc 3 1, 3) := by decide +kernel
theorem dX4_renew_28 : decode cX4_renew 28 = .ok (.goto (-16), 3) := by decide +kernel
theorem dX4_renew_31 : decode cX4_renew 31 = .ok (.return_, 1) := by decide +kernel
theorem dX4_findingAt_0 : decode cX4_findingAt 0 = .ok (.aload_n 0, 1) := by decide +kernel
theorem dX4_findingAt_1 : decode cX4_findingAt 1 = .ok (.invokevirtual 22, 3) := by decide +kernel
theorem dX4_findingAt_4 : decode cX4_findingAt 4 = .ok (.ifCond .eq 5, 3) := by decide +kernel
theorem dX4_findingAt_7 : decode cX4_findingAt 7 = .ok (.iconst 1, 1) := by decide +kernel
theorem dX4_findingAt_8 : decode cX4_findingAt 8 = .ok (.ireturn, 1) := by decide +kernel
theorem dX4_findingAt_9 : decode cX4_findingAt 9 = .ok (.aload_n 0, 1) := by decide +kernel
theorem dX4_findingAt_10 : decode cX4_findingAt 10 = .ok (.getfield 15, 3) := by decide +kernel
theorem dX4_findingAt_13 : decode cX4_findingAt 13 = .ok (.iload_n 1, 1) := by decide +kernel
theorem dX4_findingAt_14 : decode cX4_findingAt 14 = .ok (.if_icmp .eq 5, 3) := by decide +kernel
theorem dX4_findingAt_17 : decode cX4_findingAt 17 = .ok (.iconst 3, 1) := by decide +kernel
theorem dX4_findingAt_18 : decode cX4_findingAt 18 = .ok (.ireturn, 1) := by decide +kernel
theorem dX4_findingAt_19 : decode cX4_findingAt 19 = .ok (.iload_n 2, 1) := by decide +kernel
theorem dX4_findingAt_20 : decode cX4_findingAt 20 = .ok (.aload_n 0, 1) := by decide +kernel
theorem dX4_findingAt_21 : decode cX4_findingAt 21 = .ok (.getfield 19, 3) := by decide +kernel
theorem dX4_findingAt_24 : decode cX4_findingAt 24 = .ok (.invokestatic 26, 3) := by decide +kernel
theorem dX4_findingAt_27 : decode cX4_findingAt 27 = .ok (.ifCond .eq 7, 3) := by decide +kernel
theorem dX4_findingAt_30 : decode cX4_findingAt 30 = .ok (.iconst 0, 1) := by decide +kernel
theorem dX4_findingAt_31 : decode cX4_findingAt 31 = .ok (.goto 4, 3) := by decide +kernel
theorem dX4_findingAt_34 : decode cX4_findingAt 34 = .ok (.iconst 2, 1) := by decide +kernel
theorem dX4_findingAt_35 : decode cX4_findingAt 35 = .ok (.ireturn, 1) := by decide +kernel
theorem dX4_hasSpan_0 : decode cX4_hasSpan 0 = .ok (.iload_n 1, 1) := by decide +kernel
theorem dX4_hasSpan_1 : decode cX4_hasSpan 1 = .ok (.ifCond .lt 29, 3) := by decide +kernel
theorem dX4_hasSpan_4 : decode cX4_hasSpan 4 = .ok (.iload_n 2, 1) := by decide +kernel
theorem dX4_hasSpan_5 : decode cX4_hasSpan 5 = .ok (.ifCond .lt 25, 3) := by decide +kernel
theorem dX4_hasSpan_8 : decode cX4_hasSpan 8 = .ok (.iload_n 1, 1) := by decide +kernel
theorem dX4_hasSpan_9 : decode cX4_hasSpan 9 = .ok (.aload_n 0, 1) := by decide +kernel
theorem dX4_hasSpan_10 : decode cX4_hasSpan 10 = .ok (.getfield 19, 3) := by decide +kernel
theorem dX4_hasSpan_13 : decode cX4_hasSpan 13 = .ok (.if_icmp .gt 17, 3) := by decide +kernel
theorem dX4_hasSpan_16 : decode cX4_hasSpan 16 = .ok (.iload_n 2, 1) := by decide +kernel
theorem dX4_hasSpan_17 : decode cX4_hasSpan 17 = .ok (.aload_n 0, 1) := by decide +kernel
theorem dX4_hasSpan_18 : decode cX4_hasSpan 18 = .ok (.getfield 19, 3) := by decide +kernel
theorem dX4_hasSpan_21 : decode cX4_hasSpan 21 = .ok (.iload_n 1, 1) := by decide +kernel
theorem dX4_hasSpan_22 : decode cX4_hasSpan 22 = .ok (.isub, 1) := by decide +kernel
theorem dX4_hasSpan_23 : decode cX4_hasSpan 23 = .ok (.if_icmp .gt 7, 3) := by decide +kernel
theorem dX4_hasSpan_26 : decode cX4_hasSpan 26 = .ok (.iconst 1, 1) := by decide +kernel
theorem dX4_hasSpan_27 : decode cX4_hasSpan 27 = .ok (.goto 4, 3) := by decide +kernel
theorem dX4_hasSpan_30 : decode cX4_hasSpan 30 = .ok (.iconst 0, 1) := by decide +kernel
theorem dX4_hasSpan_31 : decode cX4_hasSpan 31 = .ok (.ireturn, 1) := by decide +kernel
theorem dX4_put_0 : decode cX4_put 0 = .ok (.aload_n 0, 1) := by decide +kernel
theorem dX4_put_1 : decode cX4_put 1 = .ok (.getfield 15, 3) := by decide +kernel
theorem dX4_put_4 : decode cX4_put 4 = .ok (.ifCond .ne 14, 3) := by decide +kernel
theorem dX4_put_7 : decode cX4_put 7 = .ok (.aload_n 0, 1) := by decide +kernel
theorem dX4_put_8 : decode cX4_put 8 = .ok (.getfield 9, 3) := by decide +kernel
theorem dX4_put_11 : decode cX4_put 11 = .ok (.iload_n 1, 1) := by decide +kernel
theorem dX4_put_12 : decode cX4_put 12 = .ok (.iload_n 2, 1) := by decide +kernel
theorem dX4_put_13 : decode cX4_put 13 = .ok (.i2b, 1) := by decide +kernel
theorem dX4_put_14 : decode cX4_put 14 = .ok (.iastore, 1) := by decide +kernel
theorem dX4_put_15 : decode cX4_put 15 = .ok (.goto 29, 3) := by decide +kernel
theorem dX4_put_18 : decode cX4_put 18 = .ok (.aload_n 0, 1) := by decide +kernel
theorem dX4_put_19 : decode cX4_put 19 = .ok (.getfield 15, 3) := by decide +kernel
theorem dX4_put_22 : decode cX4_put 22 = .ok (.iconst 1, 1) := by decide +kernel
theorem dX4_put_23 : decode cX4_put 23 = .ok (.if_icmp .ne 14, 3) := by decide +kernel
theorem dX4_put_26 : decode cX4_put 26 = .ok (.aload_n 0, 1) := by decide +kernel
theorem dX4_put_27 : decode cX4_put 27 = .ok (.getfield 9, 3) := by decide +kernel
theorem dX4_put_30 : decode cX4_put 30 = .ok (.iload_n 1, 1) := by decide +kernel
theorem dX4_put_31 : decode cX4_put 31 = .ok (.iload_n 2, 1) := by decide +kernel
theorem dX4_put_32 : decode cX4_put 32 = .ok (.i2s, 1) := by decide +kernel
theorem dX4_put_33 : decode cX4_put 33 = .ok (.iastore, 1) := by decide +kernel
theorem dX4_put_34 : decode cX4_put 34 = .ok (.goto 10, 3) := by decide +kernel
theorem dX4_put_37 : decode cX4_put 37 = .ok (.aload_n 0, 1) := by decide +kernel
theorem dX4_put_38 : decode cX4_put 38 = .ok (.getfield 9, 3) := by decide +kernel
theorem dX4_put_41 : decode cX4_put 41 = .ok (.iload_n 1, 1) := by decide +kernel
theorem dX4_put_42 : decode cX4_put 42 = .ok (.iload_n 2, 1) := by decide +kernel
theorem dX4_put_43 : decode cX4_put 43 = .ok (.iastore, 1) := by decide +kernel
theorem dX4_put_44 : decode cX4_put 44 = .ok (.return_, 1) := by decide +kernel
theorem dX5_init_0 : decode cX5_init 0 = .ok (.aload_n 0, 1) := by decide +kernel
theorem dX5_init_1 : decode cX5_init 1 = .ok (.invokespecial 3, 3) := by decide +kernel
theorem dX5_init_4 : decode cX5_init 4 = .ok (.aload_n 0, 1) := by decide +kernel
theorem dX5_init_5 : decode cX5_init 5 = .ok (.iconst 0, 1) := by decide +kernel
theorem dX5_init_6 : decode cX5_init 6 = .ok (.putfield 9, 3) := by decide +kernel
theorem dX5_init_9 : decode cX5_init 9 = .ok (.aload_n 0, 1) := by decide +kernel
theorem dX5_init_10 : decode cX5_init 10 = .ok (.iconst (-1), 1) := by decide +kernel
theorem dX5_init_11 : decode cX5_init 11 = .ok (.putfield 15, 3) := by decide +kernel
theorem dX5_init_14 : decode cX5_init 14 = .ok (.aload_n 0, 1) := by decide +kernel
theorem dX5_init_15 : decode cX5_init 15 = .ok (.iload_n 1, 1) := by decide +kernel
theorem dX5_init_16 : decode cX5_init 16 = .ok (.newarray .int, 2) := by decide +kernel
theorem dX5_init_18 : decode cX5_init 18 = .ok (.putfield 18, 3) := by decide +kernel
theorem dX5_init_21 : decode cX5_init 21 = .ok (.return_, 1) := by decide +kernel
theorem dX5_append_0 : decode cX5_append 0 = .ok (.aload_n 0, 1) := by decide +kernel
theorem dX5_append_1 : decode cX5_append 1 = .ok (.getfield 9, 3) := by decide +kernel
theorem dX5_append_4 : decode cX5_append 4 = .ok (.aload_n 0, 1) := by decide +kernel
theorem dX5_append_5 : decode cX5_append 5 = .ok (.getfield 18, 3) := by decide +kernel
theorem dX5_append_8 : decode cX5_append 8 = .ok (.arraylength, 1) := by decide +kernel
theorem dX5_append_9 : decode cX5_append 9 = .ok (.if_icmp .lt 5, 3) := by decide +kernel
theorem dX5_append_12 : decode cX5_append 12 = .ok (.iconst 0, 1) := by decide +kernel
theorem dX5_append_13 : decode cX5_append 13 = .ok (.ireturn, 1) := by decide +kernel
theorem dX5_append_14 : decode cX5_append 14 = .ok (.aload_n 0, 1) := by decide +kernel
theorem dX5_append_15 : decode cX5_append 15 = .ok (.getfield 18, 3) := by decide +kernel
theorem dX5_append_18 : decode cX5_append 18 = .ok (.aload_n 0, 1) := by decide +kernel
theorem dX5_append_19 : decode cX5_append 19 = .ok (.getfield 9, 3) := by decide +kernel
theorem dX5_append_22 : decode cX5_append 22 = .ok (.iload_n 1, 1) := by decide +kernel
theorem dX5_append_23 : decode cX5_append 23 = .ok (.iastore, 1) := by decide +kernel
theorem dX5_append_24 : decode cX5_append 24 = .ok (.aload_n 0, 1) := by decide +kernel
theorem dX5_append_25 : decode cX5_append 25 = .ok (.dup, 1) := by decide +kernel
theorem dX5_append_26 : decode cX5_append 26 = .ok (.getfield 9, 3) := by decide +kernel
theorem dX5_append_29 : decode cX5_append 29 = .ok (.iconst 1, 1) := by decide +kernel
theorem dX5_append_30 : decode cX5_append 30 = .ok (.iadd, 1) := by decide +kernel
theorem dX5_append_31 : decode cX5_append 31 = .ok (.putfield 9, 3) := by decide +kernel
theorem dX5_append_34 : decode cX5_append 34 = .ok (.aload_n 0, 1) := by decide +kernel
theorem dX5_append_35 : decode cX5_append 35 = .ok (.aload_n 0, 1) := by decide +kernel
theorem dX5_append_36 : decode cX5_append 36 = .ok (.invokevirtual 22, 3) := by decide +kernel
theorem dX5_append_39 : decode cX5_append 39 = .ok (.putfield 15, 3) := by decide +kernel
theorem dX5_append_42 : decode cX5_append 42 = .ok (.iconst 1, 1) := by decide +kernel
theorem dX5_append_43 : decode cX5_append 43 = .ok (.ireturn, 1) := by decide +kernel
theorem dX5_shorten_0 : decode cX5_shorten 0 = .ok (.aload_n 0, 1) := by decide +kernel
theorem dX5_shorten_1 : decode cX5_shorten 1 = .ok (.iload_n 1, 1) := by decide +kernel
theorem dX5_shorten_2 : decode cX5_shorten 2 = .ok (.putfield 9, 3) := by decide +kernel
theorem dX5_shorten_5 : decode cX5_shorten 5 = .ok (.aload_n 0, 1) := by decide +kernel
theorem dX5_shorten_6 : decode cX5_shorten 6 = .ok (.aload_n 0, 1) := by decide +kernel
theorem dX5_shorten_7 : decode cX5_shorten 7 = .ok (.invokevirtual 22, 3) := by decide +kernel
theorem dX5_shorten_10 : decode cX5_shorten 10 = .ok (.putfield 15, 3) := by decide +kernel
theorem dX5_shorten_13 : decode cX5_shorten 13 = .ok (.return_, 1) := by decide +kernel
theorem dX5_firstFault_0 : decode cX5_firstFault 0 = .ok (.iconst 0, 1) := by decide +kernel
theorem dX5_firstFault_1 : decode cX5_firstFault 1 = .ok (.istore_n 1, 1) := by decide +kernel
theorem dX5_firstFault_2 : decode cX5_firstFault 2 = .ok (.iload_n 1, 1) := by decide +kernel
theorem dX5_firstFault_3 : decode cX5_firstFault 3 = .ok (.aload_n 0, 1) := by decide +kernel
theorem dX5_firstFault_4 : decode cX5_firstFault 4 = .ok (.getfield 9, 3) := by decide +kernel
theorem dX5_firstFault_7 : decode cX5_firstFault 7 = .ok (.if_icmp .ge 25, 3) := by decide +kernel
theorem dX5_firstFault_10 : decode cX5_firstFault 10 = .ok (.aload_n 0, 1) := by decide +kernel
theorem dX5_firstFault_11 : decode cX5_firstFault 11 = .ok (.iload_n 1, 1) := by decide +kernel
theorem dX5_firstFault_12 : decode cX5_firstFault 12 = .ok (.aload_n 0, 1) := by decide +kernel
theorem dX5_firstFault_13 : decode cX5_firstFault 13 = .ok (.getfield 18, 3) := by decide +kernel
theorem dX5_firstFault_16 : decode cX5_firstFault 16 = .ok (.iload_n 1, 1) := by decide +kernel
theorem dX5_firstFault_17 : decode cX5_firstFault 17 = .ok (.iaload, 1) := by decide +kernel
theorem dX5_firstFault_18 : decode cX5_firstFault 18 = .ok (.invokevirtual 26, 3) := by decide +kernel
theorem dX5_firstFault_21 : decode cX5_firstFault 21 = .ok (.ifCond .ne 5, 3) := by decide +kernel
theorem dX5_firstFault_24 : decode cX5_firstFault 24 = .ok (.iload_n 1, 1) := by decide +kernel
theorem dX5_firstFault_25 : decode cX5_firstFault 25 = .ok (.ireturn, 1) := by decide +kernel
theorem dX5_firstFault_26 : decode cX5_firstFault 26 = .ok (.iinc 1 1, 3) := by decide +kernel
theorem dX5_firstFault_29 : decode cX5_firstFault 29 = .ok (.goto (-27), 3) := by decide +kernel
theorem dX5_firstFault_32 : decode cX5_firstFault 32 = .ok (.aload_n 0, 1) := by decide +kernel
theorem dX5_firstFault_33 : decode cX5_firstFault 33 = .ok (.aload_n 0, 1) := by decide +kernel
theorem dX5_firstFault_34 : decode cX5_firstFault 34 = .ok (.getfield 9, 3) := by decide +kernel
theorem dX5_firstFault_37 : decode cX5_firstFault 37 = .ok (.invokevirtual 30, 3) := by decide +kernel
theorem dX5_firstFault_40 : decode cX5_firstFault 40 = .ok (.ifCond .eq 7, 3) := by decide +kernel
theorem dX5_firstFault_43 : decode cX5_firstFault 43 = .ok (.iconst (-1), 1) := by decide +kernel
theorem dX5_firstFault_44 : decode cX5_firstFault 44 = .ok (.goto 7, 3) := by decide +kernel
theorem dX5_firstFault_47 : decode cX5_firstFault 47 = .ok (.aload_n 0, 1) := by decide +kernel
theorem dX5_firstFault_48 : decode cX5_firstFault 48 = .ok (.getfield 9, 3) := by decide +kernel
theorem dX5_firstFault_51 : decode cX5_firstFault 51 = .ok (.ireturn, 1) := by decide +kernel
theorem dX5_isFigure_0 : decode cX5_isFigure 0 = .ok (.iload_n 0, 1) := by decide +kernel
theorem dX5_isFigure_1 : decode cX5_isFigure 1 = .ok (.bipush 48, 2) := by decide +kernel
theorem dX5_isFigure_3 : decode cX5_isFigure 3 = .ok (.iload_n 1, 1) := by decide +kernel
theorem dX5_isFigure_4 : decode cX5_isFigure 4 = .ok (.iadd, 1) := by decide +kernel
theorem dX5_isFigure_5 : decode cX5_isFigure 5 = .ok (.if_icmp .lt 15, 3) := by decide +kernel
theorem dX5_isFigure_8 : decode cX5_isFigure 8 = .ok (.iload_n 0, 1) := by decide +kernel
theorem dX5_isFigure_9 : decode cX5_isFigure 9 = .ok (.bipush 48, 2) := by decide +kernel
theorem dX5_isFigure_11 : decode cX5_isFigure 11 = .ok (.iload_n 2, 1) := by decide +kernel
theorem dX5_isFigure_12 : decode cX5_isFigure 12 = .ok (.iadd, 1) := by decide +kernel
theorem dX5_isFigure_13 : decode cX5_isFigure 13 = .ok (.if_icmp .gt 7, 3) := by decide +kernel
theorem dX5_isFigure_16 : decode cX5_isFigure 16 = .ok (.iconst 1, 1) := by decide +kernel
theorem dX5_isFigure_17 : decode cX5_isFigure 17 = .ok (.goto 4, 3) := by decide +kernel
theorem dX5_isFigure_20 : decode cX5_isFigure 20 = .ok (.iconst 0, 1) := by decide +kernel
theorem dX5_isFigure_21 : decode cX5_isFigure 21 = .ok (.ireturn, 1) := by decide +kernel
theorem dX6_init_0 : decode cX6_init 0 = .ok (.aload_n 0, 1) := by decide +kernel
theorem dX6_init_1 : decode cX6_init 1 = .ok (.bipush 12, 2) := by decide +kernel
theorem dX6_init_3 : decode cX6_init 3 = .ok (.invokespecial 3, 3) := by decide +kernel
theorem dX6_init_6 : decode cX6_init 6 = .ok (.return_, 1) := by decide +kernel
theorem dX6_fits_0 : decode cX6_fits 0 = .ok (.iload_n 2, 1) := by decide +kernel
theorem dX6_fits_1 : decode cX6_fits 1 = .ok (.iconst 0, 1) := by decide +kernel
theorem dX6_fits_2 : decode cX6_fits 2 = .ok (.iconst 3, 1) := by decide +kernel
theorem dX6_fits_3 : decode cX6_fits 3 = .ok (.invokestatic 9, 3) := by decide +kernel
theorem dX6_fits_6 : decode cX6_fits 6 = .ok (.ireturn, 1) := by decide +kernel
theorem dX6_mayEndAt_0 : decode cX6_mayEndAt 0 = .ok (.iconst 1, 1) := by decide +kernel
theorem dX6_mayEndAt_1 : decode cX6_mayEndAt 1 = .ok (.ireturn, 1) := by decide +kernel
theorem dX6_size_0 : decode cX6_size 0 = .ok (.aload_n 0, 1) := by decide +kernel
theorem dX6_size_1 : decode cX6_size 1 = .ok (.getfield 15, 3) := by decide +kernel
theorem dX6_size_4 : decode cX6_size 4 = .ok (.iconst (-1), 1) := by decide +kernel
theorem dX6_size_5 : decode cX6_size 5 = .ok (.if_icmp .ne 10, 3) := by decide +kernel
theorem dX6_size_8 : decode cX6_size 8 = .ok (.aload_n 0, 1) := by decide +kernel
theorem dX6_size_9 : decode cX6_size 9 = .ok (.getfield 19, 3) := by decide +kernel
theorem dX6_size_12 : decode cX6_size 12 = .ok (.goto 4, 3) := by decide +kernel
theorem dX6_size_15 : decode cX6_size 15 = .ok (.iconst 0, 1) := by decide +kernel
theorem dX6_size_16 : decode cX6_size 16 = .ok (.ireturn, 1) := by decide +kernel
theorem dX6_judgeAt_0 : decode cX6_judgeAt 0 = .ok (.iload_n 1, 1) := by decide +kernel
theorem dX6_judgeAt_1 : decode cX6_judgeAt 1 = .ok (.aload_n 0, 1) := by decide +kernel
theorem dX6_judgeAt_2 : decode cX6_judgeAt 2 = .ok (.invokevirtual 22, 3) := by decide +kernel
theorem dX6_judgeAt_5 : decode cX6_judgeAt 5 = .ok (.if_icmp .ge 15, 3) := by decide +kernel
theorem dX6_judgeAt_8 : decode cX6_judgeAt 8 = .ok (.aload_n 0, 1) := by decide +kernel
theorem dX6_judgeAt_9 : decode cX6_judgeAt 9 = .ok (.getfield 26, 3) := by decide +kernel
theorem dX6_judgeAt_12 : decode cX6_judgeAt 12 = .ok (.iload_n 1, 1) := by decide +kernel
theorem dX6_judgeAt_13 : decode cX6_judgeAt 13 = .ok (.iaload, 1) := by decide +kernel
theorem dX6_judgeAt_14 : decode cX6_judgeAt 14 = .ok (.bipush 48, 2) := by decide +kernel
theorem dX6_judgeAt_16 : decode cX6_judgeAt 16 = .ok (.isub, 1) := by decide +kernel
theorem dX6_judgeAt_17 : decode cX6_judgeAt 17 = .ok (.goto 4, 3) := by decide +kernel
theorem dX6_judgeAt_20 : decode cX6_judgeAt 20 = .ok (.iconst 0, 1) := by decide +kernel
theorem dX6_judgeAt_21 : decode cX6_judgeAt 21 = .ok (.ireturn, 1) := by decide +kernel
theorem dX7_init_0 : decode cX7_init 0 = .ok (.aload_n 0, 1) := by decide +kernel
theorem dX7_init_1 : decode cX7_init 1 = .ok (.invokespecial 3, 3) := by decide +kernel
theorem dX7_init_4 : decode cX7_init 4 = .ok (.aload_n 0, 1) := by decide +kernel
theorem dX7_init_5 : decode cX7_init 5 = .ok (.bipush 10, 2) := by decide +kernel
theorem dX7_init_7 : decode cX7_init 7 = .ok (.newarray .int, 2) := by decide +kernel
theorem dX7_init_9 : decode cX7_init 9 = .ok (.putfield 9, 3) := by decide +kernel
theorem dX7_init_12 : decode cX7_init 12 = .ok (.aload_n 0, 1) := by decide +kernel
theorem dX7_init_13 : decode cX7_init 13 = .ok (.bipush 10, 2) := by decide +kernel
theorem dX7_init_15 : decode cX7_init 15 = .ok (.newarray .int, 2) := by decide +kernel
theorem dX7_init_17 : decode cX7_init 17 = .ok (.putfield 15, 3) := by decide +kernel
theorem dX7_init_20 : decode cX7_init 20 = .ok (.aload_n 0, 1) := by decide +kernel
theorem dX7_init_21 : decode cX7_init 21 = .ok (.bipush 10, 2) := by decide +kernel
theorem dX7_init_23 : decode cX7_init 23 = .ok (.newarray .int, 2) := by decide +kernel
theorem dX7_init_25 : decode cX7_init 25 = .ok (.putfield 18, 3) := by decide +kernel
theorem dX7_init_28 : decode cX7_init 28 = .ok (.aload_n 0, 1) := by decide +kernel
theorem dX7_init_29 : decode cX7_init 29 = .ok (.bipush 10, 2) := by decide +kernel
theorem dX7_init_31 : decode cX7_init 31 = .ok (.newarray .int, 2) := by decide +kernel
theorem dX7_init_33 : decode cX7_init 33 = .ok (.putfield 21, 3) := by decide +kernel
theorem dX7_init_36 : decode cX7_init 36 = .ok (.aload_n 0, 1) := by decide +kernel
theorem dX7_init_37 : decode cX7_init 37 = .ok (.bipush 36, 2) := by decide +kernel
theorem dX7_init_39 : decode cX7_init 39 = .ok (.newarray .int, 2) := by decide +kernel
theorem dX7_init_41 : decode cX7_init 41 = .ok (.putfield 24, 3) := by decide +kernel
theorem dX7_init_44 : decode cX7_init 44 = .ok (.aload_n 0, 1) := by decide +kernel
theorem dX7_init_45 : decode cX7_init 45 = .ok (.iconst 0, 1) := by decide +kernel
theorem dX7_init_46 : decode cX7_init 46 = .ok (.putfield 27, 3) := by decide +kernel
theorem dX7_init_49 : decode cX7_init 49 = .ok (.aload_n 0, 1) := by decide +kernel
theorem dX7_init_50 : decode cX7_init 50 = .ok (.iconst 0, 1) := by decide +kernel
theorem dX7_init_51 : decode cX7_init 51 = .ok (.putfield 31, 3) := by decide +kernel
theorem dX7_init_54 : decode cX7_init 54 = .ok (.aload_n 0, 1) := by decide +kernel
theorem dX7_init_55 : decode cX7_init 55 = .ok (.iconst 0, 1) := by decide +kernel
theorem dX7_init_56 : decode cX7_init 56 = .ok (.putfield 34, 3) := by decide +kernel
theorem dX7_init_59 : decode cX7_init 59 = .ok (.aload_n 0, 1) := by decide +kernel
theorem dX7_init_60 : decode cX7_init 60 = .ok (.iconst 0, 1) := by decide +kernel
theorem dX7_init_61 : decode cX7_init 61 = .ok (.putfield 37, 3) := by decide +kernel
theorem dX7_init_64 : decode cX7_init 64 = .ok (.return_, 1) := by decide +kernel
theorem dX7_run_0 : decode cX7_run 0 = .ok (.aload_n 0, 1) := by decide +kernel
theorem dX7_run_1 : decode cX7_run 1 = .ok (.aload_n 1, 1) := by decide +kernel
theorem dX7_run_2 : decode cX7_run 2 = .ok (.invokevirtual 41, 3) := by decide +kernel
theorem dX7_run_5 : decode cX7_run 5 = .ok (.iconst 0, 1) := by decide +kernel
theorem dX7_run_6 : decode cX7_run 6 = .ok (.istore_n 3, 1) := by decide +kernel
theorem dX7_run_7 : decode cX7_run 7 = .ok (.iload_n 3, 1) := by decide +kernel
theorem dX7_run_8 : decode cX7_run 8 = .ok (.iload_n 2, 1) := by decide +kernel
theorem dX7_run_9 : decode cX7_run 9 = .ok (.if_icmp .ge 31, 3) := by decide +kernel
theorem dX7_run_12 : decode cX7_run 12 = .ok (.aload_n 0, 1) := by decide +kernel
theorem dX7_run_13 : decode cX7_run 13 = .ok (.aload_n 1, 1) := by decide +kernel
theorem dX7_run_14 : decode cX7_run 14 = .ok (.iload_n 3, 1) := by decide +kernel
theorem dX7_run_15 : decode cX7_run 15 = .ok (.invokevirtual 45, 3) := by decide +kernel
theorem dX7_run_18 : decode cX7_run 18 = .ok (.aload_n 0, 1) := by decide +kernel
theorem dX7_run_19 : decode cX7_run 19 = .ok (.aload_n 1, 1) := by decide +kernel
theorem dX7_run_20 : decode cX7_run 20 = .ok (.aload_n 1, 1) := by decide +kernel
theorem dX7_run_21 : decode cX7_run 21 = .ok (.iload_n 3, 1) := by decide +kernel
theorem dX7_run_22 : decode cX7_run 22 = .ok (.invokevirtual 49, 3) := by decide +kernel
theorem dX7_run_25 : decode cX7_run 25 = .ok (.invokevirtual 55, 3) := by decide +kernel
theorem dX7_run_28 : decode cX7_run 28 = .ok (.aload_n 0, 1) := by decide +kernel
theorem dX7_run_29 : decode cX7_run 29 = .ok (.aload_n 1, 1) := by decide +kernel
theorem dX7_run_30 : decode cX7_run 30 = .ok (.iload_n 3, 1) := by decide +kernel
theorem dX7_run_31 : decode cX7_run 31 = .ok (.invokevirtual 58, 3) := by decide +kernel
theorem dX7_run_34 : decode cX7_run 34 = .ok (.iinc 3 1, 3) := by decide +kernel
theorem dX7_run_37 : decode cX7_run 37 = .ok (.goto (-30), 3) := by decide +kernel
theorem dX7_run_40 : decode cX7_run 40 = .ok (.return_, 1) := by decide +kernel
theorem dX7_begin_0 : decode cX7_begin 0 = .ok (.aload_n 0, 1) := by decide +kernel
theorem dX7_begin_1 : decode cX7_begin 1 = .ok (.iconst 0, 1) := by decide +kernel
theorem dX7_begin_2 : decode cX7_begin 2 = .ok (.putfield 27, 3) := by decide +kernel
theorem dX7_begin_5 : decode cX7_begin 5 = .ok (.iconst 0, 1) := by decide +kernel
theorem dX7_begin_6 : decode cX7_begin 6 = .ok (.istore_n 2, 1) := by decide +kernel
theorem dX7_begin_7 : decode cX7_begin 7 = .ok (.iload_n 2, 1) := by decide +kernel
theorem dX7_begin_8 : decode cX7_begin 8 = .ok (.bipush 10, 2) := by decide +kernel
theorem dX7_begin_10 : decode cX7_begin 10 = .ok (.if_icmp .ge 35, 3) := by decide +kernel
theorem dX7_begin_13 : decode cX7_begin 13 = .ok (.aload_n 0, 1) := by decide +kernel
theorem dX7_begin_14 : decode cX7_begin 14 = .ok (.getfield 9, 3) := by decide +kernel
theorem dX7_begin_17 : decode cX7_begin 17 = .ok (.iload_n 2, 1) := by decide +kernel
theorem dX7_begin_18 : decode cX7_begin 18 = .ok (.aload_n 1, 1) := by decide +kernel
theorem dX7_begin_19 : decode cX7_begin 19 = .ok (.getfield 61, 3) := by decide +kernel
theorem dX7_begin_22 : decode cX7_begin 22 = .ok (.iload_n 2, 1) := by decide +kernel
theorem dX7_begin_23 : decode cX7_begin 23 = .ok (.iaload, 1) := by decide +kernel
theorem dX7_begin_24 : decode cX7_begin 24 = .ok (.iastore, 1) := by decide +kernel
theorem dX7_begin_25 : decode cX7_begin 25 = .ok (.aload_n 0, 1) := by decide +kernel
theorem dX7_begin_26 : decode cX7_begin 26 = .ok (.getfield 15, 3) := by decide +kernel
theorem dX7_begin_29 : decode cX7_begin 29 = .ok (.iload_n 2, 1) := by decide +kernel
theorem dX7_begin_30 : decode cX7_begin 30 = .ok (.iconst 0, 1) := by decide +kernel
theorem dX7_begin_31 : decode cX7_begin 31 = .ok (.iastore, 1) := by decide +kernel
theorem dX7_begin_32 : decode cX7_begin 32 = .ok (.aload_n 0, 1) := by decide +kernel
theorem dX7_begin_33 : decode cX7_begin 33 = .ok (.getfield 18, 3) := by decide +kernel
theorem dX7_begin_36 : decode cX7_begin 36 = .ok (.iload_n 2, 1) := by decide +kernel
theorem dX7_begin_37 : decode cX7_begin 37 = .ok (.iconst 0, 1) := by decide +kernel
theorem dX7_begin_38 : decode cX7_begin 38 = .ok (.iastore, 1) := by decide +kernel
theorem dX7_begin_39 : decode cX7_begin 39 = .ok (.iinc 2 1, 3) := by decide +kernel
theorem dX7_begin_42 : decode cX7_begin 42 = .ok (.goto (-35), 3) := by decide +kernel
theorem dX7_begin_45 : decode cX7_begin 45 = .ok (.return_, 1) := by decide +kernel
theorem dX7_doEvents_0 : decode cX7_doEvents 0 = .ok (.aload_n 0, 1) := by decide +kernel
theorem dX7_doEvents_1 : decode cX7_doEvents 1 = .ok (.iconst 0, 1) := by decide +kernel
theorem dX7_doEvents_2 : decode cX7_doEvents 2 = .ok (.putfield 37, 3) := by decide +kernel
theorem dX7_doEvents_5 : decode cX7_doEvents 5 = .ok (.aload_n 0, 1) := by decide +kernel
theorem dX7_doEvents_6 : decode cX7_doEvents 6 = .ok (.aload_n 1, 1) := by decide +kernel
theorem dX7_doEvents_7 : decode cX7_doEvents 7 = .ok (.getfield 62, 3) := by decide +kernel
theorem dX7_doEvents_10 : decode cX7_doEvents 10 = .ok (.iconst (-1), 1) := by decide +kernel
theorem dX7_doEvents_11 : decode cX7_doEvents 11 = .ok (.if_icmp .ne 7, 3) := by decide +kernel
theorem dX7_doEvents_14 : decode cX7_doEvents 14 = .ok (.iconst 0, 1) := by decide +kernel
theorem dX7_doEvents_15 : decode cX7_doEvents 15 = .ok (.goto 9, 3) := by decide +kernel
theorem dX7_doEvents_18 : decode cX7_doEvents 18 = .ok (.iconst 1, 1) := by decide +kernel
theorem dX7_doEvents_19 : decode cX7_doEvents 19 = .ok (.aload_n 1, 1) := by decide +kernel
theorem dX7_doEvents_20 : decode cX7_doEvents 20 = .ok (.getfield 62, 3) := by decide +kernel
theorem dX7_doEvents_23 : decode cX7_doEvents 23 = .ok (.ishl, 1) := by decide +kernel
theorem dX7_doEvents_24 : decode cX7_doEvents 24 = .ok (.putfield 34, 3) := by decide +kernel
theorem dX7_doEvents_27 : decode cX7_doEvents 27 = .ok (.aload_n 1, 1) := by decide +kernel
theorem dX7_doEvents_28 : decode cX7_doEvents 28 = .ok (.getfield 65, 3) := by decide +kernel
theorem dX7_doEvents_31 : decode cX7_doEvents 31 = .ok (.astore_n 3, 1) := by decide +kernel
theorem dX7_doEvents_32 : decode cX7_doEvents 32 = .ok (.iconst 0, 1) := by decide +kernel
theorem dX7_doEvents_33 : decode cX7_doEvents 33 = .ok (.istore 4, 2) := by decide +kernel
theorem dX7_doEvents_35 : decode cX7_doEvents 35 = .ok (.iload 4, 2) := by decide +kernel
theorem dX7_doEvents_37 : decode cX7_doEvents 37 = .ok (.aload_n 3, 1) := by decide +kernel
theorem dX7_doEvents_38 : decode cX7_doEvents 38 = .ok (.getfield 69, 3) := by decide +kernel
theorem dX7_doEvents_41 : decode cX7_doEvents 41 = .ok (.if_icmp .ge 50, 3) := by decide +kernel
theorem dX7_doEvents_44 : decode cX7_doEvents 44 = .ok (.aload_n 1, 1) := by decide +kernel
theorem dX7_doEvents_45 : decode cX7_doEvents 45 = .ok (.getfield 74, 3) := by decide +kernel
theorem dX7_doEvents_48 : decode cX7_doEvents 48 = .ok (.iload 4, 2) := by decide +kernel
theorem dX7_doEvents_50 : decode cX7_doEvents 50 = .ok (.ishr, 1) := by decide +kernel
theorem dX7_doEvents_51 : decode cX7_doEvents 51 = .ok (.iconst 1, 1) := by decide +kernel
theorem dX7_doEvents_52 : decode cX7_doEvents 52 = .ok (.iand, 1) := by decide +kernel
theorem dX7_doEvents_53 : decode cX7_doEvents 53 = .ok (.ifCond .ne 32, 3) := by decide +kernel
theorem dX7_doEvents_56 : decode cX7_doEvents 56 = .ok (.aload_n 3, 1) := by decide +kernel
theorem dX7_doEvents_57 : decode cX7_doEvents 57 = .ok (.iload 4, 2) := by decide +kernel
theorem dX7_doEvents_59 : decode cX7_doEvents 59 = .ok (.iconst 1, 1) := by decide +kernel
theorem dX7_doEvents_60 : decode cX7_doEvents 60 = .ok (.invokevirtual 77, 3) := by decide +kernel
theorem dX7_doEvents_63 : decode cX7_doEvents 63 = .ok (.iload_n 2, 1) := by decide +kernel
theorem dX7_doEvents_64 : decode cX7_doEvents 64 = .ok (.if_icmp .ne 21, 3) := by decide +kernel
theorem dX7_doEvents_67 : decode cX7_doEvents 67 = .ok (.aload_n 0, 1) := by decide +kernel
theorem dX7_doEvents_68 : decode cX7_doEvents 68 = .ok (.aload_n 3, 1) := by decide +kernel
theorem dX7_doEvents_69 : decode cX7_doEvents 69 = .ok (.iload 4, 2) := by decide +kernel
theorem dX7_doEvents_71 : decode cX7_doEvents 71 = .ok (.iconst 0, 1) := by decide +kernel
theorem dX7_doEvents_72 : decode cX7_doEvents 72 = .ok (.invokevirtual 77, 3) := by decide +kernel
theorem dX7_doEvents_75 : decode cX7_doEvents 75 = .ok (.aload_n 3, 1) := by decide +kernel
theorem dX7_doEvents_76 : decode cX7_doEvents 76 = .ok (.iload 4, 2) := by decide +kernel
theorem dX7_doEvents_78 : decode cX7_doEvents 78 = .ok (.iconst 2, 1) := by decide +kernel
theorem dX7_doEvents_79 : decode cX7_doEvents 79 = .ok (.invokevirtual 77, 3) := by decide +kernel
theorem dX7_doEvents_82 : decode cX7_doEvents 82 = .ok (.invokevirtual 81, 3) := by decide +kernel
theorem dX7_doEvents_85 : decode cX7_doEvents 85 = .ok (.iinc 4 1, 3) := by decide +kernel
theorem dX7_doEvents_88 : decode cX7_doEvents 88 = .ok (.goto (-53), 3) := by decide +kernel
theorem dX7_doEvents_91 : decode cX7_doEvents 91 = .ok (.aload_n 1, 1) := by decide +kernel
theorem dX7_doEvents_92 : decode cX7_doEvents 92 = .ok (.getfield 85, 3) := by decide +kernel
theorem dX7_doEvents_95 : decode cX7_doEvents 95 = .ok (.iload_n 2, 1) := by decide +kernel
theorem dX7_doEvents_96 : decode cX7_doEvents 96 = .ok (.if_icmp .ne 12, 3) := by decide +kernel
theorem dX7_doEvents_99 : decode cX7_doEvents 99 = .ok (.aload_n 0, 1) := by decide +kernel
theorem dX7_doEvents_100 : decode cX7_doEvents 100 = .ok (.iconst 0, 1) := by decide +kernel
theorem dX7_doEvents_101 : decode cX7_doEvents 101 = .ok (.aload_n 1, 1) := by decide +kernel
theorem dX7_doEvents_102 : decode cX7_doEvents 102 = .ok (.getfield 88, 3) := by decide +kernel
theorem dX7_doEvents_105 : decode cX7_doEvents 105 = .ok (.invokevirtual 81, 3) := by decide +kernel
theorem dX7_doEvents_108 : decode cX7_doEvents 108 = .ok (.return_, 1) := by decide +kernel
theorem dX7_happen_0 : decode cX7_happen 0 = .ok (.iload_n 1, 1) := by decide +kernel
theorem dX7_happen_1 : decode cX7_happen 1 = .ok (.ifCond .ne 25, 3) := by decide +kernel
theorem dX7_happen_4 : decode cX7_happen 4 = .ok (.aload_n 0, 1) := by decide +kernel
theorem dX7_happen_5 : decode cX7_happen 5 = .ok (.getfield 9, 3) := by decide +kernel
theorem dX7_happen_8 : decode cX7_happen 8 = .ok (.iload_n 2, 1) := by decide +kernel
theorem dX7_happen_9 : decode cX7_happen 9 = .ok (.bipush 9, 2) := by decide +kernel
theorem dX7_happen_11 : decode cX7_happen 11 = .ok (.aload_n 0, 1) := by decide +kernel
theorem dX7_happen_12 : decode cX7_happen 12 = .ok (.getfield 9, 3) := by decide +kernel
theorem dX7_happen_15 : decode cX7_happen 15 = .ok (.iload_n 2, 1) := by decide +kernel
theorem dX7_happen_16 : decode cX7_happen 16 = .ok (.iaload, 1) := by decide +kernel
theorem dX7_happen_17 : decode cX7_happen 17 = .ok (.iconst 2, 1) := by decide +kernel
theorem dX7_happen_18 : decode cX7_happen 18 = .ok (.iadd, 1) := by decide +kernel
theorem dX7_happen_19 : decode cX7_happen 19 = .ok (.invokestatic 91, 3) := by decide +kernel
theorem dX7_happen_22 : decode cX7_happen 22 = .ok (.iastore, 1) := by decide +kernel
theorem dX7_happen_23 : decode cX7_happen 23 = .ok (.goto 60, 3) := by decide +kernel
theorem dX7_happen_26 : decode cX7_happen 26 = .ok (.iload_n 1, 1) := by decide +kernel
theorem dX7_happen_27 : decode cX7_happen 27 = .ok (.iconst 1, 1) := by decide +kernel
theorem dX7_happen_28 : decode cX7_happen 28 = .ok (.if_icmp .ne 18, 3) := by decide +kernel
theorem dX7_happen_31 : decode cX7_happen 31 = .ok (.aload_n 0, 1) := by decide +kernel
theorem dX7_happen_32 : decode cX7_happen 32 = .ok (.dup, 1) := by decide +kernel
theorem dX7_happen_33 : decode cX7_happen 33 = .ok (.getfield 34, 3) := by decide +kernel
theorem dX7_happen_36 : decode cX7_happen 36 = .ok (.iconst 1, 1) := by decide +kernel
theorem dX7_happen_37 : decode cX7_happen 37 = .ok (.iload_n 2, 1) := by decide +kernel
theorem dX7_happen_38 : decode cX7_happen 38 = .ok (.ishl, 1) := by decide +kernel
theorem dX7_happen_39 : decode cX7_happen 39 = .ok (.ior, 1) := by decide +kernel
theorem dX7_happen_40 : decode cX7_happen 40 = .ok (.putfield 34, 3) := by decide +kernel
theorem dX7_happen_43 : decode cX7_happen 43 = .ok (.goto 40, 3) := by decide +kernel
theorem dX7_happen_46 : decode cX7_happen 46 = .ok (.aload_n 0, 1) := by decide +kernel
theorem dX7_happen_47 : decode cX7_happen 47 = .ok (.iconst 1, 1) := by decide +kernel
theorem dX7_happen_48 : decode cX7_happen 48 = .ok (.putfield 37, 3) := by decide +kernel
theorem dX7_happen_51 : decode cX7_happen 51 = .ok (.iconst 0, 1) := by decide +kernel
theorem dX7_happen_52 : decode cX7_happen 52 = .ok (.istore_n 3, 1) := by decide +kernel
theorem dX7_happen_53 : decode cX7_happen 53 = .ok (.iload_n 3, 1) := by decide +kernel
theorem dX7_happen_54 : decode cX7_happen 54 = .ok (.bipush 10, 2) := by decide +kernel
theorem dX7_happen_56 : decode cX7_happen 56 = .ok (.if_icmp .ge 27, 3) := by decide +kernel
theorem dX7_happen_59 : decode cX7_happen 59 = .ok (.aload_n 0, 1) := by decide +kernel
theorem dX7_happen_60 : decode cX7_happen 60 = .ok (.getfield 15, 3) := by decide +kernel
theorem dX7_happen_63 : decode cX7_happen 63 = .ok (.iload_n 3, 1) := by decide +kernel
theorem dX7_happen_64 : decode cX7_happen 64 = .ok (.iconst 0, 1) := by decide +kernel
theorem dX7_happen_65 : decode cX7_happen 65 = .ok (.aload_n 0, 1) := by decide +kernel
theorem dX7_happen_66 : decode cX7_happen 66 = .ok (.getfield 15, 3) := by decide +kernel
theorem dX7_happen_69 : decode cX7_happen 69 = .ok (.iload_n 3, 1) := by decide +kernel
theorem dX7_happen_70 : decode cX7_happen 70 = .ok (.iaload, 1) := by decide +kernel
theorem dX7_happen_71 : decode cX7_happen 71 = .ok (.iconst 1, 1) := by decide +kernel
theorem dX7_happen_72 : decode cX7_happen 72 = .ok (.isub, 1) := by decide +kernel
theorem dX7_happen_73 : decode cX7_happen 73 = .ok (.invokestatic 96, 3) := by decide +kernel
theorem dX7_happen_76 : decode cX7_happen 76 = .ok (.iastore, 1) := by decide +kernel
theorem dX7_happen_77 : decode cX7_happen 77 = .ok (.iinc 3 1, 3) := by decide +kernel
theorem dX7_happen_80 : decode cX7_happen 80 = .ok (.goto (-27), 3) := by decide +kernel
theorem dX7_happen_83 : decode cX7_happen 83 = .ok (.return_, 1) := by decide +kernel
theorem dX7_scoreAll_0 : decode cX7_scoreAll 0 = .ok (.aload_n 0, 1) := by decide +kernel
theorem dX7_scoreAll_1 : decode cX7_scoreAll 1 = .ok (.iconst 0, 1) := by decide +kernel
theorem dX7_scoreAll_2 : decode cX7_scoreAll 2 = .ok (.putfield 31, 3) := by decide +kernel
theorem dX7_scoreAll_5 : decode cX7_scoreAll 5 = .ok (.iconst 0, 1) := by decide +kernel
theorem dX7_scoreAll_6 : decode cX7_scoreAll 6 = .ok (.istore_n 3, 1) := by decide +kernel
theorem dX7_scoreAll_7 : decode cX7_scoreAll 7 = .ok (.iload_n 3, 1) := by decide +kernel
theorem dX7_scoreAll_8 : decode cX7_scoreAll 8 = .ok (.aload_n 1, 1) := by decide +kernel
theorem dX7_scoreAll_9 : decode cX7_scoreAll 9 = .ok (.getfield 99, 3) := by decide +kernel
theorem dX7_scoreAll_12 : decode cX7_scoreAll 12 = .ok (.if_icmp .ge 64, 3) := by decide +kernel
theorem dX7_scoreAll_15 : decode cX7_scoreAll 15 = .ok (.iload_n 2, 1) := by decide +kernel
theorem dX7_scoreAll_16 : decode cX7_scoreAll 16 = .ok (.iconst (-1), 1) := by decide +kernel
theorem dX7_scoreAll_17 : decode cX7_scoreAll 17 = .ok (.if_icmp .eq 20, 3) := by decide +kernel
theorem dX7_scoreAll_20 : decode cX7_scoreAll 20 = .ok (.aload_n 0, 1) := by decide +kernel
theorem dX7_scoreAll_21 : decode cX7_scoreAll 21 = .ok (.getfield 34, 3) := by decide +kernel
theorem dX7_scoreAll_24 : decode cX7_scoreAll 24 = .ok (.aload_n 0, 1) := by decide +kernel
theorem dX7_scoreAll_25 : decode cX7_scoreAll 25 = .ok (.getfield 27, 3) := by decide +kernel
theorem dX7_scoreAll_28 : decode cX7_scoreAll 28 = .ok (.ior, 1) := by decide +kernel
theorem dX7_scoreAll_29 : decode cX7_scoreAll 29 = .ok (.iload_n 3, 1) := by decide +kernel
theorem dX7_scoreAll_30 : decode cX7_scoreAll 30 = .ok (.ishr, 1) := by decide +kernel
theorem dX7_scoreAll_31 : decode cX7_scoreAll 31 = .ok (.iconst 1, 1) := by decide +kernel
theorem dX7_scoreAll_32 : decode cX7_scoreAll 32 = .ok (.iand, 1) := by decide +kernel
theorem dX7_scoreAll_33 : decode cX7_scoreAll 33 = .ok (.iconst 1, 1) := by decide +kernel
theorem dX7_scoreAll_34 : decode cX7_scoreAll 34 = .ok (.if_icmp .ne 13, 3) := by decide +kernel
theorem dX7_scoreAll_37 : decode cX7_scoreAll 37 = .ok (.aload_n 0, 1) := by decide +kernel
theorem dX7_scoreAll_38 : decode cX7_scoreAll 38 = .ok (.getfield 21, 3) := by decide +kernel
theorem dX7_scoreAll_41 : decode cX7_scoreAll 41 = .ok (.iload_n 3, 1) := by decide +kernel
theorem dX7_scoreAll_42 : decode cX7_scoreAll 42 = .ok (.iconst (-1), 1) := by decide +kernel
theorem dX7_scoreAll_43 : decode cX7_scoreAll 43 = .ok (.iastore, 1) := by decide +kernel
theorem dX7_scoreAll_44 : decode cX7_scoreAll 44 = .ok (.goto 26, 3) := by decide +kernel
theorem dX7_scoreAll_47 : decode cX7_scoreAll 47 = .ok (.aload_n 0, 1) := by decide +kernel
theorem dX7_scoreAll_48 : decode cX7_scoreAll 48 = .ok (.getfield 21, 3) := by decide +kernel
theorem dX7_scoreAll_51 : decode cX7_scoreAll 51 = .ok (.iload_n 3, 1) := by decide +kernel
theorem dX7_scoreAll_52 : decode cX7_scoreAll 52 = .ok (.aload_n 0, 1) := by decide +kernel
theorem dX7_scoreAll_53 : decode cX7_scoreAll 53 = .ok (.aload_n 1, 1) := by decide +kernel
theorem dX7_scoreAll_54 : decode cX7_scoreAll 54 = .ok (.iload_n 2, 1) := by decide +kernel
theorem dX7_scoreAll_55 : decode cX7_scoreAll 55 = .ok (.iload_n 3, 1) := by decide +kernel
theorem dX7_scoreAll_56 : decode cX7_scoreAll 56 = .ok (.invokevirtual 102, 3) := by decide +kernel
theorem dX7_scoreAll_59 : decode cX7_scoreAll 59 = .ok (.iastore, 1) := by decide +kernel
theorem dX7_scoreAll_60 : decode cX7_scoreAll 60 = .ok (.aload_n 0, 1) := by decide +kernel
theorem dX7_scoreAll_61 : decode cX7_scoreAll 61 = .ok (.dup, 1) := by decide +kernel
theorem dX7_scoreAll_62 : decode cX7_scoreAll 62 = .ok (.getfield 31, 3) := by decide +kernel
theorem dX7_scoreAll_65 : decode cX7_scoreAll 65 = .ok (.iconst 1, 1) := by decide +kernel
theorem dX7_scoreAll_66 : decode cX7_scoreAll 66 = .ok (.iadd, 1) := by decide +kernel
theorem dX7_scoreAll_67 : decode cX7_scoreAll 67 = .ok (.putfield 31, 3) := by decide +kernel
theorem dX7_scoreAll_70 : decode cX7_scoreAll 70 = .ok (.iinc 3 1, 3) := by decide +kernel
theorem dX7_scoreAll_73 : decode cX7_scoreAll 73 = .ok (.goto (-66), 3) := by decide +kernel
theorem dX7_scoreAll_76 : decode cX7_scoreAll 76 = .ok (.return_, 1) := by decide +kernel
theorem dX7_scoreBy_0 : decode cX7_scoreBy 0 = .ok (.aload_n 0, 1) := by decide +kernel
theorem dX7_scoreBy_1 : decode cX7_scoreBy 1 = .ok (.getfield 9, 3) := by decide +kernel
theorem dX7_scoreBy_4 : decode cX7_scoreBy 4 = .ok (.iload_n 3, 1) := by decide +kernel
theorem dX7_scoreBy_5 : decode cX7_scoreBy 5 = .ok (.iaload, 1) := by decide +kernel
theorem dX7_scoreBy_6 : decode cX7_scoreBy 6 = .ok (.istore 4, 2) := by decide +kernel
theorem dX7_scoreBy_8 : decode cX7_scoreBy 8 = .ok (.aload_n 1, 1) := by decide +kernel
theorem dX7_scoreBy_9 : decode cX7_scoreBy 9 = .ok (.getfield 106, 3) := by decide +kernel
theorem dX7_scoreBy_12 : decode cX7_scoreBy 12 = .ok (.iload_n 3, 1) := by decide +kernel
theorem dX7_scoreBy_13 : decode cX7_scoreBy 13 = .ok (.iaload, 1) := by decide +kernel
theorem dX7_scoreBy_14 : decode cX7_scoreBy 14 = .ok (.iconst 2, 1) := by decide +kernel
theorem dX7_scoreBy_15 : decode cX7_scoreBy 15 = .ok (.if_icmp .ne 14, 3) := by decide +kernel
theorem dX7_scoreBy_18 : decode cX7_scoreBy 18 = .ok (.iload 4, 2) := by decide +kernel
theorem dX7_scoreBy_20 : decode cX7_scoreBy 20 = .ok (.aload_n 0, 1) := by decide +kernel
theorem dX7_scoreBy_21 : decode cX7_scoreBy 21 = .ok (.getfield 18, 3) := by decide +kernel
theorem dX7_scoreBy_24 : decode cX7_scoreBy 24 = .ok (.iload_n 3, 1) := by decide +kernel
theorem dX7_scoreBy_25 : decode cX7_scoreBy 25 = .ok (.iaload, 1) := by decide +kernel
theorem dX7_scoreBy_26 : decode cX7_scoreBy 26 = .ok (.iadd, 1) := by decide +kernel
theorem dX7_scoreBy_27 : decode cX7_scoreBy 27 = .ok (.istore 4, 2) := by decide +kernel
theorem dX7_scoreBy_29 : decode cX7_scoreBy 29 = .ok (.aload_n 1, 1) := by decide +kernel
theorem dX7_scoreBy_30 : decode cX7_scoreBy 30 = .ok (.getfield 106, 3) := by decide +kernel
theorem dX7_scoreBy_33 : decode cX7_scoreBy 33 = .ok (.iload_n 3, 1) := by decide +kernel
theorem dX7_scoreBy_34 : decode cX7_scoreBy 34 = .ok (.iaload, 1) := by decide +kernel
theorem dX7_scoreBy_35 : decode cX7_scoreBy 35 = .ok (.iconst 1, 1) := by decide +kernel
theorem dX7_scoreBy_36 : decode cX7_scoreBy 36 = .ok (.if_icmp .ne 20, 3) := by decide +kernel
theorem dX7_scoreBy_39 : decode cX7_scoreBy 39 = .ok (.aload_n 0, 1) := by decide +kernel
theorem dX7_scoreBy_40 : decode cX7_scoreBy 40 = .ok (.getfield 37, 3) := by decide +kernel
theorem dX7_scoreBy_43 : decode cX7_scoreBy 43 = .ok (.ifCond .eq 13, 3) := by decide +kernel
theorem dX7_scoreBy_46 : decode cX7_scoreBy 46 = .ok (.iconst 0, 1) := by decide +kernel
theorem dX7_scoreBy_47 : decode cX7_scoreBy 47 = .ok (.iload 4, 2) := by decide +kernel
theorem dX7_scoreBy_49 : decode cX7_scoreBy 49 = .ok (.iconst 2, 1) := by decide +kernel
theorem dX7_scoreBy_50 : decode cX7_scoreBy 50 = .ok (.isub, 1) := by decide +kernel
theorem dX7_scoreBy_51 : decode cX7_scoreBy 51 = .ok (.invokestatic 96, 3) := by decide +kernel
theorem dX7_scoreBy_54 : decode cX7_scoreBy 54 = .ok (.istore 4, 2) := by decide +kernel
theorem dX7_scoreBy_56 : decode cX7_scoreBy 56 = .ok (.aload_n 1, 1) := by decide +kernel
theorem dX7_scoreBy_57 : decode cX7_scoreBy 57 = .ok (.getfield 106, 3) := by decide +kernel
theorem dX7_scoreBy_60 : decode cX7_scoreBy 60 = .ok (.iload_n 3, 1) := by decide +kernel
theorem dX7_scoreBy_61 : decode cX7_scoreBy 61 = .ok (.iaload, 1) := by decide +kernel
theorem dX7_scoreBy_62 : decode cX7_scoreBy 62 = .ok (.aload_n 1, 1) := by decide +kernel
theorem dX7_scoreBy_63 : decode cX7_scoreBy 63 = .ok (.getfield 109, 3) := by decide +kernel
theorem dX7_scoreBy_66 : decode cX7_scoreBy 66 = .ok (.iload_n 2, 1) := by decide +kernel
theorem dX7_scoreBy_67 : decode cX7_scoreBy 67 = .ok (.iaload, 1) := by decide +kernel
theorem dX7_scoreBy_68 : decode cX7_scoreBy 68 = .ok (.if_icmp .ne 14, 3) := by decide +kernel
theorem dX7_scoreBy_71 : decode cX7_scoreBy 71 = .ok (.iload 4, 2) := by decide +kernel
theorem dX7_scoreBy_73 : decode cX7_scoreBy 73 = .ok (.aload_n 1, 1) := by decide +kernel
theorem dX7_scoreBy_74 : decode cX7_scoreBy 74 = .ok (.getfield 112, 3) := by decide +kernel
theorem dX7_scoreBy_77 : decode cX7_scoreBy 77 = .ok (.iload_n 2, 1) := by decide +kernel
theorem dX7_scoreBy_78 : decode cX7_scoreBy 78 = .ok (.iaload, 1) := by decide +kernel
theorem dX7_scoreBy_79 : decode cX7_scoreBy 79 = .ok (.iadd, 1) := by decide +kernel
theorem dX7_scoreBy_80 : decode cX7_scoreBy 80 = .ok (.istore 4, 2) := by decide +kernel
theorem dX7_scoreBy_82 : decode cX7_scoreBy 82 = .ok (.aload_n 1, 1) := by decide +kernel
theorem dX7_scoreBy_83 : decode cX7_scoreBy 83 = .ok (.getfield 115, 3) := by decide +kernel
theorem dX7_scoreBy_86 : decode cX7_scoreBy 86 = .ok (.iload_n 3, 1) := by decide +kernel
theorem dX7_scoreBy_87 : decode cX7_scoreBy 87 = .ok (.iaload, 1) := by decide +kernel
theorem dX7_scoreBy_88 : decode cX7_scoreBy 88 = .ok (.aload_n 1, 1) := by decide +kernel
theorem dX7_scoreBy_89 : decode cX7_scoreBy 89 = .ok (.getfield 118, 3) := by decide +kernel
theorem dX7_scoreBy_92 : decode cX7_scoreBy 92 = .ok (.iload_n 2, 1) := by decide +kernel
theorem dX7_scoreBy_93 : decode cX7_scoreBy 93 = .ok (.iaload, 1) := by decide +kernel
theorem dX7_scoreBy_94 : decode cX7_scoreBy 94 = .ok (.if_icmp .ne 6, 3) := by decide +kernel
theorem dX7_scoreBy_97 : decode cX7_scoreBy 97 = .ok (.iinc 4 3, 3) := by decide +kernel
theorem dX7_scoreBy_100 : decode cX7_scoreBy 100 = .ok (.iload 4, 2) := by decide +kernel
theorem dX7_scoreBy_102 : decode cX7_scoreBy 102 = .ok (.ireturn, 1) := by decide +kernel
theorem dX7_placeAll_0 : decode cX7_placeAll 0 = .ok (.iconst 0, 1) := by decide +kernel
theorem dX7_placeAll_1 : decode cX7_placeAll 1 = .ok (.istore_n 3, 1) := by decide +kernel
theorem dX7_placeAll_2 : decode cX7_placeAll 2 = .ok (.iconst 0, 1) := by decide +kernel
theorem dX7_placeAll_3 : decode cX7_placeAll 3 = .ok (.istore 4, 2) := by decide +kernel
theorem dX7_placeAll_5 : decode cX7_placeAll 5 = .ok (.iload 4, 2) := by decide +kernel
theorem dX7_placeAll_7 : decode cX7_placeAll 7 = .ok (.iconst 3, 1) := by decide +kernel
theorem dX7_placeAll_8 : decode cX7_placeAll 8 = .ok (.if_icmp .ge 61, 3) := by decide +kernel
theorem dX7_placeAll_11 : decode cX7_placeAll 11 = .ok (.aload_n 0, 1) := by decide +kernel
theorem dX7_placeAll_12 : decode cX7_placeAll 12 = .ok (.iload_n 3, 1) := by decide +kernel
theorem dX7_placeAll_13 : decode cX7_placeAll 13 = .ok (.aload_n 1, 1) := by decide +kernel
theorem dX7_placeAll_14 : decode cX7_placeAll 14 = .ok (.getfield 99, 3) := by decide +kernel
theorem dX7_placeAll_17 : decode cX7_placeAll 17 = .ok (.invokevirtual 121, 3) := by decide +kernel
theorem dX7_placeAll_20 : decode cX7_placeAll 20 = .ok (.istore 5, 2) := by decide +kernel
theorem dX7_placeAll_22 : decode cX7_placeAll 22 = .ok (.aload_n 0, 1) := by decide +kernel
theorem dX7_placeAll_23 : decode cX7_placeAll 23 = .ok (.getfield 24, 3) := by decide +kernel
theorem dX7_placeAll_26 : decode cX7_placeAll 26 = .ok (.iload_n 2, 1) := by decide +kernel
theorem dX7_placeAll_27 : decode cX7_placeAll 27 = .ok (.iconst 3, 1) := by decide +kernel
theorem dX7_placeAll_28 : decode cX7_placeAll 28 = .ok (.imul, 1) := by decide +kernel
theorem dX7_placeAll_29 : decode cX7_placeAll 29 = .ok (.iload 4, 2) := by decide +kernel
theorem dX7_placeAll_31 : decode cX7_placeAll 31 = .ok (.iadd, 1) := by decide +kernel
theorem dX7_placeAll_32 : decode cX7_placeAll 32 = .ok (.iload 5, 2) := by decide +kernel
theorem dX7_placeAll_34 : decode cX7_placeAll 34 = .ok (.iastore, 1) := by decide +kernel
theorem dX7_placeAll_35 : decode cX7_placeAll 35 = .ok (.iload 5, 2) := by decide +kernel
theorem dX7_placeAll_37 : decode cX7_placeAll 37 = .ok (.iconst (-1), 1) := by decide +kernel
theorem dX7_placeAll_38 : decode cX7_placeAll 38 = .ok (.if_icmp .eq 25, 3) := by decide +kernel
theorem dX7_placeAll_41 : decode cX7_placeAll 41 = .ok (.iload_n 3, 1) := by decide +kernel
theorem dX7_placeAll_42 : decode cX7_placeAll 42 = .ok (.iconst 1, 1) := by decide +kernel
theorem dX7_placeAll_43 : decode cX7_placeAll 43 = .ok (.iload 5, 2) := by decide +kernel
theorem dX7_placeAll_45 : decode cX7_placeAll 45 = .ok (.ishl, 1) := by decide +kernel
theorem dX7_placeAll_46 : decode cX7_placeAll 46 = .ok (.ior, 1) := by decide +kernel
theorem dX7_placeAll_47 : decode cX7_placeAll 47 = .ok (.istore_n 3, 1) := by decide +kernel
theorem dX7_placeAll_48 : decode cX7_placeAll 48 = .ok (.aload_n 0, 1) := by decide +kernel
theorem dX7_placeAll_49 : decode cX7_placeAll 49 = .ok (.aload_n 1, 1) := by decide +kernel
theorem dX7_placeAll_50 : decode cX7_placeAll 50 = .ok (.getfield 106, 3) := by decide +kernel
theorem dX7_placeAll_53 : decode cX7_placeAll 53 = .ok (.iload 5, 2) := by decide +kernel
theorem dX7_placeAll_55 : decode cX7_placeAll 55 = .ok (.iaload, 1) := by decide +kernel
theorem dX7_placeAll_56 : decode cX7_placeAll 56 = .ok (.iload 5, 2) := by decide +kernel
theorem dX7_placeAll_58 : decode cX7_placeAll 58 = .ok (.iload 4, 2) := by decide +kernel
theorem dX7_placeAll_60 : decode cX7_placeAll 60 = .ok (.invokevirtual 124, 3) := by decide +kernel
theorem dX7_placeAll_63 : decode cX7_placeAll 63 = .ok (.iinc 4 1, 3) := by decide +kernel
theorem dX7_placeAll_66 : decode cX7_placeAll 66 = .ok (.goto (-61), 3) := by decide +kernel
theorem dX7_placeAll_69 : decode cX7_placeAll 69 = .ok (.return_, 1) := by decide +kernel
theorem dX7_topWithout_0 : decode cX7_topWithout 0 = .ok (.iconst (-1), 1) := by decide +kernel
theorem dX7_topWithout_1 : decode cX7_topWithout 1 = .ok (.istore_n 3, 1) := by decide +kernel
theorem dX7_topWithout_2 : decode cX7_topWithout 2 = .ok (.iconst 0, 1) := by decide +kernel
theorem dX7_topWithout_3 : decode cX7_topWithout 3 = .ok (.istore 4, 2) := by decide +kernel
theorem dX7_topWithout_5 : decode cX7_topWithout 5 = .ok (.iload 4, 2) := by decide +kernel
theorem dX7_topWithout_7 : decode cX7_topWithout 7 = .ok (.iload_n 2, 1) := by decide +kernel
theorem dX7_topWithout_8 : decode cX7_topWithout 8 = .ok (.if_icmp .ge 65, 3) := by decide +kernel
theorem dX7_topWithout_11 : decode cX7_topWithout 11 = .ok (.aload_n 0, 1) := by decide +kernel
theorem dX7_topWithout_12 : decode cX7_topWithout 12 = .ok (.getfield 21, 3) := by decide +kernel
theorem dX7_topWithout_15 : decode cX7_topWithout 15 = .ok (.iload 4, 2) := by decide +kernel
theorem dX7_topWithout_17 : decode cX7_topWithout 17 = .ok (.iaload, 1) := by decide +kernel
theorem dX7_topWithout_18 : decode cX7_topWithout 18 = .ok (.iconst (-1), 1) := by decide +kernel
theorem dX7_topWithout_19 : decode cX7_topWithout 19 = .ok (.if_icmp .eq 16, 3) := by decide +kernel
theorem dX7_topWithout_22 : decode cX7_topWithout 22 = .ok (.iload_n 1, 1) := by decide +kernel
theorem dX7_topWithout_23 : decode cX7_topWithout 23 = .ok (.iload 4, 2) := by decide +kernel
theorem dX7_topWithout_25 : decode cX7_topWithout 25 = .ok (.ishr, 1) := by decide +kernel
theorem dX7_topWithout_26 : decode cX7_topWithout 26 = .ok (.iconst 1, 1) := by decide +kernel
theorem dX7_topWithout_27 : decode cX7_topWithout 27 = .ok (.iand, 1) := by decide +kernel
theorem dX7_topWithout_28 : decode cX7_topWithout 28 = .ok (.ifCond .ne 7, 3) := by decide +kernel
theorem dX7_topWithout_31 : decode cX7_topWithout 31 = .ok (.iconst 1, 1) := by decide +kernel
theorem dX7_topWithout_32 : decode cX7_topWithout 32 = .ok (.goto 4, 3) := by decide +kernel
theorem dX7_topWithout_35 : decode cX7_topWithout 35 = .ok (.iconst 0, 1) := by decide +kernel
theorem dX7_topWithout_36 : decode cX7_topWithout 36 = .ok (.istore 5, 2) := by decide +kernel
theorem dX7_topWithout_38 : decode cX7_topWithout 38 = .ok (.iload 5, 2) := by decide +kernel
theorem dX7_topWithout_40 : decode cX7_topWithout 40 = .ok (.ifCond .eq 27, 3) := by decide +kernel
theorem dX7_topWithout_43 : decode cX7_topWithout 43 = .ok (.iload_n 3, 1) := by decide +kernel
theorem dX7_topWithout_44 : decode cX7_topWithout 44 = .ok (.iconst (-1), 1) := by decide +kernel
theorem dX7_topWithout_45 : decode cX7_topWithout 45 = .ok (.if_icmp .eq 19, 3) := by decide +kernel
theorem dX7_topWithout_48 : decode cX7_topWithout 48 = .ok (.aload_n 0, 1) := by decide +kernel
theorem dX7_topWithout_49 : decode cX7_topWithout 49 = .ok (.getfield 21, 3) := by decide +kernel
theorem dX7_topWithout_52 : decode cX7_topWithout 52 = .ok (.iload 4, 2) := by decide +kernel
theorem dX7_topWithout_54 : decode cX7_topWithout 54 = .ok (.iaload, 1) := by decide +kernel
theorem dX7_topWithout_55 : decode cX7_topWithout 55 = .ok (.aload_n 0, 1) := by decide +kernel
theorem dX7_topWithout_56 : decode cX7_topWithout 56 = .ok (.getfield 21, 3) := by decide +kernel
theorem dX7_topWithout_59 : decode cX7_topWithout 59 = .ok (.iload_n 3, 1) := by decide +kernel
theorem dX7_topWithout_60 : decode cX7_topWithout 60 = .ok (.iaload, 1) := by decide +kernel
theorem dX7_topWithout_61 : decode cX7_topWithout 61 = .ok (.if_icmp .le 6, 3) := by decide +kernel
theorem dX7_topWithout_64 : decode cX7_topWithout 64 = .ok (.iload 4, 2) := by decide +kernel
theorem dX7_topWithout_66 : decode cX7_topWithout 66 = .ok (.istore_n 3, 1) := by decide +kernel
theorem dX7_topWithout_67 : decode cX7_topWithout 67 = .ok (.iinc 4 1, 3) := by decide +kernel
theorem dX7_topWithout_70 : decode cX7_topWithout 70 = .ok (.goto (-65), 3) := by decide +kernel
theorem dX7_topWithout_73 : decode cX7_topWithout 73 = .ok (.iload_n 3, 1) := by decide +kernel
theorem dX7_topWithout_74 : decode cX7_topWithout 74 = .ok (.ireturn, 1) := by decide +kernel
theorem dX7_pin_0 : decode cX7_pin 0 = .ok (.aload_n 0, 1) := by decide +kernel
theorem dX7_pin_1 : decode cX7_pin 1 = .ok (.getfield 15, 3) := by decide +kernel
theorem dX7_pin_4 : decode cX7_pin 4 = .ok (.iload_n 2, 1) := by decide +kernel
theorem dX7_pin_5 : decode cX7_pin 5 = .ok (.dup2, 1) := by decide +kernel
theorem dX7_pin_6 : decode cX7_pin 6 = .ok (.iaload, 1) := by decide +kernel
theorem dX7_pin_7 : decode cX7_pin 7 = .ok (.iconst 3, 1) := by decide +kernel
theorem dX7_pin_8 : decode cX7_pin 8 = .ok (.iload_n 3, 1) := by decide +kernel
theorem dX7_pin_9 : decode cX7_pin 9 = .ok (.isub, 1) := by decide +kernel
theorem dX7_pin_10 : decode cX7_pin 10 = .ok (.iadd, 1) := by decide +kernel
theorem dX7_pin_11 : decode cX7_pin 11 = .ok (.iastore, 1) := by decide +kernel
theorem dX7_pin_12 : decode cX7_pin 12 = .ok (.iload_n 3, 1) := by decide +kernel
theorem dX7_pin_13 : decode cX7_pin 13 = .ok (.ifCond .ne 40, 3) := by decide +kernel
theorem dX7_pin_16 : decode cX7_pin 16 = .ok (.aload_n 0, 1) := by decide +kernel
theorem dX7_pin_17 : decode cX7_pin 17 = .ok (.getfield 18, 3) := by decide +kernel
theorem dX7_pin_20 : decode cX7_pin 20 = .ok (.iload_n 2, 1) := by decide +kernel
theorem dX7_pin_21 : decode cX7_pin 21 = .ok (.dup2, 1) := by decide +kernel
theorem dX7_pin_22 : decode cX7_pin 22 = .ok (.iaload, 1) := by decide +kernel
theorem dX7_pin_23 : decode cX7_pin 23 = .ok (.iconst 1, 1) := by decide +kernel
theorem dX7_pin_24 : decode cX7_pin 24 = .ok (.iadd, 1) := by decide +kernel
theorem dX7_pin_25 : decode cX7_pin 25 = .ok (.iastore, 1) := by decide +kernel
theorem dX7_pin_26 : decode cX7_pin 26 = .ok (.iload_n 1, 1) := by decide +kernel
theorem dX7_pin_27 : decode cX7_pin 27 = .ok (.iconst 2, 1) := by decide +kernel
theorem dX7_pin_28 : decode cX7_pin 28 = .ok (.if_icmp .ne 25, 3) := by decide +kernel
theorem dX7_pin_31 : decode cX7_pin 31 = .ok (.aload_n 0, 1) := by decide +kernel
theorem dX7_pin_32 : decode cX7_pin 32 = .ok (.getfield 18, 3) := by decide +kernel
theorem dX7_pin_35 : decode cX7_pin 35 = .ok (.iload_n 2, 1) := by decide +kernel
theorem dX7_pin_36 : decode cX7_pin 36 = .ok (.iaload, 1) := by decide +kernel
theorem dX7_pin_37 : decode cX7_pin 37 = .ok (.iconst 3, 1) := by decide +kernel
theorem dX7_pin_38 : decode cX7_pin 38 = .ok (.if_icmp .ne 15, 3) := by decide +kernel
theorem dX7_pin_41 : decode cX7_pin 41 = .ok (.aload_n 0, 1) := by decide +kernel
theorem dX7_pin_42 : decode cX7_pin 42 = .ok (.dup, 1) := by decide +kernel
theorem dX7_pin_43 : decode cX7_pin 43 = .ok (.getfield 27, 3) := by decide +kernel
theorem dX7_pin_46 : decode cX7_pin 46 = .ok (.iconst 1, 1) := by decide +kernel
theorem dX7_pin_47 : decode cX7_pin 47 = .ok (.iload_n 2, 1) := by decide +kernel
theorem dX7_pin_48 : decode cX7_pin 48 = .ok (.ishl, 1) := by decide +kernel
theorem dX7_pin_49 : decode cX7_pin 49 = .ok (.ior, 1) := by decide +kernel
theorem dX7_pin_50 : decode cX7_pin 50 = .ok (.putfield 27, 3) := by decide +kernel
theorem dX7_pin_53 : decode cX7_pin 53 = .ok (.iload_n 3, 1) := by decide +kernel
theorem dX7_pin_54 : decode cX7_pin 54 = .ok (.iconst 1, 1) := by decide +kernel
theorem dX7_pin_55 : decode cX7_pin 55 = .ok (.if_icmp .ne 26, 3) := by decide +kernel
theorem dX7_pin_58 : decode cX7_pin 58 = .ok (.iload_n 1, 1) := by decide +kernel
theorem dX7_pin_59 : decode cX7_pin 59 = .ok (.iconst 1, 1) := by decide +kernel
theorem dX7_pin_60 : decode cX7_pin 60 = .ok (.if_icmp .ne 21, 3) := by decide +kernel
theorem dX7_pin_63 : decode cX7_pin 63 = .ok (.aload_n 0, 1) := by decide +kernel
theorem dX7_pin_64 : decode cX7_pin 64 = .ok (.getfield 9, 3) := by decide +kernel
theorem dX7_pin_67 : decode cX7_pin 67 = .ok (.iload_n 2, 1) := by decide +kernel
theorem dX7_pin_68 : decode cX7_pin 68 = .ok (.iconst 0, 1) := by decide +kernel
theorem dX7_pin_69 : decode cX7_pin 69 = .ok (.aload_n 0, 1) := by decide +kernel
theorem dX7_pin_70 : decode cX7_pin 70 = .ok (.getfield 9, 3) := by decide +kernel
theorem dX7_pin_73 : decode cX7_pin 73 = .ok (.iload_n 2, 1) := by decide +kernel
theorem dX7_pin_74 : decode cX7_pin 74 = .ok (.iaload, 1) := by decide +kernel
theorem dX7_pin_75 : decode cX7_pin 75 = .ok (.iconst 1, 1) := by decide +kernel
theorem dX7_pin_76 : decode cX7_pin 76 = .ok (.isub, 1) := by decide +kernel
theorem dX7_pin_77 : decode cX7_pin 77 = .ok (.invokestatic 96, 3) := by decide +kernel
theorem dX7_pin_80 : decode cX7_pin 80 = .ok (.iastore, 1) := by decide +kernel
theorem dX7_pin_81 : decode cX7_pin 81 = .ok (.return_, 1) := by decide +kernel
theorem dX7_placedAt_0 : decode cX7_placedAt 0 = .ok (.aload_n 0, 1) := by decide +kernel
theorem dX7_placedAt_1 : decode cX7_placedAt 1 = .ok (.getfield 24, 3) := by decide +kernel
theorem dX7_placedAt_4 : decode cX7_placedAt 4 = .ok (.iload_n 1, 1) := by decide +kernel
theorem dX7_placedAt_5 : decode cX7_placedAt 5 = .ok (.iconst 3, 1) := by decide +kernel
theorem dX7_placedAt_6 : decode cX7_placedAt 6 = .ok (.imul, 1) := by decide +kernel
theorem dX7_placedAt_7 : decode cX7_placedAt 7 = .ok (.iload_n 2, 1) := by decide +kernel
theorem dX7_placedAt_8 : decode cX7_placedAt 8 = .ok (.iadd, 1) := by decide +kernel
theorem dX7_placedAt_9 : decode cX7_placedAt 9 = .ok (.iaload, 1) := by decide +kernel
theorem dX7_placedAt_10 : decode cX7_placedAt 10 = .ok (.ireturn, 1) := by decide +kernel
theorem dX7_placeOf_0 : decode cX7_placeOf 0 = .ok (.iconst 0, 1) := by decide +kernel
theorem dX7_placeOf_1 : decode cX7_placeOf 1 = .ok (.istore_n 3, 1) := by decide +kernel
theorem dX7_placeOf_2 : decode cX7_placeOf 2 = .ok (.iload_n 3, 1) := by decide +kernel
theorem dX7_placeOf_3 : decode cX7_placeOf 3 = .ok (.iconst 3, 1) := by decide +kernel
theorem dX7_placeOf_4 : decode cX7_placeOf 4 = .ok (.if_icmp .ge 21, 3) := by decide +kernel
theorem dX7_placeOf_7 : decode cX7_placeOf 7 = .ok (.aload_n 0, 1) := by decide +kernel
theorem dX7_placeOf_8 : decode cX7_placeOf 8 = .ok (.iload_n 1, 1) := by decide +kernel
theorem dX7_placeOf_9 : decode cX7_placeOf 9 = .ok (.iload_n 3, 1) := by decide +kernel
theorem dX7_placeOf_10 : decode cX7_placeOf 10 = .ok (.invokevirtual 128, 3) := by decide +kernel
theorem dX7_placeOf_13 : decode cX7_placeOf 13 = .ok (.iload_n 2, 1) := by decide +kernel
theorem dX7_placeOf_14 : decode cX7_placeOf 14 = .ok (.if_icmp .ne 5, 3) := by decide +kernel
theorem dX7_placeOf_17 : decode cX7_placeOf 17 = .ok (.iload_n 3, 1) := by decide +kernel
theorem dX7_placeOf_18 : decode cX7_placeOf 18 = .ok (.ireturn, 1) := by decide +kernel
theorem dX7_placeOf_19 : decode cX7_placeOf 19 = .ok (.iinc 3 1, 3) := by decide +kernel
theorem dX7_placeOf_22 : decode cX7_placeOf 22 = .ok (.goto (-20), 3) := by decide +kernel
theorem dX7_placeOf_25 : decode cX7_placeOf 25 = .ok (.iconst 3, 1) := by decide +kernel
theorem dX7_placeOf_26 : decode cX7_placeOf 26 = .ok (.ireturn, 1) := by decide +kernel
theorem dX7_bearsOut_0 : decode cX7_bearsOut 0 = .ok (.iconst 0, 1) := by decide +kernel
theorem dX7_bearsOut_1 : decode cX7_bearsOut 1 = .ok (.istore_n 3, 1) := by decide +kernel
theorem dX7_bearsOut_2 : decode cX7_bearsOut 2 = .ok (.iload_n 3, 1) := by decide +kernel
theorem dX7_bearsOut_3 : decode cX7_bearsOut 3 = .ok (.aload_n 1, 1) := by decide +kernel
theorem dX7_bearsOut_4 : decode cX7_bearsOut 4 = .ok (.getfield 69, 3) := by decide +kernel
theorem dX7_bearsOut_7 : decode cX7_bearsOut 7 = .ok (.if_icmp .ge 46, 3) := by decide +kernel
theorem dX7_bearsOut_10 : decode cX7_bearsOut 10 = .ok (.aload_n 1, 1) := by decide +kernel
theorem dX7_bearsOut_11 : decode cX7_bearsOut 11 = .ok (.iload_n 3, 1) := by decide +kernel
theorem dX7_bearsOut_12 : decode cX7_bearsOut 12 = .ok (.iconst 1, 1) := by decide +kernel
theorem dX7_bearsOut_13 : decode cX7_bearsOut 13 = .ok (.invokevirtual 77, 3) := by decide +kernel
theorem dX7_bearsOut_16 : decode cX7_bearsOut 16 = .ok (.istore 4, 2) := by decide +kernel
theorem dX7_bearsOut_18 : decode cX7_bearsOut 18 = .ok (.iload 4, 2) := by decide +kernel
theorem dX7_bearsOut_20 : decode cX7_bearsOut 20 = .ok (.iload_n 2, 1) := by decide +kernel
theorem dX7_bearsOut_21 : decode cX7_bearsOut 21 = .ok (.if_icmp .ge 24, 3) := by decide +kernel
theorem dX7_bearsOut_24 : decode cX7_bearsOut 24 = .ok (.aload_n 0, 1) := by decide +kernel
theorem dX7_bearsOut_25 : decode cX7_bearsOut 25 = .ok (.aload_n 1, 1) := by decide +kernel
theorem dX7_bearsOut_26 : decode cX7_bearsOut 26 = .ok (.iload_n 3, 1) := by decide +kernel
theorem dX7_bearsOut_27 : decode cX7_bearsOut 27 = .ok (.iconst 0, 1) := by decide +kernel
theorem dX7_bearsOut_28 : decode cX7_bearsOut 28 = .ok (.invokevirtual 77, 3) := by decide +kernel
theorem dX7_bearsOut_31 : decode cX7_bearsOut 31 = .ok (.iload 4, 2) := by decide +kernel
theorem dX7_bearsOut_33 : decode cX7_bearsOut 33 = .ok (.invokevirtual 131, 3) := by decide +kernel
theorem dX7_bearsOut_36 : decode cX7_bearsOut 36 = .ok (.aload_n 1, 1) := by decide +kernel
theorem dX7_bearsOut_37 : decode cX7_bearsOut 37 = .ok (.iload_n 3, 1) := by decide +kernel
theorem dX7_bearsOut_38 : decode cX7_bearsOut 38 = .ok (.iconst 2, 1) := by decide +kernel
theorem dX7_bearsOut_39 : decode cX7_bearsOut 39 = .ok (.invokevirtual 77, 3) := by decide +kernel
theorem dX7_bearsOut_42 : decode cX7_bearsOut 42 = .ok (.if_icmp .eq 5, 3) := by decide +kernel
theorem dX7_bearsOut_45 : decode cX7_bearsOut 45 = .ok (.iconst 0, 1) := by decide +kernel
theorem dX7_bearsOut_46 : decode cX7_bearsOut 46 = .ok (.ireturn, 1) := by decide +kernel
theorem dX7_bearsOut_47 : decode cX7_bearsOut 47 = .ok (.iinc 3 1, 3) := by decide +kernel
theorem dX7_bearsOut_50 : decode cX7_bearsOut 50 = .ok (.goto (-48), 3) := by decide +kernel
theorem dX7_bearsOut_53 : decode cX7_bearsOut 53 = .ok (.iconst 1, 1) := by decide +kernel
theorem dX7_bearsOut_54 : decode cX7_bearsOut 54 = .ok (.ireturn, 1) := by decide +kernel
theorem dX7_tellOf_0 : decode cX7_tellOf 0 = .ok (.iload_n 2, 1) := by decide +kernel
theorem dX7_tellOf_1 : decode cX7_tellOf 1 = .ok (.tableswitch 61 0 3 #[31, 38, 45, 52], 31) := by decide +kernel
theorem dX7_tellOf_32 : decode cX7_tellOf 32 = .ok (.aload_n 0, 1) := by decide +kernel
theorem dX7_tellOf_33 : decode cX7_tellOf 33 = .ok (.getfield 9, 3) := by decide +kernel
theorem dX7_tellOf_36 : decode cX7_tellOf 36 = .ok (.iload_n 1, 1) := by decide +kernel
theorem dX7_tellOf_37 : decode cX7_tellOf 37 = .ok (.iaload, 1) := by decide +kernel
theorem dX7_tellOf_38 : decode cX7_tellOf 38 = .ok (.ireturn, 1) := by decide +kernel
theorem dX7_tellOf_39 : decode cX7_tellOf 39 = .ok (.aload_n 0, 1) := by decide +kernel
theorem dX7_tellOf_40 : decode cX7_tellOf 40 = .ok (.getfield 15, 3) := by decide +kernel
theorem dX7_tellOf_43 : decode cX7_tellOf 43 = .ok (.iload_n 1, 1) := by decide +kernel
theorem dX7_tellOf_44 : decode cX7_tellOf 44 = .ok (.iaload, 1) := by decide +kernel
theorem dX7_tellOf_45 : decode cX7_tellOf 45 = .ok (.ireturn, 1) := by decide +kernel
theorem dX7_tellOf_46 : decode cX7_tellOf 46 = .ok (.aload_n 0, 1) := by decide +kernel
theorem dX7_tellOf_47 : decode cX7_tellOf 47 = .ok (.getfield 18, 3) := by decide +kernel
theorem dX7_tellOf_50 : decode cX7_tellOf 50 = .ok (.iload_n 1, 1) := by decide +kernel
theorem dX7_tellOf_51 : decode cX7_tellOf 51 = .ok (.iaload, 1) := by decide +kernel
theorem dX7_tellOf_52 : decode cX7_tellOf 52 = .ok (.ireturn, 1) := by decide +kernel
theorem dX7_tellOf_53 : decode cX7_tellOf 53 = .ok (.aload_n 0, 1) := by decide +kernel
theorem dX7_tellOf_54 : decode cX7_tellOf 54 = .ok (.getfield 27, 3) := by decide +kernel
theorem dX7_tellOf_57 : decode cX7_tellOf 57 = .ok (.iload_n 1, 1) := by decide +kernel
theorem dX7_tellOf_58 : decode cX7_tellOf 58 = .ok (.ishr, 1) := by decide +kernel
theorem dX7_tellOf_59 : decode cX7_tellOf 59 = .ok (.iconst 1, 1) := by decide +kernel
theorem dX7_tellOf_60 : decode cX7_tellOf 60 = .ok (.iand, 1) := by decide +kernel
theorem dX7_tellOf_61 : decode cX7_tellOf 61 = .ok (.ireturn, 1) := by decide +kernel
theorem dX7_tellOf_62 : decode cX7_tellOf 62 = .ok (.aload_n 0, 1) := by decide +kernel
theorem dX7_tellOf_63 : decode cX7_tellOf 63 = .ok (.getfield 21, 3) := by decide +kernel
theorem dX7_tellOf_66 : decode cX7_tellOf 66 = .ok (.iload_n 1, 1) := by decide +kernel
theorem dX7_tellOf_67 : decode cX7_tellOf 67 = .ok (.iaload, 1) := by decide +kernel
theorem dX7_tellOf_68 : decode cX7_tellOf 68 = .ok (.ireturn, 1) := by decide +kernel
theorem dX7_coloursOf_0 : decode cX7_coloursOf 0 = .ok (.iconst 0, 1) := by decide +kernel
theorem dX7_coloursOf_1 : decode cX7_coloursOf 1 = .ok (.istore_n 3, 1) := by decide +kernel
theorem dX7_coloursOf_2 : decode cX7_coloursOf 2 = .ok (.iconst 0, 1) := by decide +kernel
theorem dX7_coloursOf_3 : decode cX7_coloursOf 3 = .ok (.istore 4, 2) := by decide +kernel
theorem dX7_coloursOf_5 : decode cX7_coloursOf 5 = .ok (.iload 4, 2) := by decide +kernel
theorem dX7_coloursOf_7 : decode cX7_coloursOf 7 = .ok (.aload_n 1, 1) := by decide +kernel
theorem dX7_coloursOf_8 : decode cX7_coloursOf 8 = .ok (.getfield 99, 3) := by decide +kernel
theorem dX7_coloursOf_11 : decode cX7_coloursOf 11 = .ok (.if_icmp .ge 30, 3) := by decide +kernel
theorem dX7_coloursOf_14 : decode cX7_coloursOf 14 = .ok (.aload_n 1, 1) := by decide +kernel
theorem dX7_coloursOf_15 : decode cX7_coloursOf 15 = .ok (.getfield 115, 3) := by decide +kernel
theorem dX7_coloursOf_18 : decode cX7_coloursOf 18 = .ok (.iload 4, 2) := by decide +kernel
theorem dX7_coloursOf_20 : decode cX7_coloursOf 20 = .ok (.iaload, 1) := by decide +kernel
theorem dX7_coloursOf_21 : decode cX7_coloursOf 21 = .ok (.iload_n 2, 1) := by decide +kernel
theorem dX7_coloursOf_22 : decode cX7_coloursOf 22 = .ok (.if_icmp .ne 13, 3) := by decide +kernel
theorem dX7_coloursOf_25 : decode cX7_coloursOf 25 = .ok (.iload_n 3, 1) := by decide +kernel
theorem dX7_coloursOf_26 : decode cX7_coloursOf 26 = .ok (.aload_n 0, 1) := by decide +kernel
theorem dX7_coloursOf_27 : decode cX7_coloursOf 27 = .ok (.getfield 15, 3) := by decide +kernel
theorem dX7_coloursOf_30 : decode cX7_coloursOf 30 = .ok (.iload 4, 2) := by decide +kernel
theorem dX7_coloursOf_32 : decode cX7_coloursOf 32 = .ok (.iaload, 1) := by decide +kernel
theorem dX7_coloursOf_33 : decode cX7_coloursOf 33 = .ok (.iadd, 1) := by decide +kernel
theorem dX7_coloursOf_34 : decode cX7_coloursOf 34 = .ok (.istore_n 3, 1) := by decide +kernel
theorem dX7_coloursOf_35 : decode cX7_coloursOf 35 = .ok (.iinc 4 1, 3) := by decide +kernel
theorem dX7_coloursOf_38 : decode cX7_coloursOf 38 = .ok (.goto (-33), 3) := by decide +kernel
theorem dX7_coloursOf_41 : decode cX7_coloursOf 41 = .ok (.iload_n 3, 1) := by decide +kernel
theorem dX7_coloursOf_42 : decode cX7_coloursOf 42 = .ok (.ireturn, 1) := by decide +kernel
theorem dX7_mostColoured_0 : decode cX7_mostColoured 0 = .ok (.iconst (-1), 1) := by decide +kernel
theorem dX7_mostColoured_1 : decode cX7_mostColoured 1 = .ok (.istore_n 2, 1) := by decide +kernel
theorem dX7_mostColoured_2 : decode cX7_mostColoured 2 = .ok (.iconst 0, 1) := by decide +kernel
theorem dX7_mostColoured_3 : decode cX7_mostColoured 3 = .ok (.istore_n 3, 1) := by decide +kernel
theorem dX7_mostColoured_4 : decode cX7_mostColoured 4 = .ok (.iload_n 3, 1) := by decide +kernel
theorem dX7_mostColoured_5 : decode cX7_mostColoured 5 = .ok (.iload_n 1, 1) := by decide +kernel
theorem dX7_mostColoured_6 : decode cX7_mostColoured 6 = .ok (.if_icmp .ge 31, 3) := by decide +kernel
theorem dX7_mostColoured_9 : decode cX7_mostColoured 9 = .ok (.iload_n 2, 1) := by decide +kernel
theorem dX7_mostColoured_10 : decode cX7_mostColoured 10 = .ok (.iconst (-1), 1) := by decide +kernel
theorem dX7_mostColoured_11 : decode cX7_mostColoured 11 = .ok (.if_icmp .eq 18, 3) := by decide +kernel
theorem dX7_mostColoured_14 : decode cX7_mostColoured 14 = .ok (.aload_n 0, 1) := by decide +kernel
theorem dX7_mostColoured_15 : decode cX7_mostColoured 15 = .ok (.getfield 15, 3) := by decide +kernel
theorem dX7_mostColoured_18 : decode cX7_mostColoured 18 = .ok (.iload_n 3, 1) := by decide +kernel
theorem dX7_mostColoured_19 : decode cX7_mostColoured 19 = .ok (.iaload, 1) := by decide +kernel
theorem dX7_mostColoured_20 : decode cX7_mostColoured 20 = .ok (.aload_n 0, 1) := by decide +kernel
theorem dX7_mostColoured_21 : decode cX7_mostColoured 21 = .ok (.getfield 15, 3) := by decide +kernel
theorem dX7_mostColoured_24 : decode cX7_mostColoured 24 = .ok (.iload_n 2, 1) := by decide +kernel
theorem dX7_mostColoured_25 : decode cX7_mostColoured 25 = .ok (.iaload, 1) := by decide +kernel
theorem dX7_mostColoured_26 : decode cX7_mostColoured 26 = .ok (.if_icmp .le 5, 3) := by decide +kernel
theorem dX7_mostColoured_29 : decode cX7_mostColoured 29 = .ok (.iload_n 3, 1) := by decide +kernel
theorem dX7_mostColoured_30 : decode cX7_mostColoured 30 = .ok (.istore_n 2, 1) := by decide +kernel
theorem dX7_mostColoured_31 : decode cX7_mostColoured 31 = .ok (.iinc 3 1, 3) := by decide +kernel
theorem dX7_mostColoured_34 : decode cX7_mostColoured 34 = .ok (.goto (-30), 3) := by decide +kernel
theorem dX7_mostColoured_37 : decode cX7_mostColoured 37 = .ok (.iload_n 2, 1) := by decide +kernel
theorem dX7_mostColoured_38 : decode cX7_mostColoured 38 = .ok (.ireturn, 1) := by decide +kernel
theorem dX7_neverPlaced_0 : decode cX7_neverPlaced 0 = .ok (.iconst 1, 1) := by decide +kernel
theorem dX7_neverPlaced_1 : decode cX7_neverPlaced 1 = .ok (.iload_n 1, 1) := by decide +kernel
theorem dX7_neverPlaced_2 : decode cX7_neverPlaced 2 = .ok (.ishl, 1) := by decide +kernel
theorem dX7_neverPlaced_3 : decode cX7_neverPlaced 3 = .ok (.iconst 1, 1) := by decide +kernel
theorem dX7_neverPlaced_4 : decode cX7_neverPlaced 4 = .ok (.isub, 1) := by decide +kernel
theorem dX7_neverPlaced_5 : decode cX7_neverPlaced 5 = .ok (.istore_n 2, 1) := by decide +kernel
theorem dX7_neverPlaced_6 : decode cX7_neverPlaced 6 = .ok (.iconst 0, 1) := by decide +kernel
theorem dX7_neverPlaced_7 : decode cX7_neverPlaced 7 = .ok (.istore_n 3, 1) := by decide +kernel
theorem dX7_neverPlaced_8 : decode cX7_neverPlaced 8 = .ok (.iload_n 3, 1) := by decide +kernel
theorem dX7_neverPlaced_9 : decode cX7_neverPlaced 9 = .ok (.aload_n 0, 1) := by decide +kernel
theorem dX7_neverPlaced_10 : decode cX7_neverPlaced 10 = .ok (.getfield 24, 3) := by decide +kernel
theorem dX7_neverPlaced_13 : decode cX7_neverPlaced 13 = .ok (.arraylength, 1) := by decide +kernel
theorem dX7_neverPlaced_14 : decode cX7_neverPlaced 14 = .ok (.if_icmp .ge 32, 3) := by decide +kernel
theorem dX7_neverPlaced_17 : decode cX7_neverPlaced 17 = .ok (.aload_n 0, 1) := by decide +kernel
theorem dX7_neverPlaced_18 : decode cX7_neverPlaced 18 = .ok (.getfield 24, 3) := by decide +kernel
theorem dX7_neverPlaced_21 : decode cX7_neverPlaced 21 = .ok (.iload_n 3, 1) := by decide +kernel
theorem dX7_neverPlaced_22 : decode cX7_neverPlaced 22 = .ok (.iaload, 1) := by decide +kernel
theorem dX7_neverPlaced_23 : decode cX7_neverPlaced 23 = .ok (.iconst (-1), 1) := by decide +kernel
theorem dX7_neverPlaced_24 : decode cX7_neverPlaced 24 = .ok (.if_icmp .eq 16, 3) := by decide +kernel
theorem dX7_neverPlaced_27 : decode cX7_neverPlaced 27 = .ok (.iload_n 2, 1) := by decide +kernel
theorem dX7_neverPlaced_28 : decode cX7_neverPlaced 28 = .ok (.iconst 1, 1) := by decide +kernel
theorem dX7_neverPlaced_29 : decode cX7_neverPlaced 29 = .ok (.aload_n 0, 1) := by decide +kernel
theorem dX7_neverPlaced_30 : decode cX7_neverPlaced 30 = .ok (.getfield 24, 3) := by decide +kernel
theorem dX7_neverPlaced_33 : decode cX7_neverPlaced 33 = .ok (.iload_n 3, 1) := by decide +kernel
theorem dX7_neverPlaced_34 : decode cX7_neverPlaced 34 = .ok (.iaload, 1) := by decide +kernel
theorem dX7_neverPlaced_35 : decode cX7_neverPlaced 35 = .ok (.ishl, 1) := by decide +kernel
theorem dX7_neverPlaced_36 : decode cX7_neverPlaced 36 = .ok (.iconst (-1), 1) := by decide +kernel
theorem dX7_neverPlaced_37 : decode cX7_neverPlaced 37 = .ok (.ixor, 1) := by decide +kernel
theorem dX7_neverPlaced_38 : decode cX7_neverPlaced 38 = .ok (.iand, 1) := by decide +kernel
theorem dX7_neverPlaced_39 : decode cX7_neverPlaced 39 = .ok (.istore_n 2, 1) := by decide +kernel
theorem dX7_neverPlaced_40 : decode cX7_neverPlaced 40 = .ok (.iinc 3 1, 3) := by decide +kernel
theorem dX7_neverPlaced_43 : decode cX7_neverPlaced 43 = .ok (.goto (-35), 3) := by decide +kernel
theorem dX7_neverPlaced_46 : decode cX7_neverPlaced 46 = .ok (.iload_n 2, 1) := by decide +kernel
theorem dX7_neverPlaced_47 : decode cX7_neverPlaced 47 = .ok (.ireturn, 1) := by decide +kernel
theorem dX8_init_0 : decode cX8_init 0 = .ok (.aload_n 0, 1) := by decide +kernel
theorem dX8_init_1 : decode cX8_init 1 = .ok (.invokespecial 1, 3) := by decide +kernel
theorem dX8_init_4 : decode cX8_init 4 = .ok (.aload_n 0, 1) := by decide +kernel
theorem dX8_init_5 : decode cX8_init 5 = .ok (.new 7, 3) := by decide +kernel
theorem dX8_init_8 : decode cX8_init 8 = .ok (.dup, 1) := by decide +kernel
theorem dX8_init_9 : decode cX8_init 9 = .ok (.bipush 10, 2) := by decide +kernel
theorem dX8_init_11 : decode cX8_init 11 = .ok (.iconst 0, 1) := by decide +kernel
theorem dX8_init_12 : decode cX8_init 12 = .ok (.invokespecial 11, 3) := by decide +kernel
theorem dX8_init_15 : decode cX8_init 15 = .ok (.putfield 14, 3) := by decide +kernel
theorem dX8_init_18 : decode cX8_init 18 = .ok (.aload_n 0, 1) := by decide +kernel
theorem dX8_init_19 : decode cX8_init 19 = .ok (.new 7, 3) := by decide +kernel
theorem dX8_init_22 : decode cX8_init 22 = .ok (.dup, 1) := by decide +kernel
theorem dX8_init_23 : decode cX8_init 23 = .ok (.iconst 4, 1) := by decide +kernel
theorem dX8_init_24 : decode cX8_init 24 = .ok (.iconst 1, 1) := by decide +kernel
theorem dX8_init_25 : decode cX8_init 25 = .ok (.invokespecial 11, 3) := by decide +kernel
theorem dX8_init_28 : decode cX8_init 28 = .ok (.putfield 18, 3) := by decide +kernel
theorem dX8_init_31 : decode cX8_init 31 = .ok (.aload_n 0, 1) := by decide +kernel
theorem dX8_init_32 : decode cX8_init 32 = .ok (.new 21, 3) := by decide +kernel
theorem dX8_init_35 : decode cX8_init 35 = .ok (.dup, 1) := by decide +kernel
theorem dX8_init_36 : decode cX8_init 36 = .ok (.invokespecial 23, 3) := by decide +kernel
theorem dX8_init_39 : decode cX8_init 39 = .ok (.putfield 24, 3) := by decide +kernel
theorem dX8_init_42 : decode cX8_init 42 = .ok (.aload_n 0, 1) := by decide +kernel
theorem dX8_init_43 : decode cX8_init 43 = .ok (.new 28, 3) := by decide +kernel
theorem dX8_init_46 : decode cX8_init 46 = .ok (.dup, 1) := by decide +kernel
theorem dX8_init_47 : decode cX8_init 47 = .ok (.invokespecial 30, 3) := by decide +kernel
theorem dX8_init_50 : decode cX8_init 50 = .ok (.putfield 31, 3) := by decide +kernel
theorem dX8_init_53 : decode cX8_init 53 = .ok (.aload_n 0, 1) := by decide +kernel
theorem dX8_init_54 : decode cX8_init 54 = .ok (.new 28, 3) := by decide +kernel
theorem dX8_init_57 : decode cX8_init 57 = .ok (.dup, 1) := by decide +kernel
theorem dX8_init_58 : decode cX8_init 58 = .ok (.invokespecial 30, 3) := by decide +kernel
theorem dX8_init_61 : decode cX8_init 61 = .ok (.putfield 35, 3) := by decide +kernel
theorem dX8_init_64 : decode cX8_init 64 = .ok (.aload_n 0, 1) := by decide +kernel
theorem dX8_init_65 : decode cX8_init 65 = .ok (.iconst 4, 1) := by decide +kernel
theorem dX8_init_66 : decode cX8_init 66 = .ok (.anewarray 38, 3) := by decide +kernel
theorem dX8_init_69 : decode cX8_init 69 = .ok (.putfield 40, 3) := by decide +kernel
theorem dX8_init_72 : decode cX8_init 72 = .ok (.aload_n 0, 1) := by decide +kernel
theorem dX8_init_73 : decode cX8_init 73 = .ok (.iconst 0, 1) := by decide +kernel
theorem dX8_init_74 : decode cX8_init 74 = .ok (.putfield 44, 3) := by decide +kernel
theorem dX8_init_77 : decode cX8_init 77 = .ok (.aload_n 0, 1) := by decide +kernel
theorem dX8_init_78 : decode cX8_init 78 = .ok (.new 48, 3) := by decide +kernel
theorem dX8_init_81 : decode cX8_init 81 = .ok (.dup, 1) := by decide +kernel
theorem dX8_init_82 : decode cX8_init 82 = .ok (.aload_n 0, 1) := by decide +kernel
theorem dX8_init_83 : decode cX8_init 83 = .ok (.getfield 31, 3) := by decide +kernel
theorem dX8_init_86 : decode cX8_init 86 = .ok (.invokespecial 50, 3) := by decide +kernel
theorem dX8_init_89 : decode cX8_init 89 = .ok (.putfield 53, 3) := by decide +kernel
theorem dX8_init_92 : decode cX8_init 92 = .ok (.aload_n 0, 1) := by decide +kernel
theorem dX8_init_93 : decode cX8_init 93 = .ok (.new 57, 3) := by decide +kernel
theorem dX8_init_96 : decode cX8_init 96 = .ok (.dup, 1) := by decide +kernel
theorem dX8_init_97 : decode cX8_init 97 = .ok (.invokespecial 59, 3) := by decide +kernel
theorem dX8_init_100 : decode cX8_init 100 = .ok (.putfield 60, 3) := by decide +kernel
theorem dX8_init_103 : decode cX8_init 103 = .ok (.aload_n 0, 1) := by decide +kernel
theorem dX8_init_104 : decode cX8_init 104 = .ok (.new 64, 3) := by decide +kernel
theorem dX8_init_107 : decode cX8_init 107 = .ok (.dup, 1) := by decide +kernel
theorem dX8_init_108 : decode cX8_init 108 = .ok (.invokespecial 66, 3) := by decide +kernel
theorem dX8_init_111 : decode cX8_init 111 = .ok (.putfield 67, 3) := by decide +kernel
theorem dX8_init_114 : decode cX8_init 114 = .ok (.aload_n 0, 1) := by decide +kernel
theorem dX8_init_115 : decode cX8_init 115 = .ok (.bipush 10, 2) := by decide +kernel
theorem dX8_init_117 : decode cX8_init 117 = .ok (.newarray .long, 2) := by decide +kernel
theorem dX8_init_119 : decode cX8_init 119 = .ok (.putfield 71, 3) := by decide +kernel
theorem dX8_init_122 : decode cX8_init 122 = .ok (.aload_n 0, 1) := by decide +kernel
theorem dX8_init_123 : decode cX8_init 123 = .ok (.bipush 48, 2) := by decide +kernel
theorem dX8_init_125 : decode cX8_init 125 = .ok (.newarray .int, 2) := by decide +kernel
theorem dX8_init_127 : decode cX8_init 127 = .ok (.putfield 75, 3) := by decide +kernel
theorem dX8_init_130 : decode cX8_init 130 = .ok (.iconst 0, 1) := by decide +kernel
theorem dX8_init_131 : decode cX8_init 131 = .ok (.istore_n 1, 1) := by decide +kernel
theorem dX8_init_132 : decode cX8_init 132 = .ok (.iload_n 1, 1) := by decide +kernel
theorem dX8_init_133 : decode cX8_init 133 = .ok (.iconst 4, 1) := by decide +kernel
theorem dX8_init_134 : decode cX8_init 134 = .ok (.if_icmp .ge 22, 3) := by decide +kernel
theorem dX8_init_137 : decode cX8_init 137 = .ok (.aload_n 0, 1) := by decide +kernel
theorem dX8_init_138 : decode cX8_init 138 = .ok (.getfield 40, 3) := by decide +kernel
theorem dX8_init_141 : decode cX8_init 141 = .ok (.iload_n 1, 1) := by decide +kernel
theorem dX8_init_142 : decode cX8_init 142 = .ok (.new 38, 3) := by decide +kernel
theorem dX8_init_145 : decode cX8_init 145 = .ok (.dup, 1) := by decide +kernel
theorem dX8_init_146 : decode cX8_init 146 = .ok (.invokespecial 79, 3) := by decide +kernel
theorem dX8_init_149 : decode cX8_init 149 = .ok (.aastore, 1) := by decide +kernel
theorem dX8_init_150 : decode cX8_init 150 = .ok (.iinc 1 1, 3) := by decide +kernel
theorem dX8_init_153 : decode cX8_init 153 = .ok (.goto (-21), 3) := by decide +kernel
theorem dX8_init_156 : decode cX8_init 156 = .ok (.return_, 1) := by decide +kernel
theorem dX8_type_0 : decode cX8_type 0 = .ok (.aload_n 0, 1) := by decide +kernel
theorem dX8_type_1 : decode cX8_type 1 = .ok (.iload_n 1, 1) := by decide +kernel
theorem dX8_type_2 : decode cX8_type 2 = .ok (.invokevirtual 80, 3) := by decide +kernel
theorem dX8_type_5 : decode cX8_type 5 = .ok (.astore_n 3, 1) := by decide +kernel
theorem dX8_type_6 : decode cX8_type 6 = .ok (.aload_n 3, 1) := by decide +kernel
theorem dX8_type_7 : decode cX8_type 7 = .ok (.ifnull 14, 3) := by decide +kernel
theorem dX8_type_10 : decode cX8_type 10 = .ok (.iload_n 2, 1) := by decide +kernel
theorem dX8_type_11 : decode cX8_type 11 = .ok (.ifCond .lt 10, 3) := by decide +kernel
theorem dX8_type_14 : decode cX8_type 14 = .ok (.iload_n 2, 1) := by decide +kernel
theorem dX8_type_15 : decode cX8_type 15 = .ok (.sipush 255, 3) := by decide +kernel
theorem dX8_type_18 : decode cX8_type 18 = .ok (.if_icmp .le 6, 3) := by decide +kernel
theorem dX8_type_21 : decode cX8_type 21 = .ok (.bipush (-2), 2) := by decide +kernel
theorem dX8_type_23 : decode cX8_type 23 = .ok (.ireturn, 1) := by decide +kernel
theorem dX8_type_24 : decode cX8_type 24 = .ok (.aload_n 3, 1) := by decide +kernel
theorem dX8_type_25 : decode cX8_type 25 = .ok (.iload_n 2, 1) := by decide +kernel
theorem dX8_type_26 : decode cX8_type 26 = .ok (.invokevirtual 84, 3) := by decide +kernel
theorem dX8_type_29 : decode cX8_type 29 = .ok (.ifCond .eq 10, 3) := by decide +kernel
theorem dX8_type_32 : decode cX8_type 32 = .ok (.aload_n 3, 1) := by decide +kernel
theorem dX8_type_33 : decode cX8_type 33 = .ok (.getfield 90, 3) := by decide +kernel
theorem dX8_type_36 : decode cX8_type 36 = .ok (.goto 5, 3) := by decide +kernel
theorem dX8_type_39 : decode cX8_type 39 = .ok (.bipush (-4), 2) := by decide +kernel
theorem dX8_type_41 : decode cX8_type 41 = .ok (.ireturn, 1) := by decide +kernel
theorem dX8_wipe_0 : decode cX8_wipe 0 = .ok (.aload_n 0, 1) := by decide +kernel
theorem dX8_wipe_1 : decode cX8_wipe 1 = .ok (.iload_n 1, 1) := by decide +kernel
theorem dX8_wipe_2 : decode cX8_wipe 2 = .ok (.invokevirtual 80, 3) := by decide +kernel
theorem dX8_wipe_5 : decode cX8_wipe 5 = .ok (.astore_n 2, 1) := by decide +kernel
theorem dX8_wipe_6 : decode cX8_wipe 6 = .ok (.aload_n 2, 1) := by decide +kernel
theorem dX8_wipe_7 : decode cX8_wipe 7 = .ok (.ifnonnull 6, 3) := by decide +kernel
theorem dX8_wipe_10 : decode cX8_wipe 10 = .ok (.bipush (-2), 2) := by decide +kernel
theorem dX8_wipe_12 : decode cX8_wipe 12 = .ok (.ireturn, 1) := by decide +kernel
theorem dX8_wipe_13 : decode cX8_wipe 13 = .ok (.aload_n 2, 1) := by decide +kernel
theorem dX8_wipe_14 : decode cX8_wipe 14 = .ok (.getfield 90, 3) := by decide +kernel
theorem dX8_wipe_17 : decode cX8_wipe 17 = .ok (.istore_n 3, 1) := by decide +kernel
theorem dX8_wipe_18 : decode cX8_wipe 18 = .ok (.aload_n 2, 1) := by decide +kernel
theorem dX8_wipe_19 : decode cX8_wipe 19 = .ok (.iconst 0, 1) := by decide +kernel
theorem dX8_wipe_20 : decode cX8_wipe 20 = .ok (.invokevirtual 93, 3) := by decide +kernel
theorem dX8_wipe_23 : decode cX8_wipe 23 = .ok (.iload_n 3, 1) := by decide +kernel
theorem dX8_wipe_24 : decode cX8_wipe 24 = .ok (.ireturn, 1) := by decide +kernel
theorem dX8_undo_0 : decode cX8_undo 0 = .ok (.aload_n 0, 1) := by decide +kernel
theorem dX8_undo_1 : decode cX8_undo 1 = .ok (.iload_n 1, 1) := by decide +kernel
theorem dX8_undo_2 : decode cX8_undo 2 = .ok (.invokevirtual 80, 3) := by decide +kernel
theorem dX8_undo_5 : decode cX8_undo 5 = .ok (.astore_n 2, 1) := by decide +kernel
theorem dX8_undo_6 : decode cX8_undo 6 = .ok (.aload_n 2, 1) := by decide +kernel
theorem dX8_undo_7 : decode cX8_undo 7 = .ok (.ifnonnull 6, 3) := by decide +kernel
theorem dX8_undo_10 : decode cX8_undo 10 = .ok (.bipush (-2), 2) := by decide +kernel
theorem dX8_undo_12 : decode cX8_undo 12 = .ok (.ireturn, 1) := by decide +kernel
theorem dX8_undo_13 : decode cX8_undo 13 = .ok (.aload_n 2, 1) := by decide +kernel
theorem dX8_undo_14 : decode cX8_undo 14 = .ok (.getfield 90, 3) := by decide +kernel
theorem dX8_undo_17 : decode cX8_undo 17 = .ok (.ifCond .ne 6, 3) := by decide +kernel
theorem dX8_undo_20 : decode cX8_undo 20 = .ok (.bipush (-3), 2) := by decide +kernel
theorem dX8_undo_22 : decode cX8_undo 22 = .ok (.ireturn, 1) := by decide +kernel
theorem dX8_undo_23 : decode cX8_undo 23 = .ok (.aload_n 2, 1) := by decide +kernel
theorem dX8_undo_24 : decode cX8_undo 24 = .ok (.aload_n 2, 1) := by decide +kernel
theorem dX8_undo_25 : decode cX8_undo 25 = .ok (.getfield 90, 3) := by decide +kernel
theorem dX8_undo_28 : decode cX8_undo 28 = .ok (.iconst 1, 1) := by decide +kernel
theorem dX8_undo_29 : decode cX8_undo 29 = .ok (.isub, 1) := by decide +kernel
theorem dX8_undo_30 : decode cX8_undo 30 = .ok (.invokevirtual 93, 3) := by decide +kernel
theorem dX8_undo_33 : decode cX8_undo 33 = .ok (.aload_n 2, 1) := by decide +kernel
theorem dX8_undo_34 : decode cX8_undo 34 = .ok (.getfield 90, 3) := by decide +kernel
theorem dX8_undo_37 : decode cX8_undo 37 = .ok (.ireturn, 1) := by decide +kernel
theorem dX8_fault_0 : decode cX8_fault 0 = .ok (.aload_n 0, 1) := by decide +kernel
theorem dX8_fault_1 : decode cX8_fault 1 = .ok (.iload_n 1, 1) := by decide +kernel
theorem dX8_fault_2 : decode cX8_fault 2 = .ok (.invokevirtual 80, 3) := by decide +kernel
theorem dX8_fault_5 : decode cX8_fault 5 = .ok (.astore_n 2, 1) := by decide +kernel
theorem dX8_fault_6 : decode cX8_fault 6 = .ok (.aload_n 2, 1) := by decide +kernel
theorem dX8_fault_7 : decode cX8_fault 7 = .ok (.ifnonnull 8, 3) := by decide +kernel
theorem dX8_fault_10 : decode cX8_fault 10 = .ok (.bipush (-2), 2) := by decide +kernel
theorem dX8_fault_12 : decode cX8_fault 12 = .ok (.goto 7, 3) := by decide +kernel
theorem dX8_fault_15 : decode cX8_fault 15 = .ok (.aload_n 2, 1) := by decide +kernel
theorem dX8_fault_16 : decode cX8_fault 16 = .ok (.getfield 97, 3) := by decide +kernel
theorem dX8_fault_19 : decode cX8_fault 19 = .ok (.ireturn, 1) := by decide +kernel
theorem dX8_thing_0 : decode cX8_thing 0 = .ok (.iload_n 1, 1) := by decide +kernel
theorem dX8_thing_1 : decode cX8_thing 1 = .ok (.aload_n 0, 1) := by decide +kernel
theorem dX8_thing_2 : decode cX8_thing 2 = .ok (.getfield 14, 3) := by decide +kernel
theorem dX8_thing_5 : decode cX8_thing 5 = .ok (.invokevirtual 100, 3) := by decide +kernel
theorem dX8_thing_8 : decode cX8_thing 8 = .ok (.invokestatic 104, 3) := by decide +kernel
theorem dX8_thing_11 : decode cX8_thing 11 = .ok (.ifCond .eq 23, 3) := by decide +kernel
theorem dX8_thing_14 : decode cX8_thing 14 = .ok (.iload_n 2, 1) := by decide +kernel
theorem dX8_thing_15 : decode cX8_thing 15 = .ok (.iconst 3, 1) := by decide +kernel
theorem dX8_thing_16 : decode cX8_thing 16 = .ok (.invokestatic 104, 3) := by decide +kernel
theorem dX8_thing_19 : decode cX8_thing 19 = .ok (.ifCond .eq 15, 3) := by decide +kernel
theorem dX8_thing_22 : decode cX8_thing 22 = .ok (.aload_n 0, 1) := by decide +kernel
theorem dX8_thing_23 : decode cX8_thing 23 = .ok (.getfield 14, 3) := by decide +kernel
theorem dX8_thing_26 : decode cX8_thing 26 = .ok (.iload_n 1, 1) := by decide +kernel
theorem dX8_thing_27 : decode cX8_thing 27 = .ok (.iload_n 2, 1) := by decide +kernel
theorem dX8_thing_28 : decode cX8_thing 28 = .ok (.invokevirtual 108, 3) := by decide +kernel
theorem dX8_thing_31 : decode cX8_thing 31 = .ok (.goto 5, 3) := by decide +kernel
theorem dX8_thing_34 : decode cX8_thing 34 = .ok (.bipush (-2), 2) := by decide +kernel
theorem dX8_thing_36 : decode cX8_thing 36 = .ok (.ireturn, 1) := by decide +kernel
theorem dX8_judge_0 : decode cX8_judge 0 = .ok (.iload_n 1, 1) := by decide +kernel
theorem dX8_judge_1 : decode cX8_judge 1 = .ok (.aload_n 0, 1) := by decide +kernel
theorem dX8_judge_2 : decode cX8_judge 2 = .ok (.getfield 18, 3) := by decide +kernel
theorem dX8_judge_5 : decode cX8_judge 5 = .ok (.invokevirtual 100, 3) := by decide +kernel
theorem dX8_judge_8 : decode cX8_judge 8 = .ok (.invokestatic 104, 3) := by decide +kernel
theorem dX8_judge_11 : decode cX8_judge 11 = .ok (.ifCond .eq 23, 3) := by decide +kernel
theorem dX8_judge_14 : decode cX8_judge 14 = .ok (.iload_n 2, 1) := by decide +kernel
theorem dX8_judge_15 : decode cX8_judge 15 = .ok (.iconst 3, 1) := by decide +kernel
theorem dX8_judge_16 : decode cX8_judge 16 = .ok (.invokestatic 104, 3) := by decide +kernel
theorem dX8_judge_19 : decode cX8_judge 19 = .ok (.ifCond .eq 15, 3) := by decide +kernel
theorem dX8_judge_22 : decode cX8_judge 22 = .ok (.aload_n 0, 1) := by decide +kernel
theorem dX8_judge_23 : decode cX8_judge 23 = .ok (.getfield 18, 3) := by decide +kernel
theorem dX8_judge_26 : decode cX8_judge 26 = .ok (.iload_n 1, 1) := by decide +kernel
theorem dX8_judge_27 : decode cX8_judge 27 = .ok (.iload_n 2, 1) := by decide +kernel
theorem dX8_judge_28 : decode cX8_judge 28 = .ok (.invokevirtual 108, 3) := by decide +kernel
theorem dX8_judge_31 : decode cX8_judge 31 = .ok (.goto 5, 3) := by decide +kernel
theorem dX8_judge_34 : decode cX8_judge 34 = .ok (.bipush (-2), 2) := by decide +kernel
theorem dX8_judge_36 : decode cX8_judge 36 = .ok (.ireturn, 1) := by decide +kernel
theorem dX8_event_0 : decode cX8_event 0 = .ok (.iload_n 1, 1) := by decide +kernel
theorem dX8_event_1 : decode cX8_event 1 = .ok (.iload_n 2, 1) := by decide +kernel
theorem dX8_event_2 : decode cX8_event 2 = .ok (.iload_n 3, 1) := by decide +kernel
theorem dX8_event_3 : decode cX8_event 3 = .ok (.invokestatic 112, 3) := by decide +kernel
theorem dX8_event_6 : decode cX8_event 6 = .ok (.ifCond .ne 6, 3) := by decide +kernel
theorem dX8_event_9 : decode cX8_event 9 = .ok (.bipush (-2), 2) := by decide +kernel
theorem dX8_event_11 : decode cX8_event 11 = .ok (.ireturn, 1) := by decide +kernel
theorem dX8_event_12 : decode cX8_event 12 = .ok (.aload_n 0, 1) := by decide +kernel
theorem dX8_event_13 : decode cX8_event 13 = .ok (.getfield 31, 3) := by decide +kernel
theorem dX8_event_16 : decode cX8_event 16 = .ok (.iload_n 1, 1) := by decide +kernel
theorem dX8_event_17 : decode cX8_event 17 = .ok (.iload_n 2, 1) := by decide +kernel
theorem dX8_event_18 : decode cX8_event 18 = .ok (.iload_n 3, 1) := by decide +kernel
theorem dX8_event_19 : decode cX8_event 19 = .ok (.invokevirtual 116, 3) := by decide +kernel
theorem dX8_event_22 : decode cX8_event 22 = .ok (.ifCond .eq 13, 3) := by decide +kernel
theorem dX8_event_25 : decode cX8_event 25 = .ok (.aload_n 0, 1) := by decide +kernel
theorem dX8_event_26 : decode cX8_event 26 = .ok (.getfield 31, 3) := by decide +kernel
theorem dX8_event_29 : decode cX8_event 29 = .ok (.getfield 119, 3) := by decide +kernel
theorem dX8_event_32 : decode cX8_event 32 = .ok (.goto 5, 3) := by decide +kernel
theorem dX8_event_35 : decode cX8_event 35 = .ok (.bipush (-4), 2) := by decide +kernel
theorem dX8_event_37 : decode cX8_event 37 = .ok (.ireturn, 1) := by decide +kernel
theorem dX8_back_0 : decode cX8_back 0 = .ok (.aload_n 0, 1) := by decide +kernel
theorem dX8_back_1 : decode cX8_back 1 = .ok (.getfield 31, 3) := by decide +kernel
theorem dX8_back_4 : decode cX8_back 4 = .ok (.getfield 119, 3) := by decide +kernel
theorem dX8_back_7 : decode cX8_back 7 = .ok (.ifCond .ne 6, 3) := by decide +kernel
theorem dX8_back_10 : decode cX8_back 10 = .ok (.bipush (-3), 2) := by decide +kernel
theorem dX8_back_12 : decode cX8_back 12 = .ok (.ireturn, 1) := by decide +kernel
theorem dX8_back_13 : decode cX8_back 13 = .ok (.aload_n 0, 1) := by decide +kernel
theorem dX8_back_14 : decode cX8_back 14 = .ok (.getfield 31, 3) := by decide +kernel
theorem dX8_back_17 : decode cX8_back 17 = .ok (.dup, 1) := by decide +kernel
theorem dX8_back_18 : decode cX8_back 18 = .ok (.getfield 119, 3) := by decide +kernel
theorem dX8_back_21 : decode cX8_back 21 = .ok (.iconst 1, 1) := by decide +kernel
theorem dX8_back_22 : decode cX8_back 22 = .ok (.isub, 1) := by decide +kernel
theorem dX8_back_23 : decode cX8_back 23 = .ok (.putfield 119, 3) := by decide +kernel
theorem dX8_back_26 : decode cX8_back 26 = .ok (.aload_n 0, 1) := by decide +kernel
theorem dX8_back_27 : decode cX8_back 27 = .ok (.getfield 31, 3) := by decide +kernel
theorem dX8_back_30 : decode cX8_back 30 = .ok (.getfield 119, 3) := by decide +kernel
theorem dX8_back_33 : decode cX8_back 33 = .ok (.ireturn, 1) := by decide +kernel
theorem dX8_read_0 : decode cX8_read 0 = .ok (.iload_n 1, 1) := by decide +kernel
theorem dX8_read_1 : decode cX8_read 1 = .ok (.iconst 4, 1) := by decide +kernel
theorem dX8_read_2 : decode cX8_read 2 = .ok (.invokestatic 104, 3) := by decide +kernel
theorem dX8_read_5 : decode cX8_read 5 = .ok (.ifCond .ne 6, 3) := by decide +kernel
theorem dX8_read_8 : decode cX8_read 8 = .ok (.bipush (-2), 2) := by decide +kernel
theorem dX8_read_10 : decode cX8_read 10 = .ok (.ireturn, 1) := by decide +kernel
theorem dX8_read_11 : decode cX8_read 11 = .ok (.aload_n 0, 1) := by decide +kernel
theorem dX8_read_12 : decode cX8_read 12 = .ok (.getfield 40, 3) := by decide +kernel
theorem dX8_read_15 : decode cX8_read 15 = .ok (.iload_n 1, 1) := by decide +kernel
theorem dX8_read_16 : decode cX8_read 16 = .ok (.aaload, 1) := by decide +kernel
theorem dX8_read_17 : decode cX8_read 17 = .ok (.astore_n 2, 1) := by decide +kernel
theorem dX8_read_18 : decode cX8_read 18 = .ok (.aload_n 2, 1) := by decide +kernel
theorem dX8_read_19 : decode cX8_read 19 = .ok (.invokevirtual 121, 3) := by decide +kernel
theorem dX8_read_22 : decode cX8_read 22 = .ok (.ifCond .eq 9, 3) := by decide +kernel
theorem dX8_read_25 : decode cX8_read 25 = .ok (.aload_n 0, 1) := by decide +kernel
theorem dX8_read_26 : decode cX8_read 26 = .ok (.iconst 1, 1) := by decide +kernel
theorem dX8_read_27 : decode cX8_read 27 = .ok (.invokevirtual 125, 3) := by decide +kernel
theorem dX8_read_30 : decode cX8_read 30 = .ok (.ireturn, 1) := by decide +kernel
theorem dX8_read_31 : decode cX8_read 31 = .ok (.iconst 0, 1) := by decide +kernel
theorem dX8_read_32 : decode cX8_read 32 = .ok (.istore_n 3, 1) := by decide +kernel
theorem dX8_read_33 : decode cX8_read 33 = .ok (.iconst 0, 1) := by decide +kernel
theorem dX8_read_34 : decode cX8_read 34 = .ok (.istore 4, 2) := by decide +kernel
theorem dX8_read_36 : decode cX8_read 36 = .ok (.iload 4, 2) := by decide +kernel
theorem dX8_read_38 : decode cX8_read 38 = .ok (.iconst 2, 1) := by decide +kernel
theorem dX8_read_39 : decode cX8_read 39 = .ok (.iadd, 1) := by decide +kernel
theorem dX8_read_40 : decode cX8_read 40 = .ok (.aload_n 2, 1) := by decide +kernel
theorem dX8_read_41 : decode cX8_read 41 = .ok (.getfield 129, 3) := by decide +kernel
theorem dX8_read_44 : decode cX8_read 44 = .ok (.if_icmp .ge 74, 3) := by decide +kernel
theorem dX8_read_47 : decode cX8_read 47 = .ok (.aload_n 2, 1) := by decide +kernel
theorem dX8_read_48 : decode cX8_read 48 = .ok (.getfield 130, 3) := by decide +kernel
theorem dX8_read_51 : decode cX8_read 51 = .ok (.iload 4, 2) := by decide +kernel
theorem dX8_read_53 : decode cX8_read 53 = .ok (.iaload, 1) := by decide +kernel
theorem dX8_read_54 : decode cX8_read 54 = .ok (.istore 5, 2) := by decide +kernel
theorem dX8_read_56 : decode cX8_read 56 = .ok (.aload_n 2, 1) := by decide +kernel
theorem dX8_read_57 : decode cX8_read 57 = .ok (.getfield 130, 3) := by decide +kernel
theorem dX8_read_60 : decode cX8_read 60 = .ok (.iload 4, 2) := by decide +kernel
theorem dX8_read_62 : decode cX8_read 62 = .ok (.iconst 1, 1) := by decide +kernel
theorem dX8_read_63 : decode cX8_read 63 = .ok (.iadd, 1) := by decide +kernel
theorem dX8_read_64 : decode cX8_read 64 = .ok (.iaload, 1) := by decide +kernel
theorem dX8_read_65 : decode cX8_read 65 = .ok (.istore 6, 2) := by decide +kernel
theorem dX8_read_67 : decode cX8_read 67 = .ok (.aload_n 2, 1) := by decide +kernel
theorem dX8_read_68 : decode cX8_read 68 = .ok (.getfield 130, 3) := by decide +kernel
theorem dX8_read_71 : decode cX8_read 71 = .ok (.iload 4, 2) := by decide +kernel
theorem dX8_read_73 : decode cX8_read 73 = .ok (.iconst 2, 1) := by decide +kernel
theorem dX8_read_74 : decode cX8_read 74 = .ok (.iadd, 1) := by decide +kernel
theorem dX8_read_75 : decode cX8_read 75 = .ok (.iaload, 1) := by decide +kernel
theorem dX8_read_76 : decode cX8_read 76 = .ok (.istore 7, 2) := by decide +kernel
theorem dX8_read_78 : decode cX8_read 78 = .ok (.iload 5, 2) := by decide +kernel
theorem dX8_read_80 : decode cX8_read 80 = .ok (.iload 6, 2) := by decide +kernel
theorem dX8_read_82 : decode cX8_read 82 = .ok (.iload 7, 2) := by decide +kernel
theorem dX8_read_84 : decode cX8_read 84 = .ok (.invokestatic 112, 3) := by decide +kernel
theorem dX8_read_87 : decode cX8_read 87 = .ok (.ifCond .eq 31, 3) := by decide +kernel
theorem dX8_read_90 : decode cX8_read 90 = .ok (.aload_n 0, 1) := by decide +kernel
theorem dX8_read_91 : decode cX8_read 91 = .ok (.getfield 31, 3) := by decide +kernel
theorem dX8_read_94 : decode cX8_read 94 = .ok (.iload 5, 2) := by decide +kernel
theorem dX8_read_96 : decode cX8_read 96 = .ok (.iload 6, 2) := by decide +kernel
theorem dX8_read_98 : decode cX8_read 98 = .ok (.iload 7, 2) := by decide +kernel
theorem dX8_read_100 : decode cX8_read 100 = .ok (.invokevirtual 116, 3) := by decide +kernel
theorem dX8_read_103 : decode cX8_read 103 = .ok (.ifCond .ne 6, 3) := by decide +kernel
theorem dX8_read_106 : decode cX8_read 106 = .ok (.goto 12, 3) := by decide +kernel
theorem dX8_read_109 : decode cX8_read 109 = .ok (.iinc 3 1, 3) := by decide +kernel
theorem dX8_read_112 : decode cX8_read 112 = .ok (.iinc 4 3, 3) := by decide +kernel
theorem dX8_read_115 : decode cX8_read 115 = .ok (.goto (-79), 3) := by decide +kernel
theorem dX8_read_118 : decode cX8_read 118 = .ok (.iload_n 3, 1) := by decide +kernel
theorem dX8_read_119 : decode cX8_read 119 = .ok (.ireturn, 1) := by decide +kernel
theorem dX8_place_0 : decode cX8_place 0 = .ok (.iload_n 1, 1) := by decide +kernel
theorem dX8_place_1 : decode cX8_place 1 = .ok (.bipush 12, 2) := by decide +kernel
theorem dX8_place_3 : decode cX8_place 3 = .ok (.invokestatic 104, 3) := by decide +kernel
theorem dX8_place_6 : decode cX8_place 6 = .ok (.ifCond .eq 11, 3) := by decide +kernel
theorem dX8_place_9 : decode cX8_place 9 = .ok (.iload_n 2, 1) := by decide +kernel
theorem dX8_place_10 : decode cX8_place 10 = .ok (.iconst 3, 1) := by decide +kernel
theorem dX8_place_11 : decode cX8_place 11 = .ok (.invokestatic 104, 3) := by decide +kernel
theorem dX8_place_14 : decode cX8_place 14 = .ok (.ifCond .ne 6, 3) := by decide +kernel
theorem dX8_place_17 : decode cX8_place 17 = .ok (.bipush (-2), 2) := by decide +kernel
theorem dX8_place_19 : decode cX8_place 19 = .ok (.ireturn, 1) := by decide +kernel
theorem dX8_place_20 : decode cX8_place 20 = .ok (.aload_n 0, 1) := by decide +kernel
theorem dX8_place_21 : decode cX8_place 21 = .ok (.iload_n 1, 1) := by decide +kernel
theorem dX8_place_22 : decode cX8_place 22 = .ok (.iconst 1, 1) := by decide +kernel
theorem dX8_place_23 : decode cX8_place 23 = .ok (.iadd, 1) := by decide +kernel
theorem dX8_place_24 : decode cX8_place 24 = .ok (.invokevirtual 133, 3) := by decide +kernel
theorem dX8_place_27 : decode cX8_place 27 = .ok (.aload_n 0, 1) := by decide +kernel
theorem dX8_place_28 : decode cX8_place 28 = .ok (.getfield 60, 3) := by decide +kernel
theorem dX8_place_31 : decode cX8_place 31 = .ok (.iload_n 1, 1) := by decide +kernel
theorem dX8_place_32 : decode cX8_place 32 = .ok (.iload_n 2, 1) := by decide +kernel
theorem dX8_place_33 : decode cX8_place 33 = .ok (.invokevirtual 136, 3) := by decide +kernel
theorem dX8_place_36 : decode cX8_place 36 = .ok (.ireturn, 1) := by decide +kernel
theorem dX8_at_0 : decode cX8_at 0 = .ok (.iload_n 1, 1) := by decide +kernel
theorem dX8_at_1 : decode cX8_at 1 = .ok (.bipush 12, 2) := by decide +kernel
theorem dX8_at_3 : decode cX8_at 3 = .ok (.invokestatic 104, 3) := by decide +kernel
theorem dX8_at_6 : decode cX8_at 6 = .ok (.ifCond .eq 25, 3) := by decide +kernel
theorem dX8_at_9 : decode cX8_at 9 = .ok (.iload_n 2, 1) := by decide +kernel
theorem dX8_at_10 : decode cX8_at 10 = .ok (.aload_n 0, 1) := by decide +kernel
theorem dX8_at_11 : decode cX8_at 11 = .ok (.getfield 14, 3) := by decide +kernel
theorem dX8_at_14 : decode cX8_at 14 = .ok (.invokevirtual 100, 3) := by decide +kernel
theorem dX8_at_17 : decode cX8_at 17 = .ok (.invokestatic 104, 3) := by decide +kernel
theorem dX8_at_20 : decode cX8_at 20 = .ok (.ifCond .eq 11, 3) := by decide +kernel
theorem dX8_at_23 : decode cX8_at 23 = .ok (.iload_n 3, 1) := by decide +kernel
theorem dX8_at_24 : decode cX8_at 24 = .ok (.iconst 5, 1) := by decide +kernel
theorem dX8_at_25 : decode cX8_at 25 = .ok (.invokestatic 104, 3) := by decide +kernel
theorem dX8_at_28 : decode cX8_at 28 = .ok (.ifCond .ne 6, 3) := by decide +kernel
theorem dX8_at_31 : decode cX8_at 31 = .ok (.bipush (-2), 2) := by decide +kernel
theorem dX8_at_33 : decode cX8_at 33 = .ok (.ireturn, 1) := by decide +kernel
theorem dX8_at_34 : decode cX8_at 34 = .ok (.aload_n 0, 1) := by decide +kernel
theorem dX8_at_35 : decode cX8_at 35 = .ok (.iload_n 1, 1) := by decide +kernel
theorem dX8_at_36 : decode cX8_at 36 = .ok (.iconst 1, 1) := by decide +kernel
theorem dX8_at_37 : decode cX8_at 37 = .ok (.iadd, 1) := by decide +kernel
theorem dX8_at_38 : decode cX8_at 38 = .ok (.invokevirtual 133, 3) := by decide +kernel
theorem dX8_at_41 : decode cX8_at 41 = .ok (.aload_n 0, 1) := by decide +kernel
theorem dX8_at_42 : decode cX8_at 42 = .ok (.getfield 60, 3) := by decide +kernel
theorem dX8_at_45 : decode cX8_at 45 = .ok (.iload_n 2, 1) := by decide +kernel
theorem dX8_at_46 : decode cX8_at 46 = .ok (.iload_n 3, 1) := by decide +kernel
theorem dX8_at_47 : decode cX8_at 47 = .ok (.invokevirtual 139, 3) := by decide +kernel
theorem dX8_at_50 : decode cX8_at 50 = .ok (.ireturn, 1) := by decide +kernel
theorem dX8_show_0 : decode cX8_show 0 = .ok (.iload_n 1, 1) := by decide +kernel
theorem dX8_show_1 : decode cX8_show 1 = .ok (.bipush 12, 2) := by decide +kernel
theorem dX8_show_3 : decode cX8_show 3 = .ok (.invokestatic 104, 3) := by decide +kernel
theorem dX8_show_6 : decode cX8_show 6 = .ok (.ifCond .eq 11, 3) := by decide +kernel
theorem dX8_show_9 : decode cX8_show 9 = .ok (.iload_n 2, 1) := by decide +kernel
theorem dX8_show_10 : decode cX8_show 10 = .ok (.iconst 2, 1) := by decide +kernel
theorem dX8_show_11 : decode cX8_show 11 = .ok (.invokestatic 104, 3) := by decide +kernel
theorem dX8_show_14 : decode cX8_show 14 = .ok (.ifCond .ne 6, 3) := by decide +kernel
theorem dX8_show_17 : decode cX8_show 17 = .ok (.bipush (-2), 2) := by decide +kernel
theorem dX8_show_19 : decode cX8_show 19 = .ok (.ireturn, 1) := by decide +kernel
theorem dX8_show_20 : decode cX8_show 20 = .ok (.aload_n 0, 1) := by decide +kernel
theorem dX8_show_21 : decode cX8_show 21 = .ok (.iload_n 1, 1) := by decide +kernel
theorem dX8_show_22 : decode cX8_show 22 = .ok (.iconst 1, 1) := by decide +kernel
theorem dX8_show_23 : decode cX8_show 23 = .ok (.iadd, 1) := by decide +kernel
theorem dX8_show_24 : decode cX8_show 24 = .ok (.invokevirtual 133, 3) := by decide +kernel
theorem dX8_show_27 : decode cX8_show 27 = .ok (.iload_n 2, 1) := by decide +kernel
theorem dX8_show_28 : decode cX8_show 28 = .ok (.ifCond .ne 14, 3) := by decide +kernel
theorem dX8_show_31 : decode cX8_show 31 = .ok (.aload_n 0, 1) := by decide +kernel
theorem dX8_show_32 : decode cX8_show 32 = .ok (.getfield 53, 3) := by decide +kernel
theorem dX8_show_35 : decode cX8_show 35 = .ok (.iload_n 1, 1) := by decide +kernel
theorem dX8_show_36 : decode cX8_show 36 = .ok (.invokevirtual 142, 3) := by decide +kernel
theorem dX8_show_39 : decode cX8_show 39 = .ok (.goto 10, 3) := by decide +kernel
theorem dX8_show_42 : decode cX8_show 42 = .ok (.aload_n 0, 1) := by decide +kernel
theorem dX8_show_43 : decode cX8_show 43 = .ok (.getfield 60, 3) := by decide +kernel
theorem dX8_show_46 : decode cX8_show 46 = .ok (.getfield 145, 3) := by decide +kernel
theorem dX8_show_49 : decode cX8_show 49 = .ok (.ireturn, 1) := by decide +kernel
theorem dX8_owned_0 : decode cX8_owned 0 = .ok (.iload_n 1, 1) := by decide +kernel
theorem dX8_owned_1 : decode cX8_owned 1 = .ok (.bipush 6, 2) := by decide +kernel
theorem dX8_owned_3 : decode cX8_owned 3 = .ok (.invokestatic 104, 3) := by decide +kernel
theorem dX8_owned_6 : decode cX8_owned 6 = .ok (.ifCond .ne 6, 3) := by decide +kernel
theorem dX8_owned_9 : decode cX8_owned 9 = .ok (.bipush (-2), 2) := by decide +kernel
theorem dX8_owned_11 : decode cX8_owned 11 = .ok (.ireturn, 1) := by decide +kernel
theorem dX8_owned_12 : decode cX8_owned 12 = .ok (.aload_n 0, 1) := by decide +kernel
theorem dX8_owned_13 : decode cX8_owned 13 = .ok (.bipush 12, 2) := by decide +kernel
theorem dX8_owned_15 : decode cX8_owned 15 = .ok (.invokevirtual 133, 3) := by decide +kernel
theorem dX8_owned_18 : decode cX8_owned 18 = .ok (.aload_n 0, 1) := by decide +kernel
theorem dX8_owned_19 : decode cX8_owned 19 = .ok (.getfield 60, 3) := by decide +kernel
theorem dX8_owned_22 : decode cX8_owned 22 = .ok (.aload_n 0, 1) := by decide +kernel
theorem dX8_owned_23 : decode cX8_owned 23 = .ok (.getfield 53, 3) := by decide +kernel
theorem dX8_owned_26 : decode cX8_owned 26 = .ok (.iload_n 1, 1) := by decide +kernel
theorem dX8_owned_27 : decode cX8_owned 27 = .ok (.invokevirtual 148, 3) := by decide +kernel
theorem dX8_owned_30 : decode cX8_owned 30 = .ok (.ireturn, 1) := by decide +kernel
theorem dX8_champion_0 : decode cX8_champion 0 = .ok (.aload_n 0, 1) := by decide +kernel
theorem dX8_champion_1 : decode cX8_champion 1 = .ok (.bipush 12, 2) := by decide +kernel
theorem dX8_champion_3 : decode cX8_champion 3 = .ok (.invokevirtual 133, 3) := by decide +kernel
theorem dX8_champion_6 : decode cX8_champion 6 = .ok (.aload_n 0, 1) := by decide +kernel
theorem dX8_champion_7 : decode cX8_champion 7 = .ok (.getfield 67, 3) := by decide +kernel
theorem dX8_champion_10 : decode cX8_champion 10 = .ok (.invokevirtual 152, 3) := by decide +kernel
theorem dX8_champion_13 : decode cX8_champion 13 = .ok (.iconst 0, 1) := by decide +kernel
theorem dX8_champion_14 : decode cX8_champion 14 = .ok (.istore_n 1, 1) := by decide +kernel
theorem dX8_champion_15 : decode cX8_champion 15 = .ok (.iload_n 1, 1) := by decide +kernel
theorem dX8_champion_16 : decode cX8_champion 16 = .ok (.bipush 6, 2) := by decide +kernel
theorem dX8_champion_18 : decode cX8_champion 18 = .ok (.if_icmp .ge 29, 3) := by decide +kernel
theorem dX8_champion_21 : decode cX8_champion 21 = .ok (.aload_n 0, 1) := by decide +kernel
theorem dX8_champion_22 : decode cX8_champion 22 = .ok (.getfield 67, 3) := by decide +kernel
theorem dX8_champion_25 : decode cX8_champion 25 = .ok (.iload_n 1, 1) := by decide +kernel
theorem dX8_champion_26 : decode cX8_champion 26 = .ok (.aload_n 0, 1) := by decide +kernel
theorem dX8_champion_27 : decode cX8_champion 27 = .ok (.getfield 60, 3) := by decide +kernel
theorem dX8_champion_30 : decode cX8_champion 30 = .ok (.aload_n 0, 1) := by decide +kernel
theorem dX8_champion_31 : decode cX8_champion 31 = .ok (.getfield 53, 3) := by decide +kernel
theorem dX8_champion_34 : decode cX8_champion 34 = .ok (.iload_n 1, 1) := by decide +kernel
theorem dX8_champion_35 : decode cX8_champion 35 = .ok (.invokevirtual 148, 3) := by decide +kernel
theorem dX8_champion_38 : decode cX8_champion 38 = .ok (.invokevirtual 155, 3) := by decide +kernel
theorem dX8_champion_41 : decode cX8_champion 41 = .ok (.iinc 1 1, 3) := by decide +kernel
theorem dX8_champion_44 : decode cX8_champion 44 = .ok (.goto (-29), 3) := by decide +kernel
theorem dX8_champion_47 : decode cX8_champion 47 = .ok (.aload_n 0, 1) := by decide +kernel
theorem dX8_champion_48 : decode cX8_champion 48 = .ok (.getfield 67, 3) := by decide +kernel
theorem dX8_champion_51 : decode cX8_champion 51 = .ok (.getfield 158, 3) := by decide +kernel
theorem dX8_champion_54 : decode cX8_champion 54 = .ok (.ireturn, 1) := by decide +kernel
theorem dX8_best_0 : decode cX8_best 0 = .ok (.aload_n 0, 1) := by decide +kernel
theorem dX8_best_1 : decode cX8_best 1 = .ok (.bipush 12, 2) := by decide +kernel
theorem dX8_best_3 : decode cX8_best 3 = .ok (.invokevirtual 133, 3) := by decide +kernel
theorem dX8_best_6 : decode cX8_best 6 = .ok (.aload_n 0, 1) := by decide +kernel
theorem dX8_best_7 : decode cX8_best 7 = .ok (.getfield 60, 3) := by decide +kernel
theorem dX8_best_10 : decode cX8_best 10 = .ok (.aload_n 0, 1) := by decide +kernel
theorem dX8_best_11 : decode cX8_best 11 = .ok (.getfield 53, 3) := by decide +kernel
theorem dX8_best_14 : decode cX8_best 14 = .ok (.getfield 161, 3) := by decide +kernel
theorem dX8_best_17 : decode cX8_best 17 = .ok (.invokevirtual 163, 3) := by decide +kernel
theorem dX8_best_20 : decode cX8_best 20 = .ok (.ireturn, 1) := by decide +kernel
theorem dX8_left_0 : decode cX8_left 0 = .ok (.iload_n 1, 1) := by decide +kernel
theorem dX8_left_1 : decode cX8_left 1 = .ok (.iconst 2, 1) := by decide +kernel
theorem dX8_left_2 : decode cX8_left 2 = .ok (.invokestatic 104, 3) := by decide +kernel
theorem dX8_left_5 : decode cX8_left 5 = .ok (.ifCond .ne 6, 3) := by decide +kernel
theorem dX8_left_8 : decode cX8_left 8 = .ok (.bipush (-2), 2) := by decide +kernel
theorem dX8_left_10 : decode cX8_left 10 = .ok (.ireturn, 1) := by decide +kernel
theorem dX8_left_11 : decode cX8_left 11 = .ok (.aload_n 0, 1) := by decide +kernel
theorem dX8_left_12 : decode cX8_left 12 = .ok (.bipush 12, 2) := by decide +kernel
theorem dX8_left_14 : decode cX8_left 14 = .ok (.invokevirtual 133, 3) := by decide +kernel
theorem dX8_left_17 : decode cX8_left 17 = .ok (.iload_n 1, 1) := by decide +kernel
theorem dX8_left_18 : decode cX8_left 18 = .ok (.ifCond .ne 13, 3) := by decide +kernel
theorem dX8_left_21 : decode cX8_left 21 = .ok (.aload_n 0, 1) := by decide +kernel
theorem dX8_left_22 : decode cX8_left 22 = .ok (.getfield 60, 3) := by decide +kernel
theorem dX8_left_25 : decode cX8_left 25 = .ok (.getfield 166, 3) := by decide +kernel
theorem dX8_left_28 : decode cX8_left 28 = .ok (.goto 17, 3) := by decide +kernel
theorem dX8_left_31 : decode cX8_left 31 = .ok (.aload_n 0, 1) := by decide +kernel
theorem dX8_left_32 : decode cX8_left 32 = .ok (.getfield 60, 3) := by decide +kernel
theorem dX8_left_35 : decode cX8_left 35 = .ok (.aload_n 0, 1) := by decide +kernel
theorem dX8_left_36 : decode cX8_left 36 = .ok (.getfield 53, 3) := by decide +kernel
theorem dX8_left_39 : decode cX8_left 39 = .ok (.getfield 161, 3) := by decide +kernel
theorem dX8_left_42 : decode cX8_left 42 = .ok (.invokevirtual 169, 3) := by decide +kernel
theorem dX8_left_45 : decode cX8_left 45 = .ok (.ireturn, 1) := by decide +kernel
theorem dX8_brush_0 : decode cX8_brush 0 = .ok (.iload_n 1, 1) := by decide +kernel
theorem dX8_brush_1 : decode cX8_brush 1 = .ok (.aload_n 0, 1) := by decide +kernel
theorem dX8_brush_2 : decode cX8_brush 2 = .ok (.getfield 14, 3) := by decide +kernel
theorem dX8_brush_5 : decode cX8_brush 5 = .ok (.invokevirtual 100, 3) := by decide +kernel
theorem dX8_brush_8 : decode cX8_brush 8 = .ok (.invokestatic 104, 3) := by decide +kernel
theorem dX8_brush_11 : decode cX8_brush 11 = .ok (.ifCond .eq 11, 3) := by decide +kernel
theorem dX8_brush_14 : decode cX8_brush 14 = .ok (.iload_n 2, 1) := by decide +kernel
theorem dX8_brush_15 : decode cX8_brush 15 = .ok (.iconst 2, 1) := by decide +kernel
theorem dX8_brush_16 : decode cX8_brush 16 = .ok (.invokestatic 104, 3) := by decide +kernel
theorem dX8_brush_19 : decode cX8_brush 19 = .ok (.ifCond .ne 6, 3) := by decide +kernel
theorem dX8_brush_22 : decode cX8_brush 22 = .ok (.bipush (-2), 2) := by decide +kernel
theorem dX8_brush_24 : decode cX8_brush 24 = .ok (.ireturn, 1) := by decide +kernel
theorem dX8_brush_25 : decode cX8_brush 25 = .ok (.aload_n 0, 1) := by decide +kernel
theorem dX8_brush_26 : decode cX8_brush 26 = .ok (.iload_n 1, 1) := by decide +kernel
theorem dX8_brush_27 : decode cX8_brush 27 = .ok (.invokevirtual 172, 3) := by decide +kernel
theorem dX8_brush_30 : decode cX8_brush 30 = .ok (.aload_n 0, 1) := by decide +kernel
theorem dX8_brush_31 : decode cX8_brush 31 = .ok (.getfield 67, 3) := by decide +kernel
theorem dX8_brush_34 : decode cX8_brush 34 = .ok (.iload_n 2, 1) := by decide +kernel
theorem dX8_brush_35 : decode cX8_brush 35 = .ok (.invokevirtual 175, 3) := by decide +kernel
theorem dX8_brush_38 : decode cX8_brush 38 = .ok (.ireturn, 1) := by decide +kernel
theorem dX8_rival_0 : decode cX8_rival 0 = .ok (.iload_n 1, 1) := by decide +kernel
theorem dX8_rival_1 : decode cX8_rival 1 = .ok (.aload_n 0, 1) := by decide +kernel
theorem dX8_rival_2 : decode cX8_rival 2 = .ok (.getfield 14, 3) := by decide +kernel
theorem dX8_rival_5 : decode cX8_rival 5 = .ok (.invokevirtual 100, 3) := by decide +kernel
theorem dX8_rival_8 : decode cX8_rival 8 = .ok (.invokestatic 104, 3) := by decide +kernel
theorem dX8_rival_11 : decode cX8_rival 11 = .ok (.ifCond .eq 11, 3) := by decide +kernel
theorem dX8_rival_14 : decode cX8_rival 14 = .ok (.iload_n 2, 1) := by decide +kernel
theorem dX8_rival_15 : decode cX8_rival 15 = .ok (.iconst 2, 1) := by decide +kernel
theorem dX8_rival_16 : decode cX8_rival 16 = .ok (.invokestatic 104, 3) := by decide +kernel
theorem dX8_rival_19 : decode cX8_rival 19 = .ok (.ifCond .ne 6, 3) := by decide +kernel
theorem dX8_rival_22 : decode cX8_rival 22 = .ok (.bipush (-2), 2) := by decide +kernel
theorem dX8_rival_24 : decode cX8_rival 24 = .ok (.ireturn, 1) := by decide +kernel
theorem dX8_rival_25 : decode cX8_rival 25 = .ok (.aload_n 0, 1) := by decide +kernel
theorem dX8_rival_26 : decode cX8_rival 26 = .ok (.iload_n 1, 1) := by decide +kernel
theorem dX8_rival_27 : decode cX8_rival 27 = .ok (.invokevirtual 178, 3) := by decide +kernel
theorem dX8_rival_30 : decode cX8_rival 30 = .ok (.aload_n 0, 1) := by decide +kernel
theorem dX8_rival_31 : decode cX8_rival 31 = .ok (.getfield 67, 3) := by decide +kernel
theorem dX8_rival_34 : decode cX8_rival 34 = .ok (.iload_n 2, 1) := by decide +kernel
theorem dX8_rival_35 : decode cX8_rival 35 = .ok (.invokevirtual 175, 3) := by decide +kernel
theorem dX8_rival_38 : decode cX8_rival 38 = .ok (.ireturn, 1) := by decide +kernel
theorem dX8_send_0 : decode cX8_send 0 = .ok (.iload_n 1, 1) := by decide +kernel
theorem dX8_send_1 : decode cX8_send 1 = .ok (.bipush 12, 2) := by decide +kernel
theorem dX8_send_3 : decode cX8_send 3 = .ok (.invokestatic 104, 3) := by decide +kernel
theorem dX8_send_6 : decode cX8_send 6 = .ok (.ifCond .eq 20, 3) := by decide +kernel
theorem dX8_send_9 : decode cX8_send 9 = .ok (.iload_n 2, 1) := by decide +kernel
theorem dX8_send_10 : decode cX8_send 10 = .ok (.bipush 6, 2) := by decide +kernel
theorem dX8_send_12 : decode cX8_send 12 = .ok (.invokestatic 104, 3) := by decide +kernel
theorem dX8_send_15 : decode cX8_send 15 = .ok (.ifCond .eq 11, 3) := by decide +kernel
theorem dX8_send_18 : decode cX8_send 18 = .ok (.iload_n 3, 1) := by decide +kernel
theorem dX8_send_19 : decode cX8_send 19 = .ok (.iconst 2, 1) := by decide +kernel
theorem dX8_send_20 : decode cX8_send 20 = .ok (.invokestatic 104, 3) := by decide +kernel
theorem dX8_send_23 : decode cX8_send 23 = .ok (.ifCond .ne 6, 3) := by decide +kernel
theorem dX8_send_26 : decode cX8_send 26 = .ok (.bipush (-2), 2) := by decide +kernel
theorem dX8_send_28 : decode cX8_send 28 = .ok (.ireturn, 1) := by decide +kernel
theorem dX8_send_29 : decode cX8_send 29 = .ok (.aload_n 0, 1) := by decide +kernel
theorem dX8_send_30 : decode cX8_send 30 = .ok (.iload_n 1, 1) := by decide +kernel
theorem dX8_send_31 : decode cX8_send 31 = .ok (.iload_n 2, 1) := by decide +kernel
theorem dX8_send_32 : decode cX8_send 32 = .ok (.invokevirtual 181, 3) := by decide +kernel
theorem dX8_send_35 : decode cX8_send 35 = .ok (.aload_n 0, 1) := by decide +kernel
theorem dX8_send_36 : decode cX8_send 36 = .ok (.getfield 67, 3) := by decide +kernel
theorem dX8_send_39 : decode cX8_send 39 = .ok (.iload_n 3, 1) := by decide +kernel
theorem dX8_send_40 : decode cX8_send 40 = .ok (.invokevirtual 175, 3) := by decide +kernel
theorem dX8_send_43 : decode cX8_send 43 = .ok (.ireturn, 1) := by decide +kernel
theorem dX8_spare_0 : decode cX8_spare 0 = .ok (.iload_n 1, 1) := by decide +kernel
theorem dX8_spare_1 : decode cX8_spare 1 = .ok (.iconst (-1), 1) := by decide +kernel
theorem dX8_spare_2 : decode cX8_spare 2 = .ok (.if_icmp .lt 8, 3) := by decide +kernel
theorem dX8_spare_5 : decode cX8_spare 5 = .ok (.iload_n 1, 1) := by decide +kernel
theorem dX8_spare_6 : decode cX8_spare 6 = .ok (.iconst 1, 1) := by decide +kernel
theorem dX8_spare_7 : decode cX8_spare 7 = .ok (.if_icmp .le 6, 3) := by decide +kernel
theorem dX8_spare_10 : decode cX8_spare 10 = .ok (.bipush (-2), 2) := by decide +kernel
theorem dX8_spare_12 : decode cX8_spare 12 = .ok (.ireturn, 1) := by decide +kernel
theorem dX8_spare_13 : decode cX8_spare 13 = .ok (.aload_n 0, 1) := by decide +kernel
theorem dX8_spare_14 : decode cX8_spare 14 = .ok (.invokevirtual 184, 3) := by decide +kernel
theorem dX8_spare_17 : decode cX8_spare 17 = .ok (.istore_n 2, 1) := by decide +kernel
theorem dX8_spare_18 : decode cX8_spare 18 = .ok (.iload_n 2, 1) := by decide +kernel
theorem dX8_spare_19 : decode cX8_spare 19 = .ok (.iconst (-1), 1) := by decide +kernel
theorem dX8_spare_20 : decode cX8_spare 20 = .ok (.if_icmp .ne 5, 3) := by decide +kernel
theorem dX8_spare_23 : decode cX8_spare 23 = .ok (.iconst (-1), 1) := by decide +kernel
theorem dX8_spare_24 : decode cX8_spare 24 = .ok (.ireturn, 1) := by decide +kernel
theorem dX8_spare_25 : decode cX8_spare 25 = .ok (.iload_n 2, 1) := by decide +kernel
theorem dX8_spare_26 : decode cX8_spare 26 = .ok (.invokestatic 187, 3) := by decide +kernel
theorem dX8_spare_29 : decode cX8_spare 29 = .ok (.istore_n 3, 1) := by decide +kernel
theorem dX8_spare_30 : decode cX8_spare 30 = .ok (.iload_n 1, 1) := by decide +kernel
theorem dX8_spare_31 : decode cX8_spare 31 = .ok (.iconst (-1), 1) := by decide +kernel
theorem dX8_spare_32 : decode cX8_spare 32 = .ok (.if_icmp .ne 5, 3) := by decide +kernel
theorem dX8_spare_35 : decode cX8_spare 35 = .ok (.iload_n 3, 1) := by decide +kernel
theorem dX8_spare_36 : decode cX8_spare 36 = .ok (.ireturn, 1) := by decide +kernel
theorem dX8_spare_37 : decode cX8_spare 37 = .ok (.iload_n 1, 1) := by decide +kernel
theorem dX8_spare_38 : decode cX8_spare 38 = .ok (.iload_n 3, 1) := by decide +kernel
theorem dX8_spare_39 : decode cX8_spare 39 = .ok (.if_icmp .lt 5, 3) := by decide +kernel
theorem dX8_spare_42 : decode cX8_spare 42 = .ok (.iconst (-1), 1) := by decide +kernel
theorem dX8_spare_43 : decode cX8_spare 43 = .ok (.ireturn, 1) := by decide +kernel
theorem dX8_spare_44 : decode cX8_spare 44 = .ok (.iload_n 1, 1) := by decide +kernel
theorem dX8_spare_45 : decode cX8_spare 45 = .ok (.iload_n 3, 1) := by decide +kernel
theorem dX8_spare_46 : decode cX8_spare 46 = .ok (.iconst 1, 1) := by decide +kernel
theorem dX8_spare_47 : decode cX8_spare 47 = .ok (.isub, 1) := by decide +kernel
theorem dX8_spare_48 : decode cX8_spare 48 = .ok (.if_icmp .ne 10, 3) := by decide +kernel
theorem dX8_spare_51 : decode cX8_spare 51 = .ok (.iload_n 2, 1) := by decide +kernel
theorem dX8_spare_52 : decode cX8_spare 52 = .ok (.invokestatic 192, 3) := by decide +kernel
theorem dX8_spare_55 : decode cX8_spare 55 = .ok (.goto 7, 3) := by decide +kernel
theorem dX8_spare_58 : decode cX8_spare 58 = .ok (.iload_n 2, 1) := by decide +kernel
theorem dX8_spare_59 : decode cX8_spare 59 = .ok (.invokestatic 195, 3) := by decide +kernel
theorem dX8_spare_62 : decode cX8_spare 62 = .ok (.istore 4, 2) := by decide +kernel
theorem dX8_spare_64 : decode cX8_spare 64 = .ok (.iload 4, 2) := by decide +kernel
theorem dX8_spare_66 : decode cX8_spare 66 = .ok (.invokestatic 198, 3) := by decide +kernel
theorem dX8_spare_69 : decode cX8_spare 69 = .ok (.ireturn, 1) := by decide +kernel
theorem dX8_seen_0 : decode cX8_seen 0 = .ok (.iload_n 1, 1) := by decide +kernel
theorem dX8_seen_1 : decode cX8_seen 1 = .ok (.bipush 12, 2) := by decide +kernel
theorem dX8_seen_3 : decode cX8_seen 3 = .ok (.invokestatic 104, 3) := by decide +kernel
theorem dX8_seen_6 : decode cX8_seen 6 = .ok (.ifCond .eq 20, 3) := by decide +kernel
theorem dX8_seen_9 : decode cX8_seen 9 = .ok (.iload_n 2, 1) := by decide +kernel
theorem dX8_seen_10 : decode cX8_seen 10 = .ok (.bipush 10, 2) := by decide +kernel
theorem dX8_seen_12 : decode cX8_seen 12 = .ok (.invokestatic 104, 3) := by decide +kernel
theorem dX8_seen_15 : decode cX8_seen 15 = .ok (.ifCond .eq 11, 3) := by decide +kernel
theorem dX8_seen_18 : decode cX8_seen 18 = .ok (.iload_n 3, 1) := by decide +kernel
theorem dX8_seen_19 : decode cX8_seen 19 = .ok (.iconst 4, 1) := by decide +kernel
theorem dX8_seen_20 : decode cX8_seen 20 = .ok (.invokestatic 104, 3) := by decide +kernel
theorem dX8_seen_23 : decode cX8_seen 23 = .ok (.ifCond .ne 6, 3) := by decide +kernel
theorem dX8_seen_26 : decode cX8_seen 26 = .ok (.bipush (-2), 2) := by decide +kernel
theorem dX8_seen_28 : decode cX8_seen 28 = .ok (.ireturn, 1) := by decide +kernel
theorem dX8_seen_29 : decode cX8_seen 29 = .ok (.aload_n 0, 1) := by decide +kernel
theorem dX8_seen_30 : decode cX8_seen 30 = .ok (.getfield 35, 3) := by decide +kernel
theorem dX8_seen_33 : decode cX8_seen 33 = .ok (.iload_n 1, 1) := by decide +kernel
theorem dX8_seen_34 : decode cX8_seen 34 = .ok (.iload_n 2, 1) := by decide +kernel
theorem dX8_seen_35 : decode cX8_seen 35 = .ok (.iload_n 3, 1) := by decide +kernel
theorem dX8_seen_36 : decode cX8_seen 36 = .ok (.invokevirtual 116, 3) := by decide +kernel
theorem dX8_seen_39 : decode cX8_seen 39 = .ok (.ifCond .eq 13, 3) := by decide +kernel
theorem dX8_seen_42 : decode cX8_seen 42 = .ok (.aload_n 0, 1) := by decide +kernel
theorem dX8_seen_43 : decode cX8_seen 43 = .ok (.getfield 35, 3) := by decide +kernel
theorem dX8_seen_46 : decode cX8_seen 46 = .ok (.getfield 119, 3) := by decide +kernel
theorem dX8_seen_49 : decode cX8_seen 49 = .ok (.goto 5, 3) := by decide +kernel
theorem dX8_seen_52 : decode cX8_seen 52 = .ok (.bipush (-4), 2) := by decide +kernel
theorem dX8_seen_54 : decode cX8_seen 54 = .ok (.ireturn, 1) := by decide +kernel
theorem dX8_forget_0 : decode cX8_forget 0 = .ok (.aload_n 0, 1) := by decide +kernel
theorem dX8_forget_1 : decode cX8_forget 1 = .ok (.getfield 35, 3) := by decide +kernel
theorem dX8_forget_4 : decode cX8_forget 4 = .ok (.getfield 119, 3) := by decide +kernel
theorem dX8_forget_7 : decode cX8_forget 7 = .ok (.istore_n 1, 1) := by decide +kernel
theorem dX8_forget_8 : decode cX8_forget 8 = .ok (.aload_n 0, 1) := by decide +kernel
theorem dX8_forget_9 : decode cX8_forget 9 = .ok (.getfield 35, 3) := by decide +kernel
theorem dX8_forget_12 : decode cX8_forget 12 = .ok (.iconst 0, 1) := by decide +kernel
theorem dX8_forget_13 : decode cX8_forget 13 = .ok (.putfield 119, 3) := by decide +kernel
theorem dX8_forget_16 : decode cX8_forget 16 = .ok (.iload_n 1, 1) := by decide +kernel
theorem dX8_forget_17 : decode cX8_forget 17 = .ok (.ireturn, 1) := by decide +kernel
theorem dX8_never_0 : decode cX8_never 0 = .ok (.aload_n 0, 1) := by decide +kernel
theorem dX8_never_1 : decode cX8_never 1 = .ok (.invokevirtual 201, 3) := by decide +kernel
theorem dX8_never_4 : decode cX8_never 4 = .ok (.iconst 0, 1) := by decide +kernel
theorem dX8_never_5 : decode cX8_never 5 = .ok (.istore_n 1, 1) := by decide +kernel
theorem dX8_never_6 : decode cX8_never 6 = .ok (.iconst 0, 1) := by decide +kernel
theorem dX8_never_7 : decode cX8_never 7 = .ok (.istore_n 2, 1) := by decide +kernel
theorem dX8_never_8 : decode cX8_never 8 = .ok (.iload_n 2, 1) := by decide +kernel
theorem dX8_never_9 : decode cX8_never 9 = .ok (.aload_n 0, 1) := by decide +kernel
theorem dX8_never_10 : decode cX8_never 10 = .ok (.getfield 31, 3) := by decide +kernel
theorem dX8_never_13 : decode cX8_never 13 = .ok (.getfield 119, 3) := by decide +kernel
theorem dX8_never_16 : decode cX8_never 16 = .ok (.if_icmp .ge 59, 3) := by decide +kernel
theorem dX8_never_19 : decode cX8_never 19 = .ok (.aload_n 0, 1) := by decide +kernel
theorem dX8_never_20 : decode cX8_never 20 = .ok (.getfield 53, 3) := by decide +kernel
theorem dX8_never_23 : decode cX8_never 23 = .ok (.iconst 1, 1) := by decide +kernel
theorem dX8_never_24 : decode cX8_never 24 = .ok (.iload_n 2, 1) := by decide +kernel
theorem dX8_never_25 : decode cX8_never 25 = .ok (.ishl, 1) := by decide +kernel
theorem dX8_never_26 : decode cX8_never 26 = .ok (.putfield 204, 3) := by decide +kernel
theorem dX8_never_29 : decode cX8_never 29 = .ok (.aload_n 0, 1) := by decide +kernel
theorem dX8_never_30 : decode cX8_never 30 = .ok (.getfield 60, 3) := by decide +kernel
theorem dX8_never_33 : decode cX8_never 33 = .ok (.aload_n 0, 1) := by decide +kernel
theorem dX8_never_34 : decode cX8_never 34 = .ok (.getfield 53, 3) := by decide +kernel
theorem dX8_never_37 : decode cX8_never 37 = .ok (.bipush 12, 2) := by decide +kernel
theorem dX8_never_39 : decode cX8_never 39 = .ok (.invokevirtual 207, 3) := by decide +kernel
theorem dX8_never_42 : decode cX8_never 42 = .ok (.aload_n 0, 1) := by decide +kernel
theorem dX8_never_43 : decode cX8_never 43 = .ok (.getfield 60, 3) := by decide +kernel
theorem dX8_never_46 : decode cX8_never 46 = .ok (.aload_n 0, 1) := by decide +kernel
theorem dX8_never_47 : decode cX8_never 47 = .ok (.getfield 35, 3) := by decide +kernel
theorem dX8_never_50 : decode cX8_never 50 = .ok (.aload_n 0, 1) := by decide +kernel
theorem dX8_never_51 : decode cX8_never 51 = .ok (.getfield 53, 3) := by decide +kernel
theorem dX8_never_54 : decode cX8_never 54 = .ok (.getfield 161, 3) := by decide +kernel
theorem dX8_never_57 : decode cX8_never 57 = .ok (.invokevirtual 211, 3) := by decide +kernel
theorem dX8_never_60 : decode cX8_never 60 = .ok (.ifCond .eq 9, 3) := by decide +kernel
theorem dX8_never_63 : decode cX8_never 63 = .ok (.iload_n 1, 1) := by decide +kernel
theorem dX8_never_64 : decode cX8_never 64 = .ok (.iconst 1, 1) := by decide +kernel
theorem dX8_never_65 : decode cX8_never 65 = .ok (.iload_n 2, 1) := by decide +kernel
theorem dX8_never_66 : decode cX8_never 66 = .ok (.ishl, 1) := by decide +kernel
theorem dX8_never_67 : decode cX8_never 67 = .ok (.ior, 1) := by decide +kernel
theorem dX8_never_68 : decode cX8_never 68 = .ok (.istore_n 1, 1) := by decide +kernel
theorem dX8_never_69 : decode cX8_never 69 = .ok (.iinc 2 1, 3) := by decide +kernel
theorem dX8_never_72 : decode cX8_never 72 = .ok (.goto (-64), 3) := by decide +kernel
theorem dX8_never_75 : decode cX8_never 75 = .ok (.iload_n 1, 1) := by decide +kernel
theorem dX8_never_76 : decode cX8_never 76 = .ok (.ireturn, 1) := by decide +kernel
theorem dX8_looked_0 : decode cX8_looked 0 = .ok (.iload_n 1, 1) := by decide +kernel
theorem dX8_looked_1 : decode cX8_looked 1 = .ok (.aload_n 0, 1) := by decide +kernel
theorem dX8_looked_2 : decode cX8_looked 2 = .ok (.getfield 14, 3) := by decide +kernel
theorem dX8_looked_5 : decode cX8_looked 5 = .ok (.invokevirtual 100, 3) := by decide +kernel
theorem dX8_looked_8 : decode cX8_looked 8 = .ok (.invokestatic 104, 3) := by decide +kernel
theorem dX8_looked_11 : decode cX8_looked 11 = .ok (.ifCond .ne 6, 3) := by decide +kernel
theorem dX8_looked_14 : decode cX8_looked 14 = .ok (.bipush (-2), 2) := by decide +kernel
theorem dX8_looked_16 : decode cX8_looked 16 = .ok (.ireturn, 1) := by decide +kernel
theorem dX8_looked_17 : decode cX8_looked 17 = .ok (.aload_n 0, 1) := by decide +kernel
theorem dX8_looked_18 : decode cX8_looked 18 = .ok (.invokevirtual 201, 3) := by decide +kernel
theorem dX8_looked_21 : decode cX8_looked 21 = .ok (.iconst 0, 1) := by decide +kernel
theorem dX8_looked_22 : decode cX8_looked 22 = .ok (.istore_n 2, 1) := by decide +kernel
theorem dX8_looked_23 : decode cX8_looked 23 = .ok (.iconst 0, 1) := by decide +kernel
theorem dX8_looked_24 : decode cX8_looked 24 = .ok (.istore_n 3, 1) := by decide +kernel
theorem dX8_looked_25 : decode cX8_looked 25 = .ok (.iload_n 3, 1) := by decide +kernel
theorem dX8_looked_26 : decode cX8_looked 26 = .ok (.bipush 9, 2) := by decide +kernel
theorem dX8_looked_28 : decode cX8_looked 28 = .ok (.if_icmp .gt 59, 3) := by decide +kernel
theorem dX8_looked_31 : decode cX8_looked 31 = .ok (.aload_n 0, 1) := by decide +kernel
theorem dX8_looked_32 : decode cX8_looked 32 = .ok (.getfield 53, 3) := by decide +kernel
theorem dX8_looked_35 : decode cX8_looked 35 = .ok (.getfield 215, 3) := by decide +kernel
theorem dX8_looked_38 : decode cX8_looked 38 = .ok (.iload_n 1, 1) := by decide +kernel
theorem dX8_looked_39 : decode cX8_looked 39 = .ok (.iload_n 3, 1) := by decide +kernel
theorem dX8_looked_40 : decode cX8_looked 40 = .ok (.iastore, 1) := by decide +kernel
theorem dX8_looked_41 : decode cX8_looked 41 = .ok (.aload_n 0, 1) := by decide +kernel
theorem dX8_looked_42 : decode cX8_looked 42 = .ok (.getfield 60, 3) := by decide +kernel
theorem dX8_looked_45 : decode cX8_looked 45 = .ok (.aload_n 0, 1) := by decide +kernel
theorem dX8_looked_46 : decode cX8_looked 46 = .ok (.getfield 53, 3) := by decide +kernel
theorem dX8_looked_49 : decode cX8_looked 49 = .ok (.bipush 12, 2) := by decide +kernel
theorem dX8_looked_51 : decode cX8_looked 51 = .ok (.invokevirtual 207, 3) := by decide +kernel
theorem dX8_looked_54 : decode cX8_looked 54 = .ok (.aload_n 0, 1) := by decide +kernel
theorem dX8_looked_55 : decode cX8_looked 55 = .ok (.getfield 60, 3) := by decide +kernel
theorem dX8_looked_58 : decode cX8_looked 58 = .ok (.aload_n 0, 1) := by decide +kernel
theorem dX8_looked_59 : decode cX8_looked 59 = .ok (.getfield 35, 3) := by decide +kernel
theorem dX8_looked_62 : decode cX8_looked 62 = .ok (.aload_n 0, 1) := by decide +kernel
theorem dX8_looked_63 : decode cX8_looked 63 = .ok (.getfield 53, 3) := by decide +kernel
theorem dX8_looked_66 : decode cX8_looked 66 = .ok (.getfield 161, 3) := by decide +kernel
theorem dX8_looked_69 : decode cX8_looked 69 = .ok (.invokevirtual 211, 3) := by decide +kernel
theorem dX8_looked_72 : decode cX8_looked 72 = .ok (.ifCond .eq 9, 3) := by decide +kernel
theorem dX8_looked_75 : decode cX8_looked 75 = .ok (.iload_n 2, 1) := by decide +kernel
theorem dX8_looked_76 : decode cX8_looked 76 = .ok (.iconst 1, 1) := by decide +kernel
theorem dX8_looked_77 : decode cX8_looked 77 = .ok (.iload_n 3, 1) := by decide +kernel
theorem dX8_looked_78 : decode cX8_looked 78 = .ok (.ishl, 1) := by decide +kernel
theorem dX8_looked_79 : decode cX8_looked 79 = .ok (.ior, 1) := by decide +kernel
theorem dX8_looked_80 : decode cX8_looked 80 = .ok (.istore_n 2, 1) := by decide +kernel
theorem dX8_looked_81 : decode cX8_looked 81 = .ok (.iinc 3 1, 3) := by decide +kernel
theorem dX8_looked_84 : decode cX8_looked 84 = .ok (.goto (-59), 3) := by decide +kernel
theorem dX8_looked_87 : decode cX8_looked 87 = .ok (.iload_n 2, 1) := by decide +kernel
theorem dX8_looked_88 : decode cX8_looked 88 = .ok (.ireturn, 1) := by decide +kernel
theorem dX8_tastes_0 : decode cX8_tastes 0 = .ok (.iload_n 1, 1) := by decide +kernel
theorem dX8_tastes_1 : decode cX8_tastes 1 = .ok (.aload_n 0, 1) := by decide +kernel
theorem dX8_tastes_2 : decode cX8_tastes 2 = .ok (.getfield 18, 3) := by decide +kernel
theorem dX8_tastes_5 : decode cX8_tastes 5 = .ok (.invokevirtual 100, 3) := by decide +kernel
theorem dX8_tastes_8 : decode cX8_tastes 8 = .ok (.invokestatic 104, 3) := by decide +kernel
theorem dX8_tastes_11 : decode cX8_tastes 11 = .ok (.ifCond .ne 6, 3) := by decide +kernel
theorem dX8_tastes_14 : decode cX8_tastes 14 = .ok (.bipush (-2), 2) := by decide +kernel
theorem dX8_tastes_16 : decode cX8_tastes 16 = .ok (.ireturn, 1) := by decide +kernel
theorem dX8_tastes_17 : decode cX8_tastes 17 = .ok (.aload_n 0, 1) := by decide +kernel
theorem dX8_tastes_18 : decode cX8_tastes 18 = .ok (.invokevirtual 201, 3) := by decide +kernel
theorem dX8_tastes_21 : decode cX8_tastes 21 = .ok (.iconst 0, 1) := by decide +kernel
theorem dX8_tastes_22 : decode cX8_tastes 22 = .ok (.istore_n 2, 1) := by decide +kernel
theorem dX8_tastes_23 : decode cX8_tastes 23 = .ok (.iconst 0, 1) := by decide +kernel
theorem dX8_tastes_24 : decode cX8_tastes 24 = .ok (.istore_n 3, 1) := by decide +kernel
theorem dX8_tastes_25 : decode cX8_tastes 25 = .ok (.iload_n 3, 1) := by decide +kernel
theorem dX8_tastes_26 : decode cX8_tastes 26 = .ok (.iconst 3, 1) := by decide +kernel
theorem dX8_tastes_27 : decode cX8_tastes 27 = .ok (.if_icmp .ge 59, 3) := by decide +kernel
theorem dX8_tastes_30 : decode cX8_tastes 30 = .ok (.aload_n 0, 1) := by decide +kernel
theorem dX8_tastes_31 : decode cX8_tastes 31 = .ok (.getfield 53, 3) := by decide +kernel
theorem dX8_tastes_34 : decode cX8_tastes 34 = .ok (.getfield 218, 3) := by decide +kernel
theorem dX8_tastes_37 : decode cX8_tastes 37 = .ok (.iload_n 1, 1) := by decide +kernel
theorem dX8_tastes_38 : decode cX8_tastes 38 = .ok (.iload_n 3, 1) := by decide +kernel
theorem dX8_tastes_39 : decode cX8_tastes 39 = .ok (.iastore, 1) := by decide +kernel
theorem dX8_tastes_40 : decode cX8_tastes 40 = .ok (.aload_n 0, 1) := by decide +kernel
theorem dX8_tastes_41 : decode cX8_tastes 41 = .ok (.getfield 60, 3) := by decide +kernel
theorem dX8_tastes_44 : decode cX8_tastes 44 = .ok (.aload_n 0, 1) := by decide +kernel
theorem dX8_tastes_45 : decode cX8_tastes 45 = .ok (.getfield 53, 3) := by decide +kernel
theorem dX8_tastes_48 : decode cX8_tastes 48 = .ok (.bipush 12, 2) := by decide +kernel
theorem dX8_tastes_50 : decode cX8_tastes 50 = .ok (.invokevirtual 207, 3) := by decide +kernel
theorem dX8_tastes_53 : decode cX8_tastes 53 = .ok (.aload_n 0, 1) := by decide +kernel
theorem dX8_tastes_54 : decode cX8_tastes 54 = .ok (.getfield 60, 3) := by decide +kernel
theorem dX8_tastes_57 : decode cX8_tastes 57 = .ok (.aload_n 0, 1) := by decide +kernel
theorem dX8_tastes_58 : decode cX8_tastes 58 = .ok (.getfield 35, 3) := by decide +kernel
theorem dX8_tastes_61 : decode cX8_tastes 61 = .ok (.aload_n 0, 1) := by decide +kernel
theorem dX8_tastes_62 : decode cX8_tastes 62 = .ok (.getfield 53, 3) := by decide +kernel
theorem dX8_tastes_65 : decode cX8_tastes 65 = .ok (.getfield 161, 3) := by decide +kernel
theorem dX8_tastes_68 : decode cX8_tastes 68 = .ok (.invokevirtual 211, 3) := by decide +kernel
theorem dX8_tastes_71 : decode cX8_tastes 71 = .ok (.ifCond .eq 9, 3) := by decide +kernel
theorem dX8_tastes_74 : decode cX8_tastes 74 = .ok (.iload_n 2, 1) := by decide +kernel
theorem dX8_tastes_75 : decode cX8_tastes 75 = .ok (.iconst 1, 1) := by decide +kernel
theorem dX8_tastes_76 : decode cX8_tastes 76 = .ok (.iload_n 3, 1) := by decide +kernel
theorem dX8_tastes_77 : decode cX8_tastes 77 = .ok (.ishl, 1) := by decide +kernel
theorem dX8_tastes_78 : decode cX8_tastes 78 = .ok (.ior, 1) := by decide +kernel
theorem dX8_tastes_79 : decode cX8_tastes 79 = .ok (.istore_n 2, 1) := by decide +kernel
theorem dX8_tastes_80 : decode cX8_tastes 80 = .ok (.iinc 3 1, 3) := by decide +kernel
theorem dX8_tastes_83 : decode cX8_tastes 83 = .ok (.goto (-58), 3) := by decide +kernel
theorem dX8_tastes_86 : decode cX8_tastes 86 = .ok (.iload_n 2, 1) := by decide +kernel
theorem dX8_tastes_87 : decode cX8_tastes 87 = .ok (.ireturn, 1) := by decide +kernel
theorem dX8_ask_0 : decode cX8_ask 0 = .ok (.iload_n 1, 1) := by decide +kernel
theorem dX8_ask_1 : decode cX8_ask 1 = .ok (.aload_n 0, 1) := by decide +kernel
theorem dX8_ask_2 : decode cX8_ask 2 = .ok (.getfield 14, 3) := by decide +kernel
theorem dX8_ask_5 : decode cX8_ask 5 = .ok (.invokevirtual 100, 3) := by decide +kernel
theorem dX8_ask_8 : decode cX8_ask 8 = .ok (.invokestatic 104, 3) := by decide +kernel
theorem dX8_ask_11 : decode cX8_ask 11 = .ok (.ifCond .ne 6, 3) := by decide +kernel
theorem dX8_ask_14 : decode cX8_ask 14 = .ok (.bipush (-2), 2) := by decide +kernel
theorem dX8_ask_16 : decode cX8_ask 16 = .ok (.ireturn, 1) := by decide +kernel
theorem dX8_ask_17 : decode cX8_ask 17 = .ok (.aload_n 0, 1) := by decide +kernel
theorem dX8_ask_18 : decode cX8_ask 18 = .ok (.iload_n 1, 1) := by decide +kernel
theorem dX8_ask_19 : decode cX8_ask 19 = .ok (.invokevirtual 221, 3) := by decide +kernel
theorem dX8_ask_22 : decode cX8_ask 22 = .ok (.aload_n 0, 1) := by decide +kernel
theorem dX8_ask_23 : decode cX8_ask 23 = .ok (.getfield 67, 3) := by decide +kernel
theorem dX8_ask_26 : decode cX8_ask 26 = .ok (.invokevirtual 152, 3) := by decide +kernel
theorem dX8_ask_29 : decode cX8_ask 29 = .ok (.iconst 0, 1) := by decide +kernel
theorem dX8_ask_30 : decode cX8_ask 30 = .ok (.istore_n 2, 1) := by decide +kernel
theorem dX8_ask_31 : decode cX8_ask 31 = .ok (.iload_n 2, 1) := by decide +kernel
theorem dX8_ask_32 : decode cX8_ask 32 = .ok (.bipush 12, 2) := by decide +kernel
theorem dX8_ask_34 : decode cX8_ask 34 = .ok (.if_icmp .ge 23, 3) := by decide +kernel
theorem dX8_ask_37 : decode cX8_ask 37 = .ok (.aload_n 0, 1) := by decide +kernel
theorem dX8_ask_38 : decode cX8_ask 38 = .ok (.getfield 67, 3) := by decide +kernel
theorem dX8_ask_41 : decode cX8_ask 41 = .ok (.iload_n 2, 1) := by decide +kernel
theorem dX8_ask_42 : decode cX8_ask 42 = .ok (.aload_n 0, 1) := by decide +kernel
theorem dX8_ask_43 : decode cX8_ask 43 = .ok (.iload_n 2, 1) := by decide +kernel
theorem dX8_ask_44 : decode cX8_ask 44 = .ok (.invokevirtual 224, 3) := by decide +kernel
theorem dX8_ask_47 : decode cX8_ask 47 = .ok (.ineg, 1) := by decide +kernel
theorem dX8_ask_48 : decode cX8_ask 48 = .ok (.invokevirtual 155, 3) := by decide +kernel
theorem dX8_ask_51 : decode cX8_ask 51 = .ok (.iinc 2 1, 3) := by decide +kernel
theorem dX8_ask_54 : decode cX8_ask 54 = .ok (.goto (-23), 3) := by decide +kernel
theorem dX8_ask_57 : decode cX8_ask 57 = .ok (.aload_n 0, 1) := by decide +kernel
theorem dX8_ask_58 : decode cX8_ask 58 = .ok (.getfield 67, 3) := by decide +kernel
theorem dX8_ask_61 : decode cX8_ask 61 = .ok (.getfield 158, 3) := by decide +kernel
theorem dX8_ask_64 : decode cX8_ask 64 = .ok (.ireturn, 1) := by decide +kernel
theorem dX8_chance_0 : decode cX8_chance 0 = .ok (.iload_n 1, 1) := by decide +kernel
theorem dX8_chance_1 : decode cX8_chance 1 = .ok (.ifCond .lt 31, 3) := by decide +kernel
theorem dX8_chance_4 : decode cX8_chance 4 = .ok (.iload_n 1, 1) := by decide +kernel
theorem dX8_chance_5 : decode cX8_chance 5 = .ok (.bipush 16, 2) := by decide +kernel
theorem dX8_chance_7 : decode cX8_chance 7 = .ok (.if_icmp .gt 25, 3) := by decide +kernel
theorem dX8_chance_10 : decode cX8_chance 10 = .ok (.iload_n 2, 1) := by decide +kernel
theorem dX8_chance_11 : decode cX8_chance 11 = .ok (.aload_n 0, 1) := by decide +kernel
theorem dX8_chance_12 : decode cX8_chance 12 = .ok (.getfield 14, 3) := by decide +kernel
theorem dX8_chance_15 : decode cX8_chance 15 = .ok (.invokevirtual 100, 3) := by decide +kernel
theorem dX8_chance_18 : decode cX8_chance 18 = .ok (.invokestatic 104, 3) := by decide +kernel
theorem dX8_chance_21 : decode cX8_chance 21 = .ok (.ifCond .eq 11, 3) := by decide +kernel
theorem dX8_chance_24 : decode cX8_chance 24 = .ok (.iload_n 3, 1) := by decide +kernel
theorem dX8_chance_25 : decode cX8_chance 25 = .ok (.iconst 2, 1) := by decide +kernel
theorem dX8_chance_26 : decode cX8_chance 26 = .ok (.invokestatic 104, 3) := by decide +kernel
theorem dX8_chance_29 : decode cX8_chance 29 = .ok (.ifCond .ne 7, 3) := by decide +kernel
theorem dX8_chance_32 : decode cX8_chance 32 = .ok (.ldc2_w 229, 3) := by decide +kernel
theorem dX8_chance_35 : decode cX8_chance 35 = .ok (.lreturn, 1) := by decide +kernel
theorem dX8_chance_36 : decode cX8_chance 36 = .ok (.aload_n 0, 1) := by decide +kernel
theorem dX8_chance_37 : decode cX8_chance 37 = .ok (.iload_n 1, 1) := by decide +kernel
theorem dX8_chance_38 : decode cX8_chance 38 = .ok (.invokevirtual 231, 3) := by decide +kernel
theorem dX8_chance_41 : decode cX8_chance 41 = .ok (.aload_n 0, 1) := by decide +kernel
theorem dX8_chance_42 : decode cX8_chance 42 = .ok (.aload_n 0, 1) := by decide +kernel
theorem dX8_chance_43 : decode cX8_chance 43 = .ok (.getfield 71, 3) := by decide +kernel
theorem dX8_chance_46 : decode cX8_chance 46 = .ok (.iload_n 2, 1) := by decide +kernel
theorem dX8_chance_47 : decode cX8_chance 47 = .ok (.laload, 1) := by decide +kernel
theorem dX8_chance_48 : decode cX8_chance 48 = .ok (.iload_n 3, 1) := by decide +kernel
theorem dX8_chance_49 : decode cX8_chance 49 = .ok (.invokevirtual 234, 3) := by decide +kernel
theorem dX8_chance_52 : decode cX8_chance 52 = .ok (.lreturn, 1) := by decide +kernel
theorem dX8_years_0 : decode cX8_years 0 = .ok (.iload_n 2, 1) := by decide +kernel
theorem dX8_years_1 : decode cX8_years 1 = .ok (.bipush 13, 2) := by decide +kernel
theorem dX8_years_3 : decode cX8_years 3 = .ok (.invokestatic 104, 3) := by decide +kernel
theorem dX8_years_6 : decode cX8_years 6 = .ok (.ifCond .eq 11, 3) := by decide +kernel
theorem dX8_years_9 : decode cX8_years 9 = .ok (.iload_n 3, 1) := by decide +kernel
theorem dX8_years_10 : decode cX8_years 10 = .ok (.iconst 2, 1) := by decide +kernel
theorem dX8_years_11 : decode cX8_years 11 = .ok (.invokestatic 104, 3) := by decide +kernel
theorem dX8_years_14 : decode cX8_years 14 = .ok (.ifCond .ne 6, 3) := by decide +kernel
theorem dX8_years_17 : decode cX8_years 17 = .ok (.bipush (-2), 2) := by decide +kernel
theorem dX8_years_19 : decode cX8_years 19 = .ok (.ireturn, 1) := by decide +kernel
theorem dX8_years_20 : decode cX8_years 20 = .ok (.aload_n 0, 1) := by decide +kernel
theorem dX8_years_21 : decode cX8_years 21 = .ok (.invokevirtual 201, 3) := by decide +kernel
theorem dX8_years_24 : decode cX8_years 24 = .ok (.aload_n 0, 1) := by decide +kernel
theorem dX8_years_25 : decode cX8_years 25 = .ok (.iload_n 1, 1) := by decide +kernel
theorem dX8_years_26 : decode cX8_years 26 = .ok (.iload_n 2, 1) := by decide +kernel
theorem dX8_years_27 : decode cX8_years 27 = .ok (.invokevirtual 238, 3) := by decide +kernel
theorem dX8_years_30 : decode cX8_years 30 = .ok (.aload_n 0, 1) := by decide +kernel
theorem dX8_years_31 : decode cX8_years 31 = .ok (.getfield 60, 3) := by decide +kernel
theorem dX8_years_34 : decode cX8_years 34 = .ok (.aload_n 0, 1) := by decide +kernel
theorem dX8_years_35 : decode cX8_years 35 = .ok (.getfield 53, 3) := by decide +kernel
theorem dX8_years_38 : decode cX8_years 38 = .ok (.bipush 12, 2) := by decide +kernel
theorem dX8_years_40 : decode cX8_years 40 = .ok (.invokevirtual 207, 3) := by decide +kernel
theorem dX8_years_43 : decode cX8_years 43 = .ok (.iload_n 3, 1) := by decide +kernel
theorem dX8_years_44 : decode cX8_years 44 = .ok (.ifCond .ne 20, 3) := by decide +kernel
theorem dX8_years_47 : decode cX8_years 47 = .ok (.aload_n 0, 1) := by decide +kernel
theorem dX8_years_48 : decode cX8_years 48 = .ok (.getfield 60, 3) := by decide +kernel
theorem dX8_years_51 : decode cX8_years 51 = .ok (.aload_n 0, 1) := by decide +kernel
theorem dX8_years_52 : decode cX8_years 52 = .ok (.getfield 53, 3) := by decide +kernel
theorem dX8_years_55 : decode cX8_years 55 = .ok (.getfield 161, 3) := by decide +kernel
theorem dX8_years_58 : decode cX8_years 58 = .ok (.invokevirtual 163, 3) := by decide +kernel
theorem dX8_years_61 : decode cX8_years 61 = .ok (.goto 13, 3) := by decide +kernel
theorem dX8_years_64 : decode cX8_years 64 = .ok (.aload_n 0, 1) := by decide +kernel
theorem dX8_years_65 : decode cX8_years 65 = .ok (.getfield 60, 3) := by decide +kernel
theorem dX8_years_68 : decode cX8_years 68 = .ok (.getfield 166, 3) := by decide +kernel
theorem dX8_years_71 : decode cX8_years 71 = .ok (.invokestatic 187, 3) := by decide +kernel
theorem dX8_years_74 : decode cX8_years 74 = .ok (.ireturn, 1) := by decide +kernel
theorem dX8_sheet_0 : decode cX8_sheet 0 = .ok (.iload_n 1, 1) := by decide +kernel
theorem dX8_sheet_1 : decode cX8_sheet 1 = .ok (.iconst 4, 1) := by decide +kernel
theorem dX8_sheet_2 : decode cX8_sheet 2 = .ok (.invokestatic 104, 3) := by decide +kernel
theorem dX8_sheet_5 : decode cX8_sheet 5 = .ok (.ifCond .eq 17, 3) := by decide +kernel
theorem dX8_sheet_8 : decode cX8_sheet 8 = .ok (.iload_n 2, 1) := by decide +kernel
theorem dX8_sheet_9 : decode cX8_sheet 9 = .ok (.iconst 3, 1) := by decide +kernel
theorem dX8_sheet_10 : decode cX8_sheet 10 = .ok (.invokestatic 104, 3) := by decide +kernel
theorem dX8_sheet_13 : decode cX8_sheet 13 = .ok (.ifCond .eq 9, 3) := by decide +kernel
theorem dX8_sheet_16 : decode cX8_sheet 16 = .ok (.iload_n 3, 1) := by decide +kernel
theorem dX8_sheet_17 : decode cX8_sheet 17 = .ok (.bipush 60, 2) := by decide +kernel
theorem dX8_sheet_19 : decode cX8_sheet 19 = .ok (.if_icmp .le 6, 3) := by decide +kernel
theorem dX8_sheet_22 : decode cX8_sheet 22 = .ok (.bipush (-2), 2) := by decide +kernel
theorem dX8_sheet_24 : decode cX8_sheet 24 = .ok (.ireturn, 1) := by decide +kernel
theorem dX8_sheet_25 : decode cX8_sheet 25 = .ok (.iload_n 3, 1) := by decide +kernel
theorem dX8_sheet_26 : decode cX8_sheet 26 = .ok (.ifCond .ge 9, 3) := by decide +kernel
theorem dX8_sheet_29 : decode cX8_sheet 29 = .ok (.aload_n 0, 1) := by decide +kernel
theorem dX8_sheet_30 : decode cX8_sheet 30 = .ok (.iconst 5, 1) := by decide +kernel
theorem dX8_sheet_31 : decode cX8_sheet 31 = .ok (.invokevirtual 125, 3) := by decide +kernel
theorem dX8_sheet_34 : decode cX8_sheet 34 = .ok (.ireturn, 1) := by decide +kernel
theorem dX8_sheet_35 : decode cX8_sheet 35 = .ok (.aload_n 0, 1) := by decide +kernel
theorem dX8_sheet_36 : decode cX8_sheet 36 = .ok (.getfield 40, 3) := by decide +kernel
theorem dX8_sheet_39 : decode cX8_sheet 39 = .ok (.iload_n 1, 1) := by decide +kernel
theorem dX8_sheet_40 : decode cX8_sheet 40 = .ok (.aaload, 1) := by decide +kernel
theorem dX8_sheet_41 : decode cX8_sheet 41 = .ok (.iload_n 2, 1) := by decide +kernel
theorem dX8_sheet_42 : decode cX8_sheet 42 = .ok (.iload_n 3, 1) := by decide +kernel
theorem dX8_sheet_43 : decode cX8_sheet 43 = .ok (.invokevirtual 241, 3) := by decide +kernel
theorem dX8_sheet_46 : decode cX8_sheet 46 = .ok (.iload_n 3, 1) := by decide +kernel
theorem dX8_sheet_47 : decode cX8_sheet 47 = .ok (.ireturn, 1) := by decide +kernel
theorem dX8_lose_0 : decode cX8_lose 0 = .ok (.iload_n 1, 1) := by decide +kernel
theorem dX8_lose_1 : decode cX8_lose 1 = .ok (.iconst 4, 1) := by decide +kernel
theorem dX8_lose_2 : decode cX8_lose 2 = .ok (.invokestatic 104, 3) := by decide +kernel
theorem dX8_lose_5 : decode cX8_lose 5 = .ok (.ifCond .ne 6, 3) := by decide +kernel
theorem dX8_lose_8 : decode cX8_lose 8 = .ok (.bipush (-2), 2) := by decide +kernel
theorem dX8_lose_10 : decode cX8_lose 10 = .ok (.ireturn, 1) := by decide +kernel
theorem dX8_lose_11 : decode cX8_lose 11 = .ok (.aload_n 0, 1) := by decide +kernel
theorem dX8_lose_12 : decode cX8_lose 12 = .ok (.getfield 40, 3) := by decide +kernel
theorem dX8_lose_15 : decode cX8_lose 15 = .ok (.iload_n 1, 1) := by decide +kernel
theorem dX8_lose_16 : decode cX8_lose 16 = .ok (.aaload, 1) := by decide +kernel
theorem dX8_lose_17 : decode cX8_lose 17 = .ok (.invokevirtual 121, 3) := by decide +kernel
theorem dX8_lose_20 : decode cX8_lose 20 = .ok (.ifCond .eq 9, 3) := by decide +kernel
theorem dX8_lose_23 : decode cX8_lose 23 = .ok (.aload_n 0, 1) := by decide +kernel
theorem dX8_lose_24 : decode cX8_lose 24 = .ok (.iconst 1, 1) := by decide +kernel
theorem dX8_lose_25 : decode cX8_lose 25 = .ok (.invokevirtual 125, 3) := by decide +kernel
theorem dX8_lose_28 : decode cX8_lose 28 = .ok (.ireturn, 1) := by decide +kernel
theorem dX8_lose_29 : decode cX8_lose 29 = .ok (.aload_n 0, 1) := by decide +kernel
theorem dX8_lose_30 : decode cX8_lose 30 = .ok (.getfield 40, 3) := by decide +kernel
theorem dX8_lose_33 : decode cX8_lose 33 = .ok (.iload_n 1, 1) := by decide +kernel
theorem dX8_lose_34 : decode cX8_lose 34 = .ok (.aaload, 1) := by decide +kernel
theorem dX8_lose_35 : decode cX8_lose 35 = .ok (.iconst (-1), 1) := by decide +kernel
theorem dX8_lose_36 : decode cX8_lose 36 = .ok (.putfield 244, 3) := by decide +kernel
theorem dX8_lose_39 : decode cX8_lose 39 = .ok (.aload_n 0, 1) := by decide +kernel
theorem dX8_lose_40 : decode cX8_lose 40 = .ok (.getfield 40, 3) := by decide +kernel
theorem dX8_lose_43 : decode cX8_lose 43 = .ok (.iload_n 1, 1) := by decide +kernel
theorem dX8_lose_44 : decode cX8_lose 44 = .ok (.aaload, 1) := by decide +kernel
theorem dX8_lose_45 : decode cX8_lose 45 = .ok (.getfield 129, 3) := by decide +kernel
theorem dX8_lose_48 : decode cX8_lose 48 = .ok (.ireturn, 1) := by decide +kernel
theorem dX8_lay_0 : decode cX8_lay 0 = .ok (.iload_n 1, 1) := by decide +kernel
theorem dX8_lay_1 : decode cX8_lay 1 = .ok (.iconst 4, 1) := by decide +kernel
theorem dX8_lay_2 : decode cX8_lay 2 = .ok (.invokestatic 104, 3) := by decide +kernel
theorem dX8_lay_5 : decode cX8_lay 5 = .ok (.ifCond .eq 11, 3) := by decide +kernel
theorem dX8_lay_8 : decode cX8_lay 8 = .ok (.iload_n 2, 1) := by decide +kernel
theorem dX8_lay_9 : decode cX8_lay 9 = .ok (.iconst 3, 1) := by decide +kernel
theorem dX8_lay_10 : decode cX8_lay 10 = .ok (.invokestatic 104, 3) := by decide +kernel
theorem dX8_lay_13 : decode cX8_lay 13 = .ok (.ifCond .ne 6, 3) := by decide +kernel
theorem dX8_lay_16 : decode cX8_lay 16 = .ok (.bipush (-2), 2) := by decide +kernel
theorem dX8_lay_18 : decode cX8_lay 18 = .ok (.ireturn, 1) := by decide +kernel
theorem dX8_lay_19 : decode cX8_lay 19 = .ok (.aload_n 0, 1) := by decide +kernel
theorem dX8_lay_20 : decode cX8_lay 20 = .ok (.getfield 40, 3) := by decide +kernel
theorem dX8_lay_23 : decode cX8_lay 23 = .ok (.iload_n 1, 1) := by decide +kernel
theorem dX8_lay_24 : decode cX8_lay 24 = .ok (.aaload, 1) := by decide +kernel
theorem dX8_lay_25 : decode cX8_lay 25 = .ok (.iload_n 2, 1) := by decide +kernel
theorem dX8_lay_26 : decode cX8_lay 26 = .ok (.iload_n 3, 1) := by decide +kernel
theorem dX8_lay_27 : decode cX8_lay 27 = .ok (.invokevirtual 247, 3) := by decide +kernel
theorem dX8_lay_30 : decode cX8_lay 30 = .ok (.istore 5, 2) := by decide +kernel
theorem dX8_lay_32 : decode cX8_lay 32 = .ok (.iload 5, 2) := by decide +kernel
theorem dX8_lay_34 : decode cX8_lay 34 = .ok (.ifCond .eq 10, 3) := by decide +kernel
theorem dX8_lay_37 : decode cX8_lay 37 = .ok (.aload_n 0, 1) := by decide +kernel
theorem dX8_lay_38 : decode cX8_lay 38 = .ok (.iload 5, 2) := by decide +kernel
theorem dX8_lay_40 : decode cX8_lay 40 = .ok (.invokevirtual 125, 3) := by decide +kernel
theorem dX8_lay_43 : decode cX8_lay 43 = .ok (.ireturn, 1) := by decide +kernel
theorem dX8_lay_44 : decode cX8_lay 44 = .ok (.aload_n 0, 1) := by decide +kernel
theorem dX8_lay_45 : decode cX8_lay 45 = .ok (.getfield 40, 3) := by decide +kernel
theorem dX8_lay_48 : decode cX8_lay 48 = .ok (.iload_n 1, 1) := by decide +kernel
theorem dX8_lay_49 : decode cX8_lay 49 = .ok (.aaload, 1) := by decide +kernel
theorem dX8_lay_50 : decode cX8_lay 50 = .ok (.iload_n 3, 1) := by decide +kernel
theorem dX8_lay_51 : decode cX8_lay 51 = .ok (.iload 4, 2) := by decide +kernel
theorem dX8_lay_53 : decode cX8_lay 53 = .ok (.invokevirtual 250, 3) := by decide +kernel
theorem dX8_lay_56 : decode cX8_lay 56 = .ok (.iconst 1, 1) := by decide +kernel
theorem dX8_lay_57 : decode cX8_lay 57 = .ok (.ireturn, 1) := by decide +kernel
theorem dX8_get_0 : decode cX8_get 0 = .ok (.iload_n 1, 1) := by decide +kernel
theorem dX8_get_1 : decode cX8_get 1 = .ok (.iconst 4, 1) := by decide +kernel
theorem dX8_get_2 : decode cX8_get 2 = .ok (.invokestatic 104, 3) := by decide +kernel
theorem dX8_get_5 : decode cX8_get 5 = .ok (.ifCond .eq 11, 3) := by decide +kernel
theorem dX8_get_8 : decode cX8_get 8 = .ok (.iload_n 2, 1) := by decide +kernel
theorem dX8_get_9 : decode cX8_get 9 = .ok (.iconst 3, 1) := by decide +kernel
theorem dX8_get_10 : decode cX8_get 10 = .ok (.invokestatic 104, 3) := by decide +kernel
theorem dX8_get_13 : decode cX8_get 13 = .ok (.ifCond .ne 6, 3) := by decide +kernel
theorem dX8_get_16 : decode cX8_get 16 = .ok (.ldc 253, 2) := by decide +kernel
theorem dX8_get_18 : decode cX8_get 18 = .ok (.ireturn, 1) := by decide +kernel
theorem dX8_get_19 : decode cX8_get 19 = .ok (.aload_n 0, 1) := by decide +kernel
theorem dX8_get_20 : decode cX8_get 20 = .ok (.getfield 40, 3) := by decide +kernel
theorem dX8_get_23 : decode cX8_get 23 = .ok (.iload_n 1, 1) := by decide +kernel
theorem dX8_get_24 : decode cX8_get 24 = .ok (.aaload, 1) := by decide +kernel
theorem dX8_get_25 : decode cX8_get 25 = .ok (.iload_n 2, 1) := by decide +kernel
theorem dX8_get_26 : decode cX8_get 26 = .ok (.iload_n 3, 1) := by decide +kernel
theorem dX8_get_27 : decode cX8_get 27 = .ok (.invokevirtual 247, 3) := by decide +kernel
theorem dX8_get_30 : decode cX8_get 30 = .ok (.istore 4, 2) := by decide +kernel
theorem dX8_get_32 : decode cX8_get 32 = .ok (.iload 4, 2) := by decide +kernel
theorem dX8_get_34 : decode cX8_get 34 = .ok (.ifCond .eq 13, 3) := by decide +kernel
theorem dX8_get_37 : decode cX8_get 37 = .ok (.aload_n 0, 1) := by decide +kernel
theorem dX8_get_38 : decode cX8_get 38 = .ok (.iload 4, 2) := by decide +kernel
theorem dX8_get_40 : decode cX8_get 40 = .ok (.invokevirtual 125, 3) := by decide +kernel
theorem dX8_get_43 : decode cX8_get 43 = .ok (.pop, 1) := by decide +kernel
theorem dX8_get_44 : decode cX8_get 44 = .ok (.ldc 253, 2) := by decide +kernel
theorem dX8_get_46 : decode cX8_get 46 = .ok (.ireturn, 1) := by decide +kernel
theorem dX8_get_47 : decode cX8_get 47 = .ok (.aload_n 0, 1) := by decide +kernel
theorem dX8_get_48 : decode cX8_get 48 = .ok (.getfield 40, 3) := by decide +kernel
theorem dX8_get_51 : decode cX8_get 51 = .ok (.iload_n 1, 1) := by decide +kernel
theorem dX8_get_52 : decode cX8_get 52 = .ok (.aaload, 1) := by decide +kernel
theorem dX8_get_53 : decode cX8_get 53 = .ok (.getfield 130, 3) := by decide +kernel
theorem dX8_get_56 : decode cX8_get 56 = .ok (.iload_n 3, 1) := by decide +kernel
theorem dX8_get_57 : decode cX8_get 57 = .ok (.iaload, 1) := by decide +kernel
theorem dX8_get_58 : decode cX8_get 58 = .ok (.ireturn, 1) := by decide +kernel
theorem dX8_copy_0 : decode cX8_copy 0 = .ok (.iload_n 1, 1) := by decide +kernel
theorem dX8_copy_1 : decode cX8_copy 1 = .ok (.iconst 4, 1) := by decide +kernel
theorem dX8_copy_2 : decode cX8_copy 2 = .ok (.invokestatic 104, 3) := by decide +kernel
theorem dX8_copy_5 : decode cX8_copy 5 = .ok (.ifCond .eq 11, 3) := by decide +kernel
theorem dX8_copy_8 : decode cX8_copy 8 = .ok (.iload_n 3, 1) := by decide +kernel
theorem dX8_copy_9 : decode cX8_copy 9 = .ok (.iconst 4, 1) := by decide +kernel
theorem dX8_copy_10 : decode cX8_copy 10 = .ok (.invokestatic 104, 3) := by decide +kernel
theorem dX8_copy_13 : decode cX8_copy 13 = .ok (.ifCond .ne 6, 3) := by decide +kernel
theorem dX8_copy_16 : decode cX8_copy 16 = .ok (.bipush (-2), 2) := by decide +kernel
theorem dX8_copy_18 : decode cX8_copy 18 = .ok (.ireturn, 1) := by decide +kernel
theorem dX8_copy_19 : decode cX8_copy 19 = .ok (.aload_n 0, 1) := by decide +kernel
theorem dX8_copy_20 : decode cX8_copy 20 = .ok (.getfield 40, 3) := by decide +kernel
theorem dX8_copy_23 : decode cX8_copy 23 = .ok (.iload_n 1, 1) := by decide +kernel
theorem dX8_copy_24 : decode cX8_copy 24 = .ok (.aaload, 1) := by decide +kernel
theorem dX8_copy_25 : decode cX8_copy 25 = .ok (.astore 6, 2) := by decide +kernel
theorem dX8_copy_27 : decode cX8_copy 27 = .ok (.aload_n 0, 1) := by decide +kernel
theorem dX8_copy_28 : decode cX8_copy 28 = .ok (.getfield 40, 3) := by decide +kernel
theorem dX8_copy_31 : decode cX8_copy 31 = .ok (.iload_n 3, 1) := by decide +kernel
theorem dX8_copy_32 : decode cX8_copy 32 = .ok (.aaload, 1) := by decide +kernel
theorem dX8_copy_33 : decode cX8_copy 33 = .ok (.astore 7, 2) := by decide +kernel
theorem dX8_copy_35 : decode cX8_copy 35 = .ok (.aload 6, 2) := by decide +kernel
theorem dX8_copy_37 : decode cX8_copy 37 = .ok (.invokevirtual 121, 3) := by decide +kernel
theorem dX8_copy_40 : decode cX8_copy 40 = .ok (.ifCond .ne 11, 3) := by decide +kernel
theorem dX8_copy_43 : decode cX8_copy 43 = .ok (.aload 7, 2) := by decide +kernel
theorem dX8_copy_45 : decode cX8_copy 45 = .ok (.invokevirtual 121, 3) := by decide +kernel
theorem dX8_copy_48 : decode cX8_copy 48 = .ok (.ifCond .eq 9, 3) := by decide +kernel
theorem dX8_copy_51 : decode cX8_copy 51 = .ok (.aload_n 0, 1) := by decide +kernel
theorem dX8_copy_52 : decode cX8_copy 52 = .ok (.iconst 1, 1) := by decide +kernel
theorem dX8_copy_53 : decode cX8_copy 53 = .ok (.invokevirtual 125, 3) := by decide +kernel
theorem dX8_copy_56 : decode cX8_copy 56 = .ok (.ireturn, 1) := by decide +kernel
theorem dX8_copy_57 : decode cX8_copy 57 = .ok (.aload 6, 2) := by decide +kernel
theorem dX8_copy_59 : decode cX8_copy 59 = .ok (.getfield 244, 3) := by decide +kernel
theorem dX8_copy_62 : decode cX8_copy 62 = .ok (.aload 7, 2) := by decide +kernel
theorem dX8_copy_64 : decode cX8_copy 64 = .ok (.getfield 244, 3) := by decide +kernel
theorem dX8_copy_67 : decode cX8_copy 67 = .ok (.if_icmp .eq 9, 3) := by decide +kernel
theorem dX8_copy_70 : decode cX8_copy 70 = .ok (.aload_n 0, 1) := by decide +kernel
theorem dX8_copy_71 : decode cX8_copy 71 = .ok (.iconst 4, 1) := by decide +kernel
theorem dX8_copy_72 : decode cX8_copy 72 = .ok (.invokevirtual 125, 3) := by decide +kernel
theorem dX8_copy_75 : decode cX8_copy 75 = .ok (.ireturn, 1) := by decide +kernel
theorem dX8_copy_76 : decode cX8_copy 76 = .ok (.aload 6, 2) := by decide +kernel
theorem dX8_copy_78 : decode cX8_copy 78 = .ok (.iload_n 2, 1) := by decide +kernel
theorem dX8_copy_79 : decode cX8_copy 79 = .ok (.iload 5, 2) := by decide +kernel
theorem dX8_copy_81 : decode cX8_copy 81 = .ok (.invokevirtual 254, 3) := by decide +kernel
theorem dX8_copy_84 : decode cX8_copy 84 = .ok (.ifCond .eq 15, 3) := by decide +kernel
theorem dX8_copy_87 : decode cX8_copy 87 = .ok (.aload 7, 2) := by decide +kernel
theorem dX8_copy_89 : decode cX8_copy 89 = .ok (.iload 4, 2) := by decide +kernel
theorem dX8_copy_91 : decode cX8_copy 91 = .ok (.iload 5, 2) := by decide +kernel
theorem dX8_copy_93 : decode cX8_copy 93 = .ok (.invokevirtual 254, 3) := by decide +kernel
theorem dX8_copy_96 : decode cX8_copy 96 = .ok (.ifCond .ne 9, 3) := by decide +kernel
theorem dX8_copy_99 : decode cX8_copy 99 = .ok (.aload_n 0, 1) := by decide +kernel
theorem dX8_copy_100 : decode cX8_copy 100 = .ok (.iconst 2, 1) := by decide +kernel
theorem dX8_copy_101 : decode cX8_copy 101 = .ok (.invokevirtual 125, 3) := by decide +kernel
theorem dX8_copy_104 : decode cX8_copy 104 = .ok (.ireturn, 1) := by decide +kernel
theorem dX8_copy_105 : decode cX8_copy 105 = .ok (.aload 6, 2) := by decide +kernel
theorem dX8_copy_107 : decode cX8_copy 107 = .ok (.getfield 130, 3) := by decide +kernel
theorem dX8_copy_110 : decode cX8_copy 110 = .ok (.iload_n 2, 1) := by decide +kernel
theorem dX8_copy_111 : decode cX8_copy 111 = .ok (.aload 7, 2) := by decide +kernel
theorem dX8_copy_113 : decode cX8_copy 113 = .ok (.getfield 130, 3) := by decide +kernel
theorem dX8_copy_116 : decode cX8_copy 116 = .ok (.iload 4, 2) := by decide +kernel
theorem dX8_copy_118 : decode cX8_copy 118 = .ok (.iload 5, 2) := by decide +kernel
theorem dX8_copy_120 : decode cX8_copy 120 = .ok (.invokestatic 257, 3) := by decide +kernel
theorem dX8_copy_123 : decode cX8_copy 123 = .ok (.iconst 1, 1) := by decide +kernel
theorem dX8_copy_124 : decode cX8_copy 124 = .ok (.ireturn, 1) := by decide +kernel
theorem dX8_write_0 : decode cX8_write 0 = .ok (.iload_n 1, 1) := by decide +kernel
theorem dX8_write_1 : decode cX8_write 1 = .ok (.aload_n 0, 1) := by decide +kernel
theorem dX8_write_2 : decode cX8_write 2 = .ok (.getfield 14, 3) := by decide +kernel
theorem dX8_write_5 : decode cX8_write 5 = .ok (.invokevirtual 100, 3) := by decide +kernel
theorem dX8_write_8 : decode cX8_write 8 = .ok (.invokestatic 104, 3) := by decide +kernel
theorem dX8_write_11 : decode cX8_write 11 = .ok (.ifCond .eq 11, 3) := by decide +kernel
theorem dX8_write_14 : decode cX8_write 14 = .ok (.iload_n 2, 1) := by decide +kernel
theorem dX8_write_15 : decode cX8_write 15 = .ok (.iconst 4, 1) := by decide +kernel
theorem dX8_write_16 : decode cX8_write 16 = .ok (.invokestatic 104, 3) := by decide +kernel
theorem dX8_write_19 : decode cX8_write 19 = .ok (.ifCond .ne 6, 3) := by decide +kernel
theorem dX8_write_22 : decode cX8_write 22 = .ok (.bipush (-2), 2) := by decide +kernel
theorem dX8_write_24 : decode cX8_write 24 = .ok (.ireturn, 1) := by decide +kernel
theorem dX8_write_25 : decode cX8_write 25 = .ok (.aload_n 0, 1) := by decide +kernel
theorem dX8_write_26 : decode cX8_write 26 = .ok (.getfield 40, 3) := by decide +kernel
theorem dX8_write_29 : decode cX8_write 29 = .ok (.iload_n 2, 1) := by decide +kernel
theorem dX8_write_30 : decode cX8_write 30 = .ok (.aaload, 1) := by decide +kernel
theorem dX8_write_31 : decode cX8_write 31 = .ok (.astore_n 3, 1) := by decide +kernel
theorem dX8_write_32 : decode cX8_write 32 = .ok (.aload_n 3, 1) := by decide +kernel
theorem dX8_write_33 : decode cX8_write 33 = .ok (.invokevirtual 121, 3) := by decide +kernel
theorem dX8_write_36 : decode cX8_write 36 = .ok (.ifCond .eq 9, 3) := by decide +kernel
theorem dX8_write_39 : decode cX8_write 39 = .ok (.aload_n 0, 1) := by decide +kernel
theorem dX8_write_40 : decode cX8_write 40 = .ok (.iconst 1, 1) := by decide +kernel
theorem dX8_write_41 : decode cX8_write 41 = .ok (.invokevirtual 125, 3) := by decide +kernel
theorem dX8_write_44 : decode cX8_write 44 = .ok (.ireturn, 1) := by decide +kernel
theorem dX8_write_45 : decode cX8_write 45 = .ok (.aload_n 3, 1) := by decide +kernel
theorem dX8_write_46 : decode cX8_write 46 = .ok (.getfield 129, 3) := by decide +kernel
theorem dX8_write_49 : decode cX8_write 49 = .ok (.bipush 12, 2) := by decide +kernel
theorem dX8_write_51 : decode cX8_write 51 = .ok (.invokestatic 263, 3) := by decide +kernel
theorem dX8_write_54 : decode cX8_write 54 = .ok (.istore 4, 2) := by decide +kernel
theorem dX8_write_56 : decode cX8_write 56 = .ok (.iconst 0, 1) := by decide +kernel
theorem dX8_write_57 : decode cX8_write 57 = .ok (.istore 5, 2) := by decide +kernel
theorem dX8_write_59 : decode cX8_write 59 = .ok (.iload 5, 2) := by decide +kernel
theorem dX8_write_61 : decode cX8_write 61 = .ok (.iload 4, 2) := by decide +kernel
theorem dX8_write_63 : decode cX8_write 63 = .ok (.if_icmp .ge 32, 3) := by decide +kernel
theorem dX8_write_66 : decode cX8_write 66 = .ok (.aload_n 0, 1) := by decide +kernel
theorem dX8_write_67 : decode cX8_write 67 = .ok (.iload 5, 2) := by decide +kernel
theorem dX8_write_69 : decode cX8_write 69 = .ok (.iconst 1, 1) := by decide +kernel
theorem dX8_write_70 : decode cX8_write 70 = .ok (.iadd, 1) := by decide +kernel
theorem dX8_write_71 : decode cX8_write 71 = .ok (.invokevirtual 133, 3) := by decide +kernel
theorem dX8_write_74 : decode cX8_write 74 = .ok (.aload_n 3, 1) := by decide +kernel
theorem dX8_write_75 : decode cX8_write 75 = .ok (.iload 5, 2) := by decide +kernel
theorem dX8_write_77 : decode cX8_write 77 = .ok (.aload_n 0, 1) := by decide +kernel
theorem dX8_write_78 : decode cX8_write 78 = .ok (.getfield 60, 3) := by decide +kernel
theorem dX8_write_81 : decode cX8_write 81 = .ok (.getfield 268, 3) := by decide +kernel
theorem dX8_write_84 : decode cX8_write 84 = .ok (.iload_n 1, 1) := by decide +kernel
theorem dX8_write_85 : decode cX8_write 85 = .ok (.iaload, 1) := by decide +kernel
theorem dX8_write_86 : decode cX8_write 86 = .ok (.invokevirtual 250, 3) := by decide +kernel
theorem dX8_write_89 : decode cX8_write 89 = .ok (.iinc 5 1, 3) := by decide +kernel
theorem dX8_write_92 : decode cX8_write 92 = .ok (.goto (-33), 3) := by decide +kernel
theorem dX8_write_95 : decode cX8_write 95 = .ok (.iload 4, 2) := by decide +kernel
theorem dX8_write_97 : decode cX8_write 97 = .ok (.ireturn, 1) := by decide +kernel
theorem dX8_count_0 : decode cX8_count 0 = .ok (.iload_n 1, 1) := by decide +kernel
theorem dX8_count_1 : decode cX8_count 1 = .ok (.tableswitch 120 0 8 #[51, 59, 67, 75, 83, 91, 99, 107, 115], 51) := by decide +kernel
theorem dX8_count_52 : decode cX8_count 52 = .ok (.aload_n 0, 1) := by decide +kernel
theorem dX8_count_53 : decode cX8_count 53 = .ok (.getfield 14, 3) := by decide +kernel
theorem dX8_count_56 : decode cX8_count 56 = .ok (.invokevirtual 100, 3) := by decide +kernel
theorem dX8_count_59 : decode cX8_count 59 = .ok (.ireturn, 1) := by decide +kernel
theorem dX8_count_60 : decode cX8_count 60 = .ok (.aload_n 0, 1) := by decide +kernel
theorem dX8_count_61 : decode cX8_count 61 = .ok (.getfield 18, 3) := by decide +kernel
theorem dX8_count_64 : decode cX8_count 64 = .ok (.invokevirtual 100, 3) := by decide +kernel
theorem dX8_count_67 : decode cX8_count 67 = .ok (.ireturn, 1) := by decide +kernel
theorem dX8_count_68 : decode cX8_count 68 = .ok (.aload_n 0, 1) := by decide +kernel
theorem dX8_count_69 : decode cX8_count 69 = .ok (.getfield 24, 3) := by decide +kernel
theorem dX8_count_72 : decode cX8_count 72 = .ok (.invokevirtual 271, 3) := by decide +kernel
theorem dX8_count_75 : decode cX8_count 75 = .ok (.ireturn, 1) := by decide +kernel
theorem dX8_count_76 : decode cX8_count 76 = .ok (.aload_n 0, 1) := by decide +kernel
theorem dX8_count_77 : decode cX8_count 77 = .ok (.getfield 14, 3) := by decide +kernel
theorem dX8_count_80 : decode cX8_count 80 = .ok (.getfield 272, 3) := by decide +kernel
theorem dX8_count_83 : decode cX8_count 83 = .ok (.ireturn, 1) := by decide +kernel
theorem dX8_count_84 : decode cX8_count 84 = .ok (.aload_n 0, 1) := by decide +kernel
theorem dX8_count_85 : decode cX8_count 85 = .ok (.getfield 18, 3) := by decide +kernel
theorem dX8_count_88 : decode cX8_count 88 = .ok (.getfield 272, 3) := by decide +kernel
theorem dX8_count_91 : decode cX8_count 91 = .ok (.ireturn, 1) := by decide +kernel
theorem dX8_count_92 : decode cX8_count 92 = .ok (.aload_n 0, 1) := by decide +kernel
theorem dX8_count_93 : decode cX8_count 93 = .ok (.getfield 24, 3) := by decide +kernel
theorem dX8_count_96 : decode cX8_count 96 = .ok (.getfield 273, 3) := by decide +kernel
theorem dX8_count_99 : decode cX8_count 99 = .ok (.ireturn, 1) := by decide +kernel
theorem dX8_count_100 : decode cX8_count 100 = .ok (.aload_n 0, 1) := by decide +kernel
theorem dX8_count_101 : decode cX8_count 101 = .ok (.getfield 31, 3) := by decide +kernel
theorem dX8_count_104 : decode cX8_count 104 = .ok (.getfield 119, 3) := by decide +kernel
theorem dX8_count_107 : decode cX8_count 107 = .ok (.ireturn, 1) := by decide +kernel
theorem dX8_count_108 : decode cX8_count 108 = .ok (.aload_n 0, 1) := by decide +kernel
theorem dX8_count_109 : decode cX8_count 109 = .ok (.getfield 35, 3) := by decide +kernel
theorem dX8_count_112 : decode cX8_count 112 = .ok (.getfield 119, 3) := by decide +kernel
theorem dX8_count_115 : decode cX8_count 115 = .ok (.ireturn, 1) := by decide +kernel
theorem dX8_count_116 : decode cX8_count 116 = .ok (.aload_n 0, 1) := by decide +kernel
theorem dX8_count_117 : decode cX8_count 117 = .ok (.getfield 44, 3) := by decide +kernel
theorem dX8_count_120 : decode cX8_count 120 = .ok (.ireturn, 1) := by decide +kernel
theorem dX8_count_121 : decode cX8_count 121 = .ok (.bipush (-2), 2) := by decide +kernel
theorem dX8_count_123 : decode cX8_count 123 = .ok (.ireturn, 1) := by decide +kernel
theorem dX8_digest_0 : decode cX8_digest 0 = .ok (.ldc2_w 274, 3) := by decide +kernel
theorem dX8_digest_3 : decode cX8_digest 3 = .ok (.lstore_n 1, 1) := by decide +kernel
theorem dX8_digest_4 : decode cX8_digest 4 = .ok (.iconst 0, 1) := by decide +kernel
theorem dX8_digest_5 : decode cX8_digest 5 = .ok (.istore_n 3, 1) := by decide +kernel
theorem dX8_digest_6 : decode cX8_digest 6 = .ok (.iload_n 3, 1) := by decide +kernel
theorem dX8_digest_7 : decode cX8_digest 7 = .ok (.bipush 8, 2) := by decide +kernel
theorem dX8_digest_9 : decode cX8_digest 9 = .ok (.if_icmp .ge 20, 3) := by decide +kernel
theorem dX8_digest_12 : decode cX8_digest 12 = .ok (.lload_n 1, 1) := by decide +kernel
theorem dX8_digest_13 : decode cX8_digest 13 = .ok (.aload_n 0, 1) := by decide +kernel
theorem dX8_digest_14 : decode cX8_digest 14 = .ok (.iload_n 3, 1) := by decide +kernel
theorem dX8_digest_15 : decode cX8_digest 15 = .ok (.invokevirtual 276, 3) := by decide +kernel
theorem dX8_digest_18 : decode cX8_digest 18 = .ok (.i2l, 1) := by decide +kernel
theorem dX8_digest_19 : decode cX8_digest 19 = .ok (.invokestatic 279, 3) := by decide +kernel
theorem dX8_digest_22 : decode cX8_digest 22 = .ok (.lstore_n 1, 1) := by decide +kernel
theorem dX8_digest_23 : decode cX8_digest 23 = .ok (.iinc 3 1, 3) := by decide +kernel
theorem dX8_digest_26 : decode cX8_digest 26 = .ok (.goto (-20), 3) := by decide +kernel
theorem dX8_digest_29 : decode cX8_digest 29 = .ok (.iconst 0, 1) := by decide +kernel
theorem dX8_digest_30 : decode cX8_digest 30 = .ok (.istore_n 3, 1) := by decide +kernel
theorem dX8_digest_31 : decode cX8_digest 31 = .ok (.iload_n 3, 1) := by decide +kernel
theorem dX8_digest_32 : decode cX8_digest 32 = .ok (.iconst 3, 1) := by decide +kernel
theorem dX8_digest_33 : decode cX8_digest 33 = .ok (.if_icmp .ge 20, 3) := by decide +kernel
theorem dX8_digest_36 : decode cX8_digest 36 = .ok (.lload_n 1, 1) := by decide +kernel
theorem dX8_digest_37 : decode cX8_digest 37 = .ok (.aload_n 0, 1) := by decide +kernel
theorem dX8_digest_38 : decode cX8_digest 38 = .ok (.iload_n 3, 1) := by decide +kernel
theorem dX8_digest_39 : decode cX8_digest 39 = .ok (.invokevirtual 283, 3) := by decide +kernel
theorem dX8_digest_42 : decode cX8_digest 42 = .ok (.i2l, 1) := by decide +kernel
theorem dX8_digest_43 : decode cX8_digest 43 = .ok (.invokestatic 279, 3) := by decide +kernel
theorem dX8_digest_46 : decode cX8_digest 46 = .ok (.lstore_n 1, 1) := by decide +kernel
theorem dX8_digest_47 : decode cX8_digest 47 = .ok (.iinc 3 1, 3) := by decide +kernel
theorem dX8_digest_50 : decode cX8_digest 50 = .ok (.goto (-19), 3) := by decide +kernel
theorem dX8_digest_53 : decode cX8_digest 53 = .ok (.aload_n 0, 1) := by decide +kernel
theorem dX8_digest_54 : decode cX8_digest 54 = .ok (.lload_n 1, 1) := by decide +kernel
theorem dX8_digest_55 : decode cX8_digest 55 = .ok (.invokevirtual 286, 3) := by decide +kernel
theorem dX8_digest_58 : decode cX8_digest 58 = .ok (.lstore_n 1, 1) := by decide +kernel
theorem dX8_digest_59 : decode cX8_digest 59 = .ok (.aload_n 0, 1) := by decide +kernel
theorem dX8_digest_60 : decode cX8_digest 60 = .ok (.iconst 5, 1) := by decide +kernel
theorem dX8_digest_61 : decode cX8_digest 61 = .ok (.invokevirtual 231, 3) := by decide +kernel
theorem dX8_digest_64 : decode cX8_digest 64 = .ok (.iconst 0, 1) := by decide +kernel
theorem dX8_digest_65 : decode cX8_digest 65 = .ok (.istore_n 3, 1) := by decide +kernel
theorem dX8_digest_66 : decode cX8_digest 66 = .ok (.iload_n 3, 1) := by decide +kernel
theorem dX8_digest_67 : decode cX8_digest 67 = .ok (.aload_n 0, 1) := by decide +kernel
theorem dX8_digest_68 : decode cX8_digest 68 = .ok (.getfield 14, 3) := by decide +kernel
theorem dX8_digest_71 : decode cX8_digest 71 = .ok (.invokevirtual 100, 3) := by decide +kernel
theorem dX8_digest_74 : decode cX8_digest 74 = .ok (.if_icmp .ge 16, 3) := by decide +kernel
theorem dX8_digest_77 : decode cX8_digest 77 = .ok (.aload_n 0, 1) := by decide +kernel
theorem dX8_digest_78 : decode cX8_digest 78 = .ok (.lload_n 1, 1) := by decide +kernel
theorem dX8_digest_79 : decode cX8_digest 79 = .ok (.iload_n 3, 1) := by decide +kernel
theorem dX8_digest_80 : decode cX8_digest 80 = .ok (.invokevirtual 290, 3) := by decide +kernel
theorem dX8_digest_83 : decode cX8_digest 83 = .ok (.lstore_n 1, 1) := by decide +kernel
theorem dX8_digest_84 : decode cX8_digest 84 = .ok (.iinc 3 1, 3) := by decide +kernel
theorem dX8_digest_87 : decode cX8_digest 87 = .ok (.goto (-21), 3) := by decide +kernel
theorem dX8_digest_90 : decode cX8_digest 90 = .ok (.aload_n 0, 1) := by decide +kernel
theorem dX8_digest_91 : decode cX8_digest 91 = .ok (.lload_n 1, 1) := by decide +kernel
theorem dX8_digest_92 : decode cX8_digest 92 = .ok (.invokevirtual 293, 3) := by decide +kernel
theorem dX8_digest_95 : decode cX8_digest 95 = .ok (.lstore_n 1, 1) := by decide +kernel
theorem dX8_digest_96 : decode cX8_digest 96 = .ok (.aload_n 0, 1) := by decide +kernel
theorem dX8_digest_97 : decode cX8_digest 97 = .ok (.lload_n 1, 1) := by decide +kernel
theorem dX8_digest_98 : decode cX8_digest 98 = .ok (.invokevirtual 296, 3) := by decide +kernel
theorem dX8_digest_101 : decode cX8_digest 101 = .ok (.lstore_n 1, 1) := by decide +kernel
theorem dX8_digest_102 : decode cX8_digest 102 = .ok (.lload_n 1, 1) := by decide +kernel
theorem dX8_digest_103 : decode cX8_digest 103 = .ok (.aload_n 0, 1) := by decide +kernel
theorem dX8_digest_104 : decode cX8_digest 104 = .ok (.invokevirtual 299, 3) := by decide +kernel
theorem dX8_digest_107 : decode cX8_digest 107 = .ok (.i2l, 1) := by decide +kernel
theorem dX8_digest_108 : decode cX8_digest 108 = .ok (.invokestatic 279, 3) := by decide +kernel
theorem dX8_digest_111 : decode cX8_digest 111 = .ok (.lstore_n 1, 1) := by decide +kernel
theorem dX8_digest_112 : decode cX8_digest 112 = .ok (.lload_n 1, 1) := by decide +kernel
theorem dX8_digest_113 : decode cX8_digest 113 = .ok (.aload_n 0, 1) := by decide +kernel
theorem dX8_digest_114 : decode cX8_digest 114 = .ok (.invokevirtual 302, 3) := by decide +kernel
theorem dX8_digest_117 : decode cX8_digest 117 = .ok (.i2l, 1) := by decide +kernel
theorem dX8_digest_118 : decode cX8_digest 118 = .ok (.invokestatic 279, 3) := by decide +kernel
theorem dX8_digest_121 : decode cX8_digest 121 = .ok (.lstore_n 1, 1) := by decide +kernel
theorem dX8_digest_122 : decode cX8_digest 122 = .ok (.lload_n 1, 1) := by decide +kernel
theorem dX8_digest_123 : decode cX8_digest 123 = .ok (.aload_n 0, 1) := by decide +kernel
theorem dX8_digest_124 : decode cX8_digest 124 = .ok (.iconst 0, 1) := by decide +kernel
theorem dX8_digest_125 : decode cX8_digest 125 = .ok (.invokevirtual 305, 3) := by decide +kernel
theorem dX8_digest_128 : decode cX8_digest 128 = .ok (.i2l, 1) := by decide +kernel
theorem dX8_digest_129 : decode cX8_digest 129 = .ok (.invokestatic 279, 3) := by decide +kernel
theorem dX8_digest_132 : decode cX8_digest 132 = .ok (.lstore_n 1, 1) := by decide +kernel
theorem dX8_digest_133 : decode cX8_digest 133 = .ok (.lload_n 1, 1) := by decide +kernel
theorem dX8_digest_134 : decode cX8_digest 134 = .ok (.aload_n 0, 1) := by decide +kernel
theorem dX8_digest_135 : decode cX8_digest 135 = .ok (.iconst 1, 1) := by decide +kernel
theorem dX8_digest_136 : decode cX8_digest 136 = .ok (.invokevirtual 305, 3) := by decide +kernel
theorem dX8_digest_139 : decode cX8_digest 139 = .ok (.i2l, 1) := by decide +kernel
theorem dX8_digest_140 : decode cX8_digest 140 = .ok (.invokestatic 279, 3) := by decide +kernel
theorem dX8_digest_143 : decode cX8_digest 143 = .ok (.lstore_n 1, 1) := by decide +kernel
theorem dX8_digest_144 : decode cX8_digest 144 = .ok (.lload_n 1, 1) := by decide +kernel
theorem dX8_digest_145 : decode cX8_digest 145 = .ok (.aload_n 0, 1) := by decide +kernel
theorem dX8_digest_146 : decode cX8_digest 146 = .ok (.iconst (-1), 1) := by decide +kernel
theorem dX8_digest_147 : decode cX8_digest 147 = .ok (.invokevirtual 308, 3) := by decide +kernel
theorem dX8_digest_150 : decode cX8_digest 150 = .ok (.i2l, 1) := by decide +kernel
theorem dX8_digest_151 : decode cX8_digest 151 = .ok (.invokestatic 279, 3) := by decide +kernel
theorem dX8_digest_154 : decode cX8_digest 154 = .ok (.lstore_n 1, 1) := by decide +kernel
theorem dX8_digest_155 : decode cX8_digest 155 = .ok (.lload_n 1, 1) := by decide +kernel
theorem dX8_digest_156 : decode cX8_digest 156 = .ok (.aload_n 0, 1) := by decide +kernel
theorem dX8_digest_157 : decode cX8_digest 157 = .ok (.iconst 0, 1) := by decide +kernel
theorem dX8_digest_158 : decode cX8_digest 158 = .ok (.invokevirtual 308, 3) := by decide +kernel
theorem dX8_digest_161 : decode cX8_digest 161 = .ok (.i2l, 1) := by decide +kernel
theorem dX8_digest_162 : decode cX8_digest 162 = .ok (.invokestatic 279, 3) := by decide +kernel
theorem dX8_digest_165 : decode cX8_digest 165 = .ok (.lstore_n 1, 1) := by decide +kernel
theorem dX8_digest_166 : decode cX8_digest 166 = .ok (.lload_n 1, 1) := by decide +kernel
theorem dX8_digest_167 : decode cX8_digest 167 = .ok (.aload_n 0, 1) := by decide +kernel
theorem dX8_digest_168 : decode cX8_digest 168 = .ok (.invokevirtual 311, 3) := by decide +kernel
theorem dX8_digest_171 : decode cX8_digest 171 = .ok (.i2l, 1) := by decide +kernel
theorem dX8_digest_172 : decode cX8_digest 172 = .ok (.invokestatic 279, 3) := by decide +kernel
theorem dX8_digest_175 : decode cX8_digest 175 = .ok (.lstore_n 1, 1) := by decide +kernel
theorem dX8_digest_176 : decode cX8_digest 176 = .ok (.lload_n 1, 1) := by decide +kernel
theorem dX8_digest_177 : decode cX8_digest 177 = .ok (.aload_n 0, 1) := by decide +kernel
theorem dX8_digest_178 : decode cX8_digest 178 = .ok (.bipush 7, 2) := by decide +kernel
theorem dX8_digest_180 : decode cX8_digest 180 = .ok (.bipush 9, 2) := by decide +kernel
theorem dX8_digest_182 : decode cX8_digest 182 = .ok (.iconst 0, 1) := by decide +kernel
theorem dX8_digest_183 : decode cX8_digest 183 = .ok (.invokevirtual 314, 3) := by decide +kernel
theorem dX8_digest_186 : decode cX8_digest 186 = .ok (.i2l, 1) := by decide +kernel
theorem dX8_digest_187 : decode cX8_digest 187 = .ok (.invokestatic 279, 3) := by decide +kernel
theorem dX8_digest_190 : decode cX8_digest 190 = .ok (.lstore_n 1, 1) := by decide +kernel
theorem dX8_digest_191 : decode cX8_digest 191 = .ok (.lload_n 1, 1) := by decide +kernel
theorem dX8_digest_192 : decode cX8_digest 192 = .ok (.aload_n 0, 1) := by decide +kernel
theorem dX8_digest_193 : decode cX8_digest 193 = .ok (.bipush 7, 2) := by decide +kernel
theorem dX8_digest_195 : decode cX8_digest 195 = .ok (.bipush 9, 2) := by decide +kernel
theorem dX8_digest_197 : decode cX8_digest 197 = .ok (.iconst 1, 1) := by decide +kernel
theorem dX8_digest_198 : decode cX8_digest 198 = .ok (.invokevirtual 314, 3) := by decide +kernel
theorem dX8_digest_201 : decode cX8_digest 201 = .ok (.i2l, 1) := by decide +kernel
theorem dX8_digest_202 : decode cX8_digest 202 = .ok (.invokestatic 279, 3) := by decide +kernel
theorem dX8_digest_205 : decode cX8_digest 205 = .ok (.lreturn, 1) := by decide +kernel
theorem dX8_digestWeeks_0 : decode cX8_digestWeeks 0 = .ok (.lload_n 1, 1) := by decide +kernel
theorem dX8_digestWeeks_1 : decode cX8_digestWeeks 1 = .ok (.lstore_n 3, 1) := by decide +kernel
theorem dX8_digestWeeks_2 : decode cX8_digestWeeks 2 = .ok (.iconst 0, 1) := by decide +kernel
theorem dX8_digestWeeks_3 : decode cX8_digestWeeks 3 = .ok (.istore 5, 2) := by decide +kernel
theorem dX8_digestWeeks_5 : decode cX8_digestWeeks 5 = .ok (.iload 5, 2) := by decide +kernel
theorem dX8_digestWeeks_7 : decode cX8_digestWeeks 7 = .ok (.bipush 12, 2) := by decide +kernel
theorem dX8_digestWeeks_9 : decode cX8_digestWeeks 9 = .ok (.if_icmp .ge 77, 3) := by decide +kernel
theorem dX8_digestWeeks_12 : decode cX8_digestWeeks 12 = .ok (.aload_n 0, 1) := by decide +kernel
theorem dX8_digestWeeks_13 : decode cX8_digestWeeks 13 = .ok (.iload 5, 2) := by decide +kernel
theorem dX8_digestWeeks_15 : decode cX8_digestWeeks 15 = .ok (.iconst 1, 1) := by decide +kernel
theorem dX8_digestWeeks_16 : decode cX8_digestWeeks 16 = .ok (.iadd, 1) := by decide +kernel
theorem dX8_digestWeeks_17 : decode cX8_digestWeeks 17 = .ok (.invokevirtual 133, 3) := by decide +kernel
theorem dX8_digestWeeks_20 : decode cX8_digestWeeks 20 = .ok (.lload_n 3, 1) := by decide +kernel
theorem dX8_digestWeeks_21 : decode cX8_digestWeeks 21 = .ok (.aload_n 0, 1) := by decide +kernel
theorem dX8_digestWeeks_22 : decode cX8_digestWeeks 22 = .ok (.getfield 53, 3) := by decide +kernel
theorem dX8_digestWeeks_25 : decode cX8_digestWeeks 25 = .ok (.iload 5, 2) := by decide +kernel
theorem dX8_digestWeeks_27 : decode cX8_digestWeeks 27 = .ok (.invokevirtual 142, 3) := by decide +kernel
theorem dX8_digestWeeks_30 : decode cX8_digestWeeks 30 = .ok (.i2l, 1) := by decide +kernel
theorem dX8_digestWeeks_31 : decode cX8_digestWeeks 31 = .ok (.invokestatic 279, 3) := by decide +kernel
theorem dX8_digestWeeks_34 : decode cX8_digestWeeks 34 = .ok (.lstore_n 3, 1) := by decide +kernel
theorem dX8_digestWeeks_35 : decode cX8_digestWeeks 35 = .ok (.lload_n 3, 1) := by decide +kernel
theorem dX8_digestWeeks_36 : decode cX8_digestWeeks 36 = .ok (.aload_n 0, 1) := by decide +kernel
theorem dX8_digestWeeks_37 : decode cX8_digestWeeks 37 = .ok (.getfield 60, 3) := by decide +kernel
theorem dX8_digestWeeks_40 : decode cX8_digestWeeks 40 = .ok (.getfield 145, 3) := by decide +kernel
theorem dX8_digestWeeks_43 : decode cX8_digestWeeks 43 = .ok (.i2l, 1) := by decide +kernel
theorem dX8_digestWeeks_44 : decode cX8_digestWeeks 44 = .ok (.invokestatic 279, 3) := by decide +kernel
theorem dX8_digestWeeks_47 : decode cX8_digestWeeks 47 = .ok (.lstore_n 3, 1) := by decide +kernel
theorem dX8_digestWeeks_48 : decode cX8_digestWeeks 48 = .ok (.iconst 0, 1) := by decide +kernel
theorem dX8_digestWeeks_49 : decode cX8_digestWeeks 49 = .ok (.istore 6, 2) := by decide +kernel
theorem dX8_digestWeeks_51 : decode cX8_digestWeeks 51 = .ok (.iload 6, 2) := by decide +kernel
theorem dX8_digestWeeks_53 : decode cX8_digestWeeks 53 = .ok (.iconst 3, 1) := by decide +kernel
theorem dX8_digestWeeks_54 : decode cX8_digestWeeks 54 = .ok (.if_icmp .ge 26, 3) := by decide +kernel
theorem dX8_digestWeeks_57 : decode cX8_digestWeeks 57 = .ok (.lload_n 3, 1) := by decide +kernel
theorem dX8_digestWeeks_58 : decode cX8_digestWeeks 58 = .ok (.aload_n 0, 1) := by decide +kernel
theorem dX8_digestWeeks_59 : decode cX8_digestWeeks 59 = .ok (.getfield 60, 3) := by decide +kernel
theorem dX8_digestWeeks_62 : decode cX8_digestWeeks 62 = .ok (.iload 5, 2) := by decide +kernel
theorem dX8_digestWeeks_64 : decode cX8_digestWeeks 64 = .ok (.iload 6, 2) := by decide +kernel
theorem dX8_digestWeeks_66 : decode cX8_digestWeeks 66 = .ok (.invokevirtual 136, 3) := by decide +kernel
theorem dX8_digestWeeks_69 : decode cX8_digestWeeks 69 = .ok (.i2l, 1) := by decide +kernel
theorem dX8_digestWeeks_70 : decode cX8_digestWeeks 70 = .ok (.invokestatic 279, 3) := by decide +kernel
theorem dX8_digestWeeks_73 : decode cX8_digestWeeks 73 = .ok (.lstore_n 3, 1) := by decide +kernel
theorem dX8_digestWeeks_74 : decode cX8_digestWeeks 74 = .ok (.iinc 6 1, 3) := by decide +kernel
theorem dX8_digestWeeks_77 : decode cX8_digestWeeks 77 = .ok (.goto (-26), 3) := by decide +kernel
theorem dX8_digestWeeks_80 : decode cX8_digestWeeks 80 = .ok (.iinc 5 1, 3) := by decide +kernel
theorem dX8_digestWeeks_83 : decode cX8_digestWeeks 83 = .ok (.goto (-78), 3) := by decide +kernel
theorem dX8_digestWeeks_86 : decode cX8_digestWeeks 86 = .ok (.lload_n 3, 1) := by decide +kernel
theorem dX8_digestWeeks_87 : decode cX8_digestWeeks 87 = .ok (.lreturn, 1) := by decide +kernel
theorem dX8_digestThing_0 : decode cX8_digestThing 0 = .ok (.lload_n 1, 1) := by decide +kernel
theorem dX8_digestThing_1 : decode cX8_digestThing 1 = .ok (.lstore 4, 2) := by decide +kernel
theorem dX8_digestThing_3 : decode cX8_digestThing 3 = .ok (.iconst 0, 1) := by decide +kernel
theorem dX8_digestThing_4 : decode cX8_digestThing 4 = .ok (.istore 6, 2) := by decide +kernel
theorem dX8_digestThing_6 : decode cX8_digestThing 6 = .ok (.iload 6, 2) := by decide +kernel
theorem dX8_digestThing_8 : decode cX8_digestThing 8 = .ok (.iconst 3, 1) := by decide +kernel
theorem dX8_digestThing_9 : decode cX8_digestThing 9 = .ok (.if_icmp .ge 27, 3) := by decide +kernel
theorem dX8_digestThing_12 : decode cX8_digestThing 12 = .ok (.lload 4, 2) := by decide +kernel
theorem dX8_digestThing_14 : decode cX8_digestThing 14 = .ok (.aload_n 0, 1) := by decide +kernel
theorem dX8_digestThing_15 : decode cX8_digestThing 15 = .ok (.getfield 14, 3) := by decide +kernel
theorem dX8_digestThing_18 : decode cX8_digestThing 18 = .ok (.iload_n 3, 1) := by decide +kernel
theorem dX8_digestThing_19 : decode cX8_digestThing 19 = .ok (.iload 6, 2) := by decide +kernel
theorem dX8_digestThing_21 : decode cX8_digestThing 21 = .ok (.invokevirtual 108, 3) := by decide +kernel
theorem dX8_digestThing_24 : decode cX8_digestThing 24 = .ok (.i2l, 1) := by decide +kernel
theorem dX8_digestThing_25 : decode cX8_digestThing 25 = .ok (.invokestatic 279, 3) := by decide +kernel
theorem dX8_digestThing_28 : decode cX8_digestThing 28 = .ok (.lstore 4, 2) := by decide +kernel
theorem dX8_digestThing_30 : decode cX8_digestThing 30 = .ok (.iinc 6 1, 3) := by decide +kernel
theorem dX8_digestThing_33 : decode cX8_digestThing 33 = .ok (.goto (-27), 3) := by decide +kernel
theorem dX8_digestThing_36 : decode cX8_digestThing 36 = .ok (.getstatic 318, 3) := by decide +kernel
theorem dX8_digestThing_39 : decode cX8_digestThing 39 = .ok (.astore 6, 2) := by decide +kernel
theorem dX8_digestThing_41 : decode cX8_digestThing 41 = .ok (.aload 6, 2) := by decide +kernel
theorem dX8_digestThing_43 : decode cX8_digestThing 43 = .ok (.arraylength, 1) := by decide +kernel
theorem dX8_digestThing_44 : decode cX8_digestThing 44 = .ok (.istore 7, 2) := by decide +kernel
theorem dX8_digestThing_46 : decode cX8_digestThing 46 = .ok (.iconst 0, 1) := by decide +kernel
theorem dX8_digestThing_47 : decode cX8_digestThing 47 = .ok (.istore 8, 2) := by decide +kernel
theorem dX8_digestThing_49 : decode cX8_digestThing 49 = .ok (.iload 8, 2) := by decide +kernel
theorem dX8_digestThing_51 : decode cX8_digestThing 51 = .ok (.iload 7, 2) := by decide +kernel
theorem dX8_digestThing_53 : decode cX8_digestThing 53 = .ok (.if_icmp .ge 57, 3) := by decide +kernel
theorem dX8_digestThing_56 : decode cX8_digestThing 56 = .ok (.aload 6, 2) := by decide +kernel
theorem dX8_digestThing_58 : decode cX8_digestThing 58 = .ok (.iload 8, 2) := by decide +kernel
theorem dX8_digestThing_60 : decode cX8_digestThing 60 = .ok (.iaload, 1) := by decide +kernel
theorem dX8_digestThing_61 : decode cX8_digestThing 61 = .ok (.istore 9, 2) := by decide +kernel
theorem dX8_digestThing_63 : decode cX8_digestThing 63 = .ok (.aload_n 0, 1) := by decide +kernel
theorem dX8_digestThing_64 : decode cX8_digestThing 64 = .ok (.iload 9, 2) := by decide +kernel
theorem dX8_digestThing_66 : decode cX8_digestThing 66 = .ok (.iconst 1, 1) := by decide +kernel
theorem dX8_digestThing_67 : decode cX8_digestThing 67 = .ok (.iadd, 1) := by decide +kernel
theorem dX8_digestThing_68 : decode cX8_digestThing 68 = .ok (.invokevirtual 133, 3) := by decide +kernel
theorem dX8_digestThing_71 : decode cX8_digestThing 71 = .ok (.iconst 0, 1) := by decide +kernel
theorem dX8_digestThing_72 : decode cX8_digestThing 72 = .ok (.istore 10, 2) := by decide +kernel
theorem dX8_digestThing_74 : decode cX8_digestThing 74 = .ok (.iload 10, 2) := by decide +kernel
theorem dX8_digestThing_76 : decode cX8_digestThing 76 = .ok (.iconst 5, 1) := by decide +kernel
theorem dX8_digestThing_77 : decode cX8_digestThing 77 = .ok (.if_icmp .ge 27, 3) := by decide +kernel
theorem dX8_digestThing_80 : decode cX8_digestThing 80 = .ok (.lload 4, 2) := by decide +kernel
theorem dX8_digestThing_82 : decode cX8_digestThing 82 = .ok (.aload_n 0, 1) := by decide +kernel
theorem dX8_digestThing_83 : decode cX8_digestThing 83 = .ok (.getfield 60, 3) := by decide +kernel
theorem dX8_digestThing_86 : decode cX8_digestThing 86 = .ok (.iload_n 3, 1) := by decide +kernel
theorem dX8_digestThing_87 : decode cX8_digestThing 87 = .ok (.iload 10, 2) := by decide +kernel
theorem dX8_digestThing_89 : decode cX8_digestThing 89 = .ok (.invokevirtual 139, 3) := by decide +kernel
theorem dX8_digestThing_92 : decode cX8_digestThing 92 = .ok (.i2l, 1) := by decide +kernel
theorem dX8_digestThing_93 : decode cX8_digestThing 93 = .ok (.invokestatic 279, 3) := by decide +kernel
theorem dX8_digestThing_96 : decode cX8_digestThing 96 = .ok (.lstore 4, 2) := by decide +kernel
theorem dX8_digestThing_98 : decode cX8_digestThing 98 = .ok (.iinc 10 1, 3) := by decide +kernel
theorem dX8_digestThing_101 : decode cX8_digestThing 101 = .ok (.goto (-27), 3) := by decide +kernel
theorem dX8_digestThing_104 : decode cX8_digestThing 104 = .ok (.iinc 8 1, 3) := by decide +kernel
theorem dX8_digestThing_107 : decode cX8_digestThing 107 = .ok (.goto (-58), 3) := by decide +kernel
theorem dX8_digestThing_110 : decode cX8_digestThing 110 = .ok (.aload_n 0, 1) := by decide +kernel
theorem dX8_digestThing_111 : decode cX8_digestThing 111 = .ok (.iload_n 3, 1) := by decide +kernel
theorem dX8_digestThing_112 : decode cX8_digestThing 112 = .ok (.invokevirtual 172, 3) := by decide +kernel
theorem dX8_digestThing_115 : decode cX8_digestThing 115 = .ok (.aload_n 0, 1) := by decide +kernel
theorem dX8_digestThing_116 : decode cX8_digestThing 116 = .ok (.lload 4, 2) := by decide +kernel
theorem dX8_digestThing_118 : decode cX8_digestThing 118 = .ok (.invokevirtual 321, 3) := by decide +kernel
theorem dX8_digestThing_121 : decode cX8_digestThing 121 = .ok (.lstore 4, 2) := by decide +kernel
theorem dX8_digestThing_123 : decode cX8_digestThing 123 = .ok (.aload_n 0, 1) := by decide +kernel
theorem dX8_digestThing_124 : decode cX8_digestThing 124 = .ok (.iload_n 3, 1) := by decide +kernel
theorem dX8_digestThing_125 : decode cX8_digestThing 125 = .ok (.invokevirtual 178, 3) := by decide +kernel
theorem dX8_digestThing_128 : decode cX8_digestThing 128 = .ok (.aload_n 0, 1) := by decide +kernel
theorem dX8_digestThing_129 : decode cX8_digestThing 129 = .ok (.lload 4, 2) := by decide +kernel
theorem dX8_digestThing_131 : decode cX8_digestThing 131 = .ok (.invokevirtual 321, 3) := by decide +kernel
theorem dX8_digestThing_134 : decode cX8_digestThing 134 = .ok (.lstore 4, 2) := by decide +kernel
theorem dX8_digestThing_136 : decode cX8_digestThing 136 = .ok (.lload 4, 2) := by decide +kernel
theorem dX8_digestThing_138 : decode cX8_digestThing 138 = .ok (.aload_n 0, 1) := by decide +kernel
theorem dX8_digestThing_139 : decode cX8_digestThing 139 = .ok (.iload_n 3, 1) := by decide +kernel
theorem dX8_digestThing_140 : decode cX8_digestThing 140 = .ok (.invokevirtual 324, 3) := by decide +kernel
theorem dX8_digestThing_143 : decode cX8_digestThing 143 = .ok (.i2l, 1) := by decide +kernel
theorem dX8_digestThing_144 : decode cX8_digestThing 144 = .ok (.invokestatic 279, 3) := by decide +kernel
theorem dX8_digestThing_147 : decode cX8_digestThing 147 = .ok (.lstore 4, 2) := by decide +kernel
theorem dX8_digestThing_149 : decode cX8_digestThing 149 = .ok (.lload 4, 2) := by decide +kernel
theorem dX8_digestThing_151 : decode cX8_digestThing 151 = .ok (.aload_n 0, 1) := by decide +kernel
theorem dX8_digestThing_152 : decode cX8_digestThing 152 = .ok (.iload_n 3, 1) := by decide +kernel
theorem dX8_digestThing_153 : decode cX8_digestThing 153 = .ok (.invokevirtual 327, 3) := by decide +kernel
theorem dX8_digestThing_156 : decode cX8_digestThing 156 = .ok (.i2l, 1) := by decide +kernel
theorem dX8_digestThing_157 : decode cX8_digestThing 157 = .ok (.invokestatic 279, 3) := by decide +kernel
theorem dX8_digestThing_160 : decode cX8_digestThing 160 = .ok (.lstore 4, 2) := by decide +kernel
theorem dX8_digestThing_162 : decode cX8_digestThing 162 = .ok (.lload 4, 2) := by decide +kernel
theorem dX8_digestThing_164 : decode cX8_digestThing 164 = .ok (.aload_n 0, 1) := by decide +kernel
theorem dX8_digestThing_165 : decode cX8_digestThing 165 = .ok (.aload_n 0, 1) := by decide +kernel
theorem dX8_digestThing_166 : decode cX8_digestThing 166 = .ok (.getfield 71, 3) := by decide +kernel
theorem dX8_digestThing_169 : decode cX8_digestThing 169 = .ok (.iload_n 3, 1) := by decide +kernel
theorem dX8_digestThing_170 : decode cX8_digestThing 170 = .ok (.laload, 1) := by decide +kernel
theorem dX8_digestThing_171 : decode cX8_digestThing 171 = .ok (.iconst 0, 1) := by decide +kernel
theorem dX8_digestThing_172 : decode cX8_digestThing 172 = .ok (.invokevirtual 234, 3) := by decide +kernel
theorem dX8_digestThing_175 : decode cX8_digestThing 175 = .ok (.invokestatic 279, 3) := by decide +kernel
theorem dX8_digestThing_178 : decode cX8_digestThing 178 = .ok (.lstore 4, 2) := by decide +kernel
theorem dX8_digestThing_180 : decode cX8_digestThing 180 = .ok (.lload 4, 2) := by decide +kernel
theorem dX8_digestThing_182 : decode cX8_digestThing 182 = .ok (.aload_n 0, 1) := by decide +kernel
theorem dX8_digestThing_183 : decode cX8_digestThing 183 = .ok (.aload_n 0, 1) := by decide +kernel
theorem dX8_digestThing_184 : decode cX8_digestThing 184 = .ok (.getfield 71, 3) := by decide +kernel
theorem dX8_digestThing_187 : decode cX8_digestThing 187 = .ok (.iload_n 3, 1) := by decide +kernel
theorem dX8_digestThing_188 : decode cX8_digestThing 188 = .ok (.laload, 1) := by decide +kernel
theorem dX8_digestThing_189 : decode cX8_digestThing 189 = .ok (.iconst 1, 1) := by decide +kernel
theorem dX8_digestThing_190 : decode cX8_digestThing 190 = .ok (.invokevirtual 234, 3) := by decide +kernel
theorem dX8_digestThing_193 : decode cX8_digestThing 193 = .ok (.invokestatic 279, 3) := by decide +kernel
theorem dX8_digestThing_196 : decode cX8_digestThing 196 = .ok (.lreturn, 1) := by decide +kernel
theorem dX8_digestJudges_0 : decode cX8_digestJudges 0 = .ok (.lload_n 1, 1) := by decide +kernel
theorem dX8_digestJudges_1 : decode cX8_digestJudges 1 = .ok (.lstore_n 3, 1) := by decide +kernel
theorem dX8_digestJudges_2 : decode cX8_digestJudges 2 = .ok (.iconst 0, 1) := by decide +kernel
theorem dX8_digestJudges_3 : decode cX8_digestJudges 3 = .ok (.istore 5, 2) := by decide +kernel
theorem dX8_digestJudges_5 : decode cX8_digestJudges 5 = .ok (.iload 5, 2) := by decide +kernel
theorem dX8_digestJudges_7 : decode cX8_digestJudges 7 = .ok (.aload_n 0, 1) := by decide +kernel
theorem dX8_digestJudges_8 : decode cX8_digestJudges 8 = .ok (.getfield 18, 3) := by decide +kernel
theorem dX8_digestJudges_11 : decode cX8_digestJudges 11 = .ok (.invokevirtual 100, 3) := by decide +kernel
theorem dX8_digestJudges_14 : decode cX8_digestJudges 14 = .ok (.if_icmp .ge 53, 3) := by decide +kernel
theorem dX8_digestJudges_17 : decode cX8_digestJudges 17 = .ok (.iconst 0, 1) := by decide +kernel
theorem dX8_digestJudges_18 : decode cX8_digestJudges 18 = .ok (.istore 6, 2) := by decide +kernel
theorem dX8_digestJudges_20 : decode cX8_digestJudges 20 = .ok (.iload 6, 2) := by decide +kernel
theorem dX8_digestJudges_22 : decode cX8_digestJudges 22 = .ok (.iconst 3, 1) := by decide +kernel
theorem dX8_digestJudges_23 : decode cX8_digestJudges 23 = .ok (.if_icmp .ge 26, 3) := by decide +kernel
theorem dX8_digestJudges_26 : decode cX8_digestJudges 26 = .ok (.lload_n 3, 1) := by decide +kernel
theorem dX8_digestJudges_27 : decode cX8_digestJudges 27 = .ok (.aload_n 0, 1) := by decide +kernel
theorem dX8_digestJudges_28 : decode cX8_digestJudges 28 = .ok (.getfield 18, 3) := by decide +kernel
theorem dX8_digestJudges_31 : decode cX8_digestJudges 31 = .ok (.iload 5, 2) := by decide +kernel
theorem dX8_digestJudges_33 : decode cX8_digestJudges 33 = .ok (.iload 6, 2) := by decide +kernel
theorem dX8_digestJudges_35 : decode cX8_digestJudges 35 = .ok (.invokevirtual 108, 3) := by decide +kernel
theorem dX8_digestJudges_38 : decode cX8_digestJudges 38 = .ok (.i2l, 1) := by decide +kernel
theorem dX8_digestJudges_39 : decode cX8_digestJudges 39 = .ok (.invokestatic 279, 3) := by decide +kernel
theorem dX8_digestJudges_42 : decode cX8_digestJudges 42 = .ok (.lstore_n 3, 1) := by decide +kernel
theorem dX8_digestJudges_43 : decode cX8_digestJudges 43 = .ok (.iinc 6 1, 3) := by decide +kernel
theorem dX8_digestJudges_46 : decode cX8_digestJudges 46 = .ok (.goto (-26), 3) := by decide +kernel
theorem dX8_digestJudges_49 : decode cX8_digestJudges 49 = .ok (.lload_n 3, 1) := by decide +kernel
theorem dX8_digestJudges_50 : decode cX8_digestJudges 50 = .ok (.aload_n 0, 1) := by decide +kernel
theorem dX8_digestJudges_51 : decode cX8_digestJudges 51 = .ok (.iload 5, 2) := by decide +kernel
theorem dX8_digestJudges_53 : decode cX8_digestJudges 53 = .ok (.invokevirtual 330, 3) := by decide +kernel
theorem dX8_digestJudges_56 : decode cX8_digestJudges 56 = .ok (.i2l, 1) := by decide +kernel
theorem dX8_digestJudges_57 : decode cX8_digestJudges 57 = .ok (.invokestatic 279, 3) := by decide +kernel
theorem dX8_digestJudges_60 : decode cX8_digestJudges 60 = .ok (.lstore_n 3, 1) := by decide +kernel
theorem dX8_digestJudges_61 : decode cX8_digestJudges 61 = .ok (.iinc 5 1, 3) := by decide +kernel
theorem dX8_digestJudges_64 : decode cX8_digestJudges 64 = .ok (.goto (-59), 3) := by decide +kernel
end
section
theorem dX8_digestJudges_67 : decode cX8_digestJudges 67 = .ok (.lload_n 3, 1) := by decide +kernel
theorem dX8_digestJudges_68 : decode cX8_digestJudges 68 = .ok (.lreturn, 1) := by decide +kernel
theorem dX8_digestOwners_0 : decode cX8_digestOwners 0 = .ok (.lload_n 1, 1) := by decide +kernel
theorem dX8_digestOwners_1 : decode cX8_digestOwners 1 = .ok (.lstore_n 3, 1) := by decide +kernel
theorem dX8_digestOwners_2 : decode cX8_digestOwners 2 = .ok (.iconst 0, 1) := by decide +kernel
theorem dX8_digestOwners_3 : decode cX8_digestOwners 3 = .ok (.istore 5, 2) := by decide +kernel
theorem dX8_digestOwners_5 : decode cX8_digestOwners 5 = .ok (.iload 5, 2) := by decide +kernel
theorem dX8_digestOwners_7 : decode cX8_digestOwners 7 = .ok (.bipush 6, 2) := by decide +kernel
theorem dX8_digestOwners_9 : decode cX8_digestOwners 9 = .ok (.if_icmp .ge 35, 3) := by decide +kernel
theorem dX8_digestOwners_12 : decode cX8_digestOwners 12 = .ok (.lload_n 3, 1) := by decide +kernel
theorem dX8_digestOwners_13 : decode cX8_digestOwners 13 = .ok (.aload_n 0, 1) := by decide +kernel
theorem dX8_digestOwners_14 : decode cX8_digestOwners 14 = .ok (.iload 5, 2) := by decide +kernel
theorem dX8_digestOwners_16 : decode cX8_digestOwners 16 = .ok (.invokevirtual 332, 3) := by decide +kernel
theorem dX8_digestOwners_19 : decode cX8_digestOwners 19 = .ok (.i2l, 1) := by decide +kernel
theorem dX8_digestOwners_20 : decode cX8_digestOwners 20 = .ok (.invokestatic 279, 3) := by decide +kernel
theorem dX8_digestOwners_23 : decode cX8_digestOwners 23 = .ok (.lstore_n 3, 1) := by decide +kernel
theorem dX8_digestOwners_24 : decode cX8_digestOwners 24 = .ok (.aload_n 0, 1) := by decide +kernel
theorem dX8_digestOwners_25 : decode cX8_digestOwners 25 = .ok (.bipush 6, 2) := by decide +kernel
theorem dX8_digestOwners_27 : decode cX8_digestOwners 27 = .ok (.iload 5, 2) := by decide +kernel
theorem dX8_digestOwners_29 : decode cX8_digestOwners 29 = .ok (.invokevirtual 181, 3) := by decide +kernel
theorem dX8_digestOwners_32 : decode cX8_digestOwners 32 = .ok (.aload_n 0, 1) := by decide +kernel
theorem dX8_digestOwners_33 : decode cX8_digestOwners 33 = .ok (.lload_n 3, 1) := by decide +kernel
theorem dX8_digestOwners_34 : decode cX8_digestOwners 34 = .ok (.invokevirtual 321, 3) := by decide +kernel
theorem dX8_digestOwners_37 : decode cX8_digestOwners 37 = .ok (.lstore_n 3, 1) := by decide +kernel
theorem dX8_digestOwners_38 : decode cX8_digestOwners 38 = .ok (.iinc 5 1, 3) := by decide +kernel
theorem dX8_digestOwners_41 : decode cX8_digestOwners 41 = .ok (.goto (-36), 3) := by decide +kernel
theorem dX8_digestOwners_44 : decode cX8_digestOwners 44 = .ok (.lload_n 3, 1) := by decide +kernel
theorem dX8_digestOwners_45 : decode cX8_digestOwners 45 = .ok (.lreturn, 1) := by decide +kernel
theorem dX8_mixChoice_0 : decode cX8_mixChoice 0 = .ok (.lload_n 1, 1) := by decide +kernel
theorem dX8_mixChoice_1 : decode cX8_mixChoice 1 = .ok (.aload_n 0, 1) := by decide +kernel
theorem dX8_mixChoice_2 : decode cX8_mixChoice 2 = .ok (.getfield 67, 3) := by decide +kernel
theorem dX8_mixChoice_5 : decode cX8_mixChoice 5 = .ok (.iconst 0, 1) := by decide +kernel
theorem dX8_mixChoice_6 : decode cX8_mixChoice 6 = .ok (.invokevirtual 175, 3) := by decide +kernel
theorem dX8_mixChoice_9 : decode cX8_mixChoice 9 = .ok (.i2l, 1) := by decide +kernel
theorem dX8_mixChoice_10 : decode cX8_mixChoice 10 = .ok (.invokestatic 279, 3) := by decide +kernel
theorem dX8_mixChoice_13 : decode cX8_mixChoice 13 = .ok (.aload_n 0, 1) := by decide +kernel
theorem dX8_mixChoice_14 : decode cX8_mixChoice 14 = .ok (.getfield 67, 3) := by decide +kernel
theorem dX8_mixChoice_17 : decode cX8_mixChoice 17 = .ok (.iconst 1, 1) := by decide +kernel
theorem dX8_mixChoice_18 : decode cX8_mixChoice 18 = .ok (.invokevirtual 175, 3) := by decide +kernel
theorem dX8_mixChoice_21 : decode cX8_mixChoice 21 = .ok (.i2l, 1) := by decide +kernel
theorem dX8_mixChoice_22 : decode cX8_mixChoice 22 = .ok (.invokestatic 279, 3) := by decide +kernel
theorem dX8_mixChoice_25 : decode cX8_mixChoice 25 = .ok (.lreturn, 1) := by decide +kernel
theorem dX8_mix_0 : decode cX8_mix 0 = .ok (.ldc2_w 335, 3) := by decide +kernel
theorem dX8_mix_3 : decode cX8_mix 3 = .ok (.lload_n 0, 1) := by decide +kernel
theorem dX8_mix_4 : decode cX8_mix 4 = .ok (.lmul, 1) := by decide +kernel
theorem dX8_mix_5 : decode cX8_mix 5 = .ok (.lload_n 2, 1) := by decide +kernel
theorem dX8_mix_6 : decode cX8_mix 6 = .ok (.ladd, 1) := by decide +kernel
theorem dX8_mix_7 : decode cX8_mix 7 = .ok (.lreturn, 1) := by decide +kernel
theorem dX8_isIn_0 : decode cX8_isIn 0 = .ok (.iload_n 0, 1) := by decide +kernel
theorem dX8_isIn_1 : decode cX8_isIn 1 = .ok (.ifCond .lt 12, 3) := by decide +kernel
theorem dX8_isIn_4 : decode cX8_isIn 4 = .ok (.iload_n 0, 1) := by decide +kernel
theorem dX8_isIn_5 : decode cX8_isIn 5 = .ok (.iload_n 1, 1) := by decide +kernel
theorem dX8_isIn_6 : decode cX8_isIn 6 = .ok (.if_icmp .ge 7, 3) := by decide +kernel
theorem dX8_isIn_9 : decode cX8_isIn 9 = .ok (.iconst 1, 1) := by decide +kernel
theorem dX8_isIn_10 : decode cX8_isIn 10 = .ok (.goto 4, 3) := by decide +kernel
theorem dX8_isIn_13 : decode cX8_isIn 13 = .ok (.iconst 0, 1) := by decide +kernel
theorem dX8_isIn_14 : decode cX8_isIn 14 = .ok (.ireturn, 1) := by decide +kernel
theorem dX8_mayHappen_0 : decode cX8_mayHappen 0 = .ok (.iload_n 0, 1) := by decide +kernel
theorem dX8_mayHappen_1 : decode cX8_mayHappen 1 = .ok (.iconst 3, 1) := by decide +kernel
theorem dX8_mayHappen_2 : decode cX8_mayHappen 2 = .ok (.invokestatic 104, 3) := by decide +kernel
theorem dX8_mayHappen_5 : decode cX8_mayHappen 5 = .ok (.ifCond .eq 25, 3) := by decide +kernel
theorem dX8_mayHappen_8 : decode cX8_mayHappen 8 = .ok (.iload_n 1, 1) := by decide +kernel
theorem dX8_mayHappen_9 : decode cX8_mayHappen 9 = .ok (.bipush 12, 2) := by decide +kernel
theorem dX8_mayHappen_11 : decode cX8_mayHappen 11 = .ok (.invokestatic 104, 3) := by decide +kernel
theorem dX8_mayHappen_14 : decode cX8_mayHappen 14 = .ok (.ifCond .eq 16, 3) := by decide +kernel
theorem dX8_mayHappen_17 : decode cX8_mayHappen 17 = .ok (.iload_n 2, 1) := by decide +kernel
theorem dX8_mayHappen_18 : decode cX8_mayHappen 18 = .ok (.bipush 10, 2) := by decide +kernel
theorem dX8_mayHappen_20 : decode cX8_mayHappen 20 = .ok (.invokestatic 104, 3) := by decide +kernel
theorem dX8_mayHappen_23 : decode cX8_mayHappen 23 = .ok (.ifCond .eq 7, 3) := by decide +kernel
theorem dX8_mayHappen_26 : decode cX8_mayHappen 26 = .ok (.iconst 1, 1) := by decide +kernel
theorem dX8_mayHappen_27 : decode cX8_mayHappen 27 = .ok (.goto 4, 3) := by decide +kernel
theorem dX8_mayHappen_30 : decode cX8_mayHappen 30 = .ok (.iconst 0, 1) := by decide +kernel
theorem dX8_mayHappen_31 : decode cX8_mayHappen 31 = .ok (.ireturn, 1) := by decide +kernel
theorem dX8_textOf_0 : decode cX8_textOf 0 = .ok (.iload_n 1, 1) := by decide +kernel
theorem dX8_textOf_1 : decode cX8_textOf 1 = .ok (.tableswitch 42 0 2 #[27, 32, 37], 27) := by decide +kernel
theorem dX8_textOf_28 : decode cX8_textOf 28 = .ok (.aload_n 0, 1) := by decide +kernel
theorem dX8_textOf_29 : decode cX8_textOf 29 = .ok (.getfield 14, 3) := by decide +kernel
theorem dX8_textOf_32 : decode cX8_textOf 32 = .ok (.areturn, 1) := by decide +kernel
theorem dX8_textOf_33 : decode cX8_textOf 33 = .ok (.aload_n 0, 1) := by decide +kernel
theorem dX8_textOf_34 : decode cX8_textOf 34 = .ok (.getfield 18, 3) := by decide +kernel
theorem dX8_textOf_37 : decode cX8_textOf 37 = .ok (.areturn, 1) := by decide +kernel
theorem dX8_textOf_38 : decode cX8_textOf 38 = .ok (.aload_n 0, 1) := by decide +kernel
theorem dX8_textOf_39 : decode cX8_textOf 39 = .ok (.getfield 24, 3) := by decide +kernel
theorem dX8_textOf_42 : decode cX8_textOf 42 = .ok (.areturn, 1) := by decide +kernel
theorem dX8_textOf_43 : decode cX8_textOf 43 = .ok (.aconst_null, 1) := by decide +kernel
theorem dX8_textOf_44 : decode cX8_textOf 44 = .ok (.areturn, 1) := by decide +kernel
theorem dX8_found_0 : decode cX8_found 0 = .ok (.aload_n 0, 1) := by decide +kernel
theorem dX8_found_1 : decode cX8_found 1 = .ok (.iload_n 1, 1) := by decide +kernel
theorem dX8_found_2 : decode cX8_found 2 = .ok (.putfield 44, 3) := by decide +kernel
theorem dX8_found_5 : decode cX8_found 5 = .ok (.bipush (-10), 2) := by decide +kernel
theorem dX8_found_7 : decode cX8_found 7 = .ok (.iload_n 1, 1) := by decide +kernel
theorem dX8_found_8 : decode cX8_found 8 = .ok (.isub, 1) := by decide +kernel
theorem dX8_found_9 : decode cX8_found 9 = .ok (.ireturn, 1) := by decide +kernel
theorem dX8_planAsTold_0 : decode cX8_planAsTold 0 = .ok (.aload_n 0, 1) := by decide +kernel
theorem dX8_planAsTold_1 : decode cX8_planAsTold 1 = .ok (.getfield 53, 3) := by decide +kernel
theorem dX8_planAsTold_4 : decode cX8_planAsTold 4 = .ok (.aload_n 0, 1) := by decide +kernel
theorem dX8_planAsTold_5 : decode cX8_planAsTold 5 = .ok (.getfield 14, 3) := by decide +kernel
theorem dX8_planAsTold_8 : decode cX8_planAsTold 8 = .ok (.aload_n 0, 1) := by decide +kernel
theorem dX8_planAsTold_9 : decode cX8_planAsTold 9 = .ok (.getfield 18, 3) := by decide +kernel
theorem dX8_planAsTold_12 : decode cX8_planAsTold 12 = .ok (.aload_n 0, 1) := by decide +kernel
theorem dX8_planAsTold_13 : decode cX8_planAsTold 13 = .ok (.getfield 24, 3) := by decide +kernel
theorem dX8_planAsTold_16 : decode cX8_planAsTold 16 = .ok (.invokevirtual 337, 3) := by decide +kernel
theorem dX8_planAsTold_19 : decode cX8_planAsTold 19 = .ok (.return_, 1) := by decide +kernel
theorem dX8_runAsTold_0 : decode cX8_runAsTold 0 = .ok (.aload_n 0, 1) := by decide +kernel
theorem dX8_runAsTold_1 : decode cX8_runAsTold 1 = .ok (.invokevirtual 201, 3) := by decide +kernel
theorem dX8_runAsTold_4 : decode cX8_runAsTold 4 = .ok (.aload_n 0, 1) := by decide +kernel
theorem dX8_runAsTold_5 : decode cX8_runAsTold 5 = .ok (.getfield 60, 3) := by decide +kernel
theorem dX8_runAsTold_8 : decode cX8_runAsTold 8 = .ok (.aload_n 0, 1) := by decide +kernel
theorem dX8_runAsTold_9 : decode cX8_runAsTold 9 = .ok (.getfield 53, 3) := by decide +kernel
theorem dX8_runAsTold_12 : decode cX8_runAsTold 12 = .ok (.iload_n 1, 1) := by decide +kernel
theorem dX8_runAsTold_13 : decode cX8_runAsTold 13 = .ok (.invokevirtual 207, 3) := by decide +kernel
theorem dX8_runAsTold_16 : decode cX8_runAsTold 16 = .ok (.return_, 1) := by decide +kernel
theorem dX8_chooseBrush_0 : decode cX8_chooseBrush 0 = .ok (.aload_n 0, 1) := by decide +kernel
theorem dX8_chooseBrush_1 : decode cX8_chooseBrush 1 = .ok (.invokevirtual 201, 3) := by decide +kernel
theorem dX8_chooseBrush_4 : decode cX8_chooseBrush 4 = .ok (.aload_n 0, 1) := by decide +kernel
theorem dX8_chooseBrush_5 : decode cX8_chooseBrush 5 = .ok (.getfield 67, 3) := by decide +kernel
theorem dX8_chooseBrush_8 : decode cX8_chooseBrush 8 = .ok (.invokevirtual 152, 3) := by decide +kernel
theorem dX8_chooseBrush_11 : decode cX8_chooseBrush 11 = .ok (.aload_n 0, 1) := by decide +kernel
theorem dX8_chooseBrush_12 : decode cX8_chooseBrush 12 = .ok (.getfield 53, 3) := by decide +kernel
theorem dX8_chooseBrush_15 : decode cX8_chooseBrush 15 = .ok (.iload_n 1, 1) := by decide +kernel
theorem dX8_chooseBrush_16 : decode cX8_chooseBrush 16 = .ok (.putfield 341, 3) := by decide +kernel
theorem dX8_chooseBrush_19 : decode cX8_chooseBrush 19 = .ok (.iconst 0, 1) := by decide +kernel
theorem dX8_chooseBrush_20 : decode cX8_chooseBrush 20 = .ok (.istore_n 2, 1) := by decide +kernel
theorem dX8_chooseBrush_21 : decode cX8_chooseBrush 21 = .ok (.iload_n 2, 1) := by decide +kernel
theorem dX8_chooseBrush_22 : decode cX8_chooseBrush 22 = .ok (.bipush 12, 2) := by decide +kernel
theorem dX8_chooseBrush_24 : decode cX8_chooseBrush 24 = .ok (.if_icmp .ge 47, 3) := by decide +kernel
theorem dX8_chooseBrush_27 : decode cX8_chooseBrush 27 = .ok (.aload_n 0, 1) := by decide +kernel
theorem dX8_chooseBrush_28 : decode cX8_chooseBrush 28 = .ok (.getfield 53, 3) := by decide +kernel
theorem dX8_chooseBrush_31 : decode cX8_chooseBrush 31 = .ok (.iload_n 2, 1) := by decide +kernel
theorem dX8_chooseBrush_32 : decode cX8_chooseBrush 32 = .ok (.putfield 344, 3) := by decide +kernel
theorem dX8_chooseBrush_35 : decode cX8_chooseBrush 35 = .ok (.aload_n 0, 1) := by decide +kernel
theorem dX8_chooseBrush_36 : decode cX8_chooseBrush 36 = .ok (.getfield 60, 3) := by decide +kernel
theorem dX8_chooseBrush_39 : decode cX8_chooseBrush 39 = .ok (.aload_n 0, 1) := by decide +kernel
theorem dX8_chooseBrush_40 : decode cX8_chooseBrush 40 = .ok (.getfield 53, 3) := by decide +kernel
theorem dX8_chooseBrush_43 : decode cX8_chooseBrush 43 = .ok (.bipush 12, 2) := by decide +kernel
theorem dX8_chooseBrush_45 : decode cX8_chooseBrush 45 = .ok (.invokevirtual 207, 3) := by decide +kernel
theorem dX8_chooseBrush_48 : decode cX8_chooseBrush 48 = .ok (.aload_n 0, 1) := by decide +kernel
theorem dX8_chooseBrush_49 : decode cX8_chooseBrush 49 = .ok (.getfield 67, 3) := by decide +kernel
theorem dX8_chooseBrush_52 : decode cX8_chooseBrush 52 = .ok (.iload_n 2, 1) := by decide +kernel
theorem dX8_chooseBrush_53 : decode cX8_chooseBrush 53 = .ok (.aload_n 0, 1) := by decide +kernel
theorem dX8_chooseBrush_54 : decode cX8_chooseBrush 54 = .ok (.getfield 60, 3) := by decide +kernel
theorem dX8_chooseBrush_57 : decode cX8_chooseBrush 57 = .ok (.getfield 268, 3) := by decide +kernel
theorem dX8_chooseBrush_60 : decode cX8_chooseBrush 60 = .ok (.iload_n 1, 1) := by decide +kernel
theorem dX8_chooseBrush_61 : decode cX8_chooseBrush 61 = .ok (.iaload, 1) := by decide +kernel
theorem dX8_chooseBrush_62 : decode cX8_chooseBrush 62 = .ok (.invokevirtual 155, 3) := by decide +kernel
theorem dX8_chooseBrush_65 : decode cX8_chooseBrush 65 = .ok (.iinc 2 1, 3) := by decide +kernel
theorem dX8_chooseBrush_68 : decode cX8_chooseBrush 68 = .ok (.goto (-47), 3) := by decide +kernel
theorem dX8_chooseBrush_71 : decode cX8_chooseBrush 71 = .ok (.return_, 1) := by decide +kernel
theorem dX8_chooseRival_0 : decode cX8_chooseRival 0 = .ok (.aload_n 0, 1) := by decide +kernel
theorem dX8_chooseRival_1 : decode cX8_chooseRival 1 = .ok (.invokevirtual 201, 3) := by decide +kernel
theorem dX8_chooseRival_4 : decode cX8_chooseRival 4 = .ok (.aload_n 0, 1) := by decide +kernel
theorem dX8_chooseRival_5 : decode cX8_chooseRival 5 = .ok (.getfield 67, 3) := by decide +kernel
theorem dX8_chooseRival_8 : decode cX8_chooseRival 8 = .ok (.invokevirtual 152, 3) := by decide +kernel
theorem dX8_chooseRival_11 : decode cX8_chooseRival 11 = .ok (.iconst 0, 1) := by decide +kernel
theorem dX8_chooseRival_12 : decode cX8_chooseRival 12 = .ok (.istore_n 2, 1) := by decide +kernel
theorem dX8_chooseRival_13 : decode cX8_chooseRival 13 = .ok (.iload_n 2, 1) := by decide +kernel
theorem dX8_chooseRival_14 : decode cX8_chooseRival 14 = .ok (.aload_n 0, 1) := by decide +kernel
theorem dX8_chooseRival_15 : decode cX8_chooseRival 15 = .ok (.getfield 53, 3) := by decide +kernel
theorem dX8_chooseRival_18 : decode cX8_chooseRival 18 = .ok (.getfield 161, 3) := by decide +kernel
theorem dX8_chooseRival_21 : decode cX8_chooseRival 21 = .ok (.if_icmp .ge 52, 3) := by decide +kernel
theorem dX8_chooseRival_24 : decode cX8_chooseRival 24 = .ok (.iload_n 2, 1) := by decide +kernel
theorem dX8_chooseRival_25 : decode cX8_chooseRival 25 = .ok (.iload_n 1, 1) := by decide +kernel
theorem dX8_chooseRival_26 : decode cX8_chooseRival 26 = .ok (.if_icmp .eq 41, 3) := by decide +kernel
theorem dX8_chooseRival_29 : decode cX8_chooseRival 29 = .ok (.aload_n 0, 1) := by decide +kernel
theorem dX8_chooseRival_30 : decode cX8_chooseRival 30 = .ok (.getfield 53, 3) := by decide +kernel
theorem dX8_chooseRival_33 : decode cX8_chooseRival 33 = .ok (.iload_n 2, 1) := by decide +kernel
theorem dX8_chooseRival_34 : decode cX8_chooseRival 34 = .ok (.putfield 347, 3) := by decide +kernel
theorem dX8_chooseRival_37 : decode cX8_chooseRival 37 = .ok (.aload_n 0, 1) := by decide +kernel
theorem dX8_chooseRival_38 : decode cX8_chooseRival 38 = .ok (.getfield 60, 3) := by decide +kernel
theorem dX8_chooseRival_41 : decode cX8_chooseRival 41 = .ok (.aload_n 0, 1) := by decide +kernel
theorem dX8_chooseRival_42 : decode cX8_chooseRival 42 = .ok (.getfield 53, 3) := by decide +kernel
theorem dX8_chooseRival_45 : decode cX8_chooseRival 45 = .ok (.bipush 12, 2) := by decide +kernel
theorem dX8_chooseRival_47 : decode cX8_chooseRival 47 = .ok (.invokevirtual 207, 3) := by decide +kernel
theorem dX8_chooseRival_50 : decode cX8_chooseRival 50 = .ok (.aload_n 0, 1) := by decide +kernel
theorem dX8_chooseRival_51 : decode cX8_chooseRival 51 = .ok (.getfield 67, 3) := by decide +kernel
theorem dX8_chooseRival_54 : decode cX8_chooseRival 54 = .ok (.iload_n 2, 1) := by decide +kernel
theorem dX8_chooseRival_55 : decode cX8_chooseRival 55 = .ok (.aload_n 0, 1) := by decide +kernel
theorem dX8_chooseRival_56 : decode cX8_chooseRival 56 = .ok (.getfield 60, 3) := by decide +kernel
theorem dX8_chooseRival_59 : decode cX8_chooseRival 59 = .ok (.getfield 268, 3) := by decide +kernel
theorem dX8_chooseRival_62 : decode cX8_chooseRival 62 = .ok (.iload_n 1, 1) := by decide +kernel
theorem dX8_chooseRival_63 : decode cX8_chooseRival 63 = .ok (.iaload, 1) := by decide +kernel
theorem dX8_chooseRival_64 : decode cX8_chooseRival 64 = .ok (.invokevirtual 155, 3) := by decide +kernel
theorem dX8_chooseRival_67 : decode cX8_chooseRival 67 = .ok (.iinc 2 1, 3) := by decide +kernel
theorem dX8_chooseRival_70 : decode cX8_chooseRival 70 = .ok (.goto (-57), 3) := by decide +kernel
theorem dX8_chooseRival_73 : decode cX8_chooseRival 73 = .ok (.return_, 1) := by decide +kernel
theorem dX8_chooseJudge_0 : decode cX8_chooseJudge 0 = .ok (.aload_n 0, 1) := by decide +kernel
theorem dX8_chooseJudge_1 : decode cX8_chooseJudge 1 = .ok (.invokevirtual 201, 3) := by decide +kernel
theorem dX8_chooseJudge_4 : decode cX8_chooseJudge 4 = .ok (.aload_n 0, 1) := by decide +kernel
theorem dX8_chooseJudge_5 : decode cX8_chooseJudge 5 = .ok (.getfield 67, 3) := by decide +kernel
theorem dX8_chooseJudge_8 : decode cX8_chooseJudge 8 = .ok (.invokevirtual 152, 3) := by decide +kernel
theorem dX8_chooseJudge_11 : decode cX8_chooseJudge 11 = .ok (.iconst 0, 1) := by decide +kernel
theorem dX8_chooseJudge_12 : decode cX8_chooseJudge 12 = .ok (.istore_n 3, 1) := by decide +kernel
theorem dX8_chooseJudge_13 : decode cX8_chooseJudge 13 = .ok (.iload_n 3, 1) := by decide +kernel
theorem dX8_chooseJudge_14 : decode cX8_chooseJudge 14 = .ok (.aload_n 0, 1) := by decide +kernel
theorem dX8_chooseJudge_15 : decode cX8_chooseJudge 15 = .ok (.getfield 53, 3) := by decide +kernel
theorem dX8_chooseJudge_18 : decode cX8_chooseJudge 18 = .ok (.getfield 350, 3) := by decide +kernel
theorem dX8_chooseJudge_21 : decode cX8_chooseJudge 21 = .ok (.if_icmp .ge 52, 3) := by decide +kernel
theorem dX8_chooseJudge_24 : decode cX8_chooseJudge 24 = .ok (.aload_n 0, 1) := by decide +kernel
theorem dX8_chooseJudge_25 : decode cX8_chooseJudge 25 = .ok (.getfield 53, 3) := by decide +kernel
theorem dX8_chooseJudge_28 : decode cX8_chooseJudge 28 = .ok (.getfield 352, 3) := by decide +kernel
theorem dX8_chooseJudge_31 : decode cX8_chooseJudge 31 = .ok (.iload_n 1, 1) := by decide +kernel
theorem dX8_chooseJudge_32 : decode cX8_chooseJudge 32 = .ok (.iload_n 3, 1) := by decide +kernel
theorem dX8_chooseJudge_33 : decode cX8_chooseJudge 33 = .ok (.iastore, 1) := by decide +kernel
theorem dX8_chooseJudge_34 : decode cX8_chooseJudge 34 = .ok (.aload_n 0, 1) := by decide +kernel
theorem dX8_chooseJudge_35 : decode cX8_chooseJudge 35 = .ok (.getfield 60, 3) := by decide +kernel
theorem dX8_chooseJudge_38 : decode cX8_chooseJudge 38 = .ok (.aload_n 0, 1) := by decide +kernel
theorem dX8_chooseJudge_39 : decode cX8_chooseJudge 39 = .ok (.getfield 53, 3) := by decide +kernel
theorem dX8_chooseJudge_42 : decode cX8_chooseJudge 42 = .ok (.bipush 12, 2) := by decide +kernel
theorem dX8_chooseJudge_44 : decode cX8_chooseJudge 44 = .ok (.invokevirtual 207, 3) := by decide +kernel
theorem dX8_chooseJudge_47 : decode cX8_chooseJudge 47 = .ok (.aload_n 0, 1) := by decide +kernel
theorem dX8_chooseJudge_48 : decode cX8_chooseJudge 48 = .ok (.getfield 67, 3) := by decide +kernel
theorem dX8_chooseJudge_51 : decode cX8_chooseJudge 51 = .ok (.iload_n 3, 1) := by decide +kernel
theorem dX8_chooseJudge_52 : decode cX8_chooseJudge 52 = .ok (.aload_n 0, 1) := by decide +kernel
theorem dX8_chooseJudge_53 : decode cX8_chooseJudge 53 = .ok (.getfield 60, 3) := by decide +kernel
theorem dX8_chooseJudge_56 : decode cX8_chooseJudge 56 = .ok (.aload_n 0, 1) := by decide +kernel
theorem dX8_chooseJudge_57 : decode cX8_chooseJudge 57 = .ok (.getfield 53, 3) := by decide +kernel
theorem dX8_chooseJudge_60 : decode cX8_chooseJudge 60 = .ok (.iload_n 2, 1) := by decide +kernel
theorem dX8_chooseJudge_61 : decode cX8_chooseJudge 61 = .ok (.invokevirtual 148, 3) := by decide +kernel
theorem dX8_chooseJudge_64 : decode cX8_chooseJudge 64 = .ok (.invokevirtual 155, 3) := by decide +kernel
theorem dX8_chooseJudge_67 : decode cX8_chooseJudge 67 = .ok (.iinc 3 1, 3) := by decide +kernel
theorem dX8_chooseJudge_70 : decode cX8_chooseJudge 70 = .ok (.goto (-57), 3) := by decide +kernel
theorem dX8_chooseJudge_73 : decode cX8_chooseJudge 73 = .ok (.return_, 1) := by decide +kernel
theorem dX8_sparedEvents_0 : decode cX8_sparedEvents 0 = .ok (.aload_n 0, 1) := by decide +kernel
theorem dX8_sparedEvents_1 : decode cX8_sparedEvents 1 = .ok (.invokevirtual 201, 3) := by decide +kernel
theorem dX8_sparedEvents_4 : decode cX8_sparedEvents 4 = .ok (.aload_n 0, 1) := by decide +kernel
theorem dX8_sparedEvents_5 : decode cX8_sparedEvents 5 = .ok (.iconst 0, 1) := by decide +kernel
theorem dX8_sparedEvents_6 : decode cX8_sparedEvents 6 = .ok (.invokevirtual 355, 3) := by decide +kernel
theorem dX8_sparedEvents_9 : decode cX8_sparedEvents 9 = .ok (.ifCond .eq 5, 3) := by decide +kernel
theorem dX8_sparedEvents_12 : decode cX8_sparedEvents 12 = .ok (.iconst 0, 1) := by decide +kernel
theorem dX8_sparedEvents_13 : decode cX8_sparedEvents 13 = .ok (.ireturn, 1) := by decide +kernel
theorem dX8_sparedEvents_14 : decode cX8_sparedEvents 14 = .ok (.iconst 0, 1) := by decide +kernel
theorem dX8_sparedEvents_15 : decode cX8_sparedEvents 15 = .ok (.istore_n 1, 1) := by decide +kernel
theorem dX8_sparedEvents_16 : decode cX8_sparedEvents 16 = .ok (.iload_n 1, 1) := by decide +kernel
theorem dX8_sparedEvents_17 : decode cX8_sparedEvents 17 = .ok (.aload_n 0, 1) := by decide +kernel
theorem dX8_sparedEvents_18 : decode cX8_sparedEvents 18 = .ok (.getfield 31, 3) := by decide +kernel
theorem dX8_sparedEvents_21 : decode cX8_sparedEvents 21 = .ok (.getfield 119, 3) := by decide +kernel
theorem dX8_sparedEvents_24 : decode cX8_sparedEvents 24 = .ok (.if_icmp .ge 23, 3) := by decide +kernel
theorem dX8_sparedEvents_27 : decode cX8_sparedEvents 27 = .ok (.aload_n 0, 1) := by decide +kernel
theorem dX8_sparedEvents_28 : decode cX8_sparedEvents 28 = .ok (.iconst 1, 1) := by decide +kernel
theorem dX8_sparedEvents_29 : decode cX8_sparedEvents 29 = .ok (.iload_n 1, 1) := by decide +kernel
theorem dX8_sparedEvents_30 : decode cX8_sparedEvents 30 = .ok (.ishl, 1) := by decide +kernel
theorem dX8_sparedEvents_31 : decode cX8_sparedEvents 31 = .ok (.invokevirtual 355, 3) := by decide +kernel
theorem dX8_sparedEvents_34 : decode cX8_sparedEvents 34 = .ok (.ifCond .eq 7, 3) := by decide +kernel
theorem dX8_sparedEvents_37 : decode cX8_sparedEvents 37 = .ok (.iconst 1, 1) := by decide +kernel
theorem dX8_sparedEvents_38 : decode cX8_sparedEvents 38 = .ok (.iload_n 1, 1) := by decide +kernel
theorem dX8_sparedEvents_39 : decode cX8_sparedEvents 39 = .ok (.ishl, 1) := by decide +kernel
theorem dX8_sparedEvents_40 : decode cX8_sparedEvents 40 = .ok (.ireturn, 1) := by decide +kernel
theorem dX8_sparedEvents_41 : decode cX8_sparedEvents 41 = .ok (.iinc 1 1, 3) := by decide +kernel
theorem dX8_sparedEvents_44 : decode cX8_sparedEvents 44 = .ok (.goto (-28), 3) := by decide +kernel
theorem dX8_sparedEvents_47 : decode cX8_sparedEvents 47 = .ok (.iconst 0, 1) := by decide +kernel
theorem dX8_sparedEvents_48 : decode cX8_sparedEvents 48 = .ok (.istore_n 1, 1) := by decide +kernel
theorem dX8_sparedEvents_49 : decode cX8_sparedEvents 49 = .ok (.iload_n 1, 1) := by decide +kernel
theorem dX8_sparedEvents_50 : decode cX8_sparedEvents 50 = .ok (.aload_n 0, 1) := by decide +kernel
theorem dX8_sparedEvents_51 : decode cX8_sparedEvents 51 = .ok (.getfield 31, 3) := by decide +kernel
theorem dX8_sparedEvents_54 : decode cX8_sparedEvents 54 = .ok (.getfield 119, 3) := by decide +kernel
theorem dX8_sparedEvents_57 : decode cX8_sparedEvents 57 = .ok (.if_icmp .ge 52, 3) := by decide +kernel
theorem dX8_sparedEvents_60 : decode cX8_sparedEvents 60 = .ok (.iload_n 1, 1) := by decide +kernel
theorem dX8_sparedEvents_61 : decode cX8_sparedEvents 61 = .ok (.iconst 1, 1) := by decide +kernel
theorem dX8_sparedEvents_62 : decode cX8_sparedEvents 62 = .ok (.iadd, 1) := by decide +kernel
theorem dX8_sparedEvents_63 : decode cX8_sparedEvents 63 = .ok (.istore_n 2, 1) := by decide +kernel
theorem dX8_sparedEvents_64 : decode cX8_sparedEvents 64 = .ok (.iload_n 2, 1) := by decide +kernel
theorem dX8_sparedEvents_65 : decode cX8_sparedEvents 65 = .ok (.aload_n 0, 1) := by decide +kernel
theorem dX8_sparedEvents_66 : decode cX8_sparedEvents 66 = .ok (.getfield 31, 3) := by decide +kernel
theorem dX8_sparedEvents_69 : decode cX8_sparedEvents 69 = .ok (.getfield 119, 3) := by decide +kernel
theorem dX8_sparedEvents_72 : decode cX8_sparedEvents 72 = .ok (.if_icmp .ge 31, 3) := by decide +kernel
theorem dX8_sparedEvents_75 : decode cX8_sparedEvents 75 = .ok (.aload_n 0, 1) := by decide +kernel
theorem dX8_sparedEvents_76 : decode cX8_sparedEvents 76 = .ok (.iconst 1, 1) := by decide +kernel
theorem dX8_sparedEvents_77 : decode cX8_sparedEvents 77 = .ok (.iload_n 1, 1) := by decide +kernel
theorem dX8_sparedEvents_78 : decode cX8_sparedEvents 78 = .ok (.ishl, 1) := by decide +kernel
theorem dX8_sparedEvents_79 : decode cX8_sparedEvents 79 = .ok (.iconst 1, 1) := by decide +kernel
theorem dX8_sparedEvents_80 : decode cX8_sparedEvents 80 = .ok (.iload_n 2, 1) := by decide +kernel
theorem dX8_sparedEvents_81 : decode cX8_sparedEvents 81 = .ok (.ishl, 1) := by decide +kernel
theorem dX8_sparedEvents_82 : decode cX8_sparedEvents 82 = .ok (.ior, 1) := by decide +kernel
theorem dX8_sparedEvents_83 : decode cX8_sparedEvents 83 = .ok (.invokevirtual 355, 3) := by decide +kernel
theorem dX8_sparedEvents_86 : decode cX8_sparedEvents 86 = .ok (.ifCond .eq 11, 3) := by decide +kernel
theorem dX8_sparedEvents_89 : decode cX8_sparedEvents 89 = .ok (.iconst 1, 1) := by decide +kernel
theorem dX8_sparedEvents_90 : decode cX8_sparedEvents 90 = .ok (.iload_n 1, 1) := by decide +kernel
theorem dX8_sparedEvents_91 : decode cX8_sparedEvents 91 = .ok (.ishl, 1) := by decide +kernel
theorem dX8_sparedEvents_92 : decode cX8_sparedEvents 92 = .ok (.iconst 1, 1) := by decide +kernel
theorem dX8_sparedEvents_93 : decode cX8_sparedEvents 93 = .ok (.iload_n 2, 1) := by decide +kernel
theorem dX8_sparedEvents_94 : decode cX8_sparedEvents 94 = .ok (.ishl, 1) := by decide +kernel
theorem dX8_sparedEvents_95 : decode cX8_sparedEvents 95 = .ok (.ior, 1) := by decide +kernel
theorem dX8_sparedEvents_96 : decode cX8_sparedEvents 96 = .ok (.ireturn, 1) := by decide +kernel
theorem dX8_sparedEvents_97 : decode cX8_sparedEvents 97 = .ok (.iinc 2 1, 3) := by decide +kernel
theorem dX8_sparedEvents_100 : decode cX8_sparedEvents 100 = .ok (.goto (-36), 3) := by decide +kernel
theorem dX8_sparedEvents_103 : decode cX8_sparedEvents 103 = .ok (.iinc 1 1, 3) := by decide +kernel
theorem dX8_sparedEvents_106 : decode cX8_sparedEvents 106 = .ok (.goto (-57), 3) := by decide +kernel
theorem dX8_sparedEvents_109 : decode cX8_sparedEvents 109 = .ok (.iconst (-1), 1) := by decide +kernel
theorem dX8_sparedEvents_110 : decode cX8_sparedEvents 110 = .ok (.ireturn, 1) := by decide +kernel
theorem dX8_standsWithout_0 : decode cX8_standsWithout 0 = .ok (.aload_n 0, 1) := by decide +kernel
theorem dX8_standsWithout_1 : decode cX8_standsWithout 1 = .ok (.getfield 53, 3) := by decide +kernel
theorem dX8_standsWithout_4 : decode cX8_standsWithout 4 = .ok (.iload_n 1, 1) := by decide +kernel
theorem dX8_standsWithout_5 : decode cX8_standsWithout 5 = .ok (.putfield 204, 3) := by decide +kernel
theorem dX8_standsWithout_8 : decode cX8_standsWithout 8 = .ok (.aload_n 0, 1) := by decide +kernel
theorem dX8_standsWithout_9 : decode cX8_standsWithout 9 = .ok (.getfield 60, 3) := by decide +kernel
theorem dX8_standsWithout_12 : decode cX8_standsWithout 12 = .ok (.aload_n 0, 1) := by decide +kernel
theorem dX8_standsWithout_13 : decode cX8_standsWithout 13 = .ok (.getfield 53, 3) := by decide +kernel
theorem dX8_standsWithout_16 : decode cX8_standsWithout 16 = .ok (.bipush 12, 2) := by decide +kernel
theorem dX8_standsWithout_18 : decode cX8_standsWithout 18 = .ok (.invokevirtual 207, 3) := by decide +kernel
theorem dX8_standsWithout_21 : decode cX8_standsWithout 21 = .ok (.aload_n 0, 1) := by decide +kernel
theorem dX8_standsWithout_22 : decode cX8_standsWithout 22 = .ok (.getfield 60, 3) := by decide +kernel
theorem dX8_standsWithout_25 : decode cX8_standsWithout 25 = .ok (.getfield 166, 3) := by decide +kernel
theorem dX8_standsWithout_28 : decode cX8_standsWithout 28 = .ok (.ifCond .ne 7, 3) := by decide +kernel
theorem dX8_standsWithout_31 : decode cX8_standsWithout 31 = .ok (.iconst 1, 1) := by decide +kernel
theorem dX8_standsWithout_32 : decode cX8_standsWithout 32 = .ok (.goto 4, 3) := by decide +kernel
theorem dX8_standsWithout_35 : decode cX8_standsWithout 35 = .ok (.iconst 0, 1) := by decide +kernel
theorem dX8_standsWithout_36 : decode cX8_standsWithout 36 = .ok (.ireturn, 1) := by decide +kernel
theorem dX8_tallyPlaces_0 : decode cX8_tallyPlaces 0 = .ok (.aload_n 0, 1) := by decide +kernel
theorem dX8_tallyPlaces_1 : decode cX8_tallyPlaces 1 = .ok (.invokevirtual 201, 3) := by decide +kernel
theorem dX8_tallyPlaces_4 : decode cX8_tallyPlaces 4 = .ok (.iconst 0, 1) := by decide +kernel
theorem dX8_tallyPlaces_5 : decode cX8_tallyPlaces 5 = .ok (.istore_n 2, 1) := by decide +kernel
theorem dX8_tallyPlaces_6 : decode cX8_tallyPlaces 6 = .ok (.iload_n 2, 1) := by decide +kernel
theorem dX8_tallyPlaces_7 : decode cX8_tallyPlaces 7 = .ok (.aload_n 0, 1) := by decide +kernel
theorem dX8_tallyPlaces_8 : decode cX8_tallyPlaces 8 = .ok (.getfield 75, 3) := by decide +kernel
theorem dX8_tallyPlaces_11 : decode cX8_tallyPlaces 11 = .ok (.arraylength, 1) := by decide +kernel
theorem dX8_tallyPlaces_12 : decode cX8_tallyPlaces 12 = .ok (.if_icmp .ge 16, 3) := by decide +kernel
theorem dX8_tallyPlaces_15 : decode cX8_tallyPlaces 15 = .ok (.aload_n 0, 1) := by decide +kernel
theorem dX8_tallyPlaces_16 : decode cX8_tallyPlaces 16 = .ok (.getfield 75, 3) := by decide +kernel
theorem dX8_tallyPlaces_19 : decode cX8_tallyPlaces 19 = .ok (.iload_n 2, 1) := by decide +kernel
theorem dX8_tallyPlaces_20 : decode cX8_tallyPlaces 20 = .ok (.iconst 0, 1) := by decide +kernel
theorem dX8_tallyPlaces_21 : decode cX8_tallyPlaces 21 = .ok (.iastore, 1) := by decide +kernel
theorem dX8_tallyPlaces_22 : decode cX8_tallyPlaces 22 = .ok (.iinc 2 1, 3) := by decide +kernel
theorem dX8_tallyPlaces_25 : decode cX8_tallyPlaces 25 = .ok (.goto (-19), 3) := by decide +kernel
theorem dX8_tallyPlaces_28 : decode cX8_tallyPlaces 28 = .ok (.iconst 0, 1) := by decide +kernel
theorem dX8_tallyPlaces_29 : decode cX8_tallyPlaces 29 = .ok (.istore_n 2, 1) := by decide +kernel
theorem dX8_tallyPlaces_30 : decode cX8_tallyPlaces 30 = .ok (.iload_n 2, 1) := by decide +kernel
theorem dX8_tallyPlaces_31 : decode cX8_tallyPlaces 31 = .ok (.bipush 9, 2) := by decide +kernel
theorem dX8_tallyPlaces_33 : decode cX8_tallyPlaces 33 = .ok (.if_icmp .gt 89, 3) := by decide +kernel
theorem dX8_tallyPlaces_36 : decode cX8_tallyPlaces 36 = .ok (.aload_n 0, 1) := by decide +kernel
theorem dX8_tallyPlaces_37 : decode cX8_tallyPlaces 37 = .ok (.getfield 53, 3) := by decide +kernel
theorem dX8_tallyPlaces_40 : decode cX8_tallyPlaces 40 = .ok (.getfield 215, 3) := by decide +kernel
theorem dX8_tallyPlaces_43 : decode cX8_tallyPlaces 43 = .ok (.iload_n 1, 1) := by decide +kernel
theorem dX8_tallyPlaces_44 : decode cX8_tallyPlaces 44 = .ok (.iload_n 2, 1) := by decide +kernel
theorem dX8_tallyPlaces_45 : decode cX8_tallyPlaces 45 = .ok (.iastore, 1) := by decide +kernel
theorem dX8_tallyPlaces_46 : decode cX8_tallyPlaces 46 = .ok (.aload_n 0, 1) := by decide +kernel
theorem dX8_tallyPlaces_47 : decode cX8_tallyPlaces 47 = .ok (.getfield 60, 3) := by decide +kernel
theorem dX8_tallyPlaces_50 : decode cX8_tallyPlaces 50 = .ok (.aload_n 0, 1) := by decide +kernel
theorem dX8_tallyPlaces_51 : decode cX8_tallyPlaces 51 = .ok (.getfield 53, 3) := by decide +kernel
theorem dX8_tallyPlaces_54 : decode cX8_tallyPlaces 54 = .ok (.bipush 12, 2) := by decide +kernel
theorem dX8_tallyPlaces_56 : decode cX8_tallyPlaces 56 = .ok (.invokevirtual 207, 3) := by decide +kernel
theorem dX8_tallyPlaces_59 : decode cX8_tallyPlaces 59 = .ok (.aload_n 0, 1) := by decide +kernel
theorem dX8_tallyPlaces_60 : decode cX8_tallyPlaces 60 = .ok (.getfield 60, 3) := by decide +kernel
theorem dX8_tallyPlaces_63 : decode cX8_tallyPlaces 63 = .ok (.aload_n 0, 1) := by decide +kernel
theorem dX8_tallyPlaces_64 : decode cX8_tallyPlaces 64 = .ok (.getfield 35, 3) := by decide +kernel
theorem dX8_tallyPlaces_67 : decode cX8_tallyPlaces 67 = .ok (.aload_n 0, 1) := by decide +kernel
theorem dX8_tallyPlaces_68 : decode cX8_tallyPlaces 68 = .ok (.getfield 53, 3) := by decide +kernel
theorem dX8_tallyPlaces_71 : decode cX8_tallyPlaces 71 = .ok (.getfield 161, 3) := by decide +kernel
theorem dX8_tallyPlaces_74 : decode cX8_tallyPlaces 74 = .ok (.invokevirtual 211, 3) := by decide +kernel
theorem dX8_tallyPlaces_77 : decode cX8_tallyPlaces 77 = .ok (.ifCond .eq 39, 3) := by decide +kernel
theorem dX8_tallyPlaces_80 : decode cX8_tallyPlaces 80 = .ok (.iconst 0, 1) := by decide +kernel
theorem dX8_tallyPlaces_81 : decode cX8_tallyPlaces 81 = .ok (.istore_n 3, 1) := by decide +kernel
theorem dX8_tallyPlaces_82 : decode cX8_tallyPlaces 82 = .ok (.iload_n 3, 1) := by decide +kernel
theorem dX8_tallyPlaces_83 : decode cX8_tallyPlaces 83 = .ok (.bipush 12, 2) := by decide +kernel
theorem dX8_tallyPlaces_85 : decode cX8_tallyPlaces 85 = .ok (.if_icmp .ge 31, 3) := by decide +kernel
theorem dX8_tallyPlaces_88 : decode cX8_tallyPlaces 88 = .ok (.aload_n 0, 1) := by decide +kernel
theorem dX8_tallyPlaces_89 : decode cX8_tallyPlaces 89 = .ok (.getfield 75, 3) := by decide +kernel
theorem dX8_tallyPlaces_92 : decode cX8_tallyPlaces 92 = .ok (.iload_n 3, 1) := by decide +kernel
theorem dX8_tallyPlaces_93 : decode cX8_tallyPlaces 93 = .ok (.iconst 4, 1) := by decide +kernel
theorem dX8_tallyPlaces_94 : decode cX8_tallyPlaces 94 = .ok (.imul, 1) := by decide +kernel
theorem dX8_tallyPlaces_95 : decode cX8_tallyPlaces 95 = .ok (.aload_n 0, 1) := by decide +kernel
theorem dX8_tallyPlaces_96 : decode cX8_tallyPlaces 96 = .ok (.getfield 60, 3) := by decide +kernel
theorem dX8_tallyPlaces_99 : decode cX8_tallyPlaces 99 = .ok (.iload_n 3, 1) := by decide +kernel
theorem dX8_tallyPlaces_100 : decode cX8_tallyPlaces 100 = .ok (.iload_n 1, 1) := by decide +kernel
theorem dX8_tallyPlaces_101 : decode cX8_tallyPlaces 101 = .ok (.invokevirtual 358, 3) := by decide +kernel
theorem dX8_tallyPlaces_104 : decode cX8_tallyPlaces 104 = .ok (.iadd, 1) := by decide +kernel
theorem dX8_tallyPlaces_105 : decode cX8_tallyPlaces 105 = .ok (.dup2, 1) := by decide +kernel
theorem dX8_tallyPlaces_106 : decode cX8_tallyPlaces 106 = .ok (.iaload, 1) := by decide +kernel
theorem dX8_tallyPlaces_107 : decode cX8_tallyPlaces 107 = .ok (.iconst 1, 1) := by decide +kernel
theorem dX8_tallyPlaces_108 : decode cX8_tallyPlaces 108 = .ok (.iadd, 1) := by decide +kernel
theorem dX8_tallyPlaces_109 : decode cX8_tallyPlaces 109 = .ok (.iastore, 1) := by decide +kernel
theorem dX8_tallyPlaces_110 : decode cX8_tallyPlaces 110 = .ok (.iinc 3 1, 3) := by decide +kernel
theorem dX8_tallyPlaces_113 : decode cX8_tallyPlaces 113 = .ok (.goto (-31), 3) := by decide +kernel
theorem dX8_tallyPlaces_116 : decode cX8_tallyPlaces 116 = .ok (.iinc 2 1, 3) := by decide +kernel
theorem dX8_tallyPlaces_119 : decode cX8_tallyPlaces 119 = .ok (.goto (-89), 3) := by decide +kernel
theorem dX8_tallyPlaces_122 : decode cX8_tallyPlaces 122 = .ok (.return_, 1) := by decide +kernel
theorem dX8_greatestTally_0 : decode cX8_greatestTally 0 = .ok (.iconst 0, 1) := by decide +kernel
theorem dX8_greatestTally_1 : decode cX8_greatestTally 1 = .ok (.istore_n 2, 1) := by decide +kernel
theorem dX8_greatestTally_2 : decode cX8_greatestTally 2 = .ok (.iconst 0, 1) := by decide +kernel
theorem dX8_greatestTally_3 : decode cX8_greatestTally 3 = .ok (.istore_n 3, 1) := by decide +kernel
theorem dX8_greatestTally_4 : decode cX8_greatestTally 4 = .ok (.iload_n 3, 1) := by decide +kernel
theorem dX8_greatestTally_5 : decode cX8_greatestTally 5 = .ok (.iconst 3, 1) := by decide +kernel
theorem dX8_greatestTally_6 : decode cX8_greatestTally 6 = .ok (.if_icmp .gt 24, 3) := by decide +kernel
theorem dX8_greatestTally_9 : decode cX8_greatestTally 9 = .ok (.iload_n 2, 1) := by decide +kernel
theorem dX8_greatestTally_10 : decode cX8_greatestTally 10 = .ok (.aload_n 0, 1) := by decide +kernel
theorem dX8_greatestTally_11 : decode cX8_greatestTally 11 = .ok (.getfield 75, 3) := by decide +kernel
theorem dX8_greatestTally_14 : decode cX8_greatestTally 14 = .ok (.iload_n 1, 1) := by decide +kernel
theorem dX8_greatestTally_15 : decode cX8_greatestTally 15 = .ok (.iconst 4, 1) := by decide +kernel
theorem dX8_greatestTally_16 : decode cX8_greatestTally 16 = .ok (.imul, 1) := by decide +kernel
theorem dX8_greatestTally_17 : decode cX8_greatestTally 17 = .ok (.iload_n 3, 1) := by decide +kernel
theorem dX8_greatestTally_18 : decode cX8_greatestTally 18 = .ok (.iadd, 1) := by decide +kernel
theorem dX8_greatestTally_19 : decode cX8_greatestTally 19 = .ok (.iaload, 1) := by decide +kernel
theorem dX8_greatestTally_20 : decode cX8_greatestTally 20 = .ok (.invokestatic 361, 3) := by decide +kernel
theorem dX8_greatestTally_23 : decode cX8_greatestTally 23 = .ok (.istore_n 2, 1) := by decide +kernel
theorem dX8_greatestTally_24 : decode cX8_greatestTally 24 = .ok (.iinc 3 1, 3) := by decide +kernel
theorem dX8_greatestTally_27 : decode cX8_greatestTally 27 = .ok (.goto (-23), 3) := by decide +kernel
theorem dX8_greatestTally_30 : decode cX8_greatestTally 30 = .ok (.iload_n 2, 1) := by decide +kernel
theorem dX8_greatestTally_31 : decode cX8_greatestTally 31 = .ok (.ireturn, 1) := by decide +kernel
theorem dX8_weighBests_0 : decode cX8_weighBests 0 = .ok (.aload_n 0, 1) := by decide +kernel
theorem dX8_weighBests_1 : decode cX8_weighBests 1 = .ok (.invokevirtual 201, 3) := by decide +kernel
theorem dX8_weighBests_4 : decode cX8_weighBests 4 = .ok (.iconst 0, 1) := by decide +kernel
theorem dX8_weighBests_5 : decode cX8_weighBests 5 = .ok (.istore_n 2, 1) := by decide +kernel
theorem dX8_weighBests_6 : decode cX8_weighBests 6 = .ok (.iload_n 2, 1) := by decide +kernel
theorem dX8_weighBests_7 : decode cX8_weighBests 7 = .ok (.bipush 10, 2) := by decide +kernel
theorem dX8_weighBests_9 : decode cX8_weighBests 9 = .ok (.if_icmp .ge 16, 3) := by decide +kernel
theorem dX8_weighBests_12 : decode cX8_weighBests 12 = .ok (.aload_n 0, 1) := by decide +kernel
theorem dX8_weighBests_13 : decode cX8_weighBests 13 = .ok (.getfield 71, 3) := by decide +kernel
theorem dX8_weighBests_16 : decode cX8_weighBests 16 = .ok (.iload_n 2, 1) := by decide +kernel
theorem dX8_weighBests_17 : decode cX8_weighBests 17 = .ok (.lconst 0, 1) := by decide +kernel
theorem dX8_weighBests_18 : decode cX8_weighBests 18 = .ok (.lastore, 1) := by decide +kernel
theorem dX8_weighBests_19 : decode cX8_weighBests 19 = .ok (.iinc 2 1, 3) := by decide +kernel
theorem dX8_weighBests_22 : decode cX8_weighBests 22 = .ok (.goto (-16), 3) := by decide +kernel
theorem dX8_weighBests_25 : decode cX8_weighBests 25 = .ok (.iconst 0, 1) := by decide +kernel
theorem dX8_weighBests_26 : decode cX8_weighBests 26 = .ok (.istore_n 2, 1) := by decide +kernel
theorem dX8_weighBests_27 : decode cX8_weighBests 27 = .ok (.iload_n 2, 1) := by decide +kernel
theorem dX8_weighBests_28 : decode cX8_weighBests 28 = .ok (.iconst 1, 1) := by decide +kernel
theorem dX8_weighBests_29 : decode cX8_weighBests 29 = .ok (.aload_n 0, 1) := by decide +kernel
theorem dX8_weighBests_30 : decode cX8_weighBests 30 = .ok (.getfield 31, 3) := by decide +kernel
theorem dX8_weighBests_33 : decode cX8_weighBests 33 = .ok (.getfield 119, 3) := by decide +kernel
theorem dX8_weighBests_36 : decode cX8_weighBests 36 = .ok (.ishl, 1) := by decide +kernel
theorem dX8_weighBests_37 : decode cX8_weighBests 37 = .ok (.if_icmp .ge 79, 3) := by decide +kernel
theorem dX8_weighBests_40 : decode cX8_weighBests 40 = .ok (.aload_n 0, 1) := by decide +kernel
theorem dX8_weighBests_41 : decode cX8_weighBests 41 = .ok (.iload_n 2, 1) := by decide +kernel
theorem dX8_weighBests_42 : decode cX8_weighBests 42 = .ok (.iload_n 1, 1) := by decide +kernel
theorem dX8_weighBests_43 : decode cX8_weighBests 43 = .ok (.invokevirtual 364, 3) := by decide +kernel
theorem dX8_weighBests_46 : decode cX8_weighBests 46 = .ok (.lstore_n 3, 1) := by decide +kernel
theorem dX8_weighBests_47 : decode cX8_weighBests 47 = .ok (.lload_n 3, 1) := by decide +kernel
theorem dX8_weighBests_48 : decode cX8_weighBests 48 = .ok (.lconst 0, 1) := by decide +kernel
theorem dX8_weighBests_49 : decode cX8_weighBests 49 = .ok (.lcmp, 1) := by decide +kernel
theorem dX8_weighBests_50 : decode cX8_weighBests 50 = .ok (.ifCond .ne 6, 3) := by decide +kernel
theorem dX8_weighBests_53 : decode cX8_weighBests 53 = .ok (.goto 57, 3) := by decide +kernel
theorem dX8_weighBests_56 : decode cX8_weighBests 56 = .ok (.aload_n 0, 1) := by decide +kernel
theorem dX8_weighBests_57 : decode cX8_weighBests 57 = .ok (.getfield 53, 3) := by decide +kernel
theorem dX8_weighBests_60 : decode cX8_weighBests 60 = .ok (.iload_n 2, 1) := by decide +kernel
theorem dX8_weighBests_61 : decode cX8_weighBests 61 = .ok (.putfield 204, 3) := by decide +kernel
theorem dX8_weighBests_64 : decode cX8_weighBests 64 = .ok (.aload_n 0, 1) := by decide +kernel
theorem dX8_weighBests_65 : decode cX8_weighBests 65 = .ok (.getfield 60, 3) := by decide +kernel
theorem dX8_weighBests_68 : decode cX8_weighBests 68 = .ok (.aload_n 0, 1) := by decide +kernel
theorem dX8_weighBests_69 : decode cX8_weighBests 69 = .ok (.getfield 53, 3) := by decide +kernel
theorem dX8_weighBests_72 : decode cX8_weighBests 72 = .ok (.bipush 12, 2) := by decide +kernel
theorem dX8_weighBests_74 : decode cX8_weighBests 74 = .ok (.invokevirtual 207, 3) := by decide +kernel
theorem dX8_weighBests_77 : decode cX8_weighBests 77 = .ok (.aload_n 0, 1) := by decide +kernel
theorem dX8_weighBests_78 : decode cX8_weighBests 78 = .ok (.getfield 60, 3) := by decide +kernel
theorem dX8_weighBests_81 : decode cX8_weighBests 81 = .ok (.aload_n 0, 1) := by decide +kernel
theorem dX8_weighBests_82 : decode cX8_weighBests 82 = .ok (.getfield 53, 3) := by decide +kernel
theorem dX8_weighBests_85 : decode cX8_weighBests 85 = .ok (.getfield 161, 3) := by decide +kernel
theorem dX8_weighBests_88 : decode cX8_weighBests 88 = .ok (.invokevirtual 163, 3) := by decide +kernel
theorem dX8_weighBests_91 : decode cX8_weighBests 91 = .ok (.istore 5, 2) := by decide +kernel
theorem dX8_weighBests_93 : decode cX8_weighBests 93 = .ok (.iload 5, 2) := by decide +kernel
theorem dX8_weighBests_95 : decode cX8_weighBests 95 = .ok (.iconst (-1), 1) := by decide +kernel
theorem dX8_weighBests_96 : decode cX8_weighBests 96 = .ok (.if_icmp .eq 14, 3) := by decide +kernel
theorem dX8_weighBests_99 : decode cX8_weighBests 99 = .ok (.aload_n 0, 1) := by decide +kernel
theorem dX8_weighBests_100 : decode cX8_weighBests 100 = .ok (.getfield 71, 3) := by decide +kernel
theorem dX8_weighBests_103 : decode cX8_weighBests 103 = .ok (.iload 5, 2) := by decide +kernel
theorem dX8_weighBests_105 : decode cX8_weighBests 105 = .ok (.dup2, 1) := by decide +kernel
theorem dX8_weighBests_106 : decode cX8_weighBests 106 = .ok (.laload, 1) := by decide +kernel
theorem dX8_weighBests_107 : decode cX8_weighBests 107 = .ok (.lload_n 3, 1) := by decide +kernel
theorem dX8_weighBests_108 : decode cX8_weighBests 108 = .ok (.ladd, 1) := by decide +kernel
theorem dX8_weighBests_109 : decode cX8_weighBests 109 = .ok (.lastore, 1) := by decide +kernel
theorem dX8_weighBests_110 : decode cX8_weighBests 110 = .ok (.iinc 2 1, 3) := by decide +kernel
theorem dX8_weighBests_113 : decode cX8_weighBests 113 = .ok (.goto (-86), 3) := by decide +kernel
theorem dX8_weighBests_116 : decode cX8_weighBests 116 = .ok (.return_, 1) := by decide +kernel
theorem dX8_weightWithout_0 : decode cX8_weightWithout 0 = .ok (.lconst 1, 1) := by decide +kernel
theorem dX8_weightWithout_1 : decode cX8_weightWithout 1 = .ok (.lstore_n 3, 1) := by decide +kernel
theorem dX8_weightWithout_2 : decode cX8_weightWithout 2 = .ok (.iconst 0, 1) := by decide +kernel
theorem dX8_weightWithout_3 : decode cX8_weightWithout 3 = .ok (.istore 5, 2) := by decide +kernel
theorem dX8_weightWithout_5 : decode cX8_weightWithout 5 = .ok (.iload 5, 2) := by decide +kernel
theorem dX8_weightWithout_7 : decode cX8_weightWithout 7 = .ok (.aload_n 0, 1) := by decide +kernel
theorem dX8_weightWithout_8 : decode cX8_weightWithout 8 = .ok (.getfield 31, 3) := by decide +kernel
theorem dX8_weightWithout_11 : decode cX8_weightWithout 11 = .ok (.getfield 119, 3) := by decide +kernel
theorem dX8_weightWithout_14 : decode cX8_weightWithout 14 = .ok (.if_icmp .ge 31, 3) := by decide +kernel
theorem dX8_weightWithout_17 : decode cX8_weightWithout 17 = .ok (.lload_n 3, 1) := by decide +kernel
theorem dX8_weightWithout_18 : decode cX8_weightWithout 18 = .ok (.iload_n 1, 1) := by decide +kernel
theorem dX8_weightWithout_19 : decode cX8_weightWithout 19 = .ok (.iload 5, 2) := by decide +kernel
theorem dX8_weightWithout_21 : decode cX8_weightWithout 21 = .ok (.ishr, 1) := by decide +kernel
theorem dX8_weightWithout_22 : decode cX8_weightWithout 22 = .ok (.iconst 1, 1) := by decide +kernel
theorem dX8_weightWithout_23 : decode cX8_weightWithout 23 = .ok (.iand, 1) := by decide +kernel
theorem dX8_weightWithout_24 : decode cX8_weightWithout 24 = .ok (.ifCond .ne 8, 3) := by decide +kernel
theorem dX8_weightWithout_27 : decode cX8_weightWithout 27 = .ok (.iload_n 2, 1) := by decide +kernel
theorem dX8_weightWithout_28 : decode cX8_weightWithout 28 = .ok (.i2l, 1) := by decide +kernel
theorem dX8_weightWithout_29 : decode cX8_weightWithout 29 = .ok (.goto 8, 3) := by decide +kernel
theorem dX8_weightWithout_32 : decode cX8_weightWithout 32 = .ok (.bipush 16, 2) := by decide +kernel
theorem dX8_weightWithout_34 : decode cX8_weightWithout 34 = .ok (.iload_n 2, 1) := by decide +kernel
theorem dX8_weightWithout_35 : decode cX8_weightWithout 35 = .ok (.isub, 1) := by decide +kernel
theorem dX8_weightWithout_36 : decode cX8_weightWithout 36 = .ok (.i2l, 1) := by decide +kernel
theorem dX8_weightWithout_37 : decode cX8_weightWithout 37 = .ok (.lmul, 1) := by decide +kernel
theorem dX8_weightWithout_38 : decode cX8_weightWithout 38 = .ok (.lstore_n 3, 1) := by decide +kernel
theorem dX8_weightWithout_39 : decode cX8_weightWithout 39 = .ok (.iinc 5 1, 3) := by decide +kernel
theorem dX8_weightWithout_42 : decode cX8_weightWithout 42 = .ok (.goto (-37), 3) := by decide +kernel
theorem dX8_weightWithout_45 : decode cX8_weightWithout 45 = .ok (.lload_n 3, 1) := by decide +kernel
theorem dX8_weightWithout_46 : decode cX8_weightWithout 46 = .ok (.lreturn, 1) := by decide +kernel
theorem dX8_partOfFraction_0 : decode cX8_partOfFraction 0 = .ok (.iconst 4, 1) := by decide +kernel
theorem dX8_partOfFraction_1 : decode cX8_partOfFraction 1 = .ok (.aload_n 0, 1) := by decide +kernel
theorem dX8_partOfFraction_2 : decode cX8_partOfFraction 2 = .ok (.getfield 31, 3) := by decide +kernel
theorem dX8_partOfFraction_5 : decode cX8_partOfFraction 5 = .ok (.getfield 119, 3) := by decide +kernel
theorem dX8_partOfFraction_8 : decode cX8_partOfFraction 8 = .ok (.imul, 1) := by decide +kernel
theorem dX8_partOfFraction_9 : decode cX8_partOfFraction 9 = .ok (.istore 4, 2) := by decide +kernel
theorem dX8_partOfFraction_11 : decode cX8_partOfFraction 11 = .ok (.lload_n 1, 1) := by decide +kernel
theorem dX8_partOfFraction_12 : decode cX8_partOfFraction 12 = .ok (.lstore 5, 2) := by decide +kernel
theorem dX8_partOfFraction_14 : decode cX8_partOfFraction 14 = .ok (.lconst 1, 1) := by decide +kernel
theorem dX8_partOfFraction_15 : decode cX8_partOfFraction 15 = .ok (.iload 4, 2) := by decide +kernel
theorem dX8_partOfFraction_17 : decode cX8_partOfFraction 17 = .ok (.lshl, 1) := by decide +kernel
theorem dX8_partOfFraction_18 : decode cX8_partOfFraction 18 = .ok (.lstore 7, 2) := by decide +kernel
theorem dX8_partOfFraction_20 : decode cX8_partOfFraction 20 = .ok (.iconst 0, 1) := by decide +kernel
theorem dX8_partOfFraction_21 : decode cX8_partOfFraction 21 = .ok (.istore 9, 2) := by decide +kernel
theorem dX8_partOfFraction_23 : decode cX8_partOfFraction 23 = .ok (.iload 9, 2) := by decide +kernel
theorem dX8_partOfFraction_25 : decode cX8_partOfFraction 25 = .ok (.iload 4, 2) := by decide +kernel
theorem dX8_partOfFraction_27 : decode cX8_partOfFraction 27 = .ok (.if_icmp .ge 30, 3) := by decide +kernel
theorem dX8_partOfFraction_30 : decode cX8_partOfFraction 30 = .ok (.lload 5, 2) := by decide +kernel
theorem dX8_partOfFraction_32 : decode cX8_partOfFraction 32 = .ok (.lconst 1, 1) := by decide +kernel
theorem dX8_partOfFraction_33 : decode cX8_partOfFraction 33 = .ok (.land, 1) := by decide +kernel
theorem dX8_partOfFraction_34 : decode cX8_partOfFraction 34 = .ok (.lconst 0, 1) := by decide +kernel
theorem dX8_partOfFraction_35 : decode cX8_partOfFraction 35 = .ok (.lcmp, 1) := by decide +kernel
theorem dX8_partOfFraction_36 : decode cX8_partOfFraction 36 = .ok (.ifCond .ne 21, 3) := by decide +kernel
theorem dX8_partOfFraction_39 : decode cX8_partOfFraction 39 = .ok (.lload 5, 2) := by decide +kernel
theorem dX8_partOfFraction_41 : decode cX8_partOfFraction 41 = .ok (.iconst 1, 1) := by decide +kernel
theorem dX8_partOfFraction_42 : decode cX8_partOfFraction 42 = .ok (.lshr, 1) := by decide +kernel
theorem dX8_partOfFraction_43 : decode cX8_partOfFraction 43 = .ok (.lstore 5, 2) := by decide +kernel
theorem dX8_partOfFraction_45 : decode cX8_partOfFraction 45 = .ok (.lload 7, 2) := by decide +kernel
theorem dX8_partOfFraction_47 : decode cX8_partOfFraction 47 = .ok (.iconst 1, 1) := by decide +kernel
theorem dX8_partOfFraction_48 : decode cX8_partOfFraction 48 = .ok (.lshr, 1) := by decide +kernel
theorem dX8_partOfFraction_49 : decode cX8_partOfFraction 49 = .ok (.lstore 7, 2) := by decide +kernel
theorem dX8_partOfFraction_51 : decode cX8_partOfFraction 51 = .ok (.iinc 9 1, 3) := by decide +kernel
theorem dX8_partOfFraction_54 : decode cX8_partOfFraction 54 = .ok (.goto (-31), 3) := by decide +kernel
theorem dX8_partOfFraction_57 : decode cX8_partOfFraction 57 = .ok (.iload_n 3, 1) := by decide +kernel
theorem dX8_partOfFraction_58 : decode cX8_partOfFraction 58 = .ok (.ifCond .ne 8, 3) := by decide +kernel
theorem dX8_partOfFraction_61 : decode cX8_partOfFraction 61 = .ok (.lload 5, 2) := by decide +kernel
theorem dX8_partOfFraction_63 : decode cX8_partOfFraction 63 = .ok (.goto 5, 3) := by decide +kernel
theorem dX8_partOfFraction_66 : decode cX8_partOfFraction 66 = .ok (.lload 7, 2) := by decide +kernel
theorem dX8_partOfFraction_68 : decode cX8_partOfFraction 68 = .ok (.lreturn, 1) := by decide +kernel
theorem dX8_drawBox_0 : decode cX8_drawBox 0 = .ok (.iload_n 1, 1) := by decide +kernel
theorem dX8_drawBox_1 : decode cX8_drawBox 1 = .ok (.istore_n 3, 1) := by decide +kernel
theorem dX8_drawBox_2 : decode cX8_drawBox 2 = .ok (.iconst 0, 1) := by decide +kernel
theorem dX8_drawBox_3 : decode cX8_drawBox 3 = .ok (.istore 4, 2) := by decide +kernel
theorem dX8_drawBox_5 : decode cX8_drawBox 5 = .ok (.iload 4, 2) := by decide +kernel
theorem dX8_drawBox_7 : decode cX8_drawBox 7 = .ok (.bipush 12, 2) := by decide +kernel
theorem dX8_drawBox_9 : decode cX8_drawBox 9 = .ok (.if_icmp .ge 55, 3) := by decide +kernel
theorem dX8_drawBox_12 : decode cX8_drawBox 12 = .ok (.iload 4, 2) := by decide +kernel
theorem dX8_drawBox_14 : decode cX8_drawBox 14 = .ok (.iload_n 2, 1) := by decide +kernel
theorem dX8_drawBox_15 : decode cX8_drawBox 15 = .ok (.if_icmp .ge 32, 3) := by decide +kernel
theorem dX8_drawBox_18 : decode cX8_drawBox 18 = .ok (.ldc_w 368, 3) := by decide +kernel
theorem dX8_drawBox_21 : decode cX8_drawBox 21 = .ok (.iload_n 3, 1) := by decide +kernel
theorem dX8_drawBox_22 : decode cX8_drawBox 22 = .ok (.imul, 1) := by decide +kernel
theorem dX8_drawBox_23 : decode cX8_drawBox 23 = .ok (.sipush 12345, 3) := by decide +kernel
theorem dX8_drawBox_26 : decode cX8_drawBox 26 = .ok (.iadd, 1) := by decide +kernel
theorem dX8_drawBox_27 : decode cX8_drawBox 27 = .ok (.istore_n 3, 1) := by decide +kernel
theorem dX8_drawBox_28 : decode cX8_drawBox 28 = .ok (.aload_n 0, 1) := by decide +kernel
theorem dX8_drawBox_29 : decode cX8_drawBox 29 = .ok (.getfield 53, 3) := by decide +kernel
theorem dX8_drawBox_32 : decode cX8_drawBox 32 = .ok (.getfield 352, 3) := by decide +kernel
theorem dX8_drawBox_35 : decode cX8_drawBox 35 = .ok (.iload 4, 2) := by decide +kernel
theorem dX8_drawBox_37 : decode cX8_drawBox 37 = .ok (.iload_n 3, 1) := by decide +kernel
theorem dX8_drawBox_38 : decode cX8_drawBox 38 = .ok (.bipush 16, 2) := by decide +kernel
theorem dX8_drawBox_40 : decode cX8_drawBox 40 = .ok (.iushr, 1) := by decide +kernel
theorem dX8_drawBox_41 : decode cX8_drawBox 41 = .ok (.iconst 4, 1) := by decide +kernel
theorem dX8_drawBox_42 : decode cX8_drawBox 42 = .ok (.irem, 1) := by decide +kernel
theorem dX8_drawBox_43 : decode cX8_drawBox 43 = .ok (.iastore, 1) := by decide +kernel
theorem dX8_drawBox_44 : decode cX8_drawBox 44 = .ok (.goto 14, 3) := by decide +kernel
theorem dX8_drawBox_47 : decode cX8_drawBox 47 = .ok (.aload_n 0, 1) := by decide +kernel
theorem dX8_drawBox_48 : decode cX8_drawBox 48 = .ok (.getfield 53, 3) := by decide +kernel
theorem dX8_drawBox_51 : decode cX8_drawBox 51 = .ok (.getfield 352, 3) := by decide +kernel
theorem dX8_drawBox_54 : decode cX8_drawBox 54 = .ok (.iload 4, 2) := by decide +kernel
theorem dX8_drawBox_56 : decode cX8_drawBox 56 = .ok (.iconst 0, 1) := by decide +kernel
theorem dX8_drawBox_57 : decode cX8_drawBox 57 = .ok (.iastore, 1) := by decide +kernel
theorem dX8_drawBox_58 : decode cX8_drawBox 58 = .ok (.iinc 4 1, 3) := by decide +kernel
theorem dX8_drawBox_61 : decode cX8_drawBox 61 = .ok (.goto (-56), 3) := by decide +kernel
theorem dX8_drawBox_64 : decode cX8_drawBox 64 = .ok (.return_, 1) := by decide +kernel
theorem dX9_init_0 : decode cX9_init 0 = .ok (.aload_n 0, 1) := by decide +kernel
theorem dX9_init_1 : decode cX9_init 1 = .ok (.invokespecial 1, 3) := by decide +kernel
theorem dX9_init_4 : decode cX9_init 4 = .ok (.aload_n 0, 1) := by decide +kernel
theorem dX9_init_5 : decode cX9_init 5 = .ok (.iconst 4, 1) := by decide +kernel
theorem dX9_init_6 : decode cX9_init 6 = .ok (.newarray .int, 2) := by decide +kernel
theorem dX9_init_8 : decode cX9_init 8 = .ok (.putfield 7, 3) := by decide +kernel
theorem dX9_init_11 : decode cX9_init 11 = .ok (.aload_n 0, 1) := by decide +kernel
theorem dX9_init_12 : decode cX9_init 12 = .ok (.iconst 4, 1) := by decide +kernel
theorem dX9_init_13 : decode cX9_init 13 = .ok (.newarray .int, 2) := by decide +kernel
theorem dX9_init_15 : decode cX9_init 15 = .ok (.putfield 13, 3) := by decide +kernel
theorem dX9_init_18 : decode cX9_init 18 = .ok (.aload_n 0, 1) := by decide +kernel
theorem dX9_init_19 : decode cX9_init 19 = .ok (.sipush 240, 3) := by decide +kernel
theorem dX9_init_22 : decode cX9_init 22 = .ok (.newarray .int, 2) := by decide +kernel
theorem dX9_init_24 : decode cX9_init 24 = .ok (.putfield 16, 3) := by decide +kernel
theorem dX9_init_27 : decode cX9_init 27 = .ok (.aload_n 0, 1) := by decide +kernel
theorem dX9_init_28 : decode cX9_init 28 = .ok (.bipush 60, 2) := by decide +kernel
theorem dX9_init_30 : decode cX9_init 30 = .ok (.newarray .int, 2) := by decide +kernel
theorem dX9_init_32 : decode cX9_init 32 = .ok (.putfield 19, 3) := by decide +kernel
theorem dX9_init_35 : decode cX9_init 35 = .ok (.aload_n 0, 1) := by decide +kernel
theorem dX9_init_36 : decode cX9_init 36 = .ok (.bipush 120, 2) := by decide +kernel
theorem dX9_init_38 : decode cX9_init 38 = .ok (.newarray .int, 2) := by decide +kernel
theorem dX9_init_40 : decode cX9_init 40 = .ok (.putfield 22, 3) := by decide +kernel
theorem dX9_init_43 : decode cX9_init 43 = .ok (.aload_n 0, 1) := by decide +kernel
theorem dX9_init_44 : decode cX9_init 44 = .ok (.iconst 3, 1) := by decide +kernel
theorem dX9_init_45 : decode cX9_init 45 = .ok (.newarray .int, 2) := by decide +kernel
theorem dX9_init_47 : decode cX9_init 47 = .ok (.putfield 25, 3) := by decide +kernel
theorem dX9_init_50 : decode cX9_init 50 = .ok (.aload_n 0, 1) := by decide +kernel
theorem dX9_init_51 : decode cX9_init 51 = .ok (.bipush 30, 2) := by decide +kernel
theorem dX9_init_53 : decode cX9_init 53 = .ok (.newarray .int, 2) := by decide +kernel
theorem dX9_init_55 : decode cX9_init 55 = .ok (.putfield 28, 3) := by decide +kernel
theorem dX9_init_58 : decode cX9_init 58 = .ok (.aload_n 0, 1) := by decide +kernel
theorem dX9_init_59 : decode cX9_init 59 = .ok (.bipush 12, 2) := by decide +kernel
theorem dX9_init_61 : decode cX9_init 61 = .ok (.newarray .int, 2) := by decide +kernel
theorem dX9_init_63 : decode cX9_init 63 = .ok (.putfield 31, 3) := by decide +kernel
theorem dX9_init_66 : decode cX9_init 66 = .ok (.aload_n 0, 1) := by decide +kernel
theorem dX9_init_67 : decode cX9_init 67 = .ok (.bipush 12, 2) := by decide +kernel
theorem dX9_init_69 : decode cX9_init 69 = .ok (.newarray .int, 2) := by decide +kernel
theorem dX9_init_71 : decode cX9_init 71 = .ok (.putfield 34, 3) := by decide +kernel
theorem dX9_init_74 : decode cX9_init 74 = .ok (.aload_n 0, 1) := by decide +kernel
theorem dX9_init_75 : decode cX9_init 75 = .ok (.bipush 24, 2) := by decide +kernel
theorem dX9_init_77 : decode cX9_init 77 = .ok (.newarray .int, 2) := by decide +kernel
theorem dX9_init_79 : decode cX9_init 79 = .ok (.putfield 37, 3) := by decide +kernel
theorem dX9_init_82 : decode cX9_init 82 = .ok (.aload_n 0, 1) := by decide +kernel
theorem dX9_init_83 : decode cX9_init 83 = .ok (.bipush 10, 2) := by decide +kernel
theorem dX9_init_85 : decode cX9_init 85 = .ok (.newarray .int, 2) := by decide +kernel
theorem dX9_init_87 : decode cX9_init 87 = .ok (.putfield 40, 3) := by decide +kernel
theorem dX9_init_90 : decode cX9_init 90 = .ok (.aload_n 0, 1) := by decide +kernel
theorem dX9_init_91 : decode cX9_init 91 = .ok (.bipush 10, 2) := by decide +kernel
theorem dX9_init_93 : decode cX9_init 93 = .ok (.newarray .int, 2) := by decide +kernel
theorem dX9_init_95 : decode cX9_init 95 = .ok (.putfield 43, 3) := by decide +kernel
theorem dX9_init_98 : decode cX9_init 98 = .ok (.aload_n 0, 1) := by decide +kernel
theorem dX9_init_99 : decode cX9_init 99 = .ok (.bipush 10, 2) := by decide +kernel
theorem dX9_init_101 : decode cX9_init 101 = .ok (.newarray .int, 2) := by decide +kernel
theorem dX9_init_103 : decode cX9_init 103 = .ok (.putfield 46, 3) := by decide +kernel
theorem dX9_init_106 : decode cX9_init 106 = .ok (.aload_n 0, 1) := by decide +kernel
theorem dX9_init_107 : decode cX9_init 107 = .ok (.bipush 10, 2) := by decide +kernel
theorem dX9_init_109 : decode cX9_init 109 = .ok (.newarray .boolean, 2) := by decide +kernel
theorem dX9_init_111 : decode cX9_init 111 = .ok (.putfield 49, 3) := by decide +kernel
theorem dX9_init_114 : decode cX9_init 114 = .ok (.aload_n 0, 1) := by decide +kernel
theorem dX9_init_115 : decode cX9_init 115 = .ok (.bipush 10, 2) := by decide +kernel
theorem dX9_init_117 : decode cX9_init 117 = .ok (.newarray .int, 2) := by decide +kernel
theorem dX9_init_119 : decode cX9_init 119 = .ok (.putfield 53, 3) := by decide +kernel
theorem dX9_init_122 : decode cX9_init 122 = .ok (.aload_n 0, 1) := by decide +kernel
theorem dX9_init_123 : decode cX9_init 123 = .ok (.bipush 10, 2) := by decide +kernel
theorem dX9_init_125 : decode cX9_init 125 = .ok (.newarray .boolean, 2) := by decide +kernel
theorem dX9_init_127 : decode cX9_init 127 = .ok (.putfield 56, 3) := by decide +kernel
theorem dX9_init_130 : decode cX9_init 130 = .ok (.aload_n 0, 1) := by decide +kernel
theorem dX9_init_131 : decode cX9_init 131 = .ok (.bipush 120, 2) := by decide +kernel
theorem dX9_init_133 : decode cX9_init 133 = .ok (.newarray .int, 2) := by decide +kernel
theorem dX9_init_135 : decode cX9_init 135 = .ok (.putfield 59, 3) := by decide +kernel
theorem dX9_init_138 : decode cX9_init 138 = .ok (.aload_n 0, 1) := by decide +kernel
theorem dX9_init_139 : decode cX9_init 139 = .ok (.bipush 120, 2) := by decide +kernel
theorem dX9_init_141 : decode cX9_init 141 = .ok (.newarray .int, 2) := by decide +kernel
theorem dX9_init_143 : decode cX9_init 143 = .ok (.putfield 62, 3) := by decide +kernel
theorem dX9_init_146 : decode cX9_init 146 = .ok (.aload_n 0, 1) := by decide +kernel
theorem dX9_init_147 : decode cX9_init 147 = .ok (.bipush 120, 2) := by decide +kernel
theorem dX9_init_149 : decode cX9_init 149 = .ok (.newarray .int, 2) := by decide +kernel
theorem dX9_init_151 : decode cX9_init 151 = .ok (.putfield 65, 3) := by decide +kernel
theorem dX9_init_154 : decode cX9_init 154 = .ok (.aload_n 0, 1) := by decide +kernel
theorem dX9_init_155 : decode cX9_init 155 = .ok (.bipush 120, 2) := by decide +kernel
theorem dX9_init_157 : decode cX9_init 157 = .ok (.newarray .int, 2) := by decide +kernel
theorem dX9_init_159 : decode cX9_init 159 = .ok (.putfield 68, 3) := by decide +kernel
theorem dX9_init_162 : decode cX9_init 162 = .ok (.aload_n 0, 1) := by decide +kernel
theorem dX9_init_163 : decode cX9_init 163 = .ok (.bipush 120, 2) := by decide +kernel
theorem dX9_init_165 : decode cX9_init 165 = .ok (.newarray .int, 2) := by decide +kernel
theorem dX9_init_167 : decode cX9_init 167 = .ok (.putfield 71, 3) := by decide +kernel
theorem dX9_init_170 : decode cX9_init 170 = .ok (.aload_n 0, 1) := by decide +kernel
theorem dX9_init_171 : decode cX9_init 171 = .ok (.bipush 36, 2) := by decide +kernel
theorem dX9_init_173 : decode cX9_init 173 = .ok (.newarray .int, 2) := by decide +kernel
theorem dX9_init_175 : decode cX9_init 175 = .ok (.putfield 74, 3) := by decide +kernel
theorem dX9_init_178 : decode cX9_init 178 = .ok (.aload_n 0, 1) := by decide +kernel
theorem dX9_init_179 : decode cX9_init 179 = .ok (.bipush 24, 2) := by decide +kernel
theorem dX9_init_181 : decode cX9_init 181 = .ok (.newarray .int, 2) := by decide +kernel
theorem dX9_init_183 : decode cX9_init 183 = .ok (.putfield 77, 3) := by decide +kernel
theorem dX9_init_186 : decode cX9_init 186 = .ok (.aload_n 0, 1) := by decide +kernel
theorem dX9_init_187 : decode cX9_init 187 = .ok (.bipush 120, 2) := by decide +kernel
theorem dX9_init_189 : decode cX9_init 189 = .ok (.newarray .int, 2) := by decide +kernel
theorem dX9_init_191 : decode cX9_init 191 = .ok (.putfield 80, 3) := by decide +kernel
theorem dX9_init_194 : decode cX9_init 194 = .ok (.iconst 0, 1) := by decide +kernel
theorem dX9_init_195 : decode cX9_init 195 = .ok (.istore_n 1, 1) := by decide +kernel
theorem dX9_init_196 : decode cX9_init 196 = .ok (.iload_n 1, 1) := by decide +kernel
theorem dX9_init_197 : decode cX9_init 197 = .ok (.iconst 4, 1) := by decide +kernel
theorem dX9_init_198 : decode cX9_init 198 = .ok (.if_icmp .ge 16, 3) := by decide +kernel
theorem dX9_init_201 : decode cX9_init 201 = .ok (.aload_n 0, 1) := by decide +kernel
theorem dX9_init_202 : decode cX9_init 202 = .ok (.getfield 7, 3) := by decide +kernel
theorem dX9_init_205 : decode cX9_init 205 = .ok (.iload_n 1, 1) := by decide +kernel
theorem dX9_init_206 : decode cX9_init 206 = .ok (.iconst (-1), 1) := by decide +kernel
theorem dX9_init_207 : decode cX9_init 207 = .ok (.iastore, 1) := by decide +kernel
theorem dX9_init_208 : decode cX9_init 208 = .ok (.iinc 1 1, 3) := by decide +kernel
theorem dX9_init_211 : decode cX9_init 211 = .ok (.goto (-15), 3) := by decide +kernel
theorem dX9_init_214 : decode cX9_init 214 = .ok (.aload_n 0, 1) := by decide +kernel
theorem dX9_init_215 : decode cX9_init 215 = .ok (.iconst (-1), 1) := by decide +kernel
theorem dX9_init_216 : decode cX9_init 216 = .ok (.putfield 83, 3) := by decide +kernel
theorem dX9_init_219 : decode cX9_init 219 = .ok (.aload_n 0, 1) := by decide +kernel
theorem dX9_init_220 : decode cX9_init 220 = .ok (.iconst (-1), 1) := by decide +kernel
theorem dX9_init_221 : decode cX9_init 221 = .ok (.putfield 87, 3) := by decide +kernel
theorem dX9_init_224 : decode cX9_init 224 = .ok (.return_, 1) := by decide +kernel
theorem dX9_in_0 : decode cX9_in 0 = .ok (.lload_n 0, 1) := by decide +kernel
theorem dX9_in_1 : decode cX9_in 1 = .ok (.lload_n 2, 1) := by decide +kernel
theorem dX9_in_2 : decode cX9_in 2 = .ok (.lcmp, 1) := by decide +kernel
theorem dX9_in_3 : decode cX9_in 3 = .ok (.ifCond .lt 14, 3) := by decide +kernel
theorem dX9_in_6 : decode cX9_in 6 = .ok (.lload_n 0, 1) := by decide +kernel
theorem dX9_in_7 : decode cX9_in 7 = .ok (.lload 4, 2) := by decide +kernel
theorem dX9_in_9 : decode cX9_in 9 = .ok (.lcmp, 1) := by decide +kernel
theorem dX9_in_10 : decode cX9_in 10 = .ok (.ifCond .gt 7, 3) := by decide +kernel
theorem dX9_in_13 : decode cX9_in 13 = .ok (.iconst 1, 1) := by decide +kernel
theorem dX9_in_14 : decode cX9_in 14 = .ok (.goto 4, 3) := by decide +kernel
theorem dX9_in_17 : decode cX9_in 17 = .ok (.iconst 0, 1) := by decide +kernel
theorem dX9_in_18 : decode cX9_in 18 = .ok (.ireturn, 1) := by decide +kernel
theorem dX9_no_0 : decode cX9_no 0 = .ok (.ldc2_w 90, 3) := by decide +kernel
theorem dX9_no_3 : decode cX9_no 3 = .ok (.iload_n 0, 1) := by decide +kernel
theorem dX9_no_4 : decode cX9_no 4 = .ok (.i2l, 1) := by decide +kernel
theorem dX9_no_5 : decode cX9_no 5 = .ok (.lsub, 1) := by decide +kernel
theorem dX9_no_6 : decode cX9_no 6 = .ok (.lreturn, 1) := by decide +kernel
theorem dX9_isTwo_0 : decode cX9_isTwo 0 = .ok (.iload_n 0, 1) := by decide +kernel
theorem dX9_isTwo_1 : decode cX9_isTwo 1 = .ok (.i2l, 1) := by decide +kernel
theorem dX9_isTwo_2 : decode cX9_isTwo 2 = .ok (.lconst 0, 1) := by decide +kernel
theorem dX9_isTwo_3 : decode cX9_isTwo 3 = .ok (.lconst 1, 1) := by decide +kernel
theorem dX9_isTwo_4 : decode cX9_isTwo 4 = .ok (.invokestatic 92, 3) := by decide +kernel
theorem dX9_isTwo_7 : decode cX9_isTwo 7 = .ok (.ireturn, 1) := by decide +kernel
theorem dX9_isIn_0 : decode cX9_isIn 0 = .ok (.iload_n 0, 1) := by decide +kernel
theorem dX9_isIn_1 : decode cX9_isIn 1 = .ok (.iload_n 1, 1) := by decide +kernel
theorem dX9_isIn_2 : decode cX9_isIn 2 = .ok (.ishr, 1) := by decide +kernel
theorem dX9_isIn_3 : decode cX9_isIn 3 = .ok (.iconst 1, 1) := by decide +kernel
theorem dX9_isIn_4 : decode cX9_isIn 4 = .ok (.iand, 1) := by decide +kernel
theorem dX9_isIn_5 : decode cX9_isIn 5 = .ok (.iconst 1, 1) := by decide +kernel
theorem dX9_isIn_6 : decode cX9_isIn 6 = .ok (.if_icmp .ne 7, 3) := by decide +kernel
theorem dX9_isIn_9 : decode cX9_isIn 9 = .ok (.iconst 1, 1) := by decide +kernel
theorem dX9_isIn_10 : decode cX9_isIn 10 = .ok (.goto 4, 3) := by decide +kernel
theorem dX9_isIn_13 : decode cX9_isIn 13 = .ok (.iconst 0, 1) := by decide +kernel
theorem dX9_isIn_14 : decode cX9_isIn 14 = .ok (.ireturn, 1) := by decide +kernel
theorem dX9_ones_0 : decode cX9_ones 0 = .ok (.iconst 0, 1) := by decide +kernel
theorem dX9_ones_1 : decode cX9_ones 1 = .ok (.istore_n 1, 1) := by decide +kernel
theorem dX9_ones_2 : decode cX9_ones 2 = .ok (.iload_n 0, 1) := by decide +kernel
theorem dX9_ones_3 : decode cX9_ones 3 = .ok (.istore_n 2, 1) := by decide +kernel
theorem dX9_ones_4 : decode cX9_ones 4 = .ok (.iload_n 2, 1) := by decide +kernel
theorem dX9_ones_5 : decode cX9_ones 5 = .ok (.ifCond .eq 15, 3) := by decide +kernel
theorem dX9_ones_8 : decode cX9_ones 8 = .ok (.iinc 1 1, 3) := by decide +kernel
theorem dX9_ones_11 : decode cX9_ones 11 = .ok (.iload_n 2, 1) := by decide +kernel
theorem dX9_ones_12 : decode cX9_ones 12 = .ok (.iload_n 2, 1) := by decide +kernel
theorem dX9_ones_13 : decode cX9_ones 13 = .ok (.iconst 1, 1) := by decide +kernel
theorem dX9_ones_14 : decode cX9_ones 14 = .ok (.isub, 1) := by decide +kernel
theorem dX9_ones_15 : decode cX9_ones 15 = .ok (.iand, 1) := by decide +kernel
theorem dX9_ones_16 : decode cX9_ones 16 = .ok (.istore_n 2, 1) := by decide +kernel
theorem dX9_ones_17 : decode cX9_ones 17 = .ok (.goto (-13), 3) := by decide +kernel
theorem dX9_ones_20 : decode cX9_ones 20 = .ok (.iload_n 1, 1) := by decide +kernel
theorem dX9_ones_21 : decode cX9_ones 21 = .ok (.ireturn, 1) := by decide +kernel
theorem dX9_lesser_0 : decode cX9_lesser 0 = .ok (.iload_n 0, 1) := by decide +kernel
theorem dX9_lesser_1 : decode cX9_lesser 1 = .ok (.iload_n 1, 1) := by decide +kernel
theorem dX9_lesser_2 : decode cX9_lesser 2 = .ok (.if_icmp .ge 7, 3) := by decide +kernel
theorem dX9_lesser_5 : decode cX9_lesser 5 = .ok (.iload_n 0, 1) := by decide +kernel
theorem dX9_lesser_6 : decode cX9_lesser 6 = .ok (.goto 4, 3) := by decide +kernel
theorem dX9_lesser_9 : decode cX9_lesser 9 = .ok (.iload_n 1, 1) := by decide +kernel
theorem dX9_lesser_10 : decode cX9_lesser 10 = .ok (.ireturn, 1) := by decide +kernel
theorem dX9_greater_0 : decode cX9_greater 0 = .ok (.iload_n 0, 1) := by decide +kernel
theorem dX9_greater_1 : decode cX9_greater 1 = .ok (.iload_n 1, 1) := by decide +kernel
theorem dX9_greater_2 : decode cX9_greater 2 = .ok (.if_icmp .le 7, 3) := by decide +kernel
theorem dX9_greater_5 : decode cX9_greater 5 = .ok (.iload_n 0, 1) := by decide +kernel
theorem dX9_greater_6 : decode cX9_greater 6 = .ok (.goto 4, 3) := by decide +kernel
theorem dX9_greater_9 : decode cX9_greater 9 = .ok (.iload_n 1, 1) := by decide +kernel
theorem dX9_greater_10 : decode cX9_greater 10 = .ok (.ireturn, 1) := by decide +kernel
theorem dX9_part_0 : decode cX9_part 0 = .ok (.lload_n 0, 1) := by decide +kernel
theorem dX9_part_1 : decode cX9_part 1 = .ok (.lstore 5, 2) := by decide +kernel
theorem dX9_part_3 : decode cX9_part 3 = .ok (.lload_n 2, 1) := by decide +kernel
theorem dX9_part_4 : decode cX9_part 4 = .ok (.lstore 7, 2) := by decide +kernel
theorem dX9_part_6 : decode cX9_part 6 = .ok (.lload 7, 2) := by decide +kernel
theorem dX9_part_8 : decode cX9_part 8 = .ok (.lconst 0, 1) := by decide +kernel
theorem dX9_part_9 : decode cX9_part 9 = .ok (.lcmp, 1) := by decide +kernel
theorem dX9_part_10 : decode cX9_part 10 = .ok (.ifCond .eq 21, 3) := by decide +kernel
theorem dX9_part_13 : decode cX9_part 13 = .ok (.lload 5, 2) := by decide +kernel
theorem dX9_part_15 : decode cX9_part 15 = .ok (.lload 7, 2) := by decide +kernel
theorem dX9_part_17 : decode cX9_part 17 = .ok (.lrem, 1) := by decide +kernel
theorem dX9_part_18 : decode cX9_part 18 = .ok (.lstore 9, 2) := by decide +kernel
theorem dX9_part_20 : decode cX9_part 20 = .ok (.lload 7, 2) := by decide +kernel
theorem dX9_part_22 : decode cX9_part 22 = .ok (.lstore 5, 2) := by decide +kernel
theorem dX9_part_24 : decode cX9_part 24 = .ok (.lload 9, 2) := by decide +kernel
theorem dX9_part_26 : decode cX9_part 26 = .ok (.lstore 7, 2) := by decide +kernel
theorem dX9_part_28 : decode cX9_part 28 = .ok (.goto (-22), 3) := by decide +kernel
theorem dX9_part_31 : decode cX9_part 31 = .ok (.iload 4, 2) := by decide +kernel
theorem dX9_part_33 : decode cX9_part 33 = .ok (.ifCond .ne 7, 3) := by decide +kernel
theorem dX9_part_36 : decode cX9_part 36 = .ok (.lload_n 0, 1) := by decide +kernel
theorem dX9_part_37 : decode cX9_part 37 = .ok (.goto 4, 3) := by decide +kernel
theorem dX9_part_40 : decode cX9_part 40 = .ok (.lload_n 2, 1) := by decide +kernel
theorem dX9_part_41 : decode cX9_part 41 = .ok (.lload 5, 2) := by decide +kernel
theorem dX9_part_43 : decode cX9_part 43 = .ok (.ldiv, 1) := by decide +kernel
theorem dX9_part_44 : decode cX9_part 44 = .ok (.lreturn, 1) := by decide +kernel
theorem dX9_finds_0 : decode cX9_finds 0 = .ok (.aload_n 0, 1) := by decide +kernel
theorem dX9_finds_1 : decode cX9_finds 1 = .ok (.iload_n 1, 1) := by decide +kernel
theorem dX9_finds_2 : decode cX9_finds 2 = .ok (.putfield 96, 3) := by decide +kernel
theorem dX9_finds_5 : decode cX9_finds 5 = .ok (.bipush (-10), 2) := by decide +kernel
theorem dX9_finds_7 : decode cX9_finds 7 = .ok (.iload_n 1, 1) := by decide +kernel
theorem dX9_finds_8 : decode cX9_finds 8 = .ok (.isub, 1) := by decide +kernel
theorem dX9_finds_9 : decode cX9_finds 9 = .ok (.ireturn, 1) := by decide +kernel
theorem dX9_isSheet_0 : decode cX9_isSheet 0 = .ok (.iload_n 0, 1) := by decide +kernel
theorem dX9_isSheet_1 : decode cX9_isSheet 1 = .ok (.i2l, 1) := by decide +kernel
theorem dX9_isSheet_2 : decode cX9_isSheet 2 = .ok (.lconst 0, 1) := by decide +kernel
theorem dX9_isSheet_3 : decode cX9_isSheet 3 = .ok (.ldc2_w 99, 3) := by decide +kernel
theorem dX9_isSheet_6 : decode cX9_isSheet 6 = .ok (.invokestatic 92, 3) := by decide +kernel
theorem dX9_isSheet_9 : decode cX9_isSheet 9 = .ok (.ireturn, 1) := by decide +kernel
theorem dX9_sheet_0 : decode cX9_sheet 0 = .ok (.iload_n 1, 1) := by decide +kernel
theorem dX9_sheet_1 : decode cX9_sheet 1 = .ok (.invokestatic 101, 3) := by decide +kernel
theorem dX9_sheet_4 : decode cX9_sheet 4 = .ok (.ifCond .eq 21, 3) := by decide +kernel
theorem dX9_sheet_7 : decode cX9_sheet 7 = .ok (.iload_n 2, 1) := by decide +kernel
theorem dX9_sheet_8 : decode cX9_sheet 8 = .ok (.i2l, 1) := by decide +kernel
theorem dX9_sheet_9 : decode cX9_sheet 9 = .ok (.lconst 0, 1) := by decide +kernel
theorem dX9_sheet_10 : decode cX9_sheet 10 = .ok (.ldc2_w 105, 3) := by decide +kernel
theorem dX9_sheet_13 : decode cX9_sheet 13 = .ok (.invokestatic 92, 3) := by decide +kernel
theorem dX9_sheet_16 : decode cX9_sheet 16 = .ok (.ifCond .eq 9, 3) := by decide +kernel
theorem dX9_sheet_19 : decode cX9_sheet 19 = .ok (.iload_n 3, 1) := by decide +kernel
theorem dX9_sheet_20 : decode cX9_sheet 20 = .ok (.bipush 60, 2) := by decide +kernel
theorem dX9_sheet_22 : decode cX9_sheet 22 = .ok (.if_icmp .le 6, 3) := by decide +kernel
theorem dX9_sheet_25 : decode cX9_sheet 25 = .ok (.bipush (-2), 2) := by decide +kernel
theorem dX9_sheet_27 : decode cX9_sheet 27 = .ok (.ireturn, 1) := by decide +kernel
theorem dX9_sheet_28 : decode cX9_sheet 28 = .ok (.iload_n 3, 1) := by decide +kernel
theorem dX9_sheet_29 : decode cX9_sheet 29 = .ok (.ifCond .ge 9, 3) := by decide +kernel
theorem dX9_sheet_32 : decode cX9_sheet 32 = .ok (.aload_n 0, 1) := by decide +kernel
theorem dX9_sheet_33 : decode cX9_sheet 33 = .ok (.iconst 5, 1) := by decide +kernel
theorem dX9_sheet_34 : decode cX9_sheet 34 = .ok (.invokevirtual 107, 3) := by decide +kernel
theorem dX9_sheet_37 : decode cX9_sheet 37 = .ok (.ireturn, 1) := by decide +kernel
theorem dX9_sheet_38 : decode cX9_sheet 38 = .ok (.aload_n 0, 1) := by decide +kernel
theorem dX9_sheet_39 : decode cX9_sheet 39 = .ok (.getfield 7, 3) := by decide +kernel
theorem dX9_sheet_42 : decode cX9_sheet 42 = .ok (.iload_n 1, 1) := by decide +kernel
theorem dX9_sheet_43 : decode cX9_sheet 43 = .ok (.iload_n 2, 1) := by decide +kernel
theorem dX9_sheet_44 : decode cX9_sheet 44 = .ok (.iastore, 1) := by decide +kernel
theorem dX9_sheet_45 : decode cX9_sheet 45 = .ok (.aload_n 0, 1) := by decide +kernel
theorem dX9_sheet_46 : decode cX9_sheet 46 = .ok (.getfield 13, 3) := by decide +kernel
theorem dX9_sheet_49 : decode cX9_sheet 49 = .ok (.iload_n 1, 1) := by decide +kernel
theorem dX9_sheet_50 : decode cX9_sheet 50 = .ok (.iload_n 3, 1) := by decide +kernel
theorem dX9_sheet_51 : decode cX9_sheet 51 = .ok (.iastore, 1) := by decide +kernel
theorem dX9_sheet_52 : decode cX9_sheet 52 = .ok (.iconst 0, 1) := by decide +kernel
theorem dX9_sheet_53 : decode cX9_sheet 53 = .ok (.istore 4, 2) := by decide +kernel
theorem dX9_sheet_55 : decode cX9_sheet 55 = .ok (.iload 4, 2) := by decide +kernel
theorem dX9_sheet_57 : decode cX9_sheet 57 = .ok (.iload_n 3, 1) := by decide +kernel
theorem dX9_sheet_58 : decode cX9_sheet 58 = .ok (.if_icmp .ge 22, 3) := by decide +kernel
theorem dX9_sheet_61 : decode cX9_sheet 61 = .ok (.aload_n 0, 1) := by decide +kernel
theorem dX9_sheet_62 : decode cX9_sheet 62 = .ok (.getfield 16, 3) := by decide +kernel
theorem dX9_sheet_65 : decode cX9_sheet 65 = .ok (.bipush 60, 2) := by decide +kernel
theorem dX9_sheet_67 : decode cX9_sheet 67 = .ok (.iload_n 1, 1) := by decide +kernel
theorem dX9_sheet_68 : decode cX9_sheet 68 = .ok (.imul, 1) := by decide +kernel
theorem dX9_sheet_69 : decode cX9_sheet 69 = .ok (.iload 4, 2) := by decide +kernel
theorem dX9_sheet_71 : decode cX9_sheet 71 = .ok (.iadd, 1) := by decide +kernel
theorem dX9_sheet_72 : decode cX9_sheet 72 = .ok (.iconst 0, 1) := by decide +kernel
theorem dX9_sheet_73 : decode cX9_sheet 73 = .ok (.iastore, 1) := by decide +kernel
theorem dX9_sheet_74 : decode cX9_sheet 74 = .ok (.iinc 4 1, 3) := by decide +kernel
theorem dX9_sheet_77 : decode cX9_sheet 77 = .ok (.goto (-22), 3) := by decide +kernel
theorem dX9_sheet_80 : decode cX9_sheet 80 = .ok (.iload_n 3, 1) := by decide +kernel
theorem dX9_sheet_81 : decode cX9_sheet 81 = .ok (.ireturn, 1) := by decide +kernel
theorem dX9_lose_0 : decode cX9_lose 0 = .ok (.iload_n 1, 1) := by decide +kernel
theorem dX9_lose_1 : decode cX9_lose 1 = .ok (.invokestatic 101, 3) := by decide +kernel
theorem dX9_lose_4 : decode cX9_lose 4 = .ok (.ifCond .ne 6, 3) := by decide +kernel
theorem dX9_lose_7 : decode cX9_lose 7 = .ok (.bipush (-2), 2) := by decide +kernel
theorem dX9_lose_9 : decode cX9_lose 9 = .ok (.ireturn, 1) := by decide +kernel
theorem dX9_lose_10 : decode cX9_lose 10 = .ok (.aload_n 0, 1) := by decide +kernel
theorem dX9_lose_11 : decode cX9_lose 11 = .ok (.getfield 7, 3) := by decide +kernel
theorem dX9_lose_14 : decode cX9_lose 14 = .ok (.iload_n 1, 1) := by decide +kernel
theorem dX9_lose_15 : decode cX9_lose 15 = .ok (.iaload, 1) := by decide +kernel
theorem dX9_lose_16 : decode cX9_lose 16 = .ok (.ifCond .ge 9, 3) := by decide +kernel
theorem dX9_lose_19 : decode cX9_lose 19 = .ok (.aload_n 0, 1) := by decide +kernel
theorem dX9_lose_20 : decode cX9_lose 20 = .ok (.iconst 1, 1) := by decide +kernel
theorem dX9_lose_21 : decode cX9_lose 21 = .ok (.invokevirtual 107, 3) := by decide +kernel
theorem dX9_lose_24 : decode cX9_lose 24 = .ok (.ireturn, 1) := by decide +kernel
theorem dX9_lose_25 : decode cX9_lose 25 = .ok (.aload_n 0, 1) := by decide +kernel
theorem dX9_lose_26 : decode cX9_lose 26 = .ok (.getfield 7, 3) := by decide +kernel
theorem dX9_lose_29 : decode cX9_lose 29 = .ok (.iload_n 1, 1) := by decide +kernel
theorem dX9_lose_30 : decode cX9_lose 30 = .ok (.iconst (-1), 1) := by decide +kernel
theorem dX9_lose_31 : decode cX9_lose 31 = .ok (.iastore, 1) := by decide +kernel
theorem dX9_lose_32 : decode cX9_lose 32 = .ok (.aload_n 0, 1) := by decide +kernel
theorem dX9_lose_33 : decode cX9_lose 33 = .ok (.getfield 13, 3) := by decide +kernel
theorem dX9_lose_36 : decode cX9_lose 36 = .ok (.iload_n 1, 1) := by decide +kernel
theorem dX9_lose_37 : decode cX9_lose 37 = .ok (.iaload, 1) := by decide +kernel
theorem dX9_lose_38 : decode cX9_lose 38 = .ok (.ireturn, 1) := by decide +kernel
theorem dX9_lacks_0 : decode cX9_lacks 0 = .ok (.aload_n 0, 1) := by decide +kernel
theorem dX9_lacks_1 : decode cX9_lacks 1 = .ok (.getfield 7, 3) := by decide +kernel
theorem dX9_lacks_4 : decode cX9_lacks 4 = .ok (.iload_n 1, 1) := by decide +kernel
theorem dX9_lacks_5 : decode cX9_lacks 5 = .ok (.iaload, 1) := by decide +kernel
theorem dX9_lacks_6 : decode cX9_lacks 6 = .ok (.ifCond .ge 9, 3) := by decide +kernel
theorem dX9_lacks_9 : decode cX9_lacks 9 = .ok (.aload_n 0, 1) := by decide +kernel
theorem dX9_lacks_10 : decode cX9_lacks 10 = .ok (.iconst 1, 1) := by decide +kernel
theorem dX9_lacks_11 : decode cX9_lacks 11 = .ok (.invokevirtual 107, 3) := by decide +kernel
theorem dX9_lacks_14 : decode cX9_lacks 14 = .ok (.ireturn, 1) := by decide +kernel
theorem dX9_lacks_15 : decode cX9_lacks 15 = .ok (.aload_n 0, 1) := by decide +kernel
theorem dX9_lacks_16 : decode cX9_lacks 16 = .ok (.getfield 7, 3) := by decide +kernel
theorem dX9_lacks_19 : decode cX9_lacks 19 = .ok (.iload_n 1, 1) := by decide +kernel
theorem dX9_lacks_20 : decode cX9_lacks 20 = .ok (.iaload, 1) := by decide +kernel
theorem dX9_lacks_21 : decode cX9_lacks 21 = .ok (.iload_n 2, 1) := by decide +kernel
theorem dX9_lacks_22 : decode cX9_lacks 22 = .ok (.if_icmp .eq 9, 3) := by decide +kernel
theorem dX9_lacks_25 : decode cX9_lacks 25 = .ok (.aload_n 0, 1) := by decide +kernel
theorem dX9_lacks_26 : decode cX9_lacks 26 = .ok (.iconst 3, 1) := by decide +kernel
theorem dX9_lacks_27 : decode cX9_lacks 27 = .ok (.invokevirtual 107, 3) := by decide +kernel
theorem dX9_lacks_30 : decode cX9_lacks 30 = .ok (.ireturn, 1) := by decide +kernel
theorem dX9_lacks_31 : decode cX9_lacks 31 = .ok (.iload_n 3, 1) := by decide +kernel
theorem dX9_lacks_32 : decode cX9_lacks 32 = .ok (.i2l, 1) := by decide +kernel
theorem dX9_lacks_33 : decode cX9_lacks 33 = .ok (.lconst 0, 1) := by decide +kernel
theorem dX9_lacks_34 : decode cX9_lacks 34 = .ok (.aload_n 0, 1) := by decide +kernel
theorem dX9_lacks_35 : decode cX9_lacks 35 = .ok (.getfield 13, 3) := by decide +kernel
theorem dX9_lacks_38 : decode cX9_lacks 38 = .ok (.iload_n 1, 1) := by decide +kernel
theorem dX9_lacks_39 : decode cX9_lacks 39 = .ok (.iaload, 1) := by decide +kernel
theorem dX9_lacks_40 : decode cX9_lacks 40 = .ok (.iconst 1, 1) := by decide +kernel
theorem dX9_lacks_41 : decode cX9_lacks 41 = .ok (.isub, 1) := by decide +kernel
theorem dX9_lacks_42 : decode cX9_lacks 42 = .ok (.i2l, 1) := by decide +kernel
theorem dX9_lacks_43 : decode cX9_lacks 43 = .ok (.invokestatic 92, 3) := by decide +kernel
theorem dX9_lacks_46 : decode cX9_lacks 46 = .ok (.ifCond .eq 7, 3) := by decide +kernel
theorem dX9_lacks_49 : decode cX9_lacks 49 = .ok (.iconst 0, 1) := by decide +kernel
theorem dX9_lacks_50 : decode cX9_lacks 50 = .ok (.goto 8, 3) := by decide +kernel
theorem dX9_lacks_53 : decode cX9_lacks 53 = .ok (.aload_n 0, 1) := by decide +kernel
theorem dX9_lacks_54 : decode cX9_lacks 54 = .ok (.iconst 2, 1) := by decide +kernel
theorem dX9_lacks_55 : decode cX9_lacks 55 = .ok (.invokevirtual 107, 3) := by decide +kernel
theorem dX9_lacks_58 : decode cX9_lacks 58 = .ok (.ireturn, 1) := by decide +kernel
theorem dX9_cut_0 : decode cX9_cut 0 = .ok (.iload_n 0, 1) := by decide +kernel
theorem dX9_cut_1 : decode cX9_cut 1 = .ok (.ifCond .ne 8, 3) := by decide +kernel
theorem dX9_cut_4 : decode cX9_cut 4 = .ok (.iload_n 1, 1) := by decide +kernel
theorem dX9_cut_5 : decode cX9_cut 5 = .ok (.i2b, 1) := by decide +kernel
theorem dX9_cut_6 : decode cX9_cut 6 = .ok (.goto 14, 3) := by decide +kernel
theorem dX9_cut_9 : decode cX9_cut 9 = .ok (.iload_n 0, 1) := by decide +kernel
theorem dX9_cut_10 : decode cX9_cut 10 = .ok (.iconst 1, 1) := by decide +kernel
theorem dX9_cut_11 : decode cX9_cut 11 = .ok (.if_icmp .ne 8, 3) := by decide +kernel
theorem dX9_cut_14 : decode cX9_cut 14 = .ok (.iload_n 1, 1) := by decide +kernel
theorem dX9_cut_15 : decode cX9_cut 15 = .ok (.i2s, 1) := by decide +kernel
theorem dX9_cut_16 : decode cX9_cut 16 = .ok (.goto 4, 3) := by decide +kernel
theorem dX9_cut_19 : decode cX9_cut 19 = .ok (.iload_n 1, 1) := by decide +kernel
theorem dX9_cut_20 : decode cX9_cut 20 = .ok (.ireturn, 1) := by decide +kernel
theorem dX9_lay_0 : decode cX9_lay 0 = .ok (.iload_n 1, 1) := by decide +kernel
theorem dX9_lay_1 : decode cX9_lay 1 = .ok (.invokestatic 101, 3) := by decide +kernel
theorem dX9_lay_4 : decode cX9_lay 4 = .ok (.ifCond .eq 15, 3) := by decide +kernel
theorem dX9_lay_7 : decode cX9_lay 7 = .ok (.iload_n 2, 1) := by decide +kernel
theorem dX9_lay_8 : decode cX9_lay 8 = .ok (.i2l, 1) := by decide +kernel
theorem dX9_lay_9 : decode cX9_lay 9 = .ok (.lconst 0, 1) := by decide +kernel
theorem dX9_lay_10 : decode cX9_lay 10 = .ok (.ldc2_w 105, 3) := by decide +kernel
theorem dX9_lay_13 : decode cX9_lay 13 = .ok (.invokestatic 92, 3) := by decide +kernel
theorem dX9_lay_16 : decode cX9_lay 16 = .ok (.ifCond .ne 6, 3) := by decide +kernel
theorem dX9_lay_19 : decode cX9_lay 19 = .ok (.bipush (-2), 2) := by decide +kernel
theorem dX9_lay_21 : decode cX9_lay 21 = .ok (.ireturn, 1) := by decide +kernel
theorem dX9_lay_22 : decode cX9_lay 22 = .ok (.aload_n 0, 1) := by decide +kernel
theorem dX9_lay_23 : decode cX9_lay 23 = .ok (.iload_n 1, 1) := by decide +kernel
theorem dX9_lay_24 : decode cX9_lay 24 = .ok (.iload_n 2, 1) := by decide +kernel
theorem dX9_lay_25 : decode cX9_lay 25 = .ok (.iload_n 3, 1) := by decide +kernel
theorem dX9_lay_26 : decode cX9_lay 26 = .ok (.invokevirtual 111, 3) := by decide +kernel
theorem dX9_lay_29 : decode cX9_lay 29 = .ok (.istore 5, 2) := by decide +kernel
theorem dX9_lay_31 : decode cX9_lay 31 = .ok (.iload 5, 2) := by decide +kernel
theorem dX9_lay_33 : decode cX9_lay 33 = .ok (.ifCond .eq 6, 3) := by decide +kernel
theorem dX9_lay_36 : decode cX9_lay 36 = .ok (.iload 5, 2) := by decide +kernel
theorem dX9_lay_38 : decode cX9_lay 38 = .ok (.ireturn, 1) := by decide +kernel
theorem dX9_lay_39 : decode cX9_lay 39 = .ok (.aload_n 0, 1) := by decide +kernel
theorem dX9_lay_40 : decode cX9_lay 40 = .ok (.getfield 16, 3) := by decide +kernel
theorem dX9_lay_43 : decode cX9_lay 43 = .ok (.bipush 60, 2) := by decide +kernel
theorem dX9_lay_45 : decode cX9_lay 45 = .ok (.iload_n 1, 1) := by decide +kernel
theorem dX9_lay_46 : decode cX9_lay 46 = .ok (.imul, 1) := by decide +kernel
theorem dX9_lay_47 : decode cX9_lay 47 = .ok (.iload_n 3, 1) := by decide +kernel
theorem dX9_lay_48 : decode cX9_lay 48 = .ok (.iadd, 1) := by decide +kernel
theorem dX9_lay_49 : decode cX9_lay 49 = .ok (.iload_n 2, 1) := by decide +kernel
theorem dX9_lay_50 : decode cX9_lay 50 = .ok (.iload 4, 2) := by decide +kernel
theorem dX9_lay_52 : decode cX9_lay 52 = .ok (.invokestatic 115, 3) := by decide +kernel
theorem dX9_lay_55 : decode cX9_lay 55 = .ok (.iastore, 1) := by decide +kernel
theorem dX9_lay_56 : decode cX9_lay 56 = .ok (.iconst 1, 1) := by decide +kernel
theorem dX9_lay_57 : decode cX9_lay 57 = .ok (.ireturn, 1) := by decide +kernel
theorem dX9_get_0 : decode cX9_get 0 = .ok (.iload_n 1, 1) := by decide +kernel
theorem dX9_get_1 : decode cX9_get 1 = .ok (.invokestatic 101, 3) := by decide +kernel
theorem dX9_get_4 : decode cX9_get 4 = .ok (.ifCond .eq 25, 3) := by decide +kernel
theorem dX9_get_7 : decode cX9_get 7 = .ok (.iload_n 2, 1) := by decide +kernel
theorem dX9_get_8 : decode cX9_get 8 = .ok (.i2l, 1) := by decide +kernel
theorem dX9_get_9 : decode cX9_get 9 = .ok (.lconst 0, 1) := by decide +kernel
theorem dX9_get_10 : decode cX9_get 10 = .ok (.ldc2_w 105, 3) := by decide +kernel
theorem dX9_get_13 : decode cX9_get 13 = .ok (.invokestatic 92, 3) := by decide +kernel
theorem dX9_get_16 : decode cX9_get 16 = .ok (.ifCond .eq 13, 3) := by decide +kernel
theorem dX9_get_19 : decode cX9_get 19 = .ok (.aload_n 0, 1) := by decide +kernel
theorem dX9_get_20 : decode cX9_get 20 = .ok (.iload_n 1, 1) := by decide +kernel
theorem dX9_get_21 : decode cX9_get 21 = .ok (.iload_n 2, 1) := by decide +kernel
theorem dX9_get_22 : decode cX9_get 22 = .ok (.iload_n 3, 1) := by decide +kernel
theorem dX9_get_23 : decode cX9_get 23 = .ok (.invokevirtual 111, 3) := by decide +kernel
theorem dX9_get_26 : decode cX9_get 26 = .ok (.ifCond .eq 6, 3) := by decide +kernel
theorem dX9_get_29 : decode cX9_get 29 = .ok (.ldc 119, 2) := by decide +kernel
theorem dX9_get_31 : decode cX9_get 31 = .ok (.ireturn, 1) := by decide +kernel
theorem dX9_get_32 : decode cX9_get 32 = .ok (.aload_n 0, 1) := by decide +kernel
theorem dX9_get_33 : decode cX9_get 33 = .ok (.getfield 16, 3) := by decide +kernel
theorem dX9_get_36 : decode cX9_get 36 = .ok (.bipush 60, 2) := by decide +kernel
theorem dX9_get_38 : decode cX9_get 38 = .ok (.iload_n 1, 1) := by decide +kernel
theorem dX9_get_39 : decode cX9_get 39 = .ok (.imul, 1) := by decide +kernel
theorem dX9_get_40 : decode cX9_get 40 = .ok (.iload_n 3, 1) := by decide +kernel
theorem dX9_get_41 : decode cX9_get 41 = .ok (.iadd, 1) := by decide +kernel
theorem dX9_get_42 : decode cX9_get 42 = .ok (.iaload, 1) := by decide +kernel
theorem dX9_get_43 : decode cX9_get 43 = .ok (.ireturn, 1) := by decide +kernel
theorem dX9_copy_0 : decode cX9_copy 0 = .ok (.iload_n 1, 1) := by decide +kernel
theorem dX9_copy_1 : decode cX9_copy 1 = .ok (.invokestatic 101, 3) := by decide +kernel
theorem dX9_copy_4 : decode cX9_copy 4 = .ok (.ifCond .eq 10, 3) := by decide +kernel
theorem dX9_copy_7 : decode cX9_copy 7 = .ok (.iload_n 3, 1) := by decide +kernel
theorem dX9_copy_8 : decode cX9_copy 8 = .ok (.invokestatic 101, 3) := by decide +kernel
theorem dX9_copy_11 : decode cX9_copy 11 = .ok (.ifCond .ne 6, 3) := by decide +kernel
theorem dX9_copy_14 : decode cX9_copy 14 = .ok (.bipush (-2), 2) := by decide +kernel
theorem dX9_copy_16 : decode cX9_copy 16 = .ok (.ireturn, 1) := by decide +kernel
theorem dX9_copy_17 : decode cX9_copy 17 = .ok (.aload_n 0, 1) := by decide +kernel
theorem dX9_copy_18 : decode cX9_copy 18 = .ok (.getfield 7, 3) := by decide +kernel
theorem dX9_copy_21 : decode cX9_copy 21 = .ok (.iload_n 1, 1) := by decide +kernel
theorem dX9_copy_22 : decode cX9_copy 22 = .ok (.iaload, 1) := by decide +kernel
theorem dX9_copy_23 : decode cX9_copy 23 = .ok (.ifCond .lt 12, 3) := by decide +kernel
theorem dX9_copy_26 : decode cX9_copy 26 = .ok (.aload_n 0, 1) := by decide +kernel
theorem dX9_copy_27 : decode cX9_copy 27 = .ok (.getfield 7, 3) := by decide +kernel
theorem dX9_copy_30 : decode cX9_copy 30 = .ok (.iload_n 3, 1) := by decide +kernel
theorem dX9_copy_31 : decode cX9_copy 31 = .ok (.iaload, 1) := by decide +kernel
theorem dX9_copy_32 : decode cX9_copy 32 = .ok (.ifCond .ge 9, 3) := by decide +kernel
theorem dX9_copy_35 : decode cX9_copy 35 = .ok (.aload_n 0, 1) := by decide +kernel
theorem dX9_copy_36 : decode cX9_copy 36 = .ok (.iconst 1, 1) := by decide +kernel
theorem dX9_copy_37 : decode cX9_copy 37 = .ok (.invokevirtual 107, 3) := by decide +kernel
theorem dX9_copy_40 : decode cX9_copy 40 = .ok (.ireturn, 1) := by decide +kernel
theorem dX9_copy_41 : decode cX9_copy 41 = .ok (.aload_n 0, 1) := by decide +kernel
theorem dX9_copy_42 : decode cX9_copy 42 = .ok (.getfield 7, 3) := by decide +kernel
theorem dX9_copy_45 : decode cX9_copy 45 = .ok (.iload_n 1, 1) := by decide +kernel
theorem dX9_copy_46 : decode cX9_copy 46 = .ok (.iaload, 1) := by decide +kernel
theorem dX9_copy_47 : decode cX9_copy 47 = .ok (.aload_n 0, 1) := by decide +kernel
theorem dX9_copy_48 : decode cX9_copy 48 = .ok (.getfield 7, 3) := by decide +kernel
theorem dX9_copy_51 : decode cX9_copy 51 = .ok (.iload_n 3, 1) := by decide +kernel
theorem dX9_copy_52 : decode cX9_copy 52 = .ok (.iaload, 1) := by decide +kernel
theorem dX9_copy_53 : decode cX9_copy 53 = .ok (.if_icmp .eq 9, 3) := by decide +kernel
theorem dX9_copy_56 : decode cX9_copy 56 = .ok (.aload_n 0, 1) := by decide +kernel
theorem dX9_copy_57 : decode cX9_copy 57 = .ok (.iconst 4, 1) := by decide +kernel
theorem dX9_copy_58 : decode cX9_copy 58 = .ok (.invokevirtual 107, 3) := by decide +kernel
theorem dX9_copy_61 : decode cX9_copy 61 = .ok (.ireturn, 1) := by decide +kernel
theorem dX9_copy_62 : decode cX9_copy 62 = .ok (.iload_n 2, 1) := by decide +kernel
theorem dX9_copy_63 : decode cX9_copy 63 = .ok (.ifCond .lt 48, 3) := by decide +kernel
theorem dX9_copy_66 : decode cX9_copy 66 = .ok (.iload 4, 2) := by decide +kernel
theorem dX9_copy_68 : decode cX9_copy 68 = .ok (.ifCond .lt 43, 3) := by decide +kernel
theorem dX9_copy_71 : decode cX9_copy 71 = .ok (.iload 5, 2) := by decide +kernel
theorem dX9_copy_73 : decode cX9_copy 73 = .ok (.ifCond .lt 38, 3) := by decide +kernel
theorem dX9_copy_76 : decode cX9_copy 76 = .ok (.iload_n 2, 1) := by decide +kernel
theorem dX9_copy_77 : decode cX9_copy 77 = .ok (.i2l, 1) := by decide +kernel
theorem dX9_copy_78 : decode cX9_copy 78 = .ok (.iload 5, 2) := by decide +kernel
theorem dX9_copy_80 : decode cX9_copy 80 = .ok (.i2l, 1) := by decide +kernel
theorem dX9_copy_81 : decode cX9_copy 81 = .ok (.ladd, 1) := by decide +kernel
theorem dX9_copy_82 : decode cX9_copy 82 = .ok (.aload_n 0, 1) := by decide +kernel
theorem dX9_copy_83 : decode cX9_copy 83 = .ok (.getfield 13, 3) := by decide +kernel
theorem dX9_copy_86 : decode cX9_copy 86 = .ok (.iload_n 1, 1) := by decide +kernel
theorem dX9_copy_87 : decode cX9_copy 87 = .ok (.iaload, 1) := by decide +kernel
theorem dX9_copy_88 : decode cX9_copy 88 = .ok (.i2l, 1) := by decide +kernel
theorem dX9_copy_89 : decode cX9_copy 89 = .ok (.lcmp, 1) := by decide +kernel
theorem dX9_copy_90 : decode cX9_copy 90 = .ok (.ifCond .gt 21, 3) := by decide +kernel
theorem dX9_copy_93 : decode cX9_copy 93 = .ok (.iload 4, 2) := by decide +kernel
theorem dX9_copy_95 : decode cX9_copy 95 = .ok (.i2l, 1) := by decide +kernel
theorem dX9_copy_96 : decode cX9_copy 96 = .ok (.iload 5, 2) := by decide +kernel
theorem dX9_copy_98 : decode cX9_copy 98 = .ok (.i2l, 1) := by decide +kernel
theorem dX9_copy_99 : decode cX9_copy 99 = .ok (.ladd, 1) := by decide +kernel
theorem dX9_copy_100 : decode cX9_copy 100 = .ok (.aload_n 0, 1) := by decide +kernel
theorem dX9_copy_101 : decode cX9_copy 101 = .ok (.getfield 13, 3) := by decide +kernel
theorem dX9_copy_104 : decode cX9_copy 104 = .ok (.iload_n 3, 1) := by decide +kernel
theorem dX9_copy_105 : decode cX9_copy 105 = .ok (.iaload, 1) := by decide +kernel
theorem dX9_copy_106 : decode cX9_copy 106 = .ok (.i2l, 1) := by decide +kernel
theorem dX9_copy_107 : decode cX9_copy 107 = .ok (.lcmp, 1) := by decide +kernel
theorem dX9_copy_108 : decode cX9_copy 108 = .ok (.ifCond .le 9, 3) := by decide +kernel
theorem dX9_copy_111 : decode cX9_copy 111 = .ok (.aload_n 0, 1) := by decide +kernel
theorem dX9_copy_112 : decode cX9_copy 112 = .ok (.iconst 2, 1) := by decide +kernel
theorem dX9_copy_113 : decode cX9_copy 113 = .ok (.invokevirtual 107, 3) := by decide +kernel
theorem dX9_copy_116 : decode cX9_copy 116 = .ok (.ireturn, 1) := by decide +kernel
theorem dX9_copy_117 : decode cX9_copy 117 = .ok (.iconst 0, 1) := by decide +kernel
theorem dX9_copy_118 : decode cX9_copy 118 = .ok (.istore 6, 2) := by decide +kernel
theorem dX9_copy_120 : decode cX9_copy 120 = .ok (.iload 6, 2) := by decide +kernel
theorem dX9_copy_122 : decode cX9_copy 122 = .ok (.iload 5, 2) := by decide +kernel
theorem dX9_copy_124 : decode cX9_copy 124 = .ok (.if_icmp .ge 30, 3) := by decide +kernel
theorem dX9_copy_127 : decode cX9_copy 127 = .ok (.aload_n 0, 1) := by decide +kernel
theorem dX9_copy_128 : decode cX9_copy 128 = .ok (.getfield 19, 3) := by decide +kernel
theorem dX9_copy_131 : decode cX9_copy 131 = .ok (.iload 6, 2) := by decide +kernel
theorem dX9_copy_133 : decode cX9_copy 133 = .ok (.aload_n 0, 1) := by decide +kernel
theorem dX9_copy_134 : decode cX9_copy 134 = .ok (.getfield 16, 3) := by decide +kernel
theorem dX9_copy_137 : decode cX9_copy 137 = .ok (.bipush 60, 2) := by decide +kernel
theorem dX9_copy_139 : decode cX9_copy 139 = .ok (.iload_n 1, 1) := by decide +kernel
theorem dX9_copy_140 : decode cX9_copy 140 = .ok (.imul, 1) := by decide +kernel
theorem dX9_copy_141 : decode cX9_copy 141 = .ok (.iload_n 2, 1) := by decide +kernel
theorem dX9_copy_142 : decode cX9_copy 142 = .ok (.iadd, 1) := by decide +kernel
theorem dX9_copy_143 : decode cX9_copy 143 = .ok (.iload 6, 2) := by decide +kernel
theorem dX9_copy_145 : decode cX9_copy 145 = .ok (.iadd, 1) := by decide +kernel
theorem dX9_copy_146 : decode cX9_copy 146 = .ok (.iaload, 1) := by decide +kernel
theorem dX9_copy_147 : decode cX9_copy 147 = .ok (.iastore, 1) := by decide +kernel
theorem dX9_copy_148 : decode cX9_copy 148 = .ok (.iinc 6 1, 3) := by decide +kernel
theorem dX9_copy_151 : decode cX9_copy 151 = .ok (.goto (-31), 3) := by decide +kernel
theorem dX9_copy_154 : decode cX9_copy 154 = .ok (.iconst 0, 1) := by decide +kernel
theorem dX9_copy_155 : decode cX9_copy 155 = .ok (.istore 6, 2) := by decide +kernel
theorem dX9_copy_157 : decode cX9_copy 157 = .ok (.iload 6, 2) := by decide +kernel
theorem dX9_copy_159 : decode cX9_copy 159 = .ok (.iload 5, 2) := by decide +kernel
theorem dX9_copy_161 : decode cX9_copy 161 = .ok (.if_icmp .ge 31, 3) := by decide +kernel
theorem dX9_copy_164 : decode cX9_copy 164 = .ok (.aload_n 0, 1) := by decide +kernel
theorem dX9_copy_165 : decode cX9_copy 165 = .ok (.getfield 16, 3) := by decide +kernel
theorem dX9_copy_168 : decode cX9_copy 168 = .ok (.bipush 60, 2) := by decide +kernel
theorem dX9_copy_170 : decode cX9_copy 170 = .ok (.iload_n 3, 1) := by decide +kernel
theorem dX9_copy_171 : decode cX9_copy 171 = .ok (.imul, 1) := by decide +kernel
theorem dX9_copy_172 : decode cX9_copy 172 = .ok (.iload 4, 2) := by decide +kernel
theorem dX9_copy_174 : decode cX9_copy 174 = .ok (.iadd, 1) := by decide +kernel
theorem dX9_copy_175 : decode cX9_copy 175 = .ok (.iload 6, 2) := by decide +kernel
theorem dX9_copy_177 : decode cX9_copy 177 = .ok (.iadd, 1) := by decide +kernel
theorem dX9_copy_178 : decode cX9_copy 178 = .ok (.aload_n 0, 1) := by decide +kernel
theorem dX9_copy_179 : decode cX9_copy 179 = .ok (.getfield 19, 3) := by decide +kernel
theorem dX9_copy_182 : decode cX9_copy 182 = .ok (.iload 6, 2) := by decide +kernel
theorem dX9_copy_184 : decode cX9_copy 184 = .ok (.iaload, 1) := by decide +kernel
theorem dX9_copy_185 : decode cX9_copy 185 = .ok (.iastore, 1) := by decide +kernel
theorem dX9_copy_186 : decode cX9_copy 186 = .ok (.iinc 6 1, 3) := by decide +kernel
theorem dX9_copy_189 : decode cX9_copy 189 = .ok (.goto (-32), 3) := by decide +kernel
theorem dX9_copy_192 : decode cX9_copy 192 = .ok (.iconst 1, 1) := by decide +kernel
theorem dX9_copy_193 : decode cX9_copy 193 = .ok (.ireturn, 1) := by decide +kernel
theorem dX9_isText_0 : decode cX9_isText 0 = .ok (.iload_n 0, 1) := by decide +kernel
theorem dX9_isText_1 : decode cX9_isText 1 = .ok (.i2l, 1) := by decide +kernel
theorem dX9_isText_2 : decode cX9_isText 2 = .ok (.lconst 0, 1) := by decide +kernel
theorem dX9_isText_3 : decode cX9_isText 3 = .ok (.ldc2_w 105, 3) := by decide +kernel
theorem dX9_isText_6 : decode cX9_isText 6 = .ok (.invokestatic 92, 3) := by decide +kernel
theorem dX9_isText_9 : decode cX9_isText 9 = .ok (.ireturn, 1) := by decide +kernel
theorem dX9_type_0 : decode cX9_type 0 = .ok (.iload_n 1, 1) := by decide +kernel
theorem dX9_type_1 : decode cX9_type 1 = .ok (.invokestatic 120, 3) := by decide +kernel
theorem dX9_type_4 : decode cX9_type 4 = .ok (.ifCond .eq 15, 3) := by decide +kernel
theorem dX9_type_7 : decode cX9_type 7 = .ok (.iload_n 2, 1) := by decide +kernel
theorem dX9_type_8 : decode cX9_type 8 = .ok (.i2l, 1) := by decide +kernel
theorem dX9_type_9 : decode cX9_type 9 = .ok (.lconst 0, 1) := by decide +kernel
theorem dX9_type_10 : decode cX9_type 10 = .ok (.ldc2_w 123, 3) := by decide +kernel
theorem dX9_type_13 : decode cX9_type 13 = .ok (.invokestatic 92, 3) := by decide +kernel
theorem dX9_type_16 : decode cX9_type 16 = .ok (.ifCond .ne 6, 3) := by decide +kernel
theorem dX9_type_19 : decode cX9_type 19 = .ok (.bipush (-2), 2) := by decide +kernel
theorem dX9_type_21 : decode cX9_type 21 = .ok (.ireturn, 1) := by decide +kernel
theorem dX9_type_22 : decode cX9_type 22 = .ok (.aload_n 0, 1) := by decide +kernel
theorem dX9_type_23 : decode cX9_type 23 = .ok (.getfield 25, 3) := by decide +kernel
theorem dX9_type_26 : decode cX9_type 26 = .ok (.iload_n 1, 1) := by decide +kernel
theorem dX9_type_27 : decode cX9_type 27 = .ok (.iaload, 1) := by decide +kernel
theorem dX9_type_28 : decode cX9_type 28 = .ok (.iload_n 1, 1) := by decide +kernel
theorem dX9_type_29 : decode cX9_type 29 = .ok (.ifCond .ne 8, 3) := by decide +kernel
theorem dX9_type_32 : decode cX9_type 32 = .ok (.bipush 39, 2) := by decide +kernel
theorem dX9_type_34 : decode cX9_type 34 = .ok (.goto 15, 3) := by decide +kernel
theorem dX9_type_37 : decode cX9_type 37 = .ok (.iload_n 1, 1) := by decide +kernel
theorem dX9_type_38 : decode cX9_type 38 = .ok (.iconst 1, 1) := by decide +kernel
theorem dX9_type_39 : decode cX9_type 39 = .ok (.if_icmp .ne 8, 3) := by decide +kernel
theorem dX9_type_42 : decode cX9_type 42 = .ok (.bipush 15, 2) := by decide +kernel
theorem dX9_type_44 : decode cX9_type 44 = .ok (.goto 5, 3) := by decide +kernel
theorem dX9_type_47 : decode cX9_type 47 = .ok (.bipush 12, 2) := by decide +kernel
theorem dX9_type_49 : decode cX9_type 49 = .ok (.if_icmp .ne 6, 3) := by decide +kernel
theorem dX9_type_52 : decode cX9_type 52 = .ok (.bipush (-4), 2) := by decide +kernel
theorem dX9_type_54 : decode cX9_type 54 = .ok (.ireturn, 1) := by decide +kernel
theorem dX9_type_55 : decode cX9_type 55 = .ok (.aload_n 0, 1) := by decide +kernel
theorem dX9_type_56 : decode cX9_type 56 = .ok (.getfield 22, 3) := by decide +kernel
theorem dX9_type_59 : decode cX9_type 59 = .ok (.bipush 40, 2) := by decide +kernel
theorem dX9_type_61 : decode cX9_type 61 = .ok (.iload_n 1, 1) := by decide +kernel
theorem dX9_type_62 : decode cX9_type 62 = .ok (.imul, 1) := by decide +kernel
theorem dX9_type_63 : decode cX9_type 63 = .ok (.aload_n 0, 1) := by decide +kernel
theorem dX9_type_64 : decode cX9_type 64 = .ok (.getfield 25, 3) := by decide +kernel
theorem dX9_type_67 : decode cX9_type 67 = .ok (.iload_n 1, 1) := by decide +kernel
theorem dX9_type_68 : decode cX9_type 68 = .ok (.iaload, 1) := by decide +kernel
theorem dX9_type_69 : decode cX9_type 69 = .ok (.iadd, 1) := by decide +kernel
theorem dX9_type_70 : decode cX9_type 70 = .ok (.iload_n 2, 1) := by decide +kernel
theorem dX9_type_71 : decode cX9_type 71 = .ok (.iastore, 1) := by decide +kernel
theorem dX9_type_72 : decode cX9_type 72 = .ok (.aload_n 0, 1) := by decide +kernel
theorem dX9_type_73 : decode cX9_type 73 = .ok (.getfield 25, 3) := by decide +kernel
theorem dX9_type_76 : decode cX9_type 76 = .ok (.iload_n 1, 1) := by decide +kernel
theorem dX9_type_77 : decode cX9_type 77 = .ok (.dup2, 1) := by decide +kernel
theorem dX9_type_78 : decode cX9_type 78 = .ok (.iaload, 1) := by decide +kernel
theorem dX9_type_79 : decode cX9_type 79 = .ok (.iconst 1, 1) := by decide +kernel
theorem dX9_type_80 : decode cX9_type 80 = .ok (.iadd, 1) := by decide +kernel
theorem dX9_type_81 : decode cX9_type 81 = .ok (.iastore, 1) := by decide +kernel
theorem dX9_type_82 : decode cX9_type 82 = .ok (.aload_n 0, 1) := by decide +kernel
theorem dX9_type_83 : decode cX9_type 83 = .ok (.getfield 25, 3) := by decide +kernel
theorem dX9_type_86 : decode cX9_type 86 = .ok (.iload_n 1, 1) := by decide +kernel
theorem dX9_type_87 : decode cX9_type 87 = .ok (.iaload, 1) := by decide +kernel
theorem dX9_type_88 : decode cX9_type 88 = .ok (.ireturn, 1) := by decide +kernel
theorem dX9_wipe_0 : decode cX9_wipe 0 = .ok (.iload_n 1, 1) := by decide +kernel
theorem dX9_wipe_1 : decode cX9_wipe 1 = .ok (.invokestatic 120, 3) := by decide +kernel
theorem dX9_wipe_4 : decode cX9_wipe 4 = .ok (.ifCond .ne 6, 3) := by decide +kernel
theorem dX9_wipe_7 : decode cX9_wipe 7 = .ok (.bipush (-2), 2) := by decide +kernel
theorem dX9_wipe_9 : decode cX9_wipe 9 = .ok (.ireturn, 1) := by decide +kernel
theorem dX9_wipe_10 : decode cX9_wipe 10 = .ok (.aload_n 0, 1) := by decide +kernel
theorem dX9_wipe_11 : decode cX9_wipe 11 = .ok (.getfield 25, 3) := by decide +kernel
theorem dX9_wipe_14 : decode cX9_wipe 14 = .ok (.iload_n 1, 1) := by decide +kernel
theorem dX9_wipe_15 : decode cX9_wipe 15 = .ok (.iaload, 1) := by decide +kernel
theorem dX9_wipe_16 : decode cX9_wipe 16 = .ok (.istore_n 2, 1) := by decide +kernel
theorem dX9_wipe_17 : decode cX9_wipe 17 = .ok (.aload_n 0, 1) := by decide +kernel
theorem dX9_wipe_18 : decode cX9_wipe 18 = .ok (.getfield 25, 3) := by decide +kernel
theorem dX9_wipe_21 : decode cX9_wipe 21 = .ok (.iload_n 1, 1) := by decide +kernel
theorem dX9_wipe_22 : decode cX9_wipe 22 = .ok (.iconst 0, 1) := by decide +kernel
theorem dX9_wipe_23 : decode cX9_wipe 23 = .ok (.iastore, 1) := by decide +kernel
theorem dX9_wipe_24 : decode cX9_wipe 24 = .ok (.iload_n 2, 1) := by decide +kernel
theorem dX9_wipe_25 : decode cX9_wipe 25 = .ok (.ireturn, 1) := by decide +kernel
theorem dX9_undo_0 : decode cX9_undo 0 = .ok (.iload_n 1, 1) := by decide +kernel
theorem dX9_undo_1 : decode cX9_undo 1 = .ok (.invokestatic 120, 3) := by decide +kernel
theorem dX9_undo_4 : decode cX9_undo 4 = .ok (.ifCond .ne 6, 3) := by decide +kernel
theorem dX9_undo_7 : decode cX9_undo 7 = .ok (.bipush (-2), 2) := by decide +kernel
theorem dX9_undo_9 : decode cX9_undo 9 = .ok (.ireturn, 1) := by decide +kernel
theorem dX9_undo_10 : decode cX9_undo 10 = .ok (.aload_n 0, 1) := by decide +kernel
theorem dX9_undo_11 : decode cX9_undo 11 = .ok (.getfield 25, 3) := by decide +kernel
theorem dX9_undo_14 : decode cX9_undo 14 = .ok (.iload_n 1, 1) := by decide +kernel
theorem dX9_undo_15 : decode cX9_undo 15 = .ok (.iaload, 1) := by decide +kernel
theorem dX9_undo_16 : decode cX9_undo 16 = .ok (.ifCond .ne 6, 3) := by decide +kernel
theorem dX9_undo_19 : decode cX9_undo 19 = .ok (.bipush (-3), 2) := by decide +kernel
theorem dX9_undo_21 : decode cX9_undo 21 = .ok (.ireturn, 1) := by decide +kernel
theorem dX9_undo_22 : decode cX9_undo 22 = .ok (.aload_n 0, 1) := by decide +kernel
theorem dX9_undo_23 : decode cX9_undo 23 = .ok (.getfield 25, 3) := by decide +kernel
theorem dX9_undo_26 : decode cX9_undo 26 = .ok (.iload_n 1, 1) := by decide +kernel
theorem dX9_undo_27 : decode cX9_undo 27 = .ok (.dup2, 1) := by decide +kernel
theorem dX9_undo_28 : decode cX9_undo 28 = .ok (.iaload, 1) := by decide +kernel
theorem dX9_undo_29 : decode cX9_undo 29 = .ok (.iconst 1, 1) := by decide +kernel
theorem dX9_undo_30 : decode cX9_undo 30 = .ok (.isub, 1) := by decide +kernel
theorem dX9_undo_31 : decode cX9_undo 31 = .ok (.iastore, 1) := by decide +kernel
theorem dX9_undo_32 : decode cX9_undo 32 = .ok (.aload_n 0, 1) := by decide +kernel
theorem dX9_undo_33 : decode cX9_undo 33 = .ok (.getfield 25, 3) := by decide +kernel
theorem dX9_undo_36 : decode cX9_undo 36 = .ok (.iload_n 1, 1) := by decide +kernel
theorem dX9_undo_37 : decode cX9_undo 37 = .ok (.iaload, 1) := by decide +kernel
theorem dX9_undo_38 : decode cX9_undo 38 = .ok (.ireturn, 1) := by decide +kernel
theorem dX9_figureOf_0 : decode cX9_figureOf 0 = .ok (.iload_n 0, 1) := by decide +kernel
theorem dX9_figureOf_1 : decode cX9_figureOf 1 = .ok (.i2l, 1) := by decide +kernel
theorem dX9_figureOf_2 : decode cX9_figureOf 2 = .ok (.bipush 48, 2) := by decide +kernel
theorem dX9_figureOf_4 : decode cX9_figureOf 4 = .ok (.iload_n 1, 1) := by decide +kernel
theorem dX9_figureOf_5 : decode cX9_figureOf 5 = .ok (.iadd, 1) := by decide +kernel
theorem dX9_figureOf_6 : decode cX9_figureOf 6 = .ok (.i2l, 1) := by decide +kernel
theorem dX9_figureOf_7 : decode cX9_figureOf 7 = .ok (.bipush 48, 2) := by decide +kernel
theorem dX9_figureOf_9 : decode cX9_figureOf 9 = .ok (.iload_n 2, 1) := by decide +kernel
theorem dX9_figureOf_10 : decode cX9_figureOf 10 = .ok (.iadd, 1) := by decide +kernel
theorem dX9_figureOf_11 : decode cX9_figureOf 11 = .ok (.i2l, 1) := by decide +kernel
theorem dX9_figureOf_12 : decode cX9_figureOf 12 = .ok (.invokestatic 92, 3) := by decide +kernel
theorem dX9_figureOf_15 : decode cX9_figureOf 15 = .ok (.ifCond .eq 10, 3) := by decide +kernel
theorem dX9_figureOf_18 : decode cX9_figureOf 18 = .ok (.iload_n 0, 1) := by decide +kernel
theorem dX9_figureOf_19 : decode cX9_figureOf 19 = .ok (.bipush 48, 2) := by decide +kernel
theorem dX9_figureOf_21 : decode cX9_figureOf 21 = .ok (.isub, 1) := by decide +kernel
theorem dX9_figureOf_22 : decode cX9_figureOf 22 = .ok (.goto 5, 3) := by decide +kernel
theorem dX9_figureOf_25 : decode cX9_figureOf 25 = .ok (.bipush (-9), 2) := by decide +kernel
theorem dX9_figureOf_27 : decode cX9_figureOf 27 = .ok (.ireturn, 1) := by decide +kernel
theorem dX9_byteOf_0 : decode cX9_byteOf 0 = .ok (.iload_n 0, 1) := by decide +kernel
theorem dX9_byteOf_1 : decode cX9_byteOf 1 = .ok (.tableswitch 75 0 2 #[27, 60, 68], 27) := by decide +kernel
theorem dX9_byteOf_28 : decode cX9_byteOf 28 = .ok (.iload_n 1, 1) := by decide +kernel
theorem dX9_byteOf_29 : decode cX9_byteOf 29 = .ok (.bipush 115, 2) := by decide +kernel
theorem dX9_byteOf_31 : decode cX9_byteOf 31 = .ok (.if_icmp .ne 7, 3) := by decide +kernel
theorem dX9_byteOf_34 : decode cX9_byteOf 34 = .ok (.iconst 0, 1) := by decide +kernel
theorem dX9_byteOf_35 : decode cX9_byteOf 35 = .ok (.goto 25, 3) := by decide +kernel
theorem dX9_byteOf_38 : decode cX9_byteOf 38 = .ok (.iload_n 1, 1) := by decide +kernel
theorem dX9_byteOf_39 : decode cX9_byteOf 39 = .ok (.bipush 99, 2) := by decide +kernel
theorem dX9_byteOf_41 : decode cX9_byteOf 41 = .ok (.if_icmp .ne 7, 3) := by decide +kernel
theorem dX9_byteOf_44 : decode cX9_byteOf 44 = .ok (.iconst 1, 1) := by decide +kernel
theorem dX9_byteOf_45 : decode cX9_byteOf 45 = .ok (.goto 15, 3) := by decide +kernel
theorem dX9_byteOf_48 : decode cX9_byteOf 48 = .ok (.iload_n 1, 1) := by decide +kernel
theorem dX9_byteOf_49 : decode cX9_byteOf 49 = .ok (.bipush 119, 2) := by decide +kernel
theorem dX9_byteOf_51 : decode cX9_byteOf 51 = .ok (.if_icmp .ne 7, 3) := by decide +kernel
theorem dX9_byteOf_54 : decode cX9_byteOf 54 = .ok (.iconst 2, 1) := by decide +kernel
theorem dX9_byteOf_55 : decode cX9_byteOf 55 = .ok (.goto 5, 3) := by decide +kernel
theorem dX9_byteOf_58 : decode cX9_byteOf 58 = .ok (.bipush (-9), 2) := by decide +kernel
theorem dX9_byteOf_60 : decode cX9_byteOf 60 = .ok (.ireturn, 1) := by decide +kernel
theorem dX9_byteOf_61 : decode cX9_byteOf 61 = .ok (.iload_n 1, 1) := by decide +kernel
theorem dX9_byteOf_62 : decode cX9_byteOf 62 = .ok (.iload_n 2, 1) := by decide +kernel
theorem dX9_byteOf_63 : decode cX9_byteOf 63 = .ok (.bipush 9, 2) := by decide +kernel
theorem dX9_byteOf_65 : decode cX9_byteOf 65 = .ok (.invokestatic 125, 3) := by decide +kernel
theorem dX9_byteOf_68 : decode cX9_byteOf 68 = .ok (.ireturn, 1) := by decide +kernel
theorem dX9_byteOf_69 : decode cX9_byteOf 69 = .ok (.iload_n 1, 1) := by decide +kernel
theorem dX9_byteOf_70 : decode cX9_byteOf 70 = .ok (.iconst 0, 1) := by decide +kernel
theorem dX9_byteOf_71 : decode cX9_byteOf 71 = .ok (.iconst 5, 1) := by decide +kernel
theorem dX9_byteOf_72 : decode cX9_byteOf 72 = .ok (.invokestatic 125, 3) := by decide +kernel
theorem dX9_byteOf_75 : decode cX9_byteOf 75 = .ok (.ireturn, 1) := by decide +kernel
theorem dX9_byteOf_76 : decode cX9_byteOf 76 = .ok (.iload_n 1, 1) := by decide +kernel
theorem dX9_byteOf_77 : decode cX9_byteOf 77 = .ok (.bipush 59, 2) := by decide +kernel
theorem dX9_byteOf_79 : decode cX9_byteOf 79 = .ok (.if_icmp .ne 7, 3) := by decide +kernel
theorem dX9_byteOf_82 : decode cX9_byteOf 82 = .ok (.iconst 0, 1) := by decide +kernel
theorem dX9_byteOf_83 : decode cX9_byteOf 83 = .ok (.goto 5, 3) := by decide +kernel
theorem dX9_byteOf_86 : decode cX9_byteOf 86 = .ok (.bipush (-9), 2) := by decide +kernel
theorem dX9_byteOf_88 : decode cX9_byteOf 88 = .ok (.ireturn, 1) := by decide +kernel
theorem dX9_readsThings_0 : decode cX9_readsThings 0 = .ok (.aload_n 0, 1) := by decide +kernel
theorem dX9_readsThings_1 : decode cX9_readsThings 1 = .ok (.iconst 0, 1) := by decide +kernel
theorem dX9_readsThings_2 : decode cX9_readsThings 2 = .ok (.putfield 128, 3) := by decide +kernel
theorem dX9_readsThings_5 : decode cX9_readsThings 5 = .ok (.aload_n 0, 1) := by decide +kernel
theorem dX9_readsThings_6 : decode cX9_readsThings 6 = .ok (.getfield 25, 3) := by decide +kernel
theorem dX9_readsThings_9 : decode cX9_readsThings 9 = .ok (.iconst 0, 1) := by decide +kernel
theorem dX9_readsThings_10 : decode cX9_readsThings 10 = .ok (.iaload, 1) := by decide +kernel
theorem dX9_readsThings_11 : decode cX9_readsThings 11 = .ok (.istore_n 1, 1) := by decide +kernel
theorem dX9_readsThings_12 : decode cX9_readsThings 12 = .ok (.iconst 0, 1) := by decide +kernel
theorem dX9_readsThings_13 : decode cX9_readsThings 13 = .ok (.istore_n 2, 1) := by decide +kernel
theorem dX9_readsThings_14 : decode cX9_readsThings 14 = .ok (.iload_n 2, 1) := by decide +kernel
theorem dX9_readsThings_15 : decode cX9_readsThings 15 = .ok (.iload_n 1, 1) := by decide +kernel
theorem dX9_readsThings_16 : decode cX9_readsThings 16 = .ok (.if_icmp .ge 78, 3) := by decide +kernel
theorem dX9_readsThings_19 : decode cX9_readsThings 19 = .ok (.iload_n 2, 1) := by decide +kernel
theorem dX9_readsThings_20 : decode cX9_readsThings 20 = .ok (.iconst 4, 1) := by decide +kernel
theorem dX9_readsThings_21 : decode cX9_readsThings 21 = .ok (.irem, 1) := by decide +kernel
theorem dX9_readsThings_22 : decode cX9_readsThings 22 = .ok (.istore_n 3, 1) := by decide +kernel
theorem dX9_readsThings_23 : decode cX9_readsThings 23 = .ok (.iload_n 3, 1) := by decide +kernel
theorem dX9_readsThings_24 : decode cX9_readsThings 24 = .ok (.aload_n 0, 1) := by decide +kernel
theorem dX9_readsThings_25 : decode cX9_readsThings 25 = .ok (.getfield 22, 3) := by decide +kernel
theorem dX9_readsThings_28 : decode cX9_readsThings 28 = .ok (.iload_n 2, 1) := by decide +kernel
theorem dX9_readsThings_29 : decode cX9_readsThings 29 = .ok (.iaload, 1) := by decide +kernel
theorem dX9_readsThings_30 : decode cX9_readsThings 30 = .ok (.iconst 0, 1) := by decide +kernel
theorem dX9_readsThings_31 : decode cX9_readsThings 31 = .ok (.invokestatic 131, 3) := by decide +kernel
theorem dX9_readsThings_34 : decode cX9_readsThings 34 = .ok (.istore 4, 2) := by decide +kernel
theorem dX9_readsThings_36 : decode cX9_readsThings 36 = .ok (.iload 4, 2) := by decide +kernel
theorem dX9_readsThings_38 : decode cX9_readsThings 38 = .ok (.bipush (-9), 2) := by decide +kernel
theorem dX9_readsThings_40 : decode cX9_readsThings 40 = .ok (.if_icmp .ne 10, 3) := by decide +kernel
theorem dX9_readsThings_43 : decode cX9_readsThings 43 = .ok (.aload_n 0, 1) := by decide +kernel
theorem dX9_readsThings_44 : decode cX9_readsThings 44 = .ok (.iconst 0, 1) := by decide +kernel
theorem dX9_readsThings_45 : decode cX9_readsThings 45 = .ok (.putfield 128, 3) := by decide +kernel
theorem dX9_readsThings_48 : decode cX9_readsThings 48 = .ok (.iload_n 2, 1) := by decide +kernel
theorem dX9_readsThings_49 : decode cX9_readsThings 49 = .ok (.ireturn, 1) := by decide +kernel
theorem dX9_readsThings_50 : decode cX9_readsThings 50 = .ok (.iload_n 3, 1) := by decide +kernel
theorem dX9_readsThings_51 : decode cX9_readsThings 51 = .ok (.iconst 3, 1) := by decide +kernel
theorem dX9_readsThings_52 : decode cX9_readsThings 52 = .ok (.if_icmp .ge 17, 3) := by decide +kernel
theorem dX9_readsThings_55 : decode cX9_readsThings 55 = .ok (.aload_n 0, 1) := by decide +kernel
theorem dX9_readsThings_56 : decode cX9_readsThings 56 = .ok (.getfield 28, 3) := by decide +kernel
theorem dX9_readsThings_59 : decode cX9_readsThings 59 = .ok (.iconst 3, 1) := by decide +kernel
theorem dX9_readsThings_60 : decode cX9_readsThings 60 = .ok (.iload_n 2, 1) := by decide +kernel
theorem dX9_readsThings_61 : decode cX9_readsThings 61 = .ok (.iconst 4, 1) := by decide +kernel
theorem dX9_readsThings_62 : decode cX9_readsThings 62 = .ok (.idiv, 1) := by decide +kernel
theorem dX9_readsThings_63 : decode cX9_readsThings 63 = .ok (.imul, 1) := by decide +kernel
theorem dX9_readsThings_64 : decode cX9_readsThings 64 = .ok (.iload_n 3, 1) := by decide +kernel
theorem dX9_readsThings_65 : decode cX9_readsThings 65 = .ok (.iadd, 1) := by decide +kernel
theorem dX9_readsThings_66 : decode cX9_readsThings 66 = .ok (.iload 4, 2) := by decide +kernel
theorem dX9_readsThings_68 : decode cX9_readsThings 68 = .ok (.iastore, 1) := by decide +kernel
theorem dX9_readsThings_69 : decode cX9_readsThings 69 = .ok (.aload_n 0, 1) := by decide +kernel
theorem dX9_readsThings_70 : decode cX9_readsThings 70 = .ok (.dup, 1) := by decide +kernel
theorem dX9_readsThings_71 : decode cX9_readsThings 71 = .ok (.getfield 128, 3) := by decide +kernel
theorem dX9_readsThings_74 : decode cX9_readsThings 74 = .ok (.iload_n 3, 1) := by decide +kernel
theorem dX9_readsThings_75 : decode cX9_readsThings 75 = .ok (.iconst 2, 1) := by decide +kernel
theorem dX9_readsThings_76 : decode cX9_readsThings 76 = .ok (.if_icmp .ne 7, 3) := by decide +kernel
theorem dX9_readsThings_79 : decode cX9_readsThings 79 = .ok (.iconst 1, 1) := by decide +kernel
theorem dX9_readsThings_80 : decode cX9_readsThings 80 = .ok (.goto 4, 3) := by decide +kernel
theorem dX9_readsThings_83 : decode cX9_readsThings 83 = .ok (.iconst 0, 1) := by decide +kernel
theorem dX9_readsThings_84 : decode cX9_readsThings 84 = .ok (.iadd, 1) := by decide +kernel
theorem dX9_readsThings_85 : decode cX9_readsThings 85 = .ok (.putfield 128, 3) := by decide +kernel
theorem dX9_readsThings_88 : decode cX9_readsThings 88 = .ok (.iinc 2 1, 3) := by decide +kernel
theorem dX9_readsThings_91 : decode cX9_readsThings 91 = .ok (.goto (-77), 3) := by decide +kernel
theorem dX9_readsThings_94 : decode cX9_readsThings 94 = .ok (.iload_n 1, 1) := by decide +kernel
theorem dX9_readsThings_95 : decode cX9_readsThings 95 = .ok (.ifCond .le 17, 3) := by decide +kernel
theorem dX9_readsThings_98 : decode cX9_readsThings 98 = .ok (.iload_n 1, 1) := by decide +kernel
theorem dX9_readsThings_99 : decode cX9_readsThings 99 = .ok (.iconst 4, 1) := by decide +kernel
theorem dX9_readsThings_100 : decode cX9_readsThings 100 = .ok (.irem, 1) := by decide +kernel
theorem dX9_readsThings_101 : decode cX9_readsThings 101 = .ok (.iconst 3, 1) := by decide +kernel
theorem dX9_readsThings_102 : decode cX9_readsThings 102 = .ok (.if_icmp .eq 10, 3) := by decide +kernel
theorem dX9_readsThings_105 : decode cX9_readsThings 105 = .ok (.aload_n 0, 1) := by decide +kernel
theorem dX9_readsThings_106 : decode cX9_readsThings 106 = .ok (.iconst 0, 1) := by decide +kernel
theorem dX9_readsThings_107 : decode cX9_readsThings 107 = .ok (.putfield 128, 3) := by decide +kernel
theorem dX9_readsThings_110 : decode cX9_readsThings 110 = .ok (.iload_n 1, 1) := by decide +kernel
theorem dX9_readsThings_111 : decode cX9_readsThings 111 = .ok (.ireturn, 1) := by decide +kernel
theorem dX9_readsThings_112 : decode cX9_readsThings 112 = .ok (.iconst (-1), 1) := by decide +kernel
theorem dX9_readsThings_113 : decode cX9_readsThings 113 = .ok (.ireturn, 1) := by decide +kernel
theorem dX9_readsJudges_0 : decode cX9_readsJudges 0 = .ok (.aload_n 0, 1) := by decide +kernel
theorem dX9_readsJudges_1 : decode cX9_readsJudges 1 = .ok (.iconst 0, 1) := by decide +kernel
theorem dX9_readsJudges_2 : decode cX9_readsJudges 2 = .ok (.putfield 134, 3) := by decide +kernel
theorem dX9_readsJudges_5 : decode cX9_readsJudges 5 = .ok (.aload_n 0, 1) := by decide +kernel
theorem dX9_readsJudges_6 : decode cX9_readsJudges 6 = .ok (.getfield 25, 3) := by decide +kernel
theorem dX9_readsJudges_9 : decode cX9_readsJudges 9 = .ok (.iconst 1, 1) := by decide +kernel
theorem dX9_readsJudges_10 : decode cX9_readsJudges 10 = .ok (.iaload, 1) := by decide +kernel
theorem dX9_readsJudges_11 : decode cX9_readsJudges 11 = .ok (.istore_n 1, 1) := by decide +kernel
theorem dX9_readsJudges_12 : decode cX9_readsJudges 12 = .ok (.iconst 0, 1) := by decide +kernel
theorem dX9_readsJudges_13 : decode cX9_readsJudges 13 = .ok (.istore_n 2, 1) := by decide +kernel
theorem dX9_readsJudges_14 : decode cX9_readsJudges 14 = .ok (.iload_n 2, 1) := by decide +kernel
theorem dX9_readsJudges_15 : decode cX9_readsJudges 15 = .ok (.iload_n 1, 1) := by decide +kernel
theorem dX9_readsJudges_16 : decode cX9_readsJudges 16 = .ok (.if_icmp .ge 81, 3) := by decide +kernel
theorem dX9_readsJudges_19 : decode cX9_readsJudges 19 = .ok (.iload_n 2, 1) := by decide +kernel
theorem dX9_readsJudges_20 : decode cX9_readsJudges 20 = .ok (.iconst 4, 1) := by decide +kernel
theorem dX9_readsJudges_21 : decode cX9_readsJudges 21 = .ok (.irem, 1) := by decide +kernel
theorem dX9_readsJudges_22 : decode cX9_readsJudges 22 = .ok (.istore_n 3, 1) := by decide +kernel
theorem dX9_readsJudges_23 : decode cX9_readsJudges 23 = .ok (.iload_n 3, 1) := by decide +kernel
theorem dX9_readsJudges_24 : decode cX9_readsJudges 24 = .ok (.aload_n 0, 1) := by decide +kernel
theorem dX9_readsJudges_25 : decode cX9_readsJudges 25 = .ok (.getfield 22, 3) := by decide +kernel
theorem dX9_readsJudges_28 : decode cX9_readsJudges 28 = .ok (.bipush 40, 2) := by decide +kernel
theorem dX9_readsJudges_30 : decode cX9_readsJudges 30 = .ok (.iload_n 2, 1) := by decide +kernel
theorem dX9_readsJudges_31 : decode cX9_readsJudges 31 = .ok (.iadd, 1) := by decide +kernel
theorem dX9_readsJudges_32 : decode cX9_readsJudges 32 = .ok (.iaload, 1) := by decide +kernel
theorem dX9_readsJudges_33 : decode cX9_readsJudges 33 = .ok (.iconst 1, 1) := by decide +kernel
theorem dX9_readsJudges_34 : decode cX9_readsJudges 34 = .ok (.invokestatic 131, 3) := by decide +kernel
theorem dX9_readsJudges_37 : decode cX9_readsJudges 37 = .ok (.istore 4, 2) := by decide +kernel
theorem dX9_readsJudges_39 : decode cX9_readsJudges 39 = .ok (.iload 4, 2) := by decide +kernel
theorem dX9_readsJudges_41 : decode cX9_readsJudges 41 = .ok (.bipush (-9), 2) := by decide +kernel
theorem dX9_readsJudges_43 : decode cX9_readsJudges 43 = .ok (.if_icmp .ne 10, 3) := by decide +kernel
theorem dX9_readsJudges_46 : decode cX9_readsJudges 46 = .ok (.aload_n 0, 1) := by decide +kernel
theorem dX9_readsJudges_47 : decode cX9_readsJudges 47 = .ok (.iconst 0, 1) := by decide +kernel
theorem dX9_readsJudges_48 : decode cX9_readsJudges 48 = .ok (.putfield 134, 3) := by decide +kernel
theorem dX9_readsJudges_51 : decode cX9_readsJudges 51 = .ok (.iload_n 2, 1) := by decide +kernel
theorem dX9_readsJudges_52 : decode cX9_readsJudges 52 = .ok (.ireturn, 1) := by decide +kernel
theorem dX9_readsJudges_53 : decode cX9_readsJudges 53 = .ok (.iload_n 3, 1) := by decide +kernel
theorem dX9_readsJudges_54 : decode cX9_readsJudges 54 = .ok (.iconst 3, 1) := by decide +kernel
theorem dX9_readsJudges_55 : decode cX9_readsJudges 55 = .ok (.if_icmp .ge 17, 3) := by decide +kernel
theorem dX9_readsJudges_58 : decode cX9_readsJudges 58 = .ok (.aload_n 0, 1) := by decide +kernel
theorem dX9_readsJudges_59 : decode cX9_readsJudges 59 = .ok (.getfield 31, 3) := by decide +kernel
theorem dX9_readsJudges_62 : decode cX9_readsJudges 62 = .ok (.iconst 3, 1) := by decide +kernel
theorem dX9_readsJudges_63 : decode cX9_readsJudges 63 = .ok (.iload_n 2, 1) := by decide +kernel
theorem dX9_readsJudges_64 : decode cX9_readsJudges 64 = .ok (.iconst 4, 1) := by decide +kernel
theorem dX9_readsJudges_65 : decode cX9_readsJudges 65 = .ok (.idiv, 1) := by decide +kernel
theorem dX9_readsJudges_66 : decode cX9_readsJudges 66 = .ok (.imul, 1) := by decide +kernel
theorem dX9_readsJudges_67 : decode cX9_readsJudges 67 = .ok (.iload_n 3, 1) := by decide +kernel
theorem dX9_readsJudges_68 : decode cX9_readsJudges 68 = .ok (.iadd, 1) := by decide +kernel
theorem dX9_readsJudges_69 : decode cX9_readsJudges 69 = .ok (.iload 4, 2) := by decide +kernel
theorem dX9_readsJudges_71 : decode cX9_readsJudges 71 = .ok (.iastore, 1) := by decide +kernel
theorem dX9_readsJudges_72 : decode cX9_readsJudges 72 = .ok (.aload_n 0, 1) := by decide +kernel
theorem dX9_readsJudges_73 : decode cX9_readsJudges 73 = .ok (.dup, 1) := by decide +kernel
theorem dX9_readsJudges_74 : decode cX9_readsJudges 74 = .ok (.getfield 134, 3) := by decide +kernel
theorem dX9_readsJudges_77 : decode cX9_readsJudges 77 = .ok (.iload_n 3, 1) := by decide +kernel
theorem dX9_readsJudges_78 : decode cX9_readsJudges 78 = .ok (.iconst 2, 1) := by decide +kernel
theorem dX9_readsJudges_79 : decode cX9_readsJudges 79 = .ok (.if_icmp .ne 7, 3) := by decide +kernel
theorem dX9_readsJudges_82 : decode cX9_readsJudges 82 = .ok (.iconst 1, 1) := by decide +kernel
theorem dX9_readsJudges_83 : decode cX9_readsJudges 83 = .ok (.goto 4, 3) := by decide +kernel
theorem dX9_readsJudges_86 : decode cX9_readsJudges 86 = .ok (.iconst 0, 1) := by decide +kernel
theorem dX9_readsJudges_87 : decode cX9_readsJudges 87 = .ok (.iadd, 1) := by decide +kernel
theorem dX9_readsJudges_88 : decode cX9_readsJudges 88 = .ok (.putfield 134, 3) := by decide +kernel
theorem dX9_readsJudges_91 : decode cX9_readsJudges 91 = .ok (.iinc 2 1, 3) := by decide +kernel
theorem dX9_readsJudges_94 : decode cX9_readsJudges 94 = .ok (.goto (-80), 3) := by decide +kernel
theorem dX9_readsJudges_97 : decode cX9_readsJudges 97 = .ok (.iload_n 1, 1) := by decide +kernel
theorem dX9_readsJudges_98 : decode cX9_readsJudges 98 = .ok (.ifCond .le 17, 3) := by decide +kernel
theorem dX9_readsJudges_101 : decode cX9_readsJudges 101 = .ok (.iload_n 1, 1) := by decide +kernel
theorem dX9_readsJudges_102 : decode cX9_readsJudges 102 = .ok (.iconst 4, 1) := by decide +kernel
theorem dX9_readsJudges_103 : decode cX9_readsJudges 103 = .ok (.irem, 1) := by decide +kernel
theorem dX9_readsJudges_104 : decode cX9_readsJudges 104 = .ok (.iconst 3, 1) := by decide +kernel
theorem dX9_readsJudges_105 : decode cX9_readsJudges 105 = .ok (.if_icmp .eq 10, 3) := by decide +kernel
theorem dX9_readsJudges_108 : decode cX9_readsJudges 108 = .ok (.aload_n 0, 1) := by decide +kernel
theorem dX9_readsJudges_109 : decode cX9_readsJudges 109 = .ok (.iconst 0, 1) := by decide +kernel
theorem dX9_readsJudges_110 : decode cX9_readsJudges 110 = .ok (.putfield 134, 3) := by decide +kernel
theorem dX9_readsJudges_113 : decode cX9_readsJudges 113 = .ok (.iload_n 1, 1) := by decide +kernel
theorem dX9_readsJudges_114 : decode cX9_readsJudges 114 = .ok (.ireturn, 1) := by decide +kernel
theorem dX9_readsJudges_115 : decode cX9_readsJudges 115 = .ok (.iconst (-1), 1) := by decide +kernel
theorem dX9_readsJudges_116 : decode cX9_readsJudges 116 = .ok (.ireturn, 1) := by decide +kernel
theorem dX9_clears_0 : decode cX9_clears 0 = .ok (.iconst 0, 1) := by decide +kernel
theorem dX9_clears_1 : decode cX9_clears 1 = .ok (.istore_n 2, 1) := by decide +kernel
theorem dX9_clears_2 : decode cX9_clears 2 = .ok (.iload_n 2, 1) := by decide +kernel
theorem dX9_clears_3 : decode cX9_clears 3 = .ok (.bipush 12, 2) := by decide +kernel
theorem dX9_clears_5 : decode cX9_clears 5 = .ok (.if_icmp .ge 16, 3) := by decide +kernel
theorem dX9_clears_8 : decode cX9_clears 8 = .ok (.aload_n 0, 1) := by decide +kernel
theorem dX9_clears_9 : decode cX9_clears 9 = .ok (.getfield 34, 3) := by decide +kernel
theorem dX9_clears_12 : decode cX9_clears 12 = .ok (.iload_n 2, 1) := by decide +kernel
theorem dX9_clears_13 : decode cX9_clears 13 = .ok (.iconst 0, 1) := by decide +kernel
theorem dX9_clears_14 : decode cX9_clears 14 = .ok (.iastore, 1) := by decide +kernel
theorem dX9_clears_15 : decode cX9_clears 15 = .ok (.iinc 2 1, 3) := by decide +kernel
theorem dX9_clears_18 : decode cX9_clears 18 = .ok (.goto (-16), 3) := by decide +kernel
theorem dX9_clears_21 : decode cX9_clears 21 = .ok (.aload_n 0, 1) := by decide +kernel
theorem dX9_clears_22 : decode cX9_clears 22 = .ok (.iconst 0, 1) := by decide +kernel
theorem dX9_clears_23 : decode cX9_clears 23 = .ok (.putfield 137, 3) := by decide +kernel
theorem dX9_clears_26 : decode cX9_clears 26 = .ok (.iload_n 1, 1) := by decide +kernel
theorem dX9_clears_27 : decode cX9_clears 27 = .ok (.ireturn, 1) := by decide +kernel
theorem dX9_readsBox_0 : decode cX9_readsBox 0 = .ok (.aload_n 0, 1) := by decide +kernel
theorem dX9_readsBox_1 : decode cX9_readsBox 1 = .ok (.iconst (-1), 1) := by decide +kernel
theorem dX9_readsBox_2 : decode cX9_readsBox 2 = .ok (.invokevirtual 140, 3) := by decide +kernel
theorem dX9_readsBox_5 : decode cX9_readsBox 5 = .ok (.pop, 1) := by decide +kernel
theorem dX9_readsBox_6 : decode cX9_readsBox 6 = .ok (.iconst 0, 1) := by decide +kernel
theorem dX9_readsBox_7 : decode cX9_readsBox 7 = .ok (.istore_n 1, 1) := by decide +kernel
theorem dX9_readsBox_8 : decode cX9_readsBox 8 = .ok (.iload_n 1, 1) := by decide +kernel
theorem dX9_readsBox_9 : decode cX9_readsBox 9 = .ok (.aload_n 0, 1) := by decide +kernel
theorem dX9_readsBox_10 : decode cX9_readsBox 10 = .ok (.getfield 25, 3) := by decide +kernel
theorem dX9_readsBox_13 : decode cX9_readsBox 13 = .ok (.iconst 2, 1) := by decide +kernel
theorem dX9_readsBox_14 : decode cX9_readsBox 14 = .ok (.iaload, 1) := by decide +kernel
theorem dX9_readsBox_15 : decode cX9_readsBox 15 = .ok (.if_icmp .ge 53, 3) := by decide +kernel
theorem dX9_readsBox_18 : decode cX9_readsBox 18 = .ok (.aload_n 0, 1) := by decide +kernel
theorem dX9_readsBox_19 : decode cX9_readsBox 19 = .ok (.getfield 22, 3) := by decide +kernel
theorem dX9_readsBox_22 : decode cX9_readsBox 22 = .ok (.bipush 80, 2) := by decide +kernel
theorem dX9_readsBox_24 : decode cX9_readsBox 24 = .ok (.iload_n 1, 1) := by decide +kernel
theorem dX9_readsBox_25 : decode cX9_readsBox 25 = .ok (.iadd, 1) := by decide +kernel
theorem dX9_readsBox_26 : decode cX9_readsBox 26 = .ok (.iaload, 1) := by decide +kernel
theorem dX9_readsBox_27 : decode cX9_readsBox 27 = .ok (.iconst 0, 1) := by decide +kernel
theorem dX9_readsBox_28 : decode cX9_readsBox 28 = .ok (.iconst 3, 1) := by decide +kernel
theorem dX9_readsBox_29 : decode cX9_readsBox 29 = .ok (.invokestatic 125, 3) := by decide +kernel
theorem dX9_readsBox_32 : decode cX9_readsBox 32 = .ok (.istore_n 2, 1) := by decide +kernel
theorem dX9_readsBox_33 : decode cX9_readsBox 33 = .ok (.iload_n 2, 1) := by decide +kernel
theorem dX9_readsBox_34 : decode cX9_readsBox 34 = .ok (.bipush (-9), 2) := by decide +kernel
theorem dX9_readsBox_36 : decode cX9_readsBox 36 = .ok (.if_icmp .ne 9, 3) := by decide +kernel
theorem dX9_readsBox_39 : decode cX9_readsBox 39 = .ok (.aload_n 0, 1) := by decide +kernel
theorem dX9_readsBox_40 : decode cX9_readsBox 40 = .ok (.iload_n 1, 1) := by decide +kernel
theorem dX9_readsBox_41 : decode cX9_readsBox 41 = .ok (.invokevirtual 140, 3) := by decide +kernel
theorem dX9_readsBox_44 : decode cX9_readsBox 44 = .ok (.ireturn, 1) := by decide +kernel
theorem dX9_readsBox_45 : decode cX9_readsBox 45 = .ok (.aload_n 0, 1) := by decide +kernel
theorem dX9_readsBox_46 : decode cX9_readsBox 46 = .ok (.getfield 34, 3) := by decide +kernel
theorem dX9_readsBox_49 : decode cX9_readsBox 49 = .ok (.iload_n 1, 1) := by decide +kernel
theorem dX9_readsBox_50 : decode cX9_readsBox 50 = .ok (.iload_n 2, 1) := by decide +kernel
theorem dX9_readsBox_51 : decode cX9_readsBox 51 = .ok (.iastore, 1) := by decide +kernel
theorem dX9_readsBox_52 : decode cX9_readsBox 52 = .ok (.aload_n 0, 1) := by decide +kernel
theorem dX9_readsBox_53 : decode cX9_readsBox 53 = .ok (.dup, 1) := by decide +kernel
theorem dX9_readsBox_54 : decode cX9_readsBox 54 = .ok (.getfield 137, 3) := by decide +kernel
theorem dX9_readsBox_57 : decode cX9_readsBox 57 = .ok (.iconst 1, 1) := by decide +kernel
theorem dX9_readsBox_58 : decode cX9_readsBox 58 = .ok (.iadd, 1) := by decide +kernel
theorem dX9_readsBox_59 : decode cX9_readsBox 59 = .ok (.putfield 137, 3) := by decide +kernel
theorem dX9_readsBox_62 : decode cX9_readsBox 62 = .ok (.iinc 1 1, 3) := by decide +kernel
theorem dX9_readsBox_65 : decode cX9_readsBox 65 = .ok (.goto (-57), 3) := by decide +kernel
theorem dX9_readsBox_68 : decode cX9_readsBox 68 = .ok (.iconst (-1), 1) := by decide +kernel
theorem dX9_readsBox_69 : decode cX9_readsBox 69 = .ok (.ireturn, 1) := by decide +kernel
theorem dX9_readsText_0 : decode cX9_readsText 0 = .ok (.iload_n 1, 1) := by decide +kernel
theorem dX9_readsText_1 : decode cX9_readsText 1 = .ok (.ifCond .ne 10, 3) := by decide +kernel
theorem dX9_readsText_4 : decode cX9_readsText 4 = .ok (.aload_n 0, 1) := by decide +kernel
theorem dX9_readsText_5 : decode cX9_readsText 5 = .ok (.invokevirtual 143, 3) := by decide +kernel
theorem dX9_readsText_8 : decode cX9_readsText 8 = .ok (.goto 19, 3) := by decide +kernel
theorem dX9_readsText_11 : decode cX9_readsText 11 = .ok (.iload_n 1, 1) := by decide +kernel
theorem dX9_readsText_12 : decode cX9_readsText 12 = .ok (.iconst 1, 1) := by decide +kernel
theorem dX9_readsText_13 : decode cX9_readsText 13 = .ok (.if_icmp .ne 10, 3) := by decide +kernel
theorem dX9_readsText_16 : decode cX9_readsText 16 = .ok (.aload_n 0, 1) := by decide +kernel
theorem dX9_readsText_17 : decode cX9_readsText 17 = .ok (.invokevirtual 147, 3) := by decide +kernel
theorem dX9_readsText_20 : decode cX9_readsText 20 = .ok (.goto 7, 3) := by decide +kernel
theorem dX9_readsText_23 : decode cX9_readsText 23 = .ok (.aload_n 0, 1) := by decide +kernel
theorem dX9_readsText_24 : decode cX9_readsText 24 = .ok (.invokevirtual 150, 3) := by decide +kernel
theorem dX9_readsText_27 : decode cX9_readsText 27 = .ok (.ireturn, 1) := by decide +kernel
theorem dX9_fault_0 : decode cX9_fault 0 = .ok (.iload_n 1, 1) := by decide +kernel
theorem dX9_fault_1 : decode cX9_fault 1 = .ok (.invokestatic 120, 3) := by decide +kernel
theorem dX9_fault_4 : decode cX9_fault 4 = .ok (.ifCond .eq 11, 3) := by decide +kernel
theorem dX9_fault_7 : decode cX9_fault 7 = .ok (.aload_n 0, 1) := by decide +kernel
theorem dX9_fault_8 : decode cX9_fault 8 = .ok (.iload_n 1, 1) := by decide +kernel
theorem dX9_fault_9 : decode cX9_fault 9 = .ok (.invokevirtual 153, 3) := by decide +kernel
theorem dX9_fault_12 : decode cX9_fault 12 = .ok (.goto 5, 3) := by decide +kernel
theorem dX9_fault_15 : decode cX9_fault 15 = .ok (.bipush (-2), 2) := by decide +kernel
theorem dX9_fault_17 : decode cX9_fault 17 = .ok (.ireturn, 1) := by decide +kernel
theorem dX9_isThing_0 : decode cX9_isThing 0 = .ok (.iload_n 1, 1) := by decide +kernel
theorem dX9_isThing_1 : decode cX9_isThing 1 = .ok (.i2l, 1) := by decide +kernel
theorem dX9_isThing_2 : decode cX9_isThing 2 = .ok (.lconst 0, 1) := by decide +kernel
theorem dX9_isThing_3 : decode cX9_isThing 3 = .ok (.aload_n 0, 1) := by decide +kernel
theorem dX9_isThing_4 : decode cX9_isThing 4 = .ok (.getfield 128, 3) := by decide +kernel
theorem dX9_isThing_7 : decode cX9_isThing 7 = .ok (.iconst 1, 1) := by decide +kernel
theorem dX9_isThing_8 : decode cX9_isThing 8 = .ok (.isub, 1) := by decide +kernel
theorem dX9_isThing_9 : decode cX9_isThing 9 = .ok (.i2l, 1) := by decide +kernel
theorem dX9_isThing_10 : decode cX9_isThing 10 = .ok (.invokestatic 92, 3) := by decide +kernel
theorem dX9_isThing_13 : decode cX9_isThing 13 = .ok (.ireturn, 1) := by decide +kernel
theorem dX9_isJudge_0 : decode cX9_isJudge 0 = .ok (.iload_n 1, 1) := by decide +kernel
theorem dX9_isJudge_1 : decode cX9_isJudge 1 = .ok (.i2l, 1) := by decide +kernel
theorem dX9_isJudge_2 : decode cX9_isJudge 2 = .ok (.lconst 0, 1) := by decide +kernel
theorem dX9_isJudge_3 : decode cX9_isJudge 3 = .ok (.aload_n 0, 1) := by decide +kernel
theorem dX9_isJudge_4 : decode cX9_isJudge 4 = .ok (.getfield 134, 3) := by decide +kernel
theorem dX9_isJudge_7 : decode cX9_isJudge 7 = .ok (.iconst 1, 1) := by decide +kernel
theorem dX9_isJudge_8 : decode cX9_isJudge 8 = .ok (.isub, 1) := by decide +kernel
theorem dX9_isJudge_9 : decode cX9_isJudge 9 = .ok (.i2l, 1) := by decide +kernel
theorem dX9_isJudge_10 : decode cX9_isJudge 10 = .ok (.invokestatic 92, 3) := by decide +kernel
theorem dX9_isJudge_13 : decode cX9_isJudge 13 = .ok (.ireturn, 1) := by decide +kernel
theorem dX9_isWeek_0 : decode cX9_isWeek 0 = .ok (.iload_n 0, 1) := by decide +kernel
theorem dX9_isWeek_1 : decode cX9_isWeek 1 = .ok (.i2l, 1) := by decide +kernel
theorem dX9_isWeek_2 : decode cX9_isWeek 2 = .ok (.lconst 0, 1) := by decide +kernel
theorem dX9_isWeek_3 : decode cX9_isWeek 3 = .ok (.ldc2_w 156, 3) := by decide +kernel
theorem dX9_isWeek_6 : decode cX9_isWeek 6 = .ok (.invokestatic 92, 3) := by decide +kernel
theorem dX9_isWeek_9 : decode cX9_isWeek 9 = .ok (.ireturn, 1) := by decide +kernel
theorem dX9_thing_0 : decode cX9_thing 0 = .ok (.aload_n 0, 1) := by decide +kernel
theorem dX9_thing_1 : decode cX9_thing 1 = .ok (.invokevirtual 143, 3) := by decide +kernel
theorem dX9_thing_4 : decode cX9_thing 4 = .ok (.pop, 1) := by decide +kernel
theorem dX9_thing_5 : decode cX9_thing 5 = .ok (.aload_n 0, 1) := by decide +kernel
theorem dX9_thing_6 : decode cX9_thing 6 = .ok (.iload_n 1, 1) := by decide +kernel
theorem dX9_thing_7 : decode cX9_thing 7 = .ok (.invokevirtual 158, 3) := by decide +kernel
theorem dX9_thing_10 : decode cX9_thing 10 = .ok (.ifCond .eq 28, 3) := by decide +kernel
theorem dX9_thing_13 : decode cX9_thing 13 = .ok (.iload_n 2, 1) := by decide +kernel
theorem dX9_thing_14 : decode cX9_thing 14 = .ok (.i2l, 1) := by decide +kernel
theorem dX9_thing_15 : decode cX9_thing 15 = .ok (.lconst 0, 1) := by decide +kernel
theorem dX9_thing_16 : decode cX9_thing 16 = .ok (.ldc2_w 105, 3) := by decide +kernel
theorem dX9_thing_19 : decode cX9_thing 19 = .ok (.invokestatic 92, 3) := by decide +kernel
theorem dX9_thing_22 : decode cX9_thing 22 = .ok (.ifCond .eq 16, 3) := by decide +kernel
theorem dX9_thing_25 : decode cX9_thing 25 = .ok (.aload_n 0, 1) := by decide +kernel
theorem dX9_thing_26 : decode cX9_thing 26 = .ok (.getfield 28, 3) := by decide +kernel
theorem dX9_thing_29 : decode cX9_thing 29 = .ok (.iconst 3, 1) := by decide +kernel
theorem dX9_thing_30 : decode cX9_thing 30 = .ok (.iload_n 1, 1) := by decide +kernel
theorem dX9_thing_31 : decode cX9_thing 31 = .ok (.imul, 1) := by decide +kernel
theorem dX9_thing_32 : decode cX9_thing 32 = .ok (.iload_n 2, 1) := by decide +kernel
theorem dX9_thing_33 : decode cX9_thing 33 = .ok (.iadd, 1) := by decide +kernel
theorem dX9_thing_34 : decode cX9_thing 34 = .ok (.iaload, 1) := by decide +kernel
theorem dX9_thing_35 : decode cX9_thing 35 = .ok (.goto 5, 3) := by decide +kernel
theorem dX9_thing_38 : decode cX9_thing 38 = .ok (.bipush (-2), 2) := by decide +kernel
theorem dX9_thing_40 : decode cX9_thing 40 = .ok (.ireturn, 1) := by decide +kernel
theorem dX9_judge_0 : decode cX9_judge 0 = .ok (.aload_n 0, 1) := by decide +kernel
theorem dX9_judge_1 : decode cX9_judge 1 = .ok (.invokevirtual 147, 3) := by decide +kernel
theorem dX9_judge_4 : decode cX9_judge 4 = .ok (.pop, 1) := by decide +kernel
theorem dX9_judge_5 : decode cX9_judge 5 = .ok (.aload_n 0, 1) := by decide +kernel
theorem dX9_judge_6 : decode cX9_judge 6 = .ok (.iload_n 1, 1) := by decide +kernel
theorem dX9_judge_7 : decode cX9_judge 7 = .ok (.invokevirtual 161, 3) := by decide +kernel
theorem dX9_judge_10 : decode cX9_judge 10 = .ok (.ifCond .eq 28, 3) := by decide +kernel
theorem dX9_judge_13 : decode cX9_judge 13 = .ok (.iload_n 2, 1) := by decide +kernel
theorem dX9_judge_14 : decode cX9_judge 14 = .ok (.i2l, 1) := by decide +kernel
theorem dX9_judge_15 : decode cX9_judge 15 = .ok (.lconst 0, 1) := by decide +kernel
theorem dX9_judge_16 : decode cX9_judge 16 = .ok (.ldc2_w 105, 3) := by decide +kernel
theorem dX9_judge_19 : decode cX9_judge 19 = .ok (.invokestatic 92, 3) := by decide +kernel
theorem dX9_judge_22 : decode cX9_judge 22 = .ok (.ifCond .eq 16, 3) := by decide +kernel
theorem dX9_judge_25 : decode cX9_judge 25 = .ok (.aload_n 0, 1) := by decide +kernel
theorem dX9_judge_26 : decode cX9_judge 26 = .ok (.getfield 31, 3) := by decide +kernel
theorem dX9_judge_29 : decode cX9_judge 29 = .ok (.iconst 3, 1) := by decide +kernel
theorem dX9_judge_30 : decode cX9_judge 30 = .ok (.iload_n 1, 1) := by decide +kernel
theorem dX9_judge_31 : decode cX9_judge 31 = .ok (.imul, 1) := by decide +kernel
theorem dX9_judge_32 : decode cX9_judge 32 = .ok (.iload_n 2, 1) := by decide +kernel
theorem dX9_judge_33 : decode cX9_judge 33 = .ok (.iadd, 1) := by decide +kernel
theorem dX9_judge_34 : decode cX9_judge 34 = .ok (.iaload, 1) := by decide +kernel
theorem dX9_judge_35 : decode cX9_judge 35 = .ok (.goto 5, 3) := by decide +kernel
theorem dX9_judge_38 : decode cX9_judge 38 = .ok (.bipush (-2), 2) := by decide +kernel
theorem dX9_judge_40 : decode cX9_judge 40 = .ok (.ireturn, 1) := by decide +kernel
theorem dX9_event_0 : decode cX9_event 0 = .ok (.iload_n 1, 1) := by decide +kernel
theorem dX9_event_1 : decode cX9_event 1 = .ok (.i2l, 1) := by decide +kernel
theorem dX9_event_2 : decode cX9_event 2 = .ok (.lconst 0, 1) := by decide +kernel
theorem dX9_event_3 : decode cX9_event 3 = .ok (.ldc2_w 105, 3) := by decide +kernel
theorem dX9_event_6 : decode cX9_event 6 = .ok (.invokestatic 92, 3) := by decide +kernel
theorem dX9_event_9 : decode cX9_event 9 = .ok (.ifCond .eq 22, 3) := by decide +kernel
theorem dX9_event_12 : decode cX9_event 12 = .ok (.iload_n 2, 1) := by decide +kernel
theorem dX9_event_13 : decode cX9_event 13 = .ok (.invokestatic 164, 3) := by decide +kernel
theorem dX9_event_16 : decode cX9_event 16 = .ok (.ifCond .eq 15, 3) := by decide +kernel
theorem dX9_event_19 : decode cX9_event 19 = .ok (.iload_n 3, 1) := by decide +kernel
theorem dX9_event_20 : decode cX9_event 20 = .ok (.i2l, 1) := by decide +kernel
theorem dX9_event_21 : decode cX9_event 21 = .ok (.lconst 0, 1) := by decide +kernel
theorem dX9_event_22 : decode cX9_event 22 = .ok (.ldc2_w 167, 3) := by decide +kernel
theorem dX9_event_25 : decode cX9_event 25 = .ok (.invokestatic 92, 3) := by decide +kernel
theorem dX9_event_28 : decode cX9_event 28 = .ok (.ifCond .ne 6, 3) := by decide +kernel
theorem dX9_event_31 : decode cX9_event 31 = .ok (.bipush (-2), 2) := by decide +kernel
theorem dX9_event_33 : decode cX9_event 33 = .ok (.ireturn, 1) := by decide +kernel
theorem dX9_event_34 : decode cX9_event 34 = .ok (.aload_n 0, 1) := by decide +kernel
theorem dX9_event_35 : decode cX9_event 35 = .ok (.getfield 169, 3) := by decide +kernel
theorem dX9_event_38 : decode cX9_event 38 = .ok (.bipush 8, 2) := by decide +kernel
theorem dX9_event_40 : decode cX9_event 40 = .ok (.if_icmp .ne 6, 3) := by decide +kernel
theorem dX9_event_43 : decode cX9_event 43 = .ok (.bipush (-4), 2) := by decide +kernel
theorem dX9_event_45 : decode cX9_event 45 = .ok (.ireturn, 1) := by decide +kernel
theorem dX9_event_46 : decode cX9_event 46 = .ok (.aload_n 0, 1) := by decide +kernel
theorem dX9_event_47 : decode cX9_event 47 = .ok (.getfield 37, 3) := by decide +kernel
theorem dX9_event_50 : decode cX9_event 50 = .ok (.iconst 3, 1) := by decide +kernel
theorem dX9_event_51 : decode cX9_event 51 = .ok (.aload_n 0, 1) := by decide +kernel
theorem dX9_event_52 : decode cX9_event 52 = .ok (.getfield 169, 3) := by decide +kernel
theorem dX9_event_55 : decode cX9_event 55 = .ok (.imul, 1) := by decide +kernel
theorem dX9_event_56 : decode cX9_event 56 = .ok (.iload_n 1, 1) := by decide +kernel
theorem dX9_event_57 : decode cX9_event 57 = .ok (.iastore, 1) := by decide +kernel
theorem dX9_event_58 : decode cX9_event 58 = .ok (.aload_n 0, 1) := by decide +kernel
theorem dX9_event_59 : decode cX9_event 59 = .ok (.getfield 37, 3) := by decide +kernel
theorem dX9_event_62 : decode cX9_event 62 = .ok (.iconst 3, 1) := by decide +kernel
theorem dX9_event_63 : decode cX9_event 63 = .ok (.aload_n 0, 1) := by decide +kernel
theorem dX9_event_64 : decode cX9_event 64 = .ok (.getfield 169, 3) := by decide +kernel
theorem dX9_event_67 : decode cX9_event 67 = .ok (.imul, 1) := by decide +kernel
theorem dX9_event_68 : decode cX9_event 68 = .ok (.iconst 1, 1) := by decide +kernel
theorem dX9_event_69 : decode cX9_event 69 = .ok (.iadd, 1) := by decide +kernel
theorem dX9_event_70 : decode cX9_event 70 = .ok (.iload_n 2, 1) := by decide +kernel
theorem dX9_event_71 : decode cX9_event 71 = .ok (.iastore, 1) := by decide +kernel
theorem dX9_event_72 : decode cX9_event 72 = .ok (.aload_n 0, 1) := by decide +kernel
theorem dX9_event_73 : decode cX9_event 73 = .ok (.getfield 37, 3) := by decide +kernel
theorem dX9_event_76 : decode cX9_event 76 = .ok (.iconst 3, 1) := by decide +kernel
theorem dX9_event_77 : decode cX9_event 77 = .ok (.aload_n 0, 1) := by decide +kernel
theorem dX9_event_78 : decode cX9_event 78 = .ok (.getfield 169, 3) := by decide +kernel
theorem dX9_event_81 : decode cX9_event 81 = .ok (.imul, 1) := by decide +kernel
theorem dX9_event_82 : decode cX9_event 82 = .ok (.iconst 2, 1) := by decide +kernel
theorem dX9_event_83 : decode cX9_event 83 = .ok (.iadd, 1) := by decide +kernel
theorem dX9_event_84 : decode cX9_event 84 = .ok (.iload_n 3, 1) := by decide +kernel
theorem dX9_event_85 : decode cX9_event 85 = .ok (.iastore, 1) := by decide +kernel
theorem dX9_event_86 : decode cX9_event 86 = .ok (.aload_n 0, 1) := by decide +kernel
theorem dX9_event_87 : decode cX9_event 87 = .ok (.dup, 1) := by decide +kernel
theorem dX9_event_88 : decode cX9_event 88 = .ok (.getfield 169, 3) := by decide +kernel
theorem dX9_event_91 : decode cX9_event 91 = .ok (.iconst 1, 1) := by decide +kernel
theorem dX9_event_92 : decode cX9_event 92 = .ok (.iadd, 1) := by decide +kernel
theorem dX9_event_93 : decode cX9_event 93 = .ok (.putfield 169, 3) := by decide +kernel
theorem dX9_event_96 : decode cX9_event 96 = .ok (.aload_n 0, 1) := by decide +kernel
theorem dX9_event_97 : decode cX9_event 97 = .ok (.getfield 169, 3) := by decide +kernel
theorem dX9_event_100 : decode cX9_event 100 = .ok (.ireturn, 1) := by decide +kernel
theorem dX9_back_0 : decode cX9_back 0 = .ok (.aload_n 0, 1) := by decide +kernel
theorem dX9_back_1 : decode cX9_back 1 = .ok (.getfield 169, 3) := by decide +kernel
theorem dX9_back_4 : decode cX9_back 4 = .ok (.ifCond .ne 6, 3) := by decide +kernel
theorem dX9_back_7 : decode cX9_back 7 = .ok (.bipush (-3), 2) := by decide +kernel
theorem dX9_back_9 : decode cX9_back 9 = .ok (.ireturn, 1) := by decide +kernel
theorem dX9_back_10 : decode cX9_back 10 = .ok (.aload_n 0, 1) := by decide +kernel
theorem dX9_back_11 : decode cX9_back 11 = .ok (.dup, 1) := by decide +kernel
theorem dX9_back_12 : decode cX9_back 12 = .ok (.getfield 169, 3) := by decide +kernel
theorem dX9_back_15 : decode cX9_back 15 = .ok (.iconst 1, 1) := by decide +kernel
theorem dX9_back_16 : decode cX9_back 16 = .ok (.isub, 1) := by decide +kernel
theorem dX9_back_17 : decode cX9_back 17 = .ok (.putfield 169, 3) := by decide +kernel
theorem dX9_back_20 : decode cX9_back 20 = .ok (.aload_n 0, 1) := by decide +kernel
theorem dX9_back_21 : decode cX9_back 21 = .ok (.getfield 169, 3) := by decide +kernel
theorem dX9_back_24 : decode cX9_back 24 = .ok (.ireturn, 1) := by decide +kernel
theorem dX9_read_0 : decode cX9_read 0 = .ok (.iload_n 1, 1) := by decide +kernel
theorem dX9_read_1 : decode cX9_read 1 = .ok (.invokestatic 101, 3) := by decide +kernel
theorem dX9_read_4 : decode cX9_read 4 = .ok (.ifCond .ne 6, 3) := by decide +kernel
theorem dX9_read_7 : decode cX9_read 7 = .ok (.bipush (-2), 2) := by decide +kernel
theorem dX9_read_9 : decode cX9_read 9 = .ok (.ireturn, 1) := by decide +kernel
theorem dX9_read_10 : decode cX9_read 10 = .ok (.aload_n 0, 1) := by decide +kernel
theorem dX9_read_11 : decode cX9_read 11 = .ok (.getfield 7, 3) := by decide +kernel
theorem dX9_read_14 : decode cX9_read 14 = .ok (.iload_n 1, 1) := by decide +kernel
theorem dX9_read_15 : decode cX9_read 15 = .ok (.iaload, 1) := by decide +kernel
theorem dX9_read_16 : decode cX9_read 16 = .ok (.ifCond .ge 9, 3) := by decide +kernel
theorem dX9_read_19 : decode cX9_read 19 = .ok (.aload_n 0, 1) := by decide +kernel
theorem dX9_read_20 : decode cX9_read 20 = .ok (.iconst 1, 1) := by decide +kernel
theorem dX9_read_21 : decode cX9_read 21 = .ok (.invokevirtual 107, 3) := by decide +kernel
theorem dX9_read_24 : decode cX9_read 24 = .ok (.ireturn, 1) := by decide +kernel
theorem dX9_read_25 : decode cX9_read 25 = .ok (.iconst 0, 1) := by decide +kernel
theorem dX9_read_26 : decode cX9_read 26 = .ok (.istore_n 2, 1) := by decide +kernel
theorem dX9_read_27 : decode cX9_read 27 = .ok (.iconst 1, 1) := by decide +kernel
theorem dX9_read_28 : decode cX9_read 28 = .ok (.istore_n 3, 1) := by decide +kernel
theorem dX9_read_29 : decode cX9_read 29 = .ok (.iload_n 3, 1) := by decide +kernel
theorem dX9_read_30 : decode cX9_read 30 = .ok (.ifCond .eq 80, 3) := by decide +kernel
theorem dX9_read_33 : decode cX9_read 33 = .ok (.iconst 3, 1) := by decide +kernel
theorem dX9_read_34 : decode cX9_read 34 = .ok (.iload_n 2, 1) := by decide +kernel
theorem dX9_read_35 : decode cX9_read 35 = .ok (.imul, 1) := by decide +kernel
theorem dX9_read_36 : decode cX9_read 36 = .ok (.iconst 3, 1) := by decide +kernel
theorem dX9_read_37 : decode cX9_read 37 = .ok (.iadd, 1) := by decide +kernel
theorem dX9_read_38 : decode cX9_read 38 = .ok (.aload_n 0, 1) := by decide +kernel
theorem dX9_read_39 : decode cX9_read 39 = .ok (.getfield 13, 3) := by decide +kernel
theorem dX9_read_42 : decode cX9_read 42 = .ok (.iload_n 1, 1) := by decide +kernel
theorem dX9_read_43 : decode cX9_read 43 = .ok (.iaload, 1) := by decide +kernel
theorem dX9_read_44 : decode cX9_read 44 = .ok (.if_icmp .gt 66, 3) := by decide +kernel
theorem dX9_read_47 : decode cX9_read 47 = .ok (.bipush 60, 2) := by decide +kernel
theorem dX9_read_49 : decode cX9_read 49 = .ok (.iload_n 1, 1) := by decide +kernel
theorem dX9_read_50 : decode cX9_read 50 = .ok (.imul, 1) := by decide +kernel
theorem dX9_read_51 : decode cX9_read 51 = .ok (.iconst 3, 1) := by decide +kernel
theorem dX9_read_52 : decode cX9_read 52 = .ok (.iload_n 2, 1) := by decide +kernel
theorem dX9_read_53 : decode cX9_read 53 = .ok (.imul, 1) := by decide +kernel
theorem dX9_read_54 : decode cX9_read 54 = .ok (.iadd, 1) := by decide +kernel
theorem dX9_read_55 : decode cX9_read 55 = .ok (.istore 4, 2) := by decide +kernel
theorem dX9_read_57 : decode cX9_read 57 = .ok (.aload_n 0, 1) := by decide +kernel
theorem dX9_read_58 : decode cX9_read 58 = .ok (.aload_n 0, 1) := by decide +kernel
theorem dX9_read_59 : decode cX9_read 59 = .ok (.getfield 16, 3) := by decide +kernel
theorem dX9_read_62 : decode cX9_read 62 = .ok (.iload 4, 2) := by decide +kernel
theorem dX9_read_64 : decode cX9_read 64 = .ok (.iaload, 1) := by decide +kernel
theorem dX9_read_65 : decode cX9_read 65 = .ok (.aload_n 0, 1) := by decide +kernel
theorem dX9_read_66 : decode cX9_read 66 = .ok (.getfield 16, 3) := by decide +kernel
theorem dX9_read_69 : decode cX9_read 69 = .ok (.iload 4, 2) := by decide +kernel
theorem dX9_read_71 : decode cX9_read 71 = .ok (.iconst 1, 1) := by decide +kernel
theorem dX9_read_72 : decode cX9_read 72 = .ok (.iadd, 1) := by decide +kernel
theorem dX9_read_73 : decode cX9_read 73 = .ok (.iaload, 1) := by decide +kernel
theorem dX9_read_74 : decode cX9_read 74 = .ok (.aload_n 0, 1) := by decide +kernel
theorem dX9_read_75 : decode cX9_read 75 = .ok (.getfield 16, 3) := by decide +kernel
theorem dX9_read_78 : decode cX9_read 78 = .ok (.iload 4, 2) := by decide +kernel
theorem dX9_read_80 : decode cX9_read 80 = .ok (.iconst 2, 1) := by decide +kernel
theorem dX9_read_81 : decode cX9_read 81 = .ok (.iadd, 1) := by decide +kernel
theorem dX9_read_82 : decode cX9_read 82 = .ok (.iaload, 1) := by decide +kernel
theorem dX9_read_83 : decode cX9_read 83 = .ok (.invokevirtual 172, 3) := by decide +kernel
theorem dX9_read_86 : decode cX9_read 86 = .ok (.ifCond .lt 7, 3) := by decide +kernel
theorem dX9_read_89 : decode cX9_read 89 = .ok (.iconst 1, 1) := by decide +kernel
theorem dX9_read_90 : decode cX9_read 90 = .ok (.goto 4, 3) := by decide +kernel
theorem dX9_read_93 : decode cX9_read 93 = .ok (.iconst 0, 1) := by decide +kernel
theorem dX9_read_94 : decode cX9_read 94 = .ok (.istore_n 3, 1) := by decide +kernel
theorem dX9_read_95 : decode cX9_read 95 = .ok (.iload_n 2, 1) := by decide +kernel
theorem dX9_read_96 : decode cX9_read 96 = .ok (.iload_n 3, 1) := by decide +kernel
theorem dX9_read_97 : decode cX9_read 97 = .ok (.ifCond .eq 7, 3) := by decide +kernel
theorem dX9_read_100 : decode cX9_read 100 = .ok (.iconst 1, 1) := by decide +kernel
theorem dX9_read_101 : decode cX9_read 101 = .ok (.goto 4, 3) := by decide +kernel
theorem dX9_read_104 : decode cX9_read 104 = .ok (.iconst 0, 1) := by decide +kernel
theorem dX9_read_105 : decode cX9_read 105 = .ok (.iadd, 1) := by decide +kernel
theorem dX9_read_106 : decode cX9_read 106 = .ok (.istore_n 2, 1) := by decide +kernel
theorem dX9_read_107 : decode cX9_read 107 = .ok (.goto (-78), 3) := by decide +kernel
theorem dX9_read_110 : decode cX9_read 110 = .ok (.iload_n 2, 1) := by decide +kernel
theorem dX9_read_111 : decode cX9_read 111 = .ok (.ireturn, 1) := by decide +kernel
theorem dX9_happens_0 : decode cX9_happens 0 = .ok (.iload_n 1, 1) := by decide +kernel
theorem dX9_happens_1 : decode cX9_happens 1 = .ok (.ifCond .ne 25, 3) := by decide +kernel
theorem dX9_happens_4 : decode cX9_happens 4 = .ok (.aload_n 0, 1) := by decide +kernel
theorem dX9_happens_5 : decode cX9_happens 5 = .ok (.getfield 40, 3) := by decide +kernel
theorem dX9_happens_8 : decode cX9_happens 8 = .ok (.iload_n 2, 1) := by decide +kernel
theorem dX9_happens_9 : decode cX9_happens 9 = .ok (.aload_n 0, 1) := by decide +kernel
theorem dX9_happens_10 : decode cX9_happens 10 = .ok (.getfield 40, 3) := by decide +kernel
theorem dX9_happens_13 : decode cX9_happens 13 = .ok (.iload_n 2, 1) := by decide +kernel
theorem dX9_happens_14 : decode cX9_happens 14 = .ok (.iaload, 1) := by decide +kernel
theorem dX9_happens_15 : decode cX9_happens 15 = .ok (.iconst 2, 1) := by decide +kernel
theorem dX9_happens_16 : decode cX9_happens 16 = .ok (.iadd, 1) := by decide +kernel
theorem dX9_happens_17 : decode cX9_happens 17 = .ok (.bipush 9, 2) := by decide +kernel
theorem dX9_happens_19 : decode cX9_happens 19 = .ok (.invokestatic 174, 3) := by decide +kernel
theorem dX9_happens_22 : decode cX9_happens 22 = .ok (.iastore, 1) := by decide +kernel
theorem dX9_happens_23 : decode cX9_happens 23 = .ok (.goto 55, 3) := by decide +kernel
theorem dX9_happens_26 : decode cX9_happens 26 = .ok (.iload_n 1, 1) := by decide +kernel
theorem dX9_happens_27 : decode cX9_happens 27 = .ok (.iconst 1, 1) := by decide +kernel
theorem dX9_happens_28 : decode cX9_happens 28 = .ok (.if_icmp .ne 13, 3) := by decide +kernel
theorem dX9_happens_31 : decode cX9_happens 31 = .ok (.aload_n 0, 1) := by decide +kernel
theorem dX9_happens_32 : decode cX9_happens 32 = .ok (.getfield 56, 3) := by decide +kernel
theorem dX9_happens_35 : decode cX9_happens 35 = .ok (.iload_n 2, 1) := by decide +kernel
theorem dX9_happens_36 : decode cX9_happens 36 = .ok (.iconst 1, 1) := by decide +kernel
theorem dX9_happens_37 : decode cX9_happens 37 = .ok (.bastore, 1) := by decide +kernel
theorem dX9_happens_38 : decode cX9_happens 38 = .ok (.goto 40, 3) := by decide +kernel
theorem dX9_happens_41 : decode cX9_happens 41 = .ok (.aload_n 0, 1) := by decide +kernel
theorem dX9_happens_42 : decode cX9_happens 42 = .ok (.iconst 1, 1) := by decide +kernel
theorem dX9_happens_43 : decode cX9_happens 43 = .ok (.putfield 177, 3) := by decide +kernel
theorem dX9_happens_46 : decode cX9_happens 46 = .ok (.iconst 0, 1) := by decide +kernel
theorem dX9_happens_47 : decode cX9_happens 47 = .ok (.istore_n 3, 1) := by decide +kernel
theorem dX9_happens_48 : decode cX9_happens 48 = .ok (.iload_n 3, 1) := by decide +kernel
theorem dX9_happens_49 : decode cX9_happens 49 = .ok (.bipush 10, 2) := by decide +kernel
theorem dX9_happens_51 : decode cX9_happens 51 = .ok (.if_icmp .ge 27, 3) := by decide +kernel
theorem dX9_happens_54 : decode cX9_happens 54 = .ok (.aload_n 0, 1) := by decide +kernel
theorem dX9_happens_55 : decode cX9_happens 55 = .ok (.getfield 43, 3) := by decide +kernel
theorem dX9_happens_58 : decode cX9_happens 58 = .ok (.iload_n 3, 1) := by decide +kernel
theorem dX9_happens_59 : decode cX9_happens 59 = .ok (.aload_n 0, 1) := by decide +kernel
theorem dX9_happens_60 : decode cX9_happens 60 = .ok (.getfield 43, 3) := by decide +kernel
theorem dX9_happens_63 : decode cX9_happens 63 = .ok (.iload_n 3, 1) := by decide +kernel
theorem dX9_happens_64 : decode cX9_happens 64 = .ok (.iaload, 1) := by decide +kernel
theorem dX9_happens_65 : decode cX9_happens 65 = .ok (.iconst 1, 1) := by decide +kernel
theorem dX9_happens_66 : decode cX9_happens 66 = .ok (.isub, 1) := by decide +kernel
theorem dX9_happens_67 : decode cX9_happens 67 = .ok (.iconst 0, 1) := by decide +kernel
theorem dX9_happens_68 : decode cX9_happens 68 = .ok (.invokestatic 181, 3) := by decide +kernel
theorem dX9_happens_71 : decode cX9_happens 71 = .ok (.iastore, 1) := by decide +kernel
theorem dX9_happens_72 : decode cX9_happens 72 = .ok (.iinc 3 1, 3) := by decide +kernel
theorem dX9_happens_75 : decode cX9_happens 75 = .ok (.goto (-27), 3) := by decide +kernel
theorem dX9_happens_78 : decode cX9_happens 78 = .ok (.return_, 1) := by decide +kernel
theorem dX9_scoreOf_0 : decode cX9_scoreOf 0 = .ok (.aload_n 0, 1) := by decide +kernel
theorem dX9_scoreOf_1 : decode cX9_scoreOf 1 = .ok (.getfield 28, 3) := by decide +kernel
theorem dX9_scoreOf_4 : decode cX9_scoreOf 4 = .ok (.iconst 3, 1) := by decide +kernel
theorem dX9_scoreOf_5 : decode cX9_scoreOf 5 = .ok (.iload_n 1, 1) := by decide +kernel
theorem dX9_scoreOf_6 : decode cX9_scoreOf 6 = .ok (.imul, 1) := by decide +kernel
theorem dX9_scoreOf_7 : decode cX9_scoreOf 7 = .ok (.iaload, 1) := by decide +kernel
theorem dX9_scoreOf_8 : decode cX9_scoreOf 8 = .ok (.istore_n 3, 1) := by decide +kernel
theorem dX9_scoreOf_9 : decode cX9_scoreOf 9 = .ok (.aload_n 0, 1) := by decide +kernel
theorem dX9_scoreOf_10 : decode cX9_scoreOf 10 = .ok (.getfield 40, 3) := by decide +kernel
theorem dX9_scoreOf_13 : decode cX9_scoreOf 13 = .ok (.iload_n 1, 1) := by decide +kernel
theorem dX9_scoreOf_14 : decode cX9_scoreOf 14 = .ok (.iaload, 1) := by decide +kernel
theorem dX9_scoreOf_15 : decode cX9_scoreOf 15 = .ok (.istore 4, 2) := by decide +kernel
theorem dX9_scoreOf_17 : decode cX9_scoreOf 17 = .ok (.iload_n 3, 1) := by decide +kernel
theorem dX9_scoreOf_18 : decode cX9_scoreOf 18 = .ok (.iconst 2, 1) := by decide +kernel
theorem dX9_scoreOf_19 : decode cX9_scoreOf 19 = .ok (.if_icmp .ne 15, 3) := by decide +kernel
theorem dX9_scoreOf_22 : decode cX9_scoreOf 22 = .ok (.iload 4, 2) := by decide +kernel
theorem dX9_scoreOf_24 : decode cX9_scoreOf 24 = .ok (.aload_n 0, 1) := by decide +kernel
theorem dX9_scoreOf_25 : decode cX9_scoreOf 25 = .ok (.getfield 46, 3) := by decide +kernel
theorem dX9_scoreOf_28 : decode cX9_scoreOf 28 = .ok (.iload_n 1, 1) := by decide +kernel
theorem dX9_scoreOf_29 : decode cX9_scoreOf 29 = .ok (.iaload, 1) := by decide +kernel
theorem dX9_scoreOf_30 : decode cX9_scoreOf 30 = .ok (.iadd, 1) := by decide +kernel
theorem dX9_scoreOf_31 : decode cX9_scoreOf 31 = .ok (.goto 28, 3) := by decide +kernel
theorem dX9_scoreOf_34 : decode cX9_scoreOf 34 = .ok (.iload_n 3, 1) := by decide +kernel
theorem dX9_scoreOf_35 : decode cX9_scoreOf 35 = .ok (.iconst 1, 1) := by decide +kernel
theorem dX9_scoreOf_36 : decode cX9_scoreOf 36 = .ok (.if_icmp .ne 21, 3) := by decide +kernel
theorem dX9_scoreOf_39 : decode cX9_scoreOf 39 = .ok (.aload_n 0, 1) := by decide +kernel
theorem dX9_scoreOf_40 : decode cX9_scoreOf 40 = .ok (.getfield 177, 3) := by decide +kernel
theorem dX9_scoreOf_43 : decode cX9_scoreOf 43 = .ok (.ifCond .eq 14, 3) := by decide +kernel
theorem dX9_scoreOf_46 : decode cX9_scoreOf 46 = .ok (.iload 4, 2) := by decide +kernel
theorem dX9_scoreOf_48 : decode cX9_scoreOf 48 = .ok (.iconst 2, 1) := by decide +kernel
theorem dX9_scoreOf_49 : decode cX9_scoreOf 49 = .ok (.isub, 1) := by decide +kernel
theorem dX9_scoreOf_50 : decode cX9_scoreOf 50 = .ok (.iconst 0, 1) := by decide +kernel
theorem dX9_scoreOf_51 : decode cX9_scoreOf 51 = .ok (.invokestatic 181, 3) := by decide +kernel
theorem dX9_scoreOf_54 : decode cX9_scoreOf 54 = .ok (.goto 5, 3) := by decide +kernel
theorem dX9_scoreOf_57 : decode cX9_scoreOf 57 = .ok (.iload 4, 2) := by decide +kernel
theorem dX9_scoreOf_59 : decode cX9_scoreOf 59 = .ok (.istore 4, 2) := by decide +kernel
theorem dX9_scoreOf_61 : decode cX9_scoreOf 61 = .ok (.iload 4, 2) := by decide +kernel
theorem dX9_scoreOf_63 : decode cX9_scoreOf 63 = .ok (.aload_n 0, 1) := by decide +kernel
theorem dX9_scoreOf_64 : decode cX9_scoreOf 64 = .ok (.getfield 31, 3) := by decide +kernel
theorem dX9_scoreOf_67 : decode cX9_scoreOf 67 = .ok (.iconst 3, 1) := by decide +kernel
theorem dX9_scoreOf_68 : decode cX9_scoreOf 68 = .ok (.iload_n 2, 1) := by decide +kernel
theorem dX9_scoreOf_69 : decode cX9_scoreOf 69 = .ok (.imul, 1) := by decide +kernel
theorem dX9_scoreOf_70 : decode cX9_scoreOf 70 = .ok (.iaload, 1) := by decide +kernel
theorem dX9_scoreOf_71 : decode cX9_scoreOf 71 = .ok (.iload_n 3, 1) := by decide +kernel
theorem dX9_scoreOf_72 : decode cX9_scoreOf 72 = .ok (.if_icmp .ne 16, 3) := by decide +kernel
theorem dX9_scoreOf_75 : decode cX9_scoreOf 75 = .ok (.aload_n 0, 1) := by decide +kernel
theorem dX9_scoreOf_76 : decode cX9_scoreOf 76 = .ok (.getfield 31, 3) := by decide +kernel
theorem dX9_scoreOf_79 : decode cX9_scoreOf 79 = .ok (.iconst 3, 1) := by decide +kernel
theorem dX9_scoreOf_80 : decode cX9_scoreOf 80 = .ok (.iload_n 2, 1) := by decide +kernel
theorem dX9_scoreOf_81 : decode cX9_scoreOf 81 = .ok (.imul, 1) := by decide +kernel
theorem dX9_scoreOf_82 : decode cX9_scoreOf 82 = .ok (.iconst 1, 1) := by decide +kernel
theorem dX9_scoreOf_83 : decode cX9_scoreOf 83 = .ok (.iadd, 1) := by decide +kernel
theorem dX9_scoreOf_84 : decode cX9_scoreOf 84 = .ok (.iaload, 1) := by decide +kernel
theorem dX9_scoreOf_85 : decode cX9_scoreOf 85 = .ok (.goto 4, 3) := by decide +kernel
theorem dX9_scoreOf_88 : decode cX9_scoreOf 88 = .ok (.iconst 0, 1) := by decide +kernel
theorem dX9_scoreOf_89 : decode cX9_scoreOf 89 = .ok (.iadd, 1) := by decide +kernel
theorem dX9_scoreOf_90 : decode cX9_scoreOf 90 = .ok (.istore 4, 2) := by decide +kernel
theorem dX9_scoreOf_92 : decode cX9_scoreOf 92 = .ok (.iload 4, 2) := by decide +kernel
theorem dX9_scoreOf_94 : decode cX9_scoreOf 94 = .ok (.aload_n 0, 1) := by decide +kernel
theorem dX9_scoreOf_95 : decode cX9_scoreOf 95 = .ok (.getfield 28, 3) := by decide +kernel
theorem dX9_scoreOf_98 : decode cX9_scoreOf 98 = .ok (.iconst 3, 1) := by decide +kernel
theorem dX9_scoreOf_99 : decode cX9_scoreOf 99 = .ok (.iload_n 1, 1) := by decide +kernel
theorem dX9_scoreOf_100 : decode cX9_scoreOf 100 = .ok (.imul, 1) := by decide +kernel
theorem dX9_scoreOf_101 : decode cX9_scoreOf 101 = .ok (.iconst 2, 1) := by decide +kernel
theorem dX9_scoreOf_102 : decode cX9_scoreOf 102 = .ok (.iadd, 1) := by decide +kernel
theorem dX9_scoreOf_103 : decode cX9_scoreOf 103 = .ok (.iaload, 1) := by decide +kernel
theorem dX9_scoreOf_104 : decode cX9_scoreOf 104 = .ok (.aload_n 0, 1) := by decide +kernel
theorem dX9_scoreOf_105 : decode cX9_scoreOf 105 = .ok (.getfield 31, 3) := by decide +kernel
theorem dX9_scoreOf_108 : decode cX9_scoreOf 108 = .ok (.iconst 3, 1) := by decide +kernel
theorem dX9_scoreOf_109 : decode cX9_scoreOf 109 = .ok (.iload_n 2, 1) := by decide +kernel
theorem dX9_scoreOf_110 : decode cX9_scoreOf 110 = .ok (.imul, 1) := by decide +kernel
theorem dX9_scoreOf_111 : decode cX9_scoreOf 111 = .ok (.iconst 2, 1) := by decide +kernel
theorem dX9_scoreOf_112 : decode cX9_scoreOf 112 = .ok (.iadd, 1) := by decide +kernel
theorem dX9_scoreOf_113 : decode cX9_scoreOf 113 = .ok (.iaload, 1) := by decide +kernel
theorem dX9_scoreOf_114 : decode cX9_scoreOf 114 = .ok (.if_icmp .ne 7, 3) := by decide +kernel
theorem dX9_scoreOf_117 : decode cX9_scoreOf 117 = .ok (.iconst 3, 1) := by decide +kernel
theorem dX9_scoreOf_118 : decode cX9_scoreOf 118 = .ok (.goto 4, 3) := by decide +kernel
theorem dX9_scoreOf_121 : decode cX9_scoreOf 121 = .ok (.iconst 0, 1) := by decide +kernel
theorem dX9_scoreOf_122 : decode cX9_scoreOf 122 = .ok (.iadd, 1) := by decide +kernel
theorem dX9_scoreOf_123 : decode cX9_scoreOf 123 = .ok (.ireturn, 1) := by decide +kernel
theorem dX9_scores_0 : decode cX9_scores 0 = .ok (.aload_n 0, 1) := by decide +kernel
theorem dX9_scores_1 : decode cX9_scores 1 = .ok (.getfield 34, 3) := by decide +kernel
theorem dX9_scores_4 : decode cX9_scores 4 = .ok (.iload_n 1, 1) := by decide +kernel
theorem dX9_scores_5 : decode cX9_scores 5 = .ok (.iaload, 1) := by decide +kernel
theorem dX9_scores_6 : decode cX9_scores 6 = .ok (.istore_n 2, 1) := by decide +kernel
theorem dX9_scores_7 : decode cX9_scores 7 = .ok (.iconst 0, 1) := by decide +kernel
theorem dX9_scores_8 : decode cX9_scores 8 = .ok (.istore_n 3, 1) := by decide +kernel
theorem dX9_scores_9 : decode cX9_scores 9 = .ok (.iload_n 3, 1) := by decide +kernel
theorem dX9_scores_10 : decode cX9_scores 10 = .ok (.bipush 10, 2) := by decide +kernel
theorem dX9_scores_12 : decode cX9_scores 12 = .ok (.if_icmp .ge 79, 3) := by decide +kernel
theorem dX9_scores_15 : decode cX9_scores 15 = .ok (.aload_n 0, 1) := by decide +kernel
theorem dX9_scores_16 : decode cX9_scores 16 = .ok (.iload_n 2, 1) := by decide +kernel
theorem dX9_scores_17 : decode cX9_scores 17 = .ok (.invokevirtual 161, 3) := by decide +kernel
theorem dX9_scores_20 : decode cX9_scores 20 = .ok (.ifCond .eq 41, 3) := by decide +kernel
theorem dX9_scores_23 : decode cX9_scores 23 = .ok (.aload_n 0, 1) := by decide +kernel
theorem dX9_scores_24 : decode cX9_scores 24 = .ok (.iload_n 3, 1) := by decide +kernel
theorem dX9_scores_25 : decode cX9_scores 25 = .ok (.invokevirtual 158, 3) := by decide +kernel
theorem dX9_scores_28 : decode cX9_scores 28 = .ok (.ifCond .eq 33, 3) := by decide +kernel
theorem dX9_scores_31 : decode cX9_scores 31 = .ok (.aload_n 0, 1) := by decide +kernel
theorem dX9_scores_32 : decode cX9_scores 32 = .ok (.getfield 56, 3) := by decide +kernel
theorem dX9_scores_35 : decode cX9_scores 35 = .ok (.iload_n 3, 1) := by decide +kernel
theorem dX9_scores_36 : decode cX9_scores 36 = .ok (.baload, 1) := by decide +kernel
theorem dX9_scores_37 : decode cX9_scores 37 = .ok (.ifCond .ne 24, 3) := by decide +kernel
theorem dX9_scores_40 : decode cX9_scores 40 = .ok (.aload_n 0, 1) := by decide +kernel
theorem dX9_scores_41 : decode cX9_scores 41 = .ok (.getfield 49, 3) := by decide +kernel
theorem dX9_scores_44 : decode cX9_scores 44 = .ok (.iload_n 3, 1) := by decide +kernel
theorem dX9_scores_45 : decode cX9_scores 45 = .ok (.baload, 1) := by decide +kernel
theorem dX9_scores_46 : decode cX9_scores 46 = .ok (.ifCond .ne 15, 3) := by decide +kernel
theorem dX9_scores_49 : decode cX9_scores 49 = .ok (.aload_n 0, 1) := by decide +kernel
theorem dX9_scores_50 : decode cX9_scores 50 = .ok (.getfield 87, 3) := by decide +kernel
theorem dX9_scores_53 : decode cX9_scores 53 = .ok (.iload_n 3, 1) := by decide +kernel
theorem dX9_scores_54 : decode cX9_scores 54 = .ok (.if_icmp .eq 7, 3) := by decide +kernel
theorem dX9_scores_57 : decode cX9_scores 57 = .ok (.iconst 1, 1) := by decide +kernel
theorem dX9_scores_58 : decode cX9_scores 58 = .ok (.goto 4, 3) := by decide +kernel
theorem dX9_scores_61 : decode cX9_scores 61 = .ok (.iconst 0, 1) := by decide +kernel
theorem dX9_scores_62 : decode cX9_scores 62 = .ok (.istore 4, 2) := by decide +kernel
theorem dX9_scores_64 : decode cX9_scores 64 = .ok (.aload_n 0, 1) := by decide +kernel
theorem dX9_scores_65 : decode cX9_scores 65 = .ok (.getfield 53, 3) := by decide +kernel
theorem dX9_scores_68 : decode cX9_scores 68 = .ok (.iload_n 3, 1) := by decide +kernel
theorem dX9_scores_69 : decode cX9_scores 69 = .ok (.iload 4, 2) := by decide +kernel
theorem dX9_scores_71 : decode cX9_scores 71 = .ok (.ifCond .eq 12, 3) := by decide +kernel
theorem dX9_scores_74 : decode cX9_scores 74 = .ok (.aload_n 0, 1) := by decide +kernel
theorem dX9_scores_75 : decode cX9_scores 75 = .ok (.iload_n 3, 1) := by decide +kernel
theorem dX9_scores_76 : decode cX9_scores 76 = .ok (.iload_n 2, 1) := by decide +kernel
theorem dX9_scores_77 : decode cX9_scores 77 = .ok (.invokevirtual 184, 3) := by decide +kernel
theorem dX9_scores_80 : decode cX9_scores 80 = .ok (.goto 4, 3) := by decide +kernel
theorem dX9_scores_83 : decode cX9_scores 83 = .ok (.iconst (-1), 1) := by decide +kernel
theorem dX9_scores_84 : decode cX9_scores 84 = .ok (.iastore, 1) := by decide +kernel
theorem dX9_scores_85 : decode cX9_scores 85 = .ok (.iinc 3 1, 3) := by decide +kernel
theorem dX9_scores_88 : decode cX9_scores 88 = .ok (.goto (-79), 3) := by decide +kernel
theorem dX9_scores_91 : decode cX9_scores 91 = .ok (.return_, 1) := by decide +kernel
theorem dX9_bestBut_0 : decode cX9_bestBut 0 = .ok (.iconst (-1), 1) := by decide +kernel
theorem dX9_bestBut_1 : decode cX9_bestBut 1 = .ok (.istore_n 2, 1) := by decide +kernel
theorem dX9_bestBut_2 : decode cX9_bestBut 2 = .ok (.iconst 0, 1) := by decide +kernel
theorem dX9_bestBut_3 : decode cX9_bestBut 3 = .ok (.istore_n 3, 1) := by decide +kernel
theorem dX9_bestBut_4 : decode cX9_bestBut 4 = .ok (.iload_n 3, 1) := by decide +kernel
theorem dX9_bestBut_5 : decode cX9_bestBut 5 = .ok (.aload_n 0, 1) := by decide +kernel
theorem dX9_bestBut_6 : decode cX9_bestBut 6 = .ok (.getfield 128, 3) := by decide +kernel
theorem dX9_bestBut_9 : decode cX9_bestBut 9 = .ok (.if_icmp .ge 65, 3) := by decide +kernel
theorem dX9_bestBut_12 : decode cX9_bestBut 12 = .ok (.aload_n 0, 1) := by decide +kernel
theorem dX9_bestBut_13 : decode cX9_bestBut 13 = .ok (.getfield 53, 3) := by decide +kernel
theorem dX9_bestBut_16 : decode cX9_bestBut 16 = .ok (.iload_n 3, 1) := by decide +kernel
theorem dX9_bestBut_17 : decode cX9_bestBut 17 = .ok (.iaload, 1) := by decide +kernel
theorem dX9_bestBut_18 : decode cX9_bestBut 18 = .ok (.iconst (-1), 1) := by decide +kernel
theorem dX9_bestBut_19 : decode cX9_bestBut 19 = .ok (.if_icmp .eq 15, 3) := by decide +kernel
theorem dX9_bestBut_22 : decode cX9_bestBut 22 = .ok (.iload_n 1, 1) := by decide +kernel
theorem dX9_bestBut_23 : decode cX9_bestBut 23 = .ok (.iload_n 3, 1) := by decide +kernel
theorem dX9_bestBut_24 : decode cX9_bestBut 24 = .ok (.invokestatic 187, 3) := by decide +kernel
theorem dX9_bestBut_27 : decode cX9_bestBut 27 = .ok (.ifCond .ne 7, 3) := by decide +kernel
theorem dX9_bestBut_30 : decode cX9_bestBut 30 = .ok (.iconst 1, 1) := by decide +kernel
theorem dX9_bestBut_31 : decode cX9_bestBut 31 = .ok (.goto 4, 3) := by decide +kernel
theorem dX9_bestBut_34 : decode cX9_bestBut 34 = .ok (.iconst 0, 1) := by decide +kernel
theorem dX9_bestBut_35 : decode cX9_bestBut 35 = .ok (.istore 4, 2) := by decide +kernel
theorem dX9_bestBut_37 : decode cX9_bestBut 37 = .ok (.iload 4, 2) := by decide +kernel
theorem dX9_bestBut_39 : decode cX9_bestBut 39 = .ok (.ifCond .eq 27, 3) := by decide +kernel
theorem dX9_bestBut_42 : decode cX9_bestBut 42 = .ok (.iload_n 2, 1) := by decide +kernel
theorem dX9_bestBut_43 : decode cX9_bestBut 43 = .ok (.iconst (-1), 1) := by decide +kernel
theorem dX9_bestBut_44 : decode cX9_bestBut 44 = .ok (.if_icmp .eq 18, 3) := by decide +kernel
theorem dX9_bestBut_47 : decode cX9_bestBut 47 = .ok (.aload_n 0, 1) := by decide +kernel
theorem dX9_bestBut_48 : decode cX9_bestBut 48 = .ok (.getfield 53, 3) := by decide +kernel
theorem dX9_bestBut_51 : decode cX9_bestBut 51 = .ok (.iload_n 3, 1) := by decide +kernel
theorem dX9_bestBut_52 : decode cX9_bestBut 52 = .ok (.iaload, 1) := by decide +kernel
theorem dX9_bestBut_53 : decode cX9_bestBut 53 = .ok (.aload_n 0, 1) := by decide +kernel
theorem dX9_bestBut_54 : decode cX9_bestBut 54 = .ok (.getfield 53, 3) := by decide +kernel
theorem dX9_bestBut_57 : decode cX9_bestBut 57 = .ok (.iload_n 2, 1) := by decide +kernel
theorem dX9_bestBut_58 : decode cX9_bestBut 58 = .ok (.iaload, 1) := by decide +kernel
theorem dX9_bestBut_59 : decode cX9_bestBut 59 = .ok (.if_icmp .le 7, 3) := by decide +kernel
theorem dX9_bestBut_62 : decode cX9_bestBut 62 = .ok (.iload_n 3, 1) := by decide +kernel
theorem dX9_bestBut_63 : decode cX9_bestBut 63 = .ok (.goto 4, 3) := by decide +kernel
theorem dX9_bestBut_66 : decode cX9_bestBut 66 = .ok (.iload_n 2, 1) := by decide +kernel
theorem dX9_bestBut_67 : decode cX9_bestBut 67 = .ok (.istore_n 2, 1) := by decide +kernel
theorem dX9_bestBut_68 : decode cX9_bestBut 68 = .ok (.iinc 3 1, 3) := by decide +kernel
theorem dX9_bestBut_71 : decode cX9_bestBut 71 = .ok (.goto (-67), 3) := by decide +kernel
theorem dX9_bestBut_74 : decode cX9_bestBut 74 = .ok (.iload_n 2, 1) := by decide +kernel
theorem dX9_bestBut_75 : decode cX9_bestBut 75 = .ok (.ireturn, 1) := by decide +kernel
theorem dX9_places_0 : decode cX9_places 0 = .ok (.iconst 0, 1) := by decide +kernel
theorem dX9_places_1 : decode cX9_places 1 = .ok (.istore_n 2, 1) := by decide +kernel
theorem dX9_places_2 : decode cX9_places 2 = .ok (.iconst 0, 1) := by decide +kernel
theorem dX9_places_3 : decode cX9_places 3 = .ok (.istore_n 3, 1) := by decide +kernel
theorem dX9_places_4 : decode cX9_places 4 = .ok (.iload_n 3, 1) := by decide +kernel
theorem dX9_places_5 : decode cX9_places 5 = .ok (.iconst 3, 1) := by decide +kernel
theorem dX9_places_6 : decode cX9_places 6 = .ok (.if_icmp .ge 54, 3) := by decide +kernel
theorem dX9_places_9 : decode cX9_places 9 = .ok (.aload_n 0, 1) := by decide +kernel
theorem dX9_places_10 : decode cX9_places 10 = .ok (.iload_n 2, 1) := by decide +kernel
theorem dX9_places_11 : decode cX9_places 11 = .ok (.invokevirtual 191, 3) := by decide +kernel
theorem dX9_places_14 : decode cX9_places 14 = .ok (.istore 4, 2) := by decide +kernel
theorem dX9_places_16 : decode cX9_places 16 = .ok (.aload_n 0, 1) := by decide +kernel
theorem dX9_places_17 : decode cX9_places 17 = .ok (.getfield 74, 3) := by decide +kernel
theorem dX9_places_20 : decode cX9_places 20 = .ok (.iconst 3, 1) := by decide +kernel
theorem dX9_places_21 : decode cX9_places 21 = .ok (.iload_n 1, 1) := by decide +kernel
theorem dX9_places_22 : decode cX9_places 22 = .ok (.imul, 1) := by decide +kernel
theorem dX9_places_23 : decode cX9_places 23 = .ok (.iload_n 3, 1) := by decide +kernel
theorem dX9_places_24 : decode cX9_places 24 = .ok (.iadd, 1) := by decide +kernel
theorem dX9_places_25 : decode cX9_places 25 = .ok (.iload 4, 2) := by decide +kernel
theorem dX9_places_27 : decode cX9_places 27 = .ok (.iastore, 1) := by decide +kernel
theorem dX9_places_28 : decode cX9_places 28 = .ok (.iload 4, 2) := by decide +kernel
theorem dX9_places_30 : decode cX9_places 30 = .ok (.iconst (-1), 1) := by decide +kernel
theorem dX9_places_31 : decode cX9_places 31 = .ok (.if_icmp .eq 23, 3) := by decide +kernel
theorem dX9_places_34 : decode cX9_places 34 = .ok (.iload_n 2, 1) := by decide +kernel
theorem dX9_places_35 : decode cX9_places 35 = .ok (.iconst 1, 1) := by decide +kernel
theorem dX9_places_36 : decode cX9_places 36 = .ok (.iload 4, 2) := by decide +kernel
theorem dX9_places_38 : decode cX9_places 38 = .ok (.ishl, 1) := by decide +kernel
theorem dX9_places_39 : decode cX9_places 39 = .ok (.ior, 1) := by decide +kernel
theorem dX9_places_40 : decode cX9_places 40 = .ok (.istore_n 2, 1) := by decide +kernel
theorem dX9_places_41 : decode cX9_places 41 = .ok (.aload_n 0, 1) := by decide +kernel
theorem dX9_places_42 : decode cX9_places 42 = .ok (.getfield 43, 3) := by decide +kernel
theorem dX9_places_45 : decode cX9_places 45 = .ok (.iload 4, 2) := by decide +kernel
theorem dX9_places_47 : decode cX9_places 47 = .ok (.dup2, 1) := by decide +kernel
theorem dX9_places_48 : decode cX9_places 48 = .ok (.iaload, 1) := by decide +kernel
theorem dX9_places_49 : decode cX9_places 49 = .ok (.iconst 3, 1) := by decide +kernel
theorem dX9_places_50 : decode cX9_places 50 = .ok (.iload_n 3, 1) := by decide +kernel
theorem dX9_places_51 : decode cX9_places 51 = .ok (.isub, 1) := by decide +kernel
theorem dX9_places_52 : decode cX9_places 52 = .ok (.iadd, 1) := by decide +kernel
theorem dX9_places_53 : decode cX9_places 53 = .ok (.iastore, 1) := by decide +kernel
theorem dX9_places_54 : decode cX9_places 54 = .ok (.iinc 3 1, 3) := by decide +kernel
theorem dX9_places_57 : decode cX9_places 57 = .ok (.goto (-53), 3) := by decide +kernel
theorem dX9_places_60 : decode cX9_places 60 = .ok (.aload_n 0, 1) := by decide +kernel
theorem dX9_places_61 : decode cX9_places 61 = .ok (.dup, 1) := by decide +kernel
theorem dX9_places_62 : decode cX9_places 62 = .ok (.getfield 194, 3) := by decide +kernel
theorem dX9_places_65 : decode cX9_places 65 = .ok (.iload_n 2, 1) := by decide +kernel
theorem dX9_places_66 : decode cX9_places 66 = .ok (.ior, 1) := by decide +kernel
theorem dX9_places_67 : decode cX9_places 67 = .ok (.putfield 194, 3) := by decide +kernel
theorem dX9_places_70 : decode cX9_places 70 = .ok (.aload_n 0, 1) := by decide +kernel
theorem dX9_places_71 : decode cX9_places 71 = .ok (.getfield 74, 3) := by decide +kernel
theorem dX9_places_74 : decode cX9_places 74 = .ok (.iconst 3, 1) := by decide +kernel
theorem dX9_places_75 : decode cX9_places 75 = .ok (.iload_n 1, 1) := by decide +kernel
theorem dX9_places_76 : decode cX9_places 76 = .ok (.imul, 1) := by decide +kernel
theorem dX9_places_77 : decode cX9_places 77 = .ok (.iaload, 1) := by decide +kernel
theorem dX9_places_78 : decode cX9_places 78 = .ok (.istore_n 3, 1) := by decide +kernel
theorem dX9_places_79 : decode cX9_places 79 = .ok (.iload_n 3, 1) := by decide +kernel
theorem dX9_places_80 : decode cX9_places 80 = .ok (.iconst (-1), 1) := by decide +kernel
theorem dX9_places_81 : decode cX9_places 81 = .ok (.if_icmp .eq 46, 3) := by decide +kernel
theorem dX9_places_84 : decode cX9_places 84 = .ok (.aload_n 0, 1) := by decide +kernel
theorem dX9_places_85 : decode cX9_places 85 = .ok (.getfield 46, 3) := by decide +kernel
theorem dX9_places_88 : decode cX9_places 88 = .ok (.iload_n 3, 1) := by decide +kernel
theorem dX9_places_89 : decode cX9_places 89 = .ok (.dup2, 1) := by decide +kernel
theorem dX9_places_90 : decode cX9_places 90 = .ok (.iaload, 1) := by decide +kernel
theorem dX9_places_91 : decode cX9_places 91 = .ok (.iconst 1, 1) := by decide +kernel
theorem dX9_places_92 : decode cX9_places 92 = .ok (.iadd, 1) := by decide +kernel
theorem dX9_places_93 : decode cX9_places 93 = .ok (.iastore, 1) := by decide +kernel
theorem dX9_places_94 : decode cX9_places 94 = .ok (.aload_n 0, 1) := by decide +kernel
theorem dX9_places_95 : decode cX9_places 95 = .ok (.getfield 49, 3) := by decide +kernel
theorem dX9_places_98 : decode cX9_places 98 = .ok (.iload_n 3, 1) := by decide +kernel
theorem dX9_places_99 : decode cX9_places 99 = .ok (.aload_n 0, 1) := by decide +kernel
theorem dX9_places_100 : decode cX9_places 100 = .ok (.getfield 28, 3) := by decide +kernel
theorem dX9_places_103 : decode cX9_places 103 = .ok (.iconst 3, 1) := by decide +kernel
theorem dX9_places_104 : decode cX9_places 104 = .ok (.iload_n 3, 1) := by decide +kernel
theorem dX9_places_105 : decode cX9_places 105 = .ok (.imul, 1) := by decide +kernel
theorem dX9_places_106 : decode cX9_places 106 = .ok (.iaload, 1) := by decide +kernel
theorem dX9_places_107 : decode cX9_places 107 = .ok (.iconst 2, 1) := by decide +kernel
theorem dX9_places_108 : decode cX9_places 108 = .ok (.if_icmp .ne 17, 3) := by decide +kernel
theorem dX9_places_111 : decode cX9_places 111 = .ok (.aload_n 0, 1) := by decide +kernel
theorem dX9_places_112 : decode cX9_places 112 = .ok (.getfield 46, 3) := by decide +kernel
theorem dX9_places_115 : decode cX9_places 115 = .ok (.iload_n 3, 1) := by decide +kernel
theorem dX9_places_116 : decode cX9_places 116 = .ok (.iaload, 1) := by decide +kernel
theorem dX9_places_117 : decode cX9_places 117 = .ok (.iconst 3, 1) := by decide +kernel
theorem dX9_places_118 : decode cX9_places 118 = .ok (.if_icmp .ne 7, 3) := by decide +kernel
theorem dX9_places_121 : decode cX9_places 121 = .ok (.iconst 1, 1) := by decide +kernel
theorem dX9_places_122 : decode cX9_places 122 = .ok (.goto 4, 3) := by decide +kernel
theorem dX9_places_125 : decode cX9_places 125 = .ok (.iconst 0, 1) := by decide +kernel
theorem dX9_places_126 : decode cX9_places 126 = .ok (.bastore, 1) := by decide +kernel
theorem dX9_places_127 : decode cX9_places 127 = .ok (.aload_n 0, 1) := by decide +kernel
theorem dX9_places_128 : decode cX9_places 128 = .ok (.getfield 74, 3) := by decide +kernel
theorem dX9_places_131 : decode cX9_places 131 = .ok (.iconst 3, 1) := by decide +kernel
theorem dX9_places_132 : decode cX9_places 132 = .ok (.iload_n 1, 1) := by decide +kernel
theorem dX9_places_133 : decode cX9_places 133 = .ok (.imul, 1) := by decide +kernel
theorem dX9_places_134 : decode cX9_places 134 = .ok (.iconst 1, 1) := by decide +kernel
theorem dX9_places_135 : decode cX9_places 135 = .ok (.iadd, 1) := by decide +kernel
theorem dX9_places_136 : decode cX9_places 136 = .ok (.iaload, 1) := by decide +kernel
theorem dX9_places_137 : decode cX9_places 137 = .ok (.istore 4, 2) := by decide +kernel
theorem dX9_places_139 : decode cX9_places 139 = .ok (.iload 4, 2) := by decide +kernel
theorem dX9_places_141 : decode cX9_places 141 = .ok (.iconst (-1), 1) := by decide +kernel
theorem dX9_places_142 : decode cX9_places 142 = .ok (.if_icmp .eq 36, 3) := by decide +kernel
theorem dX9_places_145 : decode cX9_places 145 = .ok (.aload_n 0, 1) := by decide +kernel
theorem dX9_places_146 : decode cX9_places 146 = .ok (.getfield 28, 3) := by decide +kernel
theorem dX9_places_149 : decode cX9_places 149 = .ok (.iconst 3, 1) := by decide +kernel
theorem dX9_places_150 : decode cX9_places 150 = .ok (.iload 4, 2) := by decide +kernel
theorem dX9_places_152 : decode cX9_places 152 = .ok (.imul, 1) := by decide +kernel
theorem dX9_places_153 : decode cX9_places 153 = .ok (.iaload, 1) := by decide +kernel
theorem dX9_places_154 : decode cX9_places 154 = .ok (.iconst 1, 1) := by decide +kernel
theorem dX9_places_155 : decode cX9_places 155 = .ok (.if_icmp .ne 23, 3) := by decide +kernel
theorem dX9_places_158 : decode cX9_places 158 = .ok (.aload_n 0, 1) := by decide +kernel
theorem dX9_places_159 : decode cX9_places 159 = .ok (.getfield 40, 3) := by decide +kernel
theorem dX9_places_162 : decode cX9_places 162 = .ok (.iload 4, 2) := by decide +kernel
theorem dX9_places_164 : decode cX9_places 164 = .ok (.aload_n 0, 1) := by decide +kernel
theorem dX9_places_165 : decode cX9_places 165 = .ok (.getfield 40, 3) := by decide +kernel
theorem dX9_places_168 : decode cX9_places 168 = .ok (.iload 4, 2) := by decide +kernel
theorem dX9_places_170 : decode cX9_places 170 = .ok (.iaload, 1) := by decide +kernel
theorem dX9_places_171 : decode cX9_places 171 = .ok (.iconst 1, 1) := by decide +kernel
theorem dX9_places_172 : decode cX9_places 172 = .ok (.isub, 1) := by decide +kernel
theorem dX9_places_173 : decode cX9_places 173 = .ok (.iconst 0, 1) := by decide +kernel
theorem dX9_places_174 : decode cX9_places 174 = .ok (.invokestatic 181, 3) := by decide +kernel
theorem dX9_places_177 : decode cX9_places 177 = .ok (.iastore, 1) := by decide +kernel
theorem dX9_places_178 : decode cX9_places 178 = .ok (.return_, 1) := by decide +kernel
theorem dX9_passes_0 : decode cX9_passes 0 = .ok (.aload_n 0, 1) := by decide +kernel
theorem dX9_passes_1 : decode cX9_passes 1 = .ok (.iconst 0, 1) := by decide +kernel
theorem dX9_passes_2 : decode cX9_passes 2 = .ok (.putfield 177, 3) := by decide +kernel
theorem dX9_passes_5 : decode cX9_passes 5 = .ok (.iconst 0, 1) := by decide +kernel
theorem dX9_passes_6 : decode cX9_passes 6 = .ok (.istore_n 2, 1) := by decide +kernel
theorem dX9_passes_7 : decode cX9_passes 7 = .ok (.iload_n 2, 1) := by decide +kernel
theorem dX9_passes_8 : decode cX9_passes 8 = .ok (.bipush 10, 2) := by decide +kernel
theorem dX9_passes_10 : decode cX9_passes 10 = .ok (.if_icmp .ge 16, 3) := by decide +kernel
theorem dX9_passes_13 : decode cX9_passes 13 = .ok (.aload_n 0, 1) := by decide +kernel
theorem dX9_passes_14 : decode cX9_passes 14 = .ok (.getfield 56, 3) := by decide +kernel
theorem dX9_passes_17 : decode cX9_passes 17 = .ok (.iload_n 2, 1) := by decide +kernel
theorem dX9_passes_18 : decode cX9_passes 18 = .ok (.iconst 0, 1) := by decide +kernel
theorem dX9_passes_19 : decode cX9_passes 19 = .ok (.bastore, 1) := by decide +kernel
theorem dX9_passes_20 : decode cX9_passes 20 = .ok (.iinc 2 1, 3) := by decide +kernel
theorem dX9_passes_23 : decode cX9_passes 23 = .ok (.goto (-16), 3) := by decide +kernel
theorem dX9_passes_26 : decode cX9_passes 26 = .ok (.iconst 0, 1) := by decide +kernel
theorem dX9_passes_27 : decode cX9_passes 27 = .ok (.istore_n 2, 1) := by decide +kernel
theorem dX9_passes_28 : decode cX9_passes 28 = .ok (.iload_n 2, 1) := by decide +kernel
theorem dX9_passes_29 : decode cX9_passes 29 = .ok (.aload_n 0, 1) := by decide +kernel
theorem dX9_passes_30 : decode cX9_passes 30 = .ok (.getfield 169, 3) := by decide +kernel
theorem dX9_passes_33 : decode cX9_passes 33 = .ok (.if_icmp .ge 56, 3) := by decide +kernel
theorem dX9_passes_36 : decode cX9_passes 36 = .ok (.aload_n 0, 1) := by decide +kernel
theorem dX9_passes_37 : decode cX9_passes 37 = .ok (.getfield 37, 3) := by decide +kernel
theorem dX9_passes_40 : decode cX9_passes 40 = .ok (.iconst 3, 1) := by decide +kernel
theorem dX9_passes_41 : decode cX9_passes 41 = .ok (.iload_n 2, 1) := by decide +kernel
theorem dX9_passes_42 : decode cX9_passes 42 = .ok (.imul, 1) := by decide +kernel
theorem dX9_passes_43 : decode cX9_passes 43 = .ok (.iconst 1, 1) := by decide +kernel
theorem dX9_passes_44 : decode cX9_passes 44 = .ok (.iadd, 1) := by decide +kernel
theorem dX9_passes_45 : decode cX9_passes 45 = .ok (.iaload, 1) := by decide +kernel
theorem dX9_passes_46 : decode cX9_passes 46 = .ok (.iload_n 1, 1) := by decide +kernel
theorem dX9_passes_47 : decode cX9_passes 47 = .ok (.if_icmp .ne 36, 3) := by decide +kernel
theorem dX9_passes_50 : decode cX9_passes 50 = .ok (.aload_n 0, 1) := by decide +kernel
theorem dX9_passes_51 : decode cX9_passes 51 = .ok (.getfield 197, 3) := by decide +kernel
theorem dX9_passes_54 : decode cX9_passes 54 = .ok (.iload_n 2, 1) := by decide +kernel
theorem dX9_passes_55 : decode cX9_passes 55 = .ok (.invokestatic 187, 3) := by decide +kernel
theorem dX9_passes_58 : decode cX9_passes 58 = .ok (.ifCond .ne 25, 3) := by decide +kernel
theorem dX9_passes_61 : decode cX9_passes 61 = .ok (.aload_n 0, 1) := by decide +kernel
theorem dX9_passes_62 : decode cX9_passes 62 = .ok (.aload_n 0, 1) := by decide +kernel
theorem dX9_passes_63 : decode cX9_passes 63 = .ok (.getfield 37, 3) := by decide +kernel
theorem dX9_passes_66 : decode cX9_passes 66 = .ok (.iconst 3, 1) := by decide +kernel
theorem dX9_passes_67 : decode cX9_passes 67 = .ok (.iload_n 2, 1) := by decide +kernel
theorem dX9_passes_68 : decode cX9_passes 68 = .ok (.imul, 1) := by decide +kernel
theorem dX9_passes_69 : decode cX9_passes 69 = .ok (.iaload, 1) := by decide +kernel
theorem dX9_passes_70 : decode cX9_passes 70 = .ok (.aload_n 0, 1) := by decide +kernel
theorem dX9_passes_71 : decode cX9_passes 71 = .ok (.getfield 37, 3) := by decide +kernel
theorem dX9_passes_74 : decode cX9_passes 74 = .ok (.iconst 3, 1) := by decide +kernel
theorem dX9_passes_75 : decode cX9_passes 75 = .ok (.iload_n 2, 1) := by decide +kernel
theorem dX9_passes_76 : decode cX9_passes 76 = .ok (.imul, 1) := by decide +kernel
theorem dX9_passes_77 : decode cX9_passes 77 = .ok (.iconst 2, 1) := by decide +kernel
theorem dX9_passes_78 : decode cX9_passes 78 = .ok (.iadd, 1) := by decide +kernel
theorem dX9_passes_79 : decode cX9_passes 79 = .ok (.iaload, 1) := by decide +kernel
theorem dX9_passes_80 : decode cX9_passes 80 = .ok (.invokevirtual 200, 3) := by decide +kernel
theorem dX9_passes_83 : decode cX9_passes 83 = .ok (.iinc 2 1, 3) := by decide +kernel
theorem dX9_passes_86 : decode cX9_passes 86 = .ok (.goto (-58), 3) := by decide +kernel
theorem dX9_passes_89 : decode cX9_passes 89 = .ok (.aload_n 0, 1) := by decide +kernel
theorem dX9_passes_90 : decode cX9_passes 90 = .ok (.getfield 83, 3) := by decide +kernel
theorem dX9_passes_93 : decode cX9_passes 93 = .ok (.iload_n 1, 1) := by decide +kernel
theorem dX9_passes_94 : decode cX9_passes 94 = .ok (.if_icmp .ne 12, 3) := by decide +kernel
theorem dX9_passes_97 : decode cX9_passes 97 = .ok (.aload_n 0, 1) := by decide +kernel
theorem dX9_passes_98 : decode cX9_passes 98 = .ok (.iconst 0, 1) := by decide +kernel
theorem dX9_passes_99 : decode cX9_passes 99 = .ok (.aload_n 0, 1) := by decide +kernel
theorem dX9_passes_100 : decode cX9_passes 100 = .ok (.getfield 204, 3) := by decide +kernel
theorem dX9_passes_103 : decode cX9_passes 103 = .ok (.invokevirtual 200, 3) := by decide +kernel
theorem dX9_passes_106 : decode cX9_passes 106 = .ok (.aload_n 0, 1) := by decide +kernel
theorem dX9_passes_107 : decode cX9_passes 107 = .ok (.iload_n 1, 1) := by decide +kernel
theorem dX9_passes_108 : decode cX9_passes 108 = .ok (.invokevirtual 207, 3) := by decide +kernel
theorem dX9_passes_111 : decode cX9_passes 111 = .ok (.aload_n 0, 1) := by decide +kernel
theorem dX9_passes_112 : decode cX9_passes 112 = .ok (.iload_n 1, 1) := by decide +kernel
theorem dX9_passes_113 : decode cX9_passes 113 = .ok (.invokevirtual 211, 3) := by decide +kernel
theorem dX9_passes_116 : decode cX9_passes 116 = .ok (.iconst 0, 1) := by decide +kernel
theorem dX9_passes_117 : decode cX9_passes 117 = .ok (.istore_n 2, 1) := by decide +kernel
theorem dX9_passes_118 : decode cX9_passes 118 = .ok (.iload_n 2, 1) := by decide +kernel
theorem dX9_passes_119 : decode cX9_passes 119 = .ok (.bipush 10, 2) := by decide +kernel
theorem dX9_passes_121 : decode cX9_passes 121 = .ok (.if_icmp .ge 102, 3) := by decide +kernel
theorem dX9_passes_124 : decode cX9_passes 124 = .ok (.aload_n 0, 1) := by decide +kernel
theorem dX9_passes_125 : decode cX9_passes 125 = .ok (.getfield 59, 3) := by decide +kernel
theorem dX9_passes_128 : decode cX9_passes 128 = .ok (.bipush 10, 2) := by decide +kernel
theorem dX9_passes_130 : decode cX9_passes 130 = .ok (.iload_n 1, 1) := by decide +kernel
theorem dX9_passes_131 : decode cX9_passes 131 = .ok (.imul, 1) := by decide +kernel
theorem dX9_passes_132 : decode cX9_passes 132 = .ok (.iload_n 2, 1) := by decide +kernel
theorem dX9_passes_133 : decode cX9_passes 133 = .ok (.iadd, 1) := by decide +kernel
theorem dX9_passes_134 : decode cX9_passes 134 = .ok (.aload_n 0, 1) := by decide +kernel
theorem dX9_passes_135 : decode cX9_passes 135 = .ok (.getfield 40, 3) := by decide +kernel
theorem dX9_passes_138 : decode cX9_passes 138 = .ok (.iload_n 2, 1) := by decide +kernel
theorem dX9_passes_139 : decode cX9_passes 139 = .ok (.iaload, 1) := by decide +kernel
theorem dX9_passes_140 : decode cX9_passes 140 = .ok (.iastore, 1) := by decide +kernel
theorem dX9_passes_141 : decode cX9_passes 141 = .ok (.aload_n 0, 1) := by decide +kernel
theorem dX9_passes_142 : decode cX9_passes 142 = .ok (.getfield 62, 3) := by decide +kernel
theorem dX9_passes_145 : decode cX9_passes 145 = .ok (.bipush 10, 2) := by decide +kernel
theorem dX9_passes_147 : decode cX9_passes 147 = .ok (.iload_n 1, 1) := by decide +kernel
theorem dX9_passes_148 : decode cX9_passes 148 = .ok (.imul, 1) := by decide +kernel
theorem dX9_passes_149 : decode cX9_passes 149 = .ok (.iload_n 2, 1) := by decide +kernel
theorem dX9_passes_150 : decode cX9_passes 150 = .ok (.iadd, 1) := by decide +kernel
theorem dX9_passes_151 : decode cX9_passes 151 = .ok (.aload_n 0, 1) := by decide +kernel
theorem dX9_passes_152 : decode cX9_passes 152 = .ok (.getfield 43, 3) := by decide +kernel
theorem dX9_passes_155 : decode cX9_passes 155 = .ok (.iload_n 2, 1) := by decide +kernel
theorem dX9_passes_156 : decode cX9_passes 156 = .ok (.iaload, 1) := by decide +kernel
theorem dX9_passes_157 : decode cX9_passes 157 = .ok (.iastore, 1) := by decide +kernel
theorem dX9_passes_158 : decode cX9_passes 158 = .ok (.aload_n 0, 1) := by decide +kernel
theorem dX9_passes_159 : decode cX9_passes 159 = .ok (.getfield 65, 3) := by decide +kernel
theorem dX9_passes_162 : decode cX9_passes 162 = .ok (.bipush 10, 2) := by decide +kernel
theorem dX9_passes_164 : decode cX9_passes 164 = .ok (.iload_n 1, 1) := by decide +kernel
theorem dX9_passes_165 : decode cX9_passes 165 = .ok (.imul, 1) := by decide +kernel
theorem dX9_passes_166 : decode cX9_passes 166 = .ok (.iload_n 2, 1) := by decide +kernel
theorem dX9_passes_167 : decode cX9_passes 167 = .ok (.iadd, 1) := by decide +kernel
theorem dX9_passes_168 : decode cX9_passes 168 = .ok (.aload_n 0, 1) := by decide +kernel
theorem dX9_passes_169 : decode cX9_passes 169 = .ok (.getfield 46, 3) := by decide +kernel
theorem dX9_passes_172 : decode cX9_passes 172 = .ok (.iload_n 2, 1) := by decide +kernel
theorem dX9_passes_173 : decode cX9_passes 173 = .ok (.iaload, 1) := by decide +kernel
theorem dX9_passes_174 : decode cX9_passes 174 = .ok (.iastore, 1) := by decide +kernel
theorem dX9_passes_175 : decode cX9_passes 175 = .ok (.aload_n 0, 1) := by decide +kernel
theorem dX9_passes_176 : decode cX9_passes 176 = .ok (.getfield 68, 3) := by decide +kernel
theorem dX9_passes_179 : decode cX9_passes 179 = .ok (.bipush 10, 2) := by decide +kernel
theorem dX9_passes_181 : decode cX9_passes 181 = .ok (.iload_n 1, 1) := by decide +kernel
theorem dX9_passes_182 : decode cX9_passes 182 = .ok (.imul, 1) := by decide +kernel
theorem dX9_passes_183 : decode cX9_passes 183 = .ok (.iload_n 2, 1) := by decide +kernel
theorem dX9_passes_184 : decode cX9_passes 184 = .ok (.iadd, 1) := by decide +kernel
theorem dX9_passes_185 : decode cX9_passes 185 = .ok (.aload_n 0, 1) := by decide +kernel
theorem dX9_passes_186 : decode cX9_passes 186 = .ok (.getfield 49, 3) := by decide +kernel
theorem dX9_passes_189 : decode cX9_passes 189 = .ok (.iload_n 2, 1) := by decide +kernel
theorem dX9_passes_190 : decode cX9_passes 190 = .ok (.baload, 1) := by decide +kernel
theorem dX9_passes_191 : decode cX9_passes 191 = .ok (.ifCond .eq 7, 3) := by decide +kernel
theorem dX9_passes_194 : decode cX9_passes 194 = .ok (.iconst 1, 1) := by decide +kernel
theorem dX9_passes_195 : decode cX9_passes 195 = .ok (.goto 4, 3) := by decide +kernel
theorem dX9_passes_198 : decode cX9_passes 198 = .ok (.iconst 0, 1) := by decide +kernel
theorem dX9_passes_199 : decode cX9_passes 199 = .ok (.iastore, 1) := by decide +kernel
theorem dX9_passes_200 : decode cX9_passes 200 = .ok (.aload_n 0, 1) := by decide +kernel
theorem dX9_passes_201 : decode cX9_passes 201 = .ok (.getfield 71, 3) := by decide +kernel
theorem dX9_passes_204 : decode cX9_passes 204 = .ok (.bipush 10, 2) := by decide +kernel
theorem dX9_passes_206 : decode cX9_passes 206 = .ok (.iload_n 1, 1) := by decide +kernel
theorem dX9_passes_207 : decode cX9_passes 207 = .ok (.imul, 1) := by decide +kernel
theorem dX9_passes_208 : decode cX9_passes 208 = .ok (.iload_n 2, 1) := by decide +kernel
theorem dX9_passes_209 : decode cX9_passes 209 = .ok (.iadd, 1) := by decide +kernel
theorem dX9_passes_210 : decode cX9_passes 210 = .ok (.aload_n 0, 1) := by decide +kernel
theorem dX9_passes_211 : decode cX9_passes 211 = .ok (.getfield 53, 3) := by decide +kernel
theorem dX9_passes_214 : decode cX9_passes 214 = .ok (.iload_n 2, 1) := by decide +kernel
theorem dX9_passes_215 : decode cX9_passes 215 = .ok (.iaload, 1) := by decide +kernel
theorem dX9_passes_216 : decode cX9_passes 216 = .ok (.iastore, 1) := by decide +kernel
theorem dX9_passes_217 : decode cX9_passes 217 = .ok (.iinc 2 1, 3) := by decide +kernel
theorem dX9_passes_220 : decode cX9_passes 220 = .ok (.goto (-102), 3) := by decide +kernel
theorem dX9_passes_223 : decode cX9_passes 223 = .ok (.return_, 1) := by decide +kernel
theorem dX9_lives_0 : decode cX9_lives 0 = .ok (.iconst 0, 1) := by decide +kernel
theorem dX9_lives_1 : decode cX9_lives 1 = .ok (.istore_n 1, 1) := by decide +kernel
theorem dX9_lives_2 : decode cX9_lives 2 = .ok (.iload_n 1, 1) := by decide +kernel
theorem dX9_lives_3 : decode cX9_lives 3 = .ok (.bipush 10, 2) := by decide +kernel
theorem dX9_lives_5 : decode cX9_lives 5 = .ok (.if_icmp .ge 46, 3) := by decide +kernel
theorem dX9_lives_8 : decode cX9_lives 8 = .ok (.aload_n 0, 1) := by decide +kernel
theorem dX9_lives_9 : decode cX9_lives 9 = .ok (.getfield 40, 3) := by decide +kernel
theorem dX9_lives_12 : decode cX9_lives 12 = .ok (.iload_n 1, 1) := by decide +kernel
theorem dX9_lives_13 : decode cX9_lives 13 = .ok (.aload_n 0, 1) := by decide +kernel
theorem dX9_lives_14 : decode cX9_lives 14 = .ok (.getfield 28, 3) := by decide +kernel
theorem dX9_lives_17 : decode cX9_lives 17 = .ok (.iconst 3, 1) := by decide +kernel
theorem dX9_lives_18 : decode cX9_lives 18 = .ok (.iload_n 1, 1) := by decide +kernel
theorem dX9_lives_19 : decode cX9_lives 19 = .ok (.imul, 1) := by decide +kernel
theorem dX9_lives_20 : decode cX9_lives 20 = .ok (.iconst 1, 1) := by decide +kernel
theorem dX9_lives_21 : decode cX9_lives 21 = .ok (.iadd, 1) := by decide +kernel
theorem dX9_lives_22 : decode cX9_lives 22 = .ok (.iaload, 1) := by decide +kernel
theorem dX9_lives_23 : decode cX9_lives 23 = .ok (.iastore, 1) := by decide +kernel
theorem dX9_lives_24 : decode cX9_lives 24 = .ok (.aload_n 0, 1) := by decide +kernel
theorem dX9_lives_25 : decode cX9_lives 25 = .ok (.getfield 43, 3) := by decide +kernel
theorem dX9_lives_28 : decode cX9_lives 28 = .ok (.iload_n 1, 1) := by decide +kernel
theorem dX9_lives_29 : decode cX9_lives 29 = .ok (.iconst 0, 1) := by decide +kernel
theorem dX9_lives_30 : decode cX9_lives 30 = .ok (.iastore, 1) := by decide +kernel
theorem dX9_lives_31 : decode cX9_lives 31 = .ok (.aload_n 0, 1) := by decide +kernel
theorem dX9_lives_32 : decode cX9_lives 32 = .ok (.getfield 46, 3) := by decide +kernel
theorem dX9_lives_35 : decode cX9_lives 35 = .ok (.iload_n 1, 1) := by decide +kernel
theorem dX9_lives_36 : decode cX9_lives 36 = .ok (.iconst 0, 1) := by decide +kernel
theorem dX9_lives_37 : decode cX9_lives 37 = .ok (.iastore, 1) := by decide +kernel
theorem dX9_lives_38 : decode cX9_lives 38 = .ok (.aload_n 0, 1) := by decide +kernel
theorem dX9_lives_39 : decode cX9_lives 39 = .ok (.getfield 49, 3) := by decide +kernel
theorem dX9_lives_42 : decode cX9_lives 42 = .ok (.iload_n 1, 1) := by decide +kernel
theorem dX9_lives_43 : decode cX9_lives 43 = .ok (.iconst 0, 1) := by decide +kernel
theorem dX9_lives_44 : decode cX9_lives 44 = .ok (.bastore, 1) := by decide +kernel
theorem dX9_lives_45 : decode cX9_lives 45 = .ok (.iinc 1 1, 3) := by decide +kernel
theorem dX9_lives_48 : decode cX9_lives 48 = .ok (.goto (-46), 3) := by decide +kernel
theorem dX9_lives_51 : decode cX9_lives 51 = .ok (.aload_n 0, 1) := by decide +kernel
theorem dX9_lives_52 : decode cX9_lives 52 = .ok (.iconst 0, 1) := by decide +kernel
theorem dX9_lives_53 : decode cX9_lives 53 = .ok (.putfield 194, 3) := by decide +kernel
theorem dX9_lives_56 : decode cX9_lives 56 = .ok (.iconst 0, 1) := by decide +kernel
theorem dX9_lives_57 : decode cX9_lives 57 = .ok (.istore_n 1, 1) := by decide +kernel
theorem dX9_lives_58 : decode cX9_lives 58 = .ok (.iload_n 1, 1) := by decide +kernel
theorem dX9_lives_59 : decode cX9_lives 59 = .ok (.bipush 12, 2) := by decide +kernel
theorem dX9_lives_61 : decode cX9_lives 61 = .ok (.if_icmp .ge 14, 3) := by decide +kernel
theorem dX9_lives_64 : decode cX9_lives 64 = .ok (.aload_n 0, 1) := by decide +kernel
theorem dX9_lives_65 : decode cX9_lives 65 = .ok (.iload_n 1, 1) := by decide +kernel
theorem dX9_lives_66 : decode cX9_lives 66 = .ok (.invokevirtual 214, 3) := by decide +kernel
theorem dX9_lives_69 : decode cX9_lives 69 = .ok (.iinc 1 1, 3) := by decide +kernel
theorem dX9_lives_72 : decode cX9_lives 72 = .ok (.goto (-14), 3) := by decide +kernel
theorem dX9_lives_75 : decode cX9_lives 75 = .ok (.return_, 1) := by decide +kernel
theorem dX9_find_0 : decode cX9_find 0 = .ok (.aload_n 0, 1) := by decide +kernel
theorem dX9_find_1 : decode cX9_find 1 = .ok (.invokevirtual 143, 3) := by decide +kernel
theorem dX9_find_4 : decode cX9_find 4 = .ok (.pop, 1) := by decide +kernel
theorem dX9_find_5 : decode cX9_find 5 = .ok (.aload_n 0, 1) := by decide +kernel
theorem dX9_find_6 : decode cX9_find 6 = .ok (.invokevirtual 147, 3) := by decide +kernel
theorem dX9_find_9 : decode cX9_find 9 = .ok (.pop, 1) := by decide +kernel
theorem dX9_find_10 : decode cX9_find 10 = .ok (.aload_n 0, 1) := by decide +kernel
theorem dX9_find_11 : decode cX9_find 11 = .ok (.invokevirtual 150, 3) := by decide +kernel
theorem dX9_find_14 : decode cX9_find 14 = .ok (.pop, 1) := by decide +kernel
theorem dX9_find_15 : decode cX9_find 15 = .ok (.aload_n 0, 1) := by decide +kernel
theorem dX9_find_16 : decode cX9_find 16 = .ok (.invokevirtual 217, 3) := by decide +kernel
theorem dX9_find_19 : decode cX9_find 19 = .ok (.return_, 1) := by decide +kernel
theorem dX9_place_0 : decode cX9_place 0 = .ok (.aload_n 0, 1) := by decide +kernel
theorem dX9_place_1 : decode cX9_place 1 = .ok (.invokevirtual 220, 3) := by decide +kernel
theorem dX9_place_4 : decode cX9_place 4 = .ok (.iload_n 1, 1) := by decide +kernel
theorem dX9_place_5 : decode cX9_place 5 = .ok (.invokestatic 164, 3) := by decide +kernel
theorem dX9_place_8 : decode cX9_place 8 = .ok (.ifCond .eq 28, 3) := by decide +kernel
theorem dX9_place_11 : decode cX9_place 11 = .ok (.iload_n 2, 1) := by decide +kernel
theorem dX9_place_12 : decode cX9_place 12 = .ok (.i2l, 1) := by decide +kernel
theorem dX9_place_13 : decode cX9_place 13 = .ok (.lconst 0, 1) := by decide +kernel
theorem dX9_place_14 : decode cX9_place 14 = .ok (.ldc2_w 105, 3) := by decide +kernel
theorem dX9_place_17 : decode cX9_place 17 = .ok (.invokestatic 92, 3) := by decide +kernel
theorem dX9_place_20 : decode cX9_place 20 = .ok (.ifCond .eq 16, 3) := by decide +kernel
theorem dX9_place_23 : decode cX9_place 23 = .ok (.aload_n 0, 1) := by decide +kernel
theorem dX9_place_24 : decode cX9_place 24 = .ok (.getfield 74, 3) := by decide +kernel
theorem dX9_place_27 : decode cX9_place 27 = .ok (.iconst 3, 1) := by decide +kernel
theorem dX9_place_28 : decode cX9_place 28 = .ok (.iload_n 1, 1) := by decide +kernel
theorem dX9_place_29 : decode cX9_place 29 = .ok (.imul, 1) := by decide +kernel
theorem dX9_place_30 : decode cX9_place 30 = .ok (.iload_n 2, 1) := by decide +kernel
theorem dX9_place_31 : decode cX9_place 31 = .ok (.iadd, 1) := by decide +kernel
theorem dX9_place_32 : decode cX9_place 32 = .ok (.iaload, 1) := by decide +kernel
theorem dX9_place_33 : decode cX9_place 33 = .ok (.goto 5, 3) := by decide +kernel
theorem dX9_place_36 : decode cX9_place 36 = .ok (.bipush (-2), 2) := by decide +kernel
theorem dX9_place_38 : decode cX9_place 38 = .ok (.ireturn, 1) := by decide +kernel
theorem dX9_atBy_0 : decode cX9_atBy 0 = .ok (.bipush 10, 2) := by decide +kernel
theorem dX9_atBy_2 : decode cX9_atBy 2 = .ok (.iload_n 1, 1) := by decide +kernel
theorem dX9_atBy_3 : decode cX9_atBy 3 = .ok (.imul, 1) := by decide +kernel
theorem dX9_atBy_4 : decode cX9_atBy 4 = .ok (.iload_n 2, 1) := by decide +kernel
theorem dX9_atBy_5 : decode cX9_atBy 5 = .ok (.iadd, 1) := by decide +kernel
theorem dX9_atBy_6 : decode cX9_atBy 6 = .ok (.istore 4, 2) := by decide +kernel
theorem dX9_atBy_8 : decode cX9_atBy 8 = .ok (.iload_n 3, 1) := by decide +kernel
theorem dX9_atBy_9 : decode cX9_atBy 9 = .ok (.tableswitch 63 0 3 #[31, 39, 47, 55], 31) := by decide +kernel
theorem dX9_atBy_40 : decode cX9_atBy 40 = .ok (.aload_n 0, 1) := by decide +kernel
theorem dX9_atBy_41 : decode cX9_atBy 41 = .ok (.getfield 59, 3) := by decide +kernel
theorem dX9_atBy_44 : decode cX9_atBy 44 = .ok (.iload 4, 2) := by decide +kernel
theorem dX9_atBy_46 : decode cX9_atBy 46 = .ok (.iaload, 1) := by decide +kernel
theorem dX9_atBy_47 : decode cX9_atBy 47 = .ok (.ireturn, 1) := by decide +kernel
theorem dX9_atBy_48 : decode cX9_atBy 48 = .ok (.aload_n 0, 1) := by decide +kernel
theorem dX9_atBy_49 : decode cX9_atBy 49 = .ok (.getfield 62, 3) := by decide +kernel
theorem dX9_atBy_52 : decode cX9_atBy 52 = .ok (.iload 4, 2) := by decide +kernel
theorem dX9_atBy_54 : decode cX9_atBy 54 = .ok (.iaload, 1) := by decide +kernel
theorem dX9_atBy_55 : decode cX9_atBy 55 = .ok (.ireturn, 1) := by decide +kernel
theorem dX9_atBy_56 : decode cX9_atBy 56 = .ok (.aload_n 0, 1) := by decide +kernel
theorem dX9_atBy_57 : decode cX9_atBy 57 = .ok (.getfield 65, 3) := by decide +kernel
theorem dX9_atBy_60 : decode cX9_atBy 60 = .ok (.iload 4, 2) := by decide +kernel
theorem dX9_atBy_62 : decode cX9_atBy 62 = .ok (.iaload, 1) := by decide +kernel
theorem dX9_atBy_63 : decode cX9_atBy 63 = .ok (.ireturn, 1) := by decide +kernel
theorem dX9_atBy_64 : decode cX9_atBy 64 = .ok (.aload_n 0, 1) := by decide +kernel
theorem dX9_atBy_65 : decode cX9_atBy 65 = .ok (.getfield 68, 3) := by decide +kernel
theorem dX9_atBy_68 : decode cX9_atBy 68 = .ok (.iload 4, 2) := by decide +kernel
theorem dX9_atBy_70 : decode cX9_atBy 70 = .ok (.iaload, 1) := by decide +kernel
theorem dX9_atBy_71 : decode cX9_atBy 71 = .ok (.ireturn, 1) := by decide +kernel
theorem dX9_atBy_72 : decode cX9_atBy 72 = .ok (.aload_n 0, 1) := by decide +kernel
theorem dX9_atBy_73 : decode cX9_atBy 73 = .ok (.getfield 71, 3) := by decide +kernel
theorem dX9_atBy_76 : decode cX9_atBy 76 = .ok (.iload 4, 2) := by decide +kernel
theorem dX9_atBy_78 : decode cX9_atBy 78 = .ok (.iaload, 1) := by decide +kernel
theorem dX9_atBy_79 : decode cX9_atBy 79 = .ok (.ireturn, 1) := by decide +kernel
theorem dX9_at_0 : decode cX9_at 0 = .ok (.aload_n 0, 1) := by decide +kernel
theorem dX9_at_1 : decode cX9_at 1 = .ok (.invokevirtual 220, 3) := by decide +kernel
theorem dX9_at_4 : decode cX9_at 4 = .ok (.iload_n 1, 1) := by decide +kernel
theorem dX9_at_5 : decode cX9_at 5 = .ok (.invokestatic 164, 3) := by decide +kernel
theorem dX9_at_8 : decode cX9_at 8 = .ok (.ifCond .eq 33, 3) := by decide +kernel
theorem dX9_at_11 : decode cX9_at 11 = .ok (.aload_n 0, 1) := by decide +kernel
theorem dX9_at_12 : decode cX9_at 12 = .ok (.iload_n 2, 1) := by decide +kernel
theorem dX9_at_13 : decode cX9_at 13 = .ok (.invokevirtual 158, 3) := by decide +kernel
theorem dX9_at_16 : decode cX9_at 16 = .ok (.ifCond .eq 25, 3) := by decide +kernel
theorem dX9_at_19 : decode cX9_at 19 = .ok (.iload_n 3, 1) := by decide +kernel
theorem dX9_at_20 : decode cX9_at 20 = .ok (.i2l, 1) := by decide +kernel
theorem dX9_at_21 : decode cX9_at 21 = .ok (.lconst 0, 1) := by decide +kernel
theorem dX9_at_22 : decode cX9_at 22 = .ok (.ldc2_w 223, 3) := by decide +kernel
theorem dX9_at_25 : decode cX9_at 25 = .ok (.invokestatic 92, 3) := by decide +kernel
theorem dX9_at_28 : decode cX9_at 28 = .ok (.ifCond .eq 13, 3) := by decide +kernel
theorem dX9_at_31 : decode cX9_at 31 = .ok (.aload_n 0, 1) := by decide +kernel
theorem dX9_at_32 : decode cX9_at 32 = .ok (.iload_n 1, 1) := by decide +kernel
theorem dX9_at_33 : decode cX9_at 33 = .ok (.iload_n 2, 1) := by decide +kernel
theorem dX9_at_34 : decode cX9_at 34 = .ok (.iload_n 3, 1) := by decide +kernel
theorem dX9_at_35 : decode cX9_at 35 = .ok (.invokevirtual 225, 3) := by decide +kernel
theorem dX9_at_38 : decode cX9_at 38 = .ok (.goto 5, 3) := by decide +kernel
theorem dX9_at_41 : decode cX9_at 41 = .ok (.bipush (-2), 2) := by decide +kernel
theorem dX9_at_43 : decode cX9_at 43 = .ok (.ireturn, 1) := by decide +kernel
theorem dX9_showOf_0 : decode cX9_showOf 0 = .ok (.iconst 0, 1) := by decide +kernel
theorem dX9_showOf_1 : decode cX9_showOf 1 = .ok (.istore_n 3, 1) := by decide +kernel
theorem dX9_showOf_2 : decode cX9_showOf 2 = .ok (.iconst 0, 1) := by decide +kernel
theorem dX9_showOf_3 : decode cX9_showOf 3 = .ok (.istore 4, 2) := by decide +kernel
theorem dX9_showOf_5 : decode cX9_showOf 5 = .ok (.iload 4, 2) := by decide +kernel
theorem dX9_showOf_7 : decode cX9_showOf 7 = .ok (.aload_n 0, 1) := by decide +kernel
theorem dX9_showOf_8 : decode cX9_showOf 8 = .ok (.getfield 128, 3) := by decide +kernel
theorem dX9_showOf_11 : decode cX9_showOf 11 = .ok (.if_icmp .ge 33, 3) := by decide +kernel
theorem dX9_showOf_14 : decode cX9_showOf 14 = .ok (.iload_n 3, 1) := by decide +kernel
theorem dX9_showOf_15 : decode cX9_showOf 15 = .ok (.aload_n 0, 1) := by decide +kernel
theorem dX9_showOf_16 : decode cX9_showOf 16 = .ok (.getfield 71, 3) := by decide +kernel
theorem dX9_showOf_19 : decode cX9_showOf 19 = .ok (.bipush 10, 2) := by decide +kernel
theorem dX9_showOf_21 : decode cX9_showOf 21 = .ok (.iload_n 1, 1) := by decide +kernel
theorem dX9_showOf_22 : decode cX9_showOf 22 = .ok (.imul, 1) := by decide +kernel
theorem dX9_showOf_23 : decode cX9_showOf 23 = .ok (.iload 4, 2) := by decide +kernel
theorem dX9_showOf_25 : decode cX9_showOf 25 = .ok (.iadd, 1) := by decide +kernel
theorem dX9_showOf_26 : decode cX9_showOf 26 = .ok (.iaload, 1) := by decide +kernel
theorem dX9_showOf_27 : decode cX9_showOf 27 = .ok (.iconst (-1), 1) := by decide +kernel
theorem dX9_showOf_28 : decode cX9_showOf 28 = .ok (.if_icmp .ne 7, 3) := by decide +kernel
theorem dX9_showOf_31 : decode cX9_showOf 31 = .ok (.iconst 0, 1) := by decide +kernel
theorem dX9_showOf_32 : decode cX9_showOf 32 = .ok (.goto 4, 3) := by decide +kernel
theorem dX9_showOf_35 : decode cX9_showOf 35 = .ok (.iconst 1, 1) := by decide +kernel
theorem dX9_showOf_36 : decode cX9_showOf 36 = .ok (.iadd, 1) := by decide +kernel
theorem dX9_showOf_37 : decode cX9_showOf 37 = .ok (.istore_n 3, 1) := by decide +kernel
theorem dX9_showOf_38 : decode cX9_showOf 38 = .ok (.iinc 4 1, 3) := by decide +kernel
theorem dX9_showOf_41 : decode cX9_showOf 41 = .ok (.goto (-36), 3) := by decide +kernel
theorem dX9_showOf_44 : decode cX9_showOf 44 = .ok (.iload_n 2, 1) := by decide +kernel
theorem dX9_showOf_45 : decode cX9_showOf 45 = .ok (.iconst 1, 1) := by decide +kernel
theorem dX9_showOf_46 : decode cX9_showOf 46 = .ok (.if_icmp .ne 7, 3) := by decide +kernel
theorem dX9_showOf_49 : decode cX9_showOf 49 = .ok (.iload_n 3, 1) := by decide +kernel
theorem dX9_showOf_50 : decode cX9_showOf 50 = .ok (.goto 26, 3) := by decide +kernel
theorem dX9_showOf_53 : decode cX9_showOf 53 = .ok (.aload_n 0, 1) := by decide +kernel
theorem dX9_showOf_54 : decode cX9_showOf 54 = .ok (.aload_n 0, 1) := by decide +kernel
theorem dX9_showOf_55 : decode cX9_showOf 55 = .ok (.getfield 34, 3) := by decide +kernel
theorem dX9_showOf_58 : decode cX9_showOf 58 = .ok (.iload_n 1, 1) := by decide +kernel
theorem dX9_showOf_59 : decode cX9_showOf 59 = .ok (.iaload, 1) := by decide +kernel
theorem dX9_showOf_60 : decode cX9_showOf 60 = .ok (.invokevirtual 161, 3) := by decide +kernel
theorem dX9_showOf_63 : decode cX9_showOf 63 = .ok (.ifCond .eq 12, 3) := by decide +kernel
theorem dX9_showOf_66 : decode cX9_showOf 66 = .ok (.aload_n 0, 1) := by decide +kernel
theorem dX9_showOf_67 : decode cX9_showOf 67 = .ok (.getfield 34, 3) := by decide +kernel
theorem dX9_showOf_70 : decode cX9_showOf 70 = .ok (.iload_n 1, 1) := by decide +kernel
theorem dX9_showOf_71 : decode cX9_showOf 71 = .ok (.iaload, 1) := by decide +kernel
theorem dX9_showOf_72 : decode cX9_showOf 72 = .ok (.goto 4, 3) := by decide +kernel
theorem dX9_showOf_75 : decode cX9_showOf 75 = .ok (.iconst (-1), 1) := by decide +kernel
theorem dX9_showOf_76 : decode cX9_showOf 76 = .ok (.ireturn, 1) := by decide +kernel
theorem dX9_show_0 : decode cX9_show 0 = .ok (.aload_n 0, 1) := by decide +kernel
theorem dX9_show_1 : decode cX9_show 1 = .ok (.invokevirtual 220, 3) := by decide +kernel
theorem dX9_show_4 : decode cX9_show 4 = .ok (.iload_n 1, 1) := by decide +kernel
theorem dX9_show_5 : decode cX9_show 5 = .ok (.invokestatic 164, 3) := by decide +kernel
theorem dX9_show_8 : decode cX9_show 8 = .ok (.ifCond .eq 19, 3) := by decide +kernel
theorem dX9_show_11 : decode cX9_show 11 = .ok (.iload_n 2, 1) := by decide +kernel
theorem dX9_show_12 : decode cX9_show 12 = .ok (.invokestatic 228, 3) := by decide +kernel
theorem dX9_show_15 : decode cX9_show 15 = .ok (.ifCond .eq 12, 3) := by decide +kernel
theorem dX9_show_18 : decode cX9_show 18 = .ok (.aload_n 0, 1) := by decide +kernel
theorem dX9_show_19 : decode cX9_show 19 = .ok (.iload_n 1, 1) := by decide +kernel
theorem dX9_show_20 : decode cX9_show 20 = .ok (.iload_n 2, 1) := by decide +kernel
theorem dX9_show_21 : decode cX9_show 21 = .ok (.invokevirtual 231, 3) := by decide +kernel
theorem dX9_show_24 : decode cX9_show 24 = .ok (.goto 5, 3) := by decide +kernel
theorem dX9_show_27 : decode cX9_show 27 = .ok (.bipush (-2), 2) := by decide +kernel
theorem dX9_show_29 : decode cX9_show 29 = .ok (.ireturn, 1) := by decide +kernel
theorem dX9_ownedBy_0 : decode cX9_ownedBy 0 = .ok (.iconst 0, 1) := by decide +kernel
theorem dX9_ownedBy_1 : decode cX9_ownedBy 1 = .ok (.istore_n 2, 1) := by decide +kernel
theorem dX9_ownedBy_2 : decode cX9_ownedBy 2 = .ok (.iconst 0, 1) := by decide +kernel
theorem dX9_ownedBy_3 : decode cX9_ownedBy 3 = .ok (.istore_n 3, 1) := by decide +kernel
theorem dX9_ownedBy_4 : decode cX9_ownedBy 4 = .ok (.iload_n 3, 1) := by decide +kernel
theorem dX9_ownedBy_5 : decode cX9_ownedBy 5 = .ok (.aload_n 0, 1) := by decide +kernel
theorem dX9_ownedBy_6 : decode cX9_ownedBy 6 = .ok (.getfield 128, 3) := by decide +kernel
theorem dX9_ownedBy_9 : decode cX9_ownedBy 9 = .ok (.if_icmp .ge 36, 3) := by decide +kernel
theorem dX9_ownedBy_12 : decode cX9_ownedBy 12 = .ok (.iload_n 2, 1) := by decide +kernel
theorem dX9_ownedBy_13 : decode cX9_ownedBy 13 = .ok (.aload_n 0, 1) := by decide +kernel
theorem dX9_ownedBy_14 : decode cX9_ownedBy 14 = .ok (.getfield 28, 3) := by decide +kernel
theorem dX9_ownedBy_17 : decode cX9_ownedBy 17 = .ok (.iconst 3, 1) := by decide +kernel
theorem dX9_ownedBy_18 : decode cX9_ownedBy 18 = .ok (.iload_n 3, 1) := by decide +kernel
theorem dX9_ownedBy_19 : decode cX9_ownedBy 19 = .ok (.imul, 1) := by decide +kernel
theorem dX9_ownedBy_20 : decode cX9_ownedBy 20 = .ok (.iconst 2, 1) := by decide +kernel
theorem dX9_ownedBy_21 : decode cX9_ownedBy 21 = .ok (.iadd, 1) := by decide +kernel
theorem dX9_ownedBy_22 : decode cX9_ownedBy 22 = .ok (.iaload, 1) := by decide +kernel
theorem dX9_ownedBy_23 : decode cX9_ownedBy 23 = .ok (.iload_n 1, 1) := by decide +kernel
theorem dX9_ownedBy_24 : decode cX9_ownedBy 24 = .ok (.if_icmp .ne 12, 3) := by decide +kernel
theorem dX9_ownedBy_27 : decode cX9_ownedBy 27 = .ok (.aload_n 0, 1) := by decide +kernel
theorem dX9_ownedBy_28 : decode cX9_ownedBy 28 = .ok (.getfield 43, 3) := by decide +kernel
theorem dX9_ownedBy_31 : decode cX9_ownedBy 31 = .ok (.iload_n 3, 1) := by decide +kernel
theorem dX9_ownedBy_32 : decode cX9_ownedBy 32 = .ok (.iaload, 1) := by decide +kernel
theorem dX9_ownedBy_33 : decode cX9_ownedBy 33 = .ok (.goto 4, 3) := by decide +kernel
theorem dX9_ownedBy_36 : decode cX9_ownedBy 36 = .ok (.iconst 0, 1) := by decide +kernel
theorem dX9_ownedBy_37 : decode cX9_ownedBy 37 = .ok (.iadd, 1) := by decide +kernel
theorem dX9_ownedBy_38 : decode cX9_ownedBy 38 = .ok (.istore_n 2, 1) := by decide +kernel
theorem dX9_ownedBy_39 : decode cX9_ownedBy 39 = .ok (.iinc 3 1, 3) := by decide +kernel
theorem dX9_ownedBy_42 : decode cX9_ownedBy 42 = .ok (.goto (-38), 3) := by decide +kernel
theorem dX9_ownedBy_45 : decode cX9_ownedBy 45 = .ok (.iload_n 2, 1) := by decide +kernel
theorem dX9_ownedBy_46 : decode cX9_ownedBy 46 = .ok (.ireturn, 1) := by decide +kernel
theorem dX9_owned_0 : decode cX9_owned 0 = .ok (.aload_n 0, 1) := by decide +kernel
theorem dX9_owned_1 : decode cX9_owned 1 = .ok (.invokevirtual 220, 3) := by decide +kernel
theorem dX9_owned_4 : decode cX9_owned 4 = .ok (.iload_n 1, 1) := by decide +kernel
theorem dX9_owned_5 : decode cX9_owned 5 = .ok (.i2l, 1) := by decide +kernel
theorem dX9_owned_6 : decode cX9_owned 6 = .ok (.lconst 0, 1) := by decide +kernel
theorem dX9_owned_7 : decode cX9_owned 7 = .ok (.ldc2_w 234, 3) := by decide +kernel
theorem dX9_owned_10 : decode cX9_owned 10 = .ok (.invokestatic 92, 3) := by decide +kernel
theorem dX9_owned_13 : decode cX9_owned 13 = .ok (.ifCond .eq 11, 3) := by decide +kernel
theorem dX9_owned_16 : decode cX9_owned 16 = .ok (.aload_n 0, 1) := by decide +kernel
theorem dX9_owned_17 : decode cX9_owned 17 = .ok (.iload_n 1, 1) := by decide +kernel
theorem dX9_owned_18 : decode cX9_owned 18 = .ok (.invokevirtual 236, 3) := by decide +kernel
theorem dX9_owned_21 : decode cX9_owned 21 = .ok (.goto 5, 3) := by decide +kernel
theorem dX9_owned_24 : decode cX9_owned 24 = .ok (.bipush (-2), 2) := by decide +kernel
theorem dX9_owned_26 : decode cX9_owned 26 = .ok (.ireturn, 1) := by decide +kernel
theorem dX9_championNow_0 : decode cX9_championNow 0 = .ok (.iconst 0, 1) := by decide +kernel
theorem dX9_championNow_1 : decode cX9_championNow 1 = .ok (.istore_n 1, 1) := by decide +kernel
theorem dX9_championNow_2 : decode cX9_championNow 2 = .ok (.iconst 1, 1) := by decide +kernel
theorem dX9_championNow_3 : decode cX9_championNow 3 = .ok (.istore_n 2, 1) := by decide +kernel
theorem dX9_championNow_4 : decode cX9_championNow 4 = .ok (.iload_n 2, 1) := by decide +kernel
theorem dX9_championNow_5 : decode cX9_championNow 5 = .ok (.bipush 6, 2) := by decide +kernel
theorem dX9_championNow_7 : decode cX9_championNow 7 = .ok (.if_icmp .ge 28, 3) := by decide +kernel
theorem dX9_championNow_10 : decode cX9_championNow 10 = .ok (.aload_n 0, 1) := by decide +kernel
theorem dX9_championNow_11 : decode cX9_championNow 11 = .ok (.iload_n 2, 1) := by decide +kernel
theorem dX9_championNow_12 : decode cX9_championNow 12 = .ok (.invokevirtual 236, 3) := by decide +kernel
theorem dX9_championNow_15 : decode cX9_championNow 15 = .ok (.aload_n 0, 1) := by decide +kernel
theorem dX9_championNow_16 : decode cX9_championNow 16 = .ok (.iload_n 1, 1) := by decide +kernel
theorem dX9_championNow_17 : decode cX9_championNow 17 = .ok (.invokevirtual 236, 3) := by decide +kernel
theorem dX9_championNow_20 : decode cX9_championNow 20 = .ok (.if_icmp .le 7, 3) := by decide +kernel
theorem dX9_championNow_23 : decode cX9_championNow 23 = .ok (.iload_n 2, 1) := by decide +kernel
theorem dX9_championNow_24 : decode cX9_championNow 24 = .ok (.goto 4, 3) := by decide +kernel
theorem dX9_championNow_27 : decode cX9_championNow 27 = .ok (.iload_n 1, 1) := by decide +kernel
theorem dX9_championNow_28 : decode cX9_championNow 28 = .ok (.istore_n 1, 1) := by decide +kernel
theorem dX9_championNow_29 : decode cX9_championNow 29 = .ok (.iinc 2 1, 3) := by decide +kernel
theorem dX9_championNow_32 : decode cX9_championNow 32 = .ok (.goto (-28), 3) := by decide +kernel
theorem dX9_championNow_35 : decode cX9_championNow 35 = .ok (.iload_n 1, 1) := by decide +kernel
theorem dX9_championNow_36 : decode cX9_championNow 36 = .ok (.ireturn, 1) := by decide +kernel
theorem dX9_champion_0 : decode cX9_champion 0 = .ok (.aload_n 0, 1) := by decide +kernel
theorem dX9_champion_1 : decode cX9_champion 1 = .ok (.invokevirtual 220, 3) := by decide +kernel
theorem dX9_champion_4 : decode cX9_champion 4 = .ok (.aload_n 0, 1) := by decide +kernel
theorem dX9_champion_5 : decode cX9_champion 5 = .ok (.invokevirtual 239, 3) := by decide +kernel
theorem dX9_champion_8 : decode cX9_champion 8 = .ok (.ireturn, 1) := by decide +kernel
theorem dX9_bestNow_0 : decode cX9_bestNow 0 = .ok (.iconst (-1), 1) := by decide +kernel
theorem dX9_bestNow_1 : decode cX9_bestNow 1 = .ok (.istore_n 1, 1) := by decide +kernel
theorem dX9_bestNow_2 : decode cX9_bestNow 2 = .ok (.iconst 0, 1) := by decide +kernel
theorem dX9_bestNow_3 : decode cX9_bestNow 3 = .ok (.istore_n 2, 1) := by decide +kernel
theorem dX9_bestNow_4 : decode cX9_bestNow 4 = .ok (.iload_n 2, 1) := by decide +kernel
theorem dX9_bestNow_5 : decode cX9_bestNow 5 = .ok (.aload_n 0, 1) := by decide +kernel
theorem dX9_bestNow_6 : decode cX9_bestNow 6 = .ok (.getfield 128, 3) := by decide +kernel
theorem dX9_bestNow_9 : decode cX9_bestNow 9 = .ok (.if_icmp .ge 35, 3) := by decide +kernel
theorem dX9_bestNow_12 : decode cX9_bestNow 12 = .ok (.iload_n 1, 1) := by decide +kernel
theorem dX9_bestNow_13 : decode cX9_bestNow 13 = .ok (.iconst (-1), 1) := by decide +kernel
theorem dX9_bestNow_14 : decode cX9_bestNow 14 = .ok (.if_icmp .eq 18, 3) := by decide +kernel
theorem dX9_bestNow_17 : decode cX9_bestNow 17 = .ok (.aload_n 0, 1) := by decide +kernel
theorem dX9_bestNow_18 : decode cX9_bestNow 18 = .ok (.getfield 43, 3) := by decide +kernel
theorem dX9_bestNow_21 : decode cX9_bestNow 21 = .ok (.iload_n 2, 1) := by decide +kernel
theorem dX9_bestNow_22 : decode cX9_bestNow 22 = .ok (.iaload, 1) := by decide +kernel
theorem dX9_bestNow_23 : decode cX9_bestNow 23 = .ok (.aload_n 0, 1) := by decide +kernel
theorem dX9_bestNow_24 : decode cX9_bestNow 24 = .ok (.getfield 43, 3) := by decide +kernel
theorem dX9_bestNow_27 : decode cX9_bestNow 27 = .ok (.iload_n 1, 1) := by decide +kernel
theorem dX9_bestNow_28 : decode cX9_bestNow 28 = .ok (.iaload, 1) := by decide +kernel
theorem dX9_bestNow_29 : decode cX9_bestNow 29 = .ok (.if_icmp .le 7, 3) := by decide +kernel
theorem dX9_bestNow_32 : decode cX9_bestNow 32 = .ok (.iload_n 2, 1) := by decide +kernel
theorem dX9_bestNow_33 : decode cX9_bestNow 33 = .ok (.goto 4, 3) := by decide +kernel
theorem dX9_bestNow_36 : decode cX9_bestNow 36 = .ok (.iload_n 1, 1) := by decide +kernel
theorem dX9_bestNow_37 : decode cX9_bestNow 37 = .ok (.istore_n 1, 1) := by decide +kernel
theorem dX9_bestNow_38 : decode cX9_bestNow 38 = .ok (.iinc 2 1, 3) := by decide +kernel
theorem dX9_bestNow_41 : decode cX9_bestNow 41 = .ok (.goto (-37), 3) := by decide +kernel
theorem dX9_bestNow_44 : decode cX9_bestNow 44 = .ok (.iload_n 1, 1) := by decide +kernel
theorem dX9_bestNow_45 : decode cX9_bestNow 45 = .ok (.ireturn, 1) := by decide +kernel
theorem dX9_best_0 : decode cX9_best 0 = .ok (.aload_n 0, 1) := by decide +kernel
theorem dX9_best_1 : decode cX9_best 1 = .ok (.invokevirtual 220, 3) := by decide +kernel
theorem dX9_best_4 : decode cX9_best 4 = .ok (.aload_n 0, 1) := by decide +kernel
theorem dX9_best_5 : decode cX9_best 5 = .ok (.invokevirtual 242, 3) := by decide +kernel
theorem dX9_best_8 : decode cX9_best 8 = .ok (.ireturn, 1) := by decide +kernel
theorem dX9_leftBy_0 : decode cX9_leftBy 0 = .ok (.iconst 0, 1) := by decide +kernel
theorem dX9_leftBy_1 : decode cX9_leftBy 1 = .ok (.istore_n 2, 1) := by decide +kernel
theorem dX9_leftBy_2 : decode cX9_leftBy 2 = .ok (.iconst 0, 1) := by decide +kernel
theorem dX9_leftBy_3 : decode cX9_leftBy 3 = .ok (.istore_n 3, 1) := by decide +kernel
theorem dX9_leftBy_4 : decode cX9_leftBy 4 = .ok (.iload_n 3, 1) := by decide +kernel
theorem dX9_leftBy_5 : decode cX9_leftBy 5 = .ok (.aload_n 0, 1) := by decide +kernel
theorem dX9_leftBy_6 : decode cX9_leftBy 6 = .ok (.getfield 128, 3) := by decide +kernel
theorem dX9_leftBy_9 : decode cX9_leftBy 9 = .ok (.if_icmp .ge 55, 3) := by decide +kernel
theorem dX9_leftBy_12 : decode cX9_leftBy 12 = .ok (.iload_n 1, 1) := by decide +kernel
theorem dX9_leftBy_13 : decode cX9_leftBy 13 = .ok (.ifCond .ne 12, 3) := by decide +kernel
theorem dX9_leftBy_16 : decode cX9_leftBy 16 = .ok (.aload_n 0, 1) := by decide +kernel
theorem dX9_leftBy_17 : decode cX9_leftBy 17 = .ok (.getfield 49, 3) := by decide +kernel
theorem dX9_leftBy_20 : decode cX9_leftBy 20 = .ok (.iload_n 3, 1) := by decide +kernel
theorem dX9_leftBy_21 : decode cX9_leftBy 21 = .ok (.baload, 1) := by decide +kernel
theorem dX9_leftBy_22 : decode cX9_leftBy 22 = .ok (.goto 19, 3) := by decide +kernel
theorem dX9_leftBy_25 : decode cX9_leftBy 25 = .ok (.aload_n 0, 1) := by decide +kernel
theorem dX9_leftBy_26 : decode cX9_leftBy 26 = .ok (.getfield 194, 3) := by decide +kernel
theorem dX9_leftBy_29 : decode cX9_leftBy 29 = .ok (.iload_n 3, 1) := by decide +kernel
theorem dX9_leftBy_30 : decode cX9_leftBy 30 = .ok (.invokestatic 187, 3) := by decide +kernel
theorem dX9_leftBy_33 : decode cX9_leftBy 33 = .ok (.ifCond .ne 7, 3) := by decide +kernel
theorem dX9_leftBy_36 : decode cX9_leftBy 36 = .ok (.iconst 1, 1) := by decide +kernel
theorem dX9_leftBy_37 : decode cX9_leftBy 37 = .ok (.goto 4, 3) := by decide +kernel
theorem dX9_leftBy_40 : decode cX9_leftBy 40 = .ok (.iconst 0, 1) := by decide +kernel
theorem dX9_leftBy_41 : decode cX9_leftBy 41 = .ok (.istore 4, 2) := by decide +kernel
theorem dX9_leftBy_43 : decode cX9_leftBy 43 = .ok (.iload_n 2, 1) := by decide +kernel
theorem dX9_leftBy_44 : decode cX9_leftBy 44 = .ok (.iload 4, 2) := by decide +kernel
theorem dX9_leftBy_46 : decode cX9_leftBy 46 = .ok (.ifCond .eq 9, 3) := by decide +kernel
theorem dX9_leftBy_49 : decode cX9_leftBy 49 = .ok (.iconst 1, 1) := by decide +kernel
theorem dX9_leftBy_50 : decode cX9_leftBy 50 = .ok (.iload_n 3, 1) := by decide +kernel
theorem dX9_leftBy_51 : decode cX9_leftBy 51 = .ok (.ishl, 1) := by decide +kernel
theorem dX9_leftBy_52 : decode cX9_leftBy 52 = .ok (.goto 4, 3) := by decide +kernel
theorem dX9_leftBy_55 : decode cX9_leftBy 55 = .ok (.iconst 0, 1) := by decide +kernel
theorem dX9_leftBy_56 : decode cX9_leftBy 56 = .ok (.ior, 1) := by decide +kernel
theorem dX9_leftBy_57 : decode cX9_leftBy 57 = .ok (.istore_n 2, 1) := by decide +kernel
theorem dX9_leftBy_58 : decode cX9_leftBy 58 = .ok (.iinc 3 1, 3) := by decide +kernel
theorem dX9_leftBy_61 : decode cX9_leftBy 61 = .ok (.goto (-57), 3) := by decide +kernel
theorem dX9_leftBy_64 : decode cX9_leftBy 64 = .ok (.iload_n 2, 1) := by decide +kernel
theorem dX9_leftBy_65 : decode cX9_leftBy 65 = .ok (.ireturn, 1) := by decide +kernel
theorem dX9_left_0 : decode cX9_left 0 = .ok (.aload_n 0, 1) := by decide +kernel
theorem dX9_left_1 : decode cX9_left 1 = .ok (.invokevirtual 220, 3) := by decide +kernel
theorem dX9_left_4 : decode cX9_left 4 = .ok (.iload_n 1, 1) := by decide +kernel
theorem dX9_left_5 : decode cX9_left 5 = .ok (.invokestatic 228, 3) := by decide +kernel
theorem dX9_left_8 : decode cX9_left 8 = .ok (.ifCond .eq 11, 3) := by decide +kernel
theorem dX9_left_11 : decode cX9_left 11 = .ok (.aload_n 0, 1) := by decide +kernel
theorem dX9_left_12 : decode cX9_left 12 = .ok (.iload_n 1, 1) := by decide +kernel
theorem dX9_left_13 : decode cX9_left 13 = .ok (.invokevirtual 245, 3) := by decide +kernel
theorem dX9_left_16 : decode cX9_left 16 = .ok (.goto 5, 3) := by decide +kernel
theorem dX9_left_19 : decode cX9_left 19 = .ok (.bipush (-2), 2) := by decide +kernel
theorem dX9_left_21 : decode cX9_left 21 = .ok (.ireturn, 1) := by decide +kernel
theorem dX9_brushOf_0 : decode cX9_brushOf 0 = .ok (.iconst (-1), 1) := by decide +kernel
theorem dX9_brushOf_1 : decode cX9_brushOf 1 = .ok (.istore_n 3, 1) := by decide +kernel
theorem dX9_brushOf_2 : decode cX9_brushOf 2 = .ok (.iconst (-1), 1) := by decide +kernel
theorem dX9_brushOf_3 : decode cX9_brushOf 3 = .ok (.istore 4, 2) := by decide +kernel
theorem dX9_brushOf_5 : decode cX9_brushOf 5 = .ok (.aload_n 0, 1) := by decide +kernel
theorem dX9_brushOf_6 : decode cX9_brushOf 6 = .ok (.iload_n 1, 1) := by decide +kernel
theorem dX9_brushOf_7 : decode cX9_brushOf 7 = .ok (.putfield 204, 3) := by decide +kernel
theorem dX9_brushOf_10 : decode cX9_brushOf 10 = .ok (.iconst 0, 1) := by decide +kernel
theorem dX9_brushOf_11 : decode cX9_brushOf 11 = .ok (.istore 5, 2) := by decide +kernel
theorem dX9_brushOf_13 : decode cX9_brushOf 13 = .ok (.iload 5, 2) := by decide +kernel
theorem dX9_brushOf_15 : decode cX9_brushOf 15 = .ok (.bipush 12, 2) := by decide +kernel
theorem dX9_brushOf_17 : decode cX9_brushOf 17 = .ok (.if_icmp .ge 50, 3) := by decide +kernel
theorem dX9_brushOf_20 : decode cX9_brushOf 20 = .ok (.aload_n 0, 1) := by decide +kernel
theorem dX9_brushOf_21 : decode cX9_brushOf 21 = .ok (.iload 5, 2) := by decide +kernel
theorem dX9_brushOf_23 : decode cX9_brushOf 23 = .ok (.putfield 83, 3) := by decide +kernel
theorem dX9_brushOf_26 : decode cX9_brushOf 26 = .ok (.aload_n 0, 1) := by decide +kernel
theorem dX9_brushOf_27 : decode cX9_brushOf 27 = .ok (.invokevirtual 217, 3) := by decide +kernel
theorem dX9_brushOf_30 : decode cX9_brushOf 30 = .ok (.aload_n 0, 1) := by decide +kernel
theorem dX9_brushOf_31 : decode cX9_brushOf 31 = .ok (.getfield 43, 3) := by decide +kernel
theorem dX9_brushOf_34 : decode cX9_brushOf 34 = .ok (.iload_n 1, 1) := by decide +kernel
theorem dX9_brushOf_35 : decode cX9_brushOf 35 = .ok (.iaload, 1) := by decide +kernel
theorem dX9_brushOf_36 : decode cX9_brushOf 36 = .ok (.iload 4, 2) := by decide +kernel
theorem dX9_brushOf_38 : decode cX9_brushOf 38 = .ok (.if_icmp .le 8, 3) := by decide +kernel
theorem dX9_brushOf_41 : decode cX9_brushOf 41 = .ok (.iload 5, 2) := by decide +kernel
theorem dX9_brushOf_43 : decode cX9_brushOf 43 = .ok (.goto 4, 3) := by decide +kernel
theorem dX9_brushOf_46 : decode cX9_brushOf 46 = .ok (.iload_n 3, 1) := by decide +kernel
theorem dX9_brushOf_47 : decode cX9_brushOf 47 = .ok (.istore_n 3, 1) := by decide +kernel
theorem dX9_brushOf_48 : decode cX9_brushOf 48 = .ok (.aload_n 0, 1) := by decide +kernel
theorem dX9_brushOf_49 : decode cX9_brushOf 49 = .ok (.getfield 43, 3) := by decide +kernel
theorem dX9_brushOf_52 : decode cX9_brushOf 52 = .ok (.iload_n 1, 1) := by decide +kernel
theorem dX9_brushOf_53 : decode cX9_brushOf 53 = .ok (.iaload, 1) := by decide +kernel
theorem dX9_brushOf_54 : decode cX9_brushOf 54 = .ok (.iload 4, 2) := by decide +kernel
theorem dX9_brushOf_56 : decode cX9_brushOf 56 = .ok (.invokestatic 181, 3) := by decide +kernel
theorem dX9_brushOf_59 : decode cX9_brushOf 59 = .ok (.istore 4, 2) := by decide +kernel
theorem dX9_brushOf_61 : decode cX9_brushOf 61 = .ok (.iinc 5 1, 3) := by decide +kernel
theorem dX9_brushOf_64 : decode cX9_brushOf 64 = .ok (.goto (-51), 3) := by decide +kernel
theorem dX9_brushOf_67 : decode cX9_brushOf 67 = .ok (.aload_n 0, 1) := by decide +kernel
theorem dX9_brushOf_68 : decode cX9_brushOf 68 = .ok (.iconst (-1), 1) := by decide +kernel
theorem dX9_brushOf_69 : decode cX9_brushOf 69 = .ok (.putfield 83, 3) := by decide +kernel
theorem dX9_brushOf_72 : decode cX9_brushOf 72 = .ok (.iload_n 2, 1) := by decide +kernel
theorem dX9_brushOf_73 : decode cX9_brushOf 73 = .ok (.ifCond .ne 7, 3) := by decide +kernel
theorem dX9_brushOf_76 : decode cX9_brushOf 76 = .ok (.iload_n 3, 1) := by decide +kernel
theorem dX9_brushOf_77 : decode cX9_brushOf 77 = .ok (.goto 5, 3) := by decide +kernel
theorem dX9_brushOf_80 : decode cX9_brushOf 80 = .ok (.iload 4, 2) := by decide +kernel
theorem dX9_brushOf_82 : decode cX9_brushOf 82 = .ok (.ireturn, 1) := by decide +kernel
theorem dX9_brush_0 : decode cX9_brush 0 = .ok (.aload_n 0, 1) := by decide +kernel
theorem dX9_brush_1 : decode cX9_brush 1 = .ok (.invokevirtual 220, 3) := by decide +kernel
theorem dX9_brush_4 : decode cX9_brush 4 = .ok (.aload_n 0, 1) := by decide +kernel
theorem dX9_brush_5 : decode cX9_brush 5 = .ok (.iload_n 1, 1) := by decide +kernel
theorem dX9_brush_6 : decode cX9_brush 6 = .ok (.invokevirtual 158, 3) := by decide +kernel
theorem dX9_brush_9 : decode cX9_brush 9 = .ok (.ifCond .eq 19, 3) := by decide +kernel
theorem dX9_brush_12 : decode cX9_brush 12 = .ok (.iload_n 2, 1) := by decide +kernel
theorem dX9_brush_13 : decode cX9_brush 13 = .ok (.invokestatic 228, 3) := by decide +kernel
theorem dX9_brush_16 : decode cX9_brush 16 = .ok (.ifCond .eq 12, 3) := by decide +kernel
theorem dX9_brush_19 : decode cX9_brush 19 = .ok (.aload_n 0, 1) := by decide +kernel
theorem dX9_brush_20 : decode cX9_brush 20 = .ok (.iload_n 1, 1) := by decide +kernel
theorem dX9_brush_21 : decode cX9_brush 21 = .ok (.iload_n 2, 1) := by decide +kernel
theorem dX9_brush_22 : decode cX9_brush 22 = .ok (.invokevirtual 248, 3) := by decide +kernel
theorem dX9_brush_25 : decode cX9_brush 25 = .ok (.goto 5, 3) := by decide +kernel
theorem dX9_brush_28 : decode cX9_brush 28 = .ok (.bipush (-2), 2) := by decide +kernel
theorem dX9_brush_30 : decode cX9_brush 30 = .ok (.ireturn, 1) := by decide +kernel
theorem dX9_rivalOf_0 : decode cX9_rivalOf 0 = .ok (.iconst (-1), 1) := by decide +kernel
theorem dX9_rivalOf_1 : decode cX9_rivalOf 1 = .ok (.istore_n 3, 1) := by decide +kernel
theorem dX9_rivalOf_2 : decode cX9_rivalOf 2 = .ok (.iconst (-1), 1) := by decide +kernel
theorem dX9_rivalOf_3 : decode cX9_rivalOf 3 = .ok (.istore 4, 2) := by decide +kernel
theorem dX9_rivalOf_5 : decode cX9_rivalOf 5 = .ok (.iconst 0, 1) := by decide +kernel
theorem dX9_rivalOf_6 : decode cX9_rivalOf 6 = .ok (.istore 5, 2) := by decide +kernel
theorem dX9_rivalOf_8 : decode cX9_rivalOf 8 = .ok (.iload 5, 2) := by decide +kernel
theorem dX9_rivalOf_10 : decode cX9_rivalOf 10 = .ok (.aload_n 0, 1) := by decide +kernel
theorem dX9_rivalOf_11 : decode cX9_rivalOf 11 = .ok (.getfield 128, 3) := by decide +kernel
theorem dX9_rivalOf_14 : decode cX9_rivalOf 14 = .ok (.if_icmp .ge 56, 3) := by decide +kernel
theorem dX9_rivalOf_17 : decode cX9_rivalOf 17 = .ok (.iload 5, 2) := by decide +kernel
theorem dX9_rivalOf_19 : decode cX9_rivalOf 19 = .ok (.iload_n 1, 1) := by decide +kernel
theorem dX9_rivalOf_20 : decode cX9_rivalOf 20 = .ok (.if_icmp .eq 44, 3) := by decide +kernel
theorem dX9_rivalOf_23 : decode cX9_rivalOf 23 = .ok (.aload_n 0, 1) := by decide +kernel
theorem dX9_rivalOf_24 : decode cX9_rivalOf 24 = .ok (.iload 5, 2) := by decide +kernel
theorem dX9_rivalOf_26 : decode cX9_rivalOf 26 = .ok (.putfield 87, 3) := by decide +kernel
theorem dX9_rivalOf_29 : decode cX9_rivalOf 29 = .ok (.aload_n 0, 1) := by decide +kernel
end
section
theorem dX9_rivalOf_30 : decode cX9_rivalOf 30 = .ok (.invokevirtual 217, 3) := by decide +kernel
theorem dX9_rivalOf_33 : decode cX9_rivalOf 33 = .ok (.aload_n 0, 1) := by decide +kernel
theorem dX9_rivalOf_34 : decode cX9_rivalOf 34 = .ok (.getfield 43, 3) := by decide +kernel
theorem dX9_rivalOf_37 : decode cX9_rivalOf 37 = .ok (.iload_n 1, 1) := by decide +kernel
theorem dX9_rivalOf_38 : decode cX9_rivalOf 38 = .ok (.iaload, 1) := by decide +kernel
theorem dX9_rivalOf_39 : decode cX9_rivalOf 39 = .ok (.iload 4, 2) := by decide +kernel
theorem dX9_rivalOf_41 : decode cX9_rivalOf 41 = .ok (.if_icmp .le 8, 3) := by decide +kernel
theorem dX9_rivalOf_44 : decode cX9_rivalOf 44 = .ok (.iload 5, 2) := by decide +kernel
theorem dX9_rivalOf_46 : decode cX9_rivalOf 46 = .ok (.goto 4, 3) := by decide +kernel
theorem dX9_rivalOf_49 : decode cX9_rivalOf 49 = .ok (.iload_n 3, 1) := by decide +kernel
theorem dX9_rivalOf_50 : decode cX9_rivalOf 50 = .ok (.istore_n 3, 1) := by decide +kernel
theorem dX9_rivalOf_51 : decode cX9_rivalOf 51 = .ok (.aload_n 0, 1) := by decide +kernel
theorem dX9_rivalOf_52 : decode cX9_rivalOf 52 = .ok (.getfield 43, 3) := by decide +kernel
theorem dX9_rivalOf_55 : decode cX9_rivalOf 55 = .ok (.iload_n 1, 1) := by decide +kernel
theorem dX9_rivalOf_56 : decode cX9_rivalOf 56 = .ok (.iaload, 1) := by decide +kernel
theorem dX9_rivalOf_57 : decode cX9_rivalOf 57 = .ok (.iload 4, 2) := by decide +kernel
theorem dX9_rivalOf_59 : decode cX9_rivalOf 59 = .ok (.invokestatic 181, 3) := by decide +kernel
theorem dX9_rivalOf_62 : decode cX9_rivalOf 62 = .ok (.istore 4, 2) := by decide +kernel
theorem dX9_rivalOf_64 : decode cX9_rivalOf 64 = .ok (.iinc 5 1, 3) := by decide +kernel
theorem dX9_rivalOf_67 : decode cX9_rivalOf 67 = .ok (.goto (-59), 3) := by decide +kernel
theorem dX9_rivalOf_70 : decode cX9_rivalOf 70 = .ok (.aload_n 0, 1) := by decide +kernel
theorem dX9_rivalOf_71 : decode cX9_rivalOf 71 = .ok (.iconst (-1), 1) := by decide +kernel
theorem dX9_rivalOf_72 : decode cX9_rivalOf 72 = .ok (.putfield 87, 3) := by decide +kernel
theorem dX9_rivalOf_75 : decode cX9_rivalOf 75 = .ok (.iload_n 2, 1) := by decide +kernel
theorem dX9_rivalOf_76 : decode cX9_rivalOf 76 = .ok (.ifCond .ne 7, 3) := by decide +kernel
theorem dX9_rivalOf_79 : decode cX9_rivalOf 79 = .ok (.iload_n 3, 1) := by decide +kernel
theorem dX9_rivalOf_80 : decode cX9_rivalOf 80 = .ok (.goto 5, 3) := by decide +kernel
theorem dX9_rivalOf_83 : decode cX9_rivalOf 83 = .ok (.iload 4, 2) := by decide +kernel
theorem dX9_rivalOf_85 : decode cX9_rivalOf 85 = .ok (.ireturn, 1) := by decide +kernel
theorem dX9_rival_0 : decode cX9_rival 0 = .ok (.aload_n 0, 1) := by decide +kernel
theorem dX9_rival_1 : decode cX9_rival 1 = .ok (.invokevirtual 220, 3) := by decide +kernel
theorem dX9_rival_4 : decode cX9_rival 4 = .ok (.aload_n 0, 1) := by decide +kernel
theorem dX9_rival_5 : decode cX9_rival 5 = .ok (.iload_n 1, 1) := by decide +kernel
theorem dX9_rival_6 : decode cX9_rival 6 = .ok (.invokevirtual 158, 3) := by decide +kernel
theorem dX9_rival_9 : decode cX9_rival 9 = .ok (.ifCond .eq 19, 3) := by decide +kernel
theorem dX9_rival_12 : decode cX9_rival 12 = .ok (.iload_n 2, 1) := by decide +kernel
theorem dX9_rival_13 : decode cX9_rival 13 = .ok (.invokestatic 228, 3) := by decide +kernel
theorem dX9_rival_16 : decode cX9_rival 16 = .ok (.ifCond .eq 12, 3) := by decide +kernel
theorem dX9_rival_19 : decode cX9_rival 19 = .ok (.aload_n 0, 1) := by decide +kernel
theorem dX9_rival_20 : decode cX9_rival 20 = .ok (.iload_n 1, 1) := by decide +kernel
theorem dX9_rival_21 : decode cX9_rival 21 = .ok (.iload_n 2, 1) := by decide +kernel
theorem dX9_rival_22 : decode cX9_rival 22 = .ok (.invokevirtual 251, 3) := by decide +kernel
theorem dX9_rival_25 : decode cX9_rival 25 = .ok (.goto 5, 3) := by decide +kernel
theorem dX9_rival_28 : decode cX9_rival 28 = .ok (.bipush (-2), 2) := by decide +kernel
theorem dX9_rival_30 : decode cX9_rival 30 = .ok (.ireturn, 1) := by decide +kernel
theorem dX9_sendOf_0 : decode cX9_sendOf 0 = .ok (.aload_n 0, 1) := by decide +kernel
theorem dX9_sendOf_1 : decode cX9_sendOf 1 = .ok (.getfield 34, 3) := by decide +kernel
theorem dX9_sendOf_4 : decode cX9_sendOf 4 = .ok (.iload_n 1, 1) := by decide +kernel
theorem dX9_sendOf_5 : decode cX9_sendOf 5 = .ok (.iaload, 1) := by decide +kernel
theorem dX9_sendOf_6 : decode cX9_sendOf 6 = .ok (.istore 4, 2) := by decide +kernel
theorem dX9_sendOf_8 : decode cX9_sendOf 8 = .ok (.iconst (-1), 1) := by decide +kernel
theorem dX9_sendOf_9 : decode cX9_sendOf 9 = .ok (.istore 5, 2) := by decide +kernel
theorem dX9_sendOf_11 : decode cX9_sendOf 11 = .ok (.iconst (-1), 1) := by decide +kernel
theorem dX9_sendOf_12 : decode cX9_sendOf 12 = .ok (.istore 6, 2) := by decide +kernel
theorem dX9_sendOf_14 : decode cX9_sendOf 14 = .ok (.iconst 0, 1) := by decide +kernel
theorem dX9_sendOf_15 : decode cX9_sendOf 15 = .ok (.istore 7, 2) := by decide +kernel
theorem dX9_sendOf_17 : decode cX9_sendOf 17 = .ok (.iload 7, 2) := by decide +kernel
theorem dX9_sendOf_19 : decode cX9_sendOf 19 = .ok (.aload_n 0, 1) := by decide +kernel
theorem dX9_sendOf_20 : decode cX9_sendOf 20 = .ok (.getfield 134, 3) := by decide +kernel
theorem dX9_sendOf_23 : decode cX9_sendOf 23 = .ok (.if_icmp .ge 53, 3) := by decide +kernel
theorem dX9_sendOf_26 : decode cX9_sendOf 26 = .ok (.aload_n 0, 1) := by decide +kernel
theorem dX9_sendOf_27 : decode cX9_sendOf 27 = .ok (.getfield 34, 3) := by decide +kernel
theorem dX9_sendOf_30 : decode cX9_sendOf 30 = .ok (.iload_n 1, 1) := by decide +kernel
theorem dX9_sendOf_31 : decode cX9_sendOf 31 = .ok (.iload 7, 2) := by decide +kernel
theorem dX9_sendOf_33 : decode cX9_sendOf 33 = .ok (.iastore, 1) := by decide +kernel
theorem dX9_sendOf_34 : decode cX9_sendOf 34 = .ok (.aload_n 0, 1) := by decide +kernel
theorem dX9_sendOf_35 : decode cX9_sendOf 35 = .ok (.invokevirtual 217, 3) := by decide +kernel
theorem dX9_sendOf_38 : decode cX9_sendOf 38 = .ok (.aload_n 0, 1) := by decide +kernel
theorem dX9_sendOf_39 : decode cX9_sendOf 39 = .ok (.iload_n 2, 1) := by decide +kernel
theorem dX9_sendOf_40 : decode cX9_sendOf 40 = .ok (.invokevirtual 236, 3) := by decide +kernel
theorem dX9_sendOf_43 : decode cX9_sendOf 43 = .ok (.istore 8, 2) := by decide +kernel
theorem dX9_sendOf_45 : decode cX9_sendOf 45 = .ok (.iload 8, 2) := by decide +kernel
theorem dX9_sendOf_47 : decode cX9_sendOf 47 = .ok (.iload 6, 2) := by decide +kernel
theorem dX9_sendOf_49 : decode cX9_sendOf 49 = .ok (.if_icmp .le 8, 3) := by decide +kernel
theorem dX9_sendOf_52 : decode cX9_sendOf 52 = .ok (.iload 7, 2) := by decide +kernel
theorem dX9_sendOf_54 : decode cX9_sendOf 54 = .ok (.goto 5, 3) := by decide +kernel
theorem dX9_sendOf_57 : decode cX9_sendOf 57 = .ok (.iload 5, 2) := by decide +kernel
theorem dX9_sendOf_59 : decode cX9_sendOf 59 = .ok (.istore 5, 2) := by decide +kernel
theorem dX9_sendOf_61 : decode cX9_sendOf 61 = .ok (.iload 8, 2) := by decide +kernel
theorem dX9_sendOf_63 : decode cX9_sendOf 63 = .ok (.iload 6, 2) := by decide +kernel
theorem dX9_sendOf_65 : decode cX9_sendOf 65 = .ok (.invokestatic 181, 3) := by decide +kernel
theorem dX9_sendOf_68 : decode cX9_sendOf 68 = .ok (.istore 6, 2) := by decide +kernel
theorem dX9_sendOf_70 : decode cX9_sendOf 70 = .ok (.iinc 7 1, 3) := by decide +kernel
theorem dX9_sendOf_73 : decode cX9_sendOf 73 = .ok (.goto (-56), 3) := by decide +kernel
theorem dX9_sendOf_76 : decode cX9_sendOf 76 = .ok (.aload_n 0, 1) := by decide +kernel
theorem dX9_sendOf_77 : decode cX9_sendOf 77 = .ok (.getfield 34, 3) := by decide +kernel
theorem dX9_sendOf_80 : decode cX9_sendOf 80 = .ok (.iload_n 1, 1) := by decide +kernel
theorem dX9_sendOf_81 : decode cX9_sendOf 81 = .ok (.iload 4, 2) := by decide +kernel
theorem dX9_sendOf_83 : decode cX9_sendOf 83 = .ok (.iastore, 1) := by decide +kernel
theorem dX9_sendOf_84 : decode cX9_sendOf 84 = .ok (.iload_n 3, 1) := by decide +kernel
theorem dX9_sendOf_85 : decode cX9_sendOf 85 = .ok (.ifCond .ne 8, 3) := by decide +kernel
theorem dX9_sendOf_88 : decode cX9_sendOf 88 = .ok (.iload 5, 2) := by decide +kernel
theorem dX9_sendOf_90 : decode cX9_sendOf 90 = .ok (.goto 5, 3) := by decide +kernel
theorem dX9_sendOf_93 : decode cX9_sendOf 93 = .ok (.iload 6, 2) := by decide +kernel
theorem dX9_sendOf_95 : decode cX9_sendOf 95 = .ok (.ireturn, 1) := by decide +kernel
theorem dX9_send_0 : decode cX9_send 0 = .ok (.aload_n 0, 1) := by decide +kernel
theorem dX9_send_1 : decode cX9_send 1 = .ok (.invokevirtual 220, 3) := by decide +kernel
theorem dX9_send_4 : decode cX9_send 4 = .ok (.iload_n 1, 1) := by decide +kernel
theorem dX9_send_5 : decode cX9_send 5 = .ok (.invokestatic 164, 3) := by decide +kernel
theorem dX9_send_8 : decode cX9_send 8 = .ok (.ifCond .eq 32, 3) := by decide +kernel
theorem dX9_send_11 : decode cX9_send 11 = .ok (.iload_n 2, 1) := by decide +kernel
theorem dX9_send_12 : decode cX9_send 12 = .ok (.i2l, 1) := by decide +kernel
theorem dX9_send_13 : decode cX9_send 13 = .ok (.lconst 0, 1) := by decide +kernel
theorem dX9_send_14 : decode cX9_send 14 = .ok (.ldc2_w 234, 3) := by decide +kernel
theorem dX9_send_17 : decode cX9_send 17 = .ok (.invokestatic 92, 3) := by decide +kernel
theorem dX9_send_20 : decode cX9_send 20 = .ok (.ifCond .eq 20, 3) := by decide +kernel
theorem dX9_send_23 : decode cX9_send 23 = .ok (.iload_n 3, 1) := by decide +kernel
theorem dX9_send_24 : decode cX9_send 24 = .ok (.invokestatic 228, 3) := by decide +kernel
theorem dX9_send_27 : decode cX9_send 27 = .ok (.ifCond .eq 13, 3) := by decide +kernel
theorem dX9_send_30 : decode cX9_send 30 = .ok (.aload_n 0, 1) := by decide +kernel
theorem dX9_send_31 : decode cX9_send 31 = .ok (.iload_n 1, 1) := by decide +kernel
theorem dX9_send_32 : decode cX9_send 32 = .ok (.iload_n 2, 1) := by decide +kernel
theorem dX9_send_33 : decode cX9_send 33 = .ok (.iload_n 3, 1) := by decide +kernel
theorem dX9_send_34 : decode cX9_send 34 = .ok (.invokevirtual 254, 3) := by decide +kernel
theorem dX9_send_37 : decode cX9_send 37 = .ok (.goto 5, 3) := by decide +kernel
theorem dX9_send_40 : decode cX9_send 40 = .ok (.bipush (-2), 2) := by decide +kernel
theorem dX9_send_42 : decode cX9_send 42 = .ok (.ireturn, 1) := by decide +kernel
theorem dX9_isSpared_0 : decode cX9_isSpared 0 = .ok (.aload_n 0, 1) := by decide +kernel
theorem dX9_isSpared_1 : decode cX9_isSpared 1 = .ok (.iload_n 1, 1) := by decide +kernel
theorem dX9_isSpared_2 : decode cX9_isSpared 2 = .ok (.putfield 197, 3) := by decide +kernel
theorem dX9_isSpared_5 : decode cX9_isSpared 5 = .ok (.aload_n 0, 1) := by decide +kernel
theorem dX9_isSpared_6 : decode cX9_isSpared 6 = .ok (.invokevirtual 217, 3) := by decide +kernel
theorem dX9_isSpared_9 : decode cX9_isSpared 9 = .ok (.aload_n 0, 1) := by decide +kernel
theorem dX9_isSpared_10 : decode cX9_isSpared 10 = .ok (.iconst 0, 1) := by decide +kernel
theorem dX9_isSpared_11 : decode cX9_isSpared 11 = .ok (.putfield 197, 3) := by decide +kernel
theorem dX9_isSpared_14 : decode cX9_isSpared 14 = .ok (.aload_n 0, 1) := by decide +kernel
theorem dX9_isSpared_15 : decode cX9_isSpared 15 = .ok (.iconst 0, 1) := by decide +kernel
theorem dX9_isSpared_16 : decode cX9_isSpared 16 = .ok (.invokevirtual 245, 3) := by decide +kernel
theorem dX9_isSpared_19 : decode cX9_isSpared 19 = .ok (.ifCond .ne 7, 3) := by decide +kernel
theorem dX9_isSpared_22 : decode cX9_isSpared 22 = .ok (.iconst 1, 1) := by decide +kernel
theorem dX9_isSpared_23 : decode cX9_isSpared 23 = .ok (.goto 4, 3) := by decide +kernel
theorem dX9_isSpared_26 : decode cX9_isSpared 26 = .ok (.iconst 0, 1) := by decide +kernel
theorem dX9_isSpared_27 : decode cX9_isSpared 27 = .ok (.ireturn, 1) := by decide +kernel
theorem dX9_spareBy_0 : decode cX9_spareBy 0 = .ok (.aload_n 0, 1) := by decide +kernel
theorem dX9_spareBy_1 : decode cX9_spareBy 1 = .ok (.iconst 0, 1) := by decide +kernel
theorem dX9_spareBy_2 : decode cX9_spareBy 2 = .ok (.invokevirtual 257, 3) := by decide +kernel
theorem dX9_spareBy_5 : decode cX9_spareBy 5 = .ok (.ifCond .eq 14, 3) := by decide +kernel
theorem dX9_spareBy_8 : decode cX9_spareBy 8 = .ok (.iload_n 1, 1) := by decide +kernel
theorem dX9_spareBy_9 : decode cX9_spareBy 9 = .ok (.iconst (-1), 1) := by decide +kernel
theorem dX9_spareBy_10 : decode cX9_spareBy 10 = .ok (.if_icmp .ne 7, 3) := by decide +kernel
theorem dX9_spareBy_13 : decode cX9_spareBy 13 = .ok (.iconst 0, 1) := by decide +kernel
theorem dX9_spareBy_14 : decode cX9_spareBy 14 = .ok (.goto 4, 3) := by decide +kernel
theorem dX9_spareBy_17 : decode cX9_spareBy 17 = .ok (.iconst (-1), 1) := by decide +kernel
theorem dX9_spareBy_18 : decode cX9_spareBy 18 = .ok (.ireturn, 1) := by decide +kernel
theorem dX9_spareBy_19 : decode cX9_spareBy 19 = .ok (.iconst 0, 1) := by decide +kernel
theorem dX9_spareBy_20 : decode cX9_spareBy 20 = .ok (.istore_n 2, 1) := by decide +kernel
theorem dX9_spareBy_21 : decode cX9_spareBy 21 = .ok (.iload_n 2, 1) := by decide +kernel
theorem dX9_spareBy_22 : decode cX9_spareBy 22 = .ok (.aload_n 0, 1) := by decide +kernel
theorem dX9_spareBy_23 : decode cX9_spareBy 23 = .ok (.getfield 169, 3) := by decide +kernel
theorem dX9_spareBy_26 : decode cX9_spareBy 26 = .ok (.if_icmp .ge 38, 3) := by decide +kernel
theorem dX9_spareBy_29 : decode cX9_spareBy 29 = .ok (.aload_n 0, 1) := by decide +kernel
theorem dX9_spareBy_30 : decode cX9_spareBy 30 = .ok (.iconst 1, 1) := by decide +kernel
theorem dX9_spareBy_31 : decode cX9_spareBy 31 = .ok (.iload_n 2, 1) := by decide +kernel
theorem dX9_spareBy_32 : decode cX9_spareBy 32 = .ok (.ishl, 1) := by decide +kernel
theorem dX9_spareBy_33 : decode cX9_spareBy 33 = .ok (.invokevirtual 257, 3) := by decide +kernel
theorem dX9_spareBy_36 : decode cX9_spareBy 36 = .ok (.ifCond .eq 22, 3) := by decide +kernel
theorem dX9_spareBy_39 : decode cX9_spareBy 39 = .ok (.iload_n 1, 1) := by decide +kernel
theorem dX9_spareBy_40 : decode cX9_spareBy 40 = .ok (.iconst (-1), 1) := by decide +kernel
theorem dX9_spareBy_41 : decode cX9_spareBy 41 = .ok (.if_icmp .ne 7, 3) := by decide +kernel
theorem dX9_spareBy_44 : decode cX9_spareBy 44 = .ok (.iconst 1, 1) := by decide +kernel
theorem dX9_spareBy_45 : decode cX9_spareBy 45 = .ok (.goto 12, 3) := by decide +kernel
theorem dX9_spareBy_48 : decode cX9_spareBy 48 = .ok (.iload_n 1, 1) := by decide +kernel
theorem dX9_spareBy_49 : decode cX9_spareBy 49 = .ok (.ifCond .ne 7, 3) := by decide +kernel
theorem dX9_spareBy_52 : decode cX9_spareBy 52 = .ok (.iload_n 2, 1) := by decide +kernel
theorem dX9_spareBy_53 : decode cX9_spareBy 53 = .ok (.goto 4, 3) := by decide +kernel
theorem dX9_spareBy_56 : decode cX9_spareBy 56 = .ok (.iconst (-1), 1) := by decide +kernel
theorem dX9_spareBy_57 : decode cX9_spareBy 57 = .ok (.ireturn, 1) := by decide +kernel
theorem dX9_spareBy_58 : decode cX9_spareBy 58 = .ok (.iinc 2 1, 3) := by decide +kernel
theorem dX9_spareBy_61 : decode cX9_spareBy 61 = .ok (.goto (-40), 3) := by decide +kernel
theorem dX9_spareBy_64 : decode cX9_spareBy 64 = .ok (.iconst 0, 1) := by decide +kernel
theorem dX9_spareBy_65 : decode cX9_spareBy 65 = .ok (.istore_n 2, 1) := by decide +kernel
theorem dX9_spareBy_66 : decode cX9_spareBy 66 = .ok (.iload_n 2, 1) := by decide +kernel
theorem dX9_spareBy_67 : decode cX9_spareBy 67 = .ok (.aload_n 0, 1) := by decide +kernel
theorem dX9_spareBy_68 : decode cX9_spareBy 68 = .ok (.getfield 169, 3) := by decide +kernel
theorem dX9_spareBy_71 : decode cX9_spareBy 71 = .ok (.if_icmp .ge 60, 3) := by decide +kernel
theorem dX9_spareBy_74 : decode cX9_spareBy 74 = .ok (.iload_n 2, 1) := by decide +kernel
theorem dX9_spareBy_75 : decode cX9_spareBy 75 = .ok (.iconst 1, 1) := by decide +kernel
theorem dX9_spareBy_76 : decode cX9_spareBy 76 = .ok (.iadd, 1) := by decide +kernel
theorem dX9_spareBy_77 : decode cX9_spareBy 77 = .ok (.istore_n 3, 1) := by decide +kernel
theorem dX9_spareBy_78 : decode cX9_spareBy 78 = .ok (.iload_n 3, 1) := by decide +kernel
theorem dX9_spareBy_79 : decode cX9_spareBy 79 = .ok (.aload_n 0, 1) := by decide +kernel
theorem dX9_spareBy_80 : decode cX9_spareBy 80 = .ok (.getfield 169, 3) := by decide +kernel
theorem dX9_spareBy_83 : decode cX9_spareBy 83 = .ok (.if_icmp .ge 42, 3) := by decide +kernel
theorem dX9_spareBy_86 : decode cX9_spareBy 86 = .ok (.aload_n 0, 1) := by decide +kernel
theorem dX9_spareBy_87 : decode cX9_spareBy 87 = .ok (.iconst 1, 1) := by decide +kernel
theorem dX9_spareBy_88 : decode cX9_spareBy 88 = .ok (.iload_n 2, 1) := by decide +kernel
theorem dX9_spareBy_89 : decode cX9_spareBy 89 = .ok (.ishl, 1) := by decide +kernel
theorem dX9_spareBy_90 : decode cX9_spareBy 90 = .ok (.iconst 1, 1) := by decide +kernel
theorem dX9_spareBy_91 : decode cX9_spareBy 91 = .ok (.iload_n 3, 1) := by decide +kernel
theorem dX9_spareBy_92 : decode cX9_spareBy 92 = .ok (.ishl, 1) := by decide +kernel
theorem dX9_spareBy_93 : decode cX9_spareBy 93 = .ok (.ior, 1) := by decide +kernel
theorem dX9_spareBy_94 : decode cX9_spareBy 94 = .ok (.invokevirtual 257, 3) := by decide +kernel
theorem dX9_spareBy_97 : decode cX9_spareBy 97 = .ok (.ifCond .eq 22, 3) := by decide +kernel
theorem dX9_spareBy_100 : decode cX9_spareBy 100 = .ok (.iload_n 1, 1) := by decide +kernel
theorem dX9_spareBy_101 : decode cX9_spareBy 101 = .ok (.iconst (-1), 1) := by decide +kernel
theorem dX9_spareBy_102 : decode cX9_spareBy 102 = .ok (.if_icmp .ne 7, 3) := by decide +kernel
theorem dX9_spareBy_105 : decode cX9_spareBy 105 = .ok (.iconst 2, 1) := by decide +kernel
theorem dX9_spareBy_106 : decode cX9_spareBy 106 = .ok (.goto 12, 3) := by decide +kernel
theorem dX9_spareBy_109 : decode cX9_spareBy 109 = .ok (.iload_n 1, 1) := by decide +kernel
theorem dX9_spareBy_110 : decode cX9_spareBy 110 = .ok (.ifCond .ne 7, 3) := by decide +kernel
theorem dX9_spareBy_113 : decode cX9_spareBy 113 = .ok (.iload_n 2, 1) := by decide +kernel
theorem dX9_spareBy_114 : decode cX9_spareBy 114 = .ok (.goto 4, 3) := by decide +kernel
theorem dX9_spareBy_117 : decode cX9_spareBy 117 = .ok (.iload_n 3, 1) := by decide +kernel
theorem dX9_spareBy_118 : decode cX9_spareBy 118 = .ok (.ireturn, 1) := by decide +kernel
theorem dX9_spareBy_119 : decode cX9_spareBy 119 = .ok (.iinc 3 1, 3) := by decide +kernel
theorem dX9_spareBy_122 : decode cX9_spareBy 122 = .ok (.goto (-44), 3) := by decide +kernel
theorem dX9_spareBy_125 : decode cX9_spareBy 125 = .ok (.iinc 2 1, 3) := by decide +kernel
theorem dX9_spareBy_128 : decode cX9_spareBy 128 = .ok (.goto (-62), 3) := by decide +kernel
theorem dX9_spareBy_131 : decode cX9_spareBy 131 = .ok (.iconst (-1), 1) := by decide +kernel
theorem dX9_spareBy_132 : decode cX9_spareBy 132 = .ok (.ireturn, 1) := by decide +kernel
theorem dX9_spare_0 : decode cX9_spare 0 = .ok (.aload_n 0, 1) := by decide +kernel
theorem dX9_spare_1 : decode cX9_spare 1 = .ok (.invokevirtual 220, 3) := by decide +kernel
theorem dX9_spare_4 : decode cX9_spare 4 = .ok (.iload_n 1, 1) := by decide +kernel
theorem dX9_spare_5 : decode cX9_spare 5 = .ok (.i2l, 1) := by decide +kernel
theorem dX9_spare_6 : decode cX9_spare 6 = .ok (.ldc2_w 260, 3) := by decide +kernel
theorem dX9_spare_9 : decode cX9_spare 9 = .ok (.lconst 1, 1) := by decide +kernel
theorem dX9_spare_10 : decode cX9_spare 10 = .ok (.invokestatic 92, 3) := by decide +kernel
theorem dX9_spare_13 : decode cX9_spare 13 = .ok (.ifCond .eq 11, 3) := by decide +kernel
theorem dX9_spare_16 : decode cX9_spare 16 = .ok (.aload_n 0, 1) := by decide +kernel
theorem dX9_spare_17 : decode cX9_spare 17 = .ok (.iload_n 1, 1) := by decide +kernel
theorem dX9_spare_18 : decode cX9_spare 18 = .ok (.invokevirtual 262, 3) := by decide +kernel
theorem dX9_spare_21 : decode cX9_spare 21 = .ok (.goto 5, 3) := by decide +kernel
theorem dX9_spare_24 : decode cX9_spare 24 = .ok (.bipush (-2), 2) := by decide +kernel
theorem dX9_spare_26 : decode cX9_spare 26 = .ok (.ireturn, 1) := by decide +kernel
theorem dX9_seen_0 : decode cX9_seen 0 = .ok (.iload_n 1, 1) := by decide +kernel
theorem dX9_seen_1 : decode cX9_seen 1 = .ok (.invokestatic 164, 3) := by decide +kernel
theorem dX9_seen_4 : decode cX9_seen 4 = .ok (.ifCond .eq 27, 3) := by decide +kernel
theorem dX9_seen_7 : decode cX9_seen 7 = .ok (.iload_n 2, 1) := by decide +kernel
theorem dX9_seen_8 : decode cX9_seen 8 = .ok (.i2l, 1) := by decide +kernel
theorem dX9_seen_9 : decode cX9_seen 9 = .ok (.lconst 0, 1) := by decide +kernel
theorem dX9_seen_10 : decode cX9_seen 10 = .ok (.ldc2_w 167, 3) := by decide +kernel
theorem dX9_seen_13 : decode cX9_seen 13 = .ok (.invokestatic 92, 3) := by decide +kernel
theorem dX9_seen_16 : decode cX9_seen 16 = .ok (.ifCond .eq 15, 3) := by decide +kernel
theorem dX9_seen_19 : decode cX9_seen 19 = .ok (.iload_n 3, 1) := by decide +kernel
theorem dX9_seen_20 : decode cX9_seen 20 = .ok (.i2l, 1) := by decide +kernel
theorem dX9_seen_21 : decode cX9_seen 21 = .ok (.lconst 0, 1) := by decide +kernel
theorem dX9_seen_22 : decode cX9_seen 22 = .ok (.ldc2_w 99, 3) := by decide +kernel
theorem dX9_seen_25 : decode cX9_seen 25 = .ok (.invokestatic 92, 3) := by decide +kernel
theorem dX9_seen_28 : decode cX9_seen 28 = .ok (.ifCond .ne 6, 3) := by decide +kernel
theorem dX9_seen_31 : decode cX9_seen 31 = .ok (.bipush (-2), 2) := by decide +kernel
theorem dX9_seen_33 : decode cX9_seen 33 = .ok (.ireturn, 1) := by decide +kernel
theorem dX9_seen_34 : decode cX9_seen 34 = .ok (.aload_n 0, 1) := by decide +kernel
theorem dX9_seen_35 : decode cX9_seen 35 = .ok (.getfield 265, 3) := by decide +kernel
theorem dX9_seen_38 : decode cX9_seen 38 = .ok (.bipush 8, 2) := by decide +kernel
theorem dX9_seen_40 : decode cX9_seen 40 = .ok (.if_icmp .ne 6, 3) := by decide +kernel
theorem dX9_seen_43 : decode cX9_seen 43 = .ok (.bipush (-4), 2) := by decide +kernel
theorem dX9_seen_45 : decode cX9_seen 45 = .ok (.ireturn, 1) := by decide +kernel
theorem dX9_seen_46 : decode cX9_seen 46 = .ok (.aload_n 0, 1) := by decide +kernel
theorem dX9_seen_47 : decode cX9_seen 47 = .ok (.getfield 77, 3) := by decide +kernel
theorem dX9_seen_50 : decode cX9_seen 50 = .ok (.iconst 3, 1) := by decide +kernel
theorem dX9_seen_51 : decode cX9_seen 51 = .ok (.aload_n 0, 1) := by decide +kernel
theorem dX9_seen_52 : decode cX9_seen 52 = .ok (.getfield 265, 3) := by decide +kernel
theorem dX9_seen_55 : decode cX9_seen 55 = .ok (.imul, 1) := by decide +kernel
theorem dX9_seen_56 : decode cX9_seen 56 = .ok (.iload_n 1, 1) := by decide +kernel
theorem dX9_seen_57 : decode cX9_seen 57 = .ok (.iastore, 1) := by decide +kernel
theorem dX9_seen_58 : decode cX9_seen 58 = .ok (.aload_n 0, 1) := by decide +kernel
theorem dX9_seen_59 : decode cX9_seen 59 = .ok (.getfield 77, 3) := by decide +kernel
theorem dX9_seen_62 : decode cX9_seen 62 = .ok (.iconst 3, 1) := by decide +kernel
theorem dX9_seen_63 : decode cX9_seen 63 = .ok (.aload_n 0, 1) := by decide +kernel
theorem dX9_seen_64 : decode cX9_seen 64 = .ok (.getfield 265, 3) := by decide +kernel
theorem dX9_seen_67 : decode cX9_seen 67 = .ok (.imul, 1) := by decide +kernel
theorem dX9_seen_68 : decode cX9_seen 68 = .ok (.iconst 1, 1) := by decide +kernel
theorem dX9_seen_69 : decode cX9_seen 69 = .ok (.iadd, 1) := by decide +kernel
theorem dX9_seen_70 : decode cX9_seen 70 = .ok (.iload_n 2, 1) := by decide +kernel
theorem dX9_seen_71 : decode cX9_seen 71 = .ok (.iastore, 1) := by decide +kernel
theorem dX9_seen_72 : decode cX9_seen 72 = .ok (.aload_n 0, 1) := by decide +kernel
theorem dX9_seen_73 : decode cX9_seen 73 = .ok (.getfield 77, 3) := by decide +kernel
theorem dX9_seen_76 : decode cX9_seen 76 = .ok (.iconst 3, 1) := by decide +kernel
theorem dX9_seen_77 : decode cX9_seen 77 = .ok (.aload_n 0, 1) := by decide +kernel
theorem dX9_seen_78 : decode cX9_seen 78 = .ok (.getfield 265, 3) := by decide +kernel
theorem dX9_seen_81 : decode cX9_seen 81 = .ok (.imul, 1) := by decide +kernel
theorem dX9_seen_82 : decode cX9_seen 82 = .ok (.iconst 2, 1) := by decide +kernel
theorem dX9_seen_83 : decode cX9_seen 83 = .ok (.iadd, 1) := by decide +kernel
theorem dX9_seen_84 : decode cX9_seen 84 = .ok (.iload_n 3, 1) := by decide +kernel
theorem dX9_seen_85 : decode cX9_seen 85 = .ok (.iastore, 1) := by decide +kernel
theorem dX9_seen_86 : decode cX9_seen 86 = .ok (.aload_n 0, 1) := by decide +kernel
theorem dX9_seen_87 : decode cX9_seen 87 = .ok (.dup, 1) := by decide +kernel
theorem dX9_seen_88 : decode cX9_seen 88 = .ok (.getfield 265, 3) := by decide +kernel
theorem dX9_seen_91 : decode cX9_seen 91 = .ok (.iconst 1, 1) := by decide +kernel
theorem dX9_seen_92 : decode cX9_seen 92 = .ok (.iadd, 1) := by decide +kernel
theorem dX9_seen_93 : decode cX9_seen 93 = .ok (.putfield 265, 3) := by decide +kernel
theorem dX9_seen_96 : decode cX9_seen 96 = .ok (.aload_n 0, 1) := by decide +kernel
theorem dX9_seen_97 : decode cX9_seen 97 = .ok (.getfield 265, 3) := by decide +kernel
theorem dX9_seen_100 : decode cX9_seen 100 = .ok (.ireturn, 1) := by decide +kernel
theorem dX9_forget_0 : decode cX9_forget 0 = .ok (.aload_n 0, 1) := by decide +kernel
theorem dX9_forget_1 : decode cX9_forget 1 = .ok (.getfield 265, 3) := by decide +kernel
theorem dX9_forget_4 : decode cX9_forget 4 = .ok (.istore_n 1, 1) := by decide +kernel
theorem dX9_forget_5 : decode cX9_forget 5 = .ok (.aload_n 0, 1) := by decide +kernel
theorem dX9_forget_6 : decode cX9_forget 6 = .ok (.iconst 0, 1) := by decide +kernel
theorem dX9_forget_7 : decode cX9_forget 7 = .ok (.putfield 265, 3) := by decide +kernel
theorem dX9_forget_10 : decode cX9_forget 10 = .ok (.iload_n 1, 1) := by decide +kernel
theorem dX9_forget_11 : decode cX9_forget 11 = .ok (.ireturn, 1) := by decide +kernel
theorem dX9_placeOf_0 : decode cX9_placeOf 0 = .ok (.iconst 3, 1) := by decide +kernel
theorem dX9_placeOf_1 : decode cX9_placeOf 1 = .ok (.istore_n 3, 1) := by decide +kernel
theorem dX9_placeOf_2 : decode cX9_placeOf 2 = .ok (.iconst 0, 1) := by decide +kernel
theorem dX9_placeOf_3 : decode cX9_placeOf 3 = .ok (.istore 4, 2) := by decide +kernel
theorem dX9_placeOf_5 : decode cX9_placeOf 5 = .ok (.iload 4, 2) := by decide +kernel
theorem dX9_placeOf_7 : decode cX9_placeOf 7 = .ok (.iconst 3, 1) := by decide +kernel
theorem dX9_placeOf_8 : decode cX9_placeOf 8 = .ok (.if_icmp .ge 31, 3) := by decide +kernel
theorem dX9_placeOf_11 : decode cX9_placeOf 11 = .ok (.aload_n 0, 1) := by decide +kernel
theorem dX9_placeOf_12 : decode cX9_placeOf 12 = .ok (.getfield 74, 3) := by decide +kernel
theorem dX9_placeOf_15 : decode cX9_placeOf 15 = .ok (.iconst 3, 1) := by decide +kernel
theorem dX9_placeOf_16 : decode cX9_placeOf 16 = .ok (.iload_n 1, 1) := by decide +kernel
theorem dX9_placeOf_17 : decode cX9_placeOf 17 = .ok (.imul, 1) := by decide +kernel
theorem dX9_placeOf_18 : decode cX9_placeOf 18 = .ok (.iload 4, 2) := by decide +kernel
theorem dX9_placeOf_20 : decode cX9_placeOf 20 = .ok (.iadd, 1) := by decide +kernel
theorem dX9_placeOf_21 : decode cX9_placeOf 21 = .ok (.iaload, 1) := by decide +kernel
theorem dX9_placeOf_22 : decode cX9_placeOf 22 = .ok (.iload_n 2, 1) := by decide +kernel
theorem dX9_placeOf_23 : decode cX9_placeOf 23 = .ok (.if_icmp .ne 8, 3) := by decide +kernel
theorem dX9_placeOf_26 : decode cX9_placeOf 26 = .ok (.iload 4, 2) := by decide +kernel
theorem dX9_placeOf_28 : decode cX9_placeOf 28 = .ok (.goto 4, 3) := by decide +kernel
theorem dX9_placeOf_31 : decode cX9_placeOf 31 = .ok (.iload_n 3, 1) := by decide +kernel
theorem dX9_placeOf_32 : decode cX9_placeOf 32 = .ok (.istore_n 3, 1) := by decide +kernel
theorem dX9_placeOf_33 : decode cX9_placeOf 33 = .ok (.iinc 4 1, 3) := by decide +kernel
theorem dX9_placeOf_36 : decode cX9_placeOf 36 = .ok (.goto (-31), 3) := by decide +kernel
theorem dX9_placeOf_39 : decode cX9_placeOf 39 = .ok (.iload_n 3, 1) := by decide +kernel
theorem dX9_placeOf_40 : decode cX9_placeOf 40 = .ok (.ireturn, 1) := by decide +kernel
theorem dX9_isSeen_0 : decode cX9_isSeen 0 = .ok (.aload_n 0, 1) := by decide +kernel
theorem dX9_isSeen_1 : decode cX9_isSeen 1 = .ok (.invokevirtual 217, 3) := by decide +kernel
theorem dX9_isSeen_4 : decode cX9_isSeen 4 = .ok (.iconst 1, 1) := by decide +kernel
theorem dX9_isSeen_5 : decode cX9_isSeen 5 = .ok (.istore_n 1, 1) := by decide +kernel
theorem dX9_isSeen_6 : decode cX9_isSeen 6 = .ok (.iconst 0, 1) := by decide +kernel
theorem dX9_isSeen_7 : decode cX9_isSeen 7 = .ok (.istore_n 2, 1) := by decide +kernel
theorem dX9_isSeen_8 : decode cX9_isSeen 8 = .ok (.iload_n 2, 1) := by decide +kernel
theorem dX9_isSeen_9 : decode cX9_isSeen 9 = .ok (.aload_n 0, 1) := by decide +kernel
theorem dX9_isSeen_10 : decode cX9_isSeen 10 = .ok (.getfield 265, 3) := by decide +kernel
theorem dX9_isSeen_13 : decode cX9_isSeen 13 = .ok (.if_icmp .ge 64, 3) := by decide +kernel
theorem dX9_isSeen_16 : decode cX9_isSeen 16 = .ok (.aload_n 0, 1) := by decide +kernel
theorem dX9_isSeen_17 : decode cX9_isSeen 17 = .ok (.getfield 77, 3) := by decide +kernel
theorem dX9_isSeen_20 : decode cX9_isSeen 20 = .ok (.iconst 3, 1) := by decide +kernel
theorem dX9_isSeen_21 : decode cX9_isSeen 21 = .ok (.iload_n 2, 1) := by decide +kernel
theorem dX9_isSeen_22 : decode cX9_isSeen 22 = .ok (.imul, 1) := by decide +kernel
theorem dX9_isSeen_23 : decode cX9_isSeen 23 = .ok (.iconst 1, 1) := by decide +kernel
theorem dX9_isSeen_24 : decode cX9_isSeen 24 = .ok (.iadd, 1) := by decide +kernel
theorem dX9_isSeen_25 : decode cX9_isSeen 25 = .ok (.iaload, 1) := by decide +kernel
theorem dX9_isSeen_26 : decode cX9_isSeen 26 = .ok (.istore_n 3, 1) := by decide +kernel
theorem dX9_isSeen_27 : decode cX9_isSeen 27 = .ok (.iload_n 1, 1) := by decide +kernel
theorem dX9_isSeen_28 : decode cX9_isSeen 28 = .ok (.ifCond .eq 41, 3) := by decide +kernel
theorem dX9_isSeen_31 : decode cX9_isSeen 31 = .ok (.aload_n 0, 1) := by decide +kernel
theorem dX9_isSeen_32 : decode cX9_isSeen 32 = .ok (.iload_n 3, 1) := by decide +kernel
theorem dX9_isSeen_33 : decode cX9_isSeen 33 = .ok (.invokevirtual 158, 3) := by decide +kernel
theorem dX9_isSeen_36 : decode cX9_isSeen 36 = .ok (.ifCond .eq 33, 3) := by decide +kernel
theorem dX9_isSeen_39 : decode cX9_isSeen 39 = .ok (.aload_n 0, 1) := by decide +kernel
theorem dX9_isSeen_40 : decode cX9_isSeen 40 = .ok (.aload_n 0, 1) := by decide +kernel
theorem dX9_isSeen_41 : decode cX9_isSeen 41 = .ok (.getfield 77, 3) := by decide +kernel
theorem dX9_isSeen_44 : decode cX9_isSeen 44 = .ok (.iconst 3, 1) := by decide +kernel
theorem dX9_isSeen_45 : decode cX9_isSeen 45 = .ok (.iload_n 2, 1) := by decide +kernel
theorem dX9_isSeen_46 : decode cX9_isSeen 46 = .ok (.imul, 1) := by decide +kernel
theorem dX9_isSeen_47 : decode cX9_isSeen 47 = .ok (.iaload, 1) := by decide +kernel
theorem dX9_isSeen_48 : decode cX9_isSeen 48 = .ok (.iload_n 3, 1) := by decide +kernel
theorem dX9_isSeen_49 : decode cX9_isSeen 49 = .ok (.invokevirtual 268, 3) := by decide +kernel
theorem dX9_isSeen_52 : decode cX9_isSeen 52 = .ok (.aload_n 0, 1) := by decide +kernel
theorem dX9_isSeen_53 : decode cX9_isSeen 53 = .ok (.getfield 77, 3) := by decide +kernel
theorem dX9_isSeen_56 : decode cX9_isSeen 56 = .ok (.iconst 3, 1) := by decide +kernel
theorem dX9_isSeen_57 : decode cX9_isSeen 57 = .ok (.iload_n 2, 1) := by decide +kernel
theorem dX9_isSeen_58 : decode cX9_isSeen 58 = .ok (.imul, 1) := by decide +kernel
theorem dX9_isSeen_59 : decode cX9_isSeen 59 = .ok (.iconst 2, 1) := by decide +kernel
theorem dX9_isSeen_60 : decode cX9_isSeen 60 = .ok (.iadd, 1) := by decide +kernel
theorem dX9_isSeen_61 : decode cX9_isSeen 61 = .ok (.iaload, 1) := by decide +kernel
theorem dX9_isSeen_62 : decode cX9_isSeen 62 = .ok (.if_icmp .ne 7, 3) := by decide +kernel
theorem dX9_isSeen_65 : decode cX9_isSeen 65 = .ok (.iconst 1, 1) := by decide +kernel
theorem dX9_isSeen_66 : decode cX9_isSeen 66 = .ok (.goto 4, 3) := by decide +kernel
theorem dX9_isSeen_69 : decode cX9_isSeen 69 = .ok (.iconst 0, 1) := by decide +kernel
theorem dX9_isSeen_70 : decode cX9_isSeen 70 = .ok (.istore_n 1, 1) := by decide +kernel
theorem dX9_isSeen_71 : decode cX9_isSeen 71 = .ok (.iinc 2 1, 3) := by decide +kernel
theorem dX9_isSeen_74 : decode cX9_isSeen 74 = .ok (.goto (-66), 3) := by decide +kernel
theorem dX9_isSeen_77 : decode cX9_isSeen 77 = .ok (.iload_n 1, 1) := by decide +kernel
theorem dX9_isSeen_78 : decode cX9_isSeen 78 = .ok (.ireturn, 1) := by decide +kernel
theorem dX9_neverNow_0 : decode cX9_neverNow 0 = .ok (.iconst 0, 1) := by decide +kernel
theorem dX9_neverNow_1 : decode cX9_neverNow 1 = .ok (.istore_n 1, 1) := by decide +kernel
theorem dX9_neverNow_2 : decode cX9_neverNow 2 = .ok (.iconst 0, 1) := by decide +kernel
theorem dX9_neverNow_3 : decode cX9_neverNow 3 = .ok (.istore_n 2, 1) := by decide +kernel
theorem dX9_neverNow_4 : decode cX9_neverNow 4 = .ok (.iload_n 2, 1) := by decide +kernel
theorem dX9_neverNow_5 : decode cX9_neverNow 5 = .ok (.aload_n 0, 1) := by decide +kernel
theorem dX9_neverNow_6 : decode cX9_neverNow 6 = .ok (.getfield 169, 3) := by decide +kernel
theorem dX9_neverNow_9 : decode cX9_neverNow 9 = .ok (.if_icmp .ge 33, 3) := by decide +kernel
theorem dX9_neverNow_12 : decode cX9_neverNow 12 = .ok (.aload_n 0, 1) := by decide +kernel
theorem dX9_neverNow_13 : decode cX9_neverNow 13 = .ok (.iconst 1, 1) := by decide +kernel
theorem dX9_neverNow_14 : decode cX9_neverNow 14 = .ok (.iload_n 2, 1) := by decide +kernel
theorem dX9_neverNow_15 : decode cX9_neverNow 15 = .ok (.ishl, 1) := by decide +kernel
theorem dX9_neverNow_16 : decode cX9_neverNow 16 = .ok (.putfield 197, 3) := by decide +kernel
theorem dX9_neverNow_19 : decode cX9_neverNow 19 = .ok (.iload_n 1, 1) := by decide +kernel
theorem dX9_neverNow_20 : decode cX9_neverNow 20 = .ok (.aload_n 0, 1) := by decide +kernel
theorem dX9_neverNow_21 : decode cX9_neverNow 21 = .ok (.invokevirtual 271, 3) := by decide +kernel
theorem dX9_neverNow_24 : decode cX9_neverNow 24 = .ok (.ifCond .eq 9, 3) := by decide +kernel
theorem dX9_neverNow_27 : decode cX9_neverNow 27 = .ok (.iconst 1, 1) := by decide +kernel
theorem dX9_neverNow_28 : decode cX9_neverNow 28 = .ok (.iload_n 2, 1) := by decide +kernel
theorem dX9_neverNow_29 : decode cX9_neverNow 29 = .ok (.ishl, 1) := by decide +kernel
theorem dX9_neverNow_30 : decode cX9_neverNow 30 = .ok (.goto 4, 3) := by decide +kernel
theorem dX9_neverNow_33 : decode cX9_neverNow 33 = .ok (.iconst 0, 1) := by decide +kernel
theorem dX9_neverNow_34 : decode cX9_neverNow 34 = .ok (.ior, 1) := by decide +kernel
theorem dX9_neverNow_35 : decode cX9_neverNow 35 = .ok (.istore_n 1, 1) := by decide +kernel
theorem dX9_neverNow_36 : decode cX9_neverNow 36 = .ok (.iinc 2 1, 3) := by decide +kernel
theorem dX9_neverNow_39 : decode cX9_neverNow 39 = .ok (.goto (-35), 3) := by decide +kernel
theorem dX9_neverNow_42 : decode cX9_neverNow 42 = .ok (.aload_n 0, 1) := by decide +kernel
theorem dX9_neverNow_43 : decode cX9_neverNow 43 = .ok (.iconst 0, 1) := by decide +kernel
theorem dX9_neverNow_44 : decode cX9_neverNow 44 = .ok (.putfield 197, 3) := by decide +kernel
theorem dX9_neverNow_47 : decode cX9_neverNow 47 = .ok (.iload_n 1, 1) := by decide +kernel
theorem dX9_neverNow_48 : decode cX9_neverNow 48 = .ok (.ireturn, 1) := by decide +kernel
theorem dX9_never_0 : decode cX9_never 0 = .ok (.aload_n 0, 1) := by decide +kernel
theorem dX9_never_1 : decode cX9_never 1 = .ok (.invokevirtual 220, 3) := by decide +kernel
theorem dX9_never_4 : decode cX9_never 4 = .ok (.aload_n 0, 1) := by decide +kernel
theorem dX9_never_5 : decode cX9_never 5 = .ok (.invokevirtual 275, 3) := by decide +kernel
theorem dX9_never_8 : decode cX9_never 8 = .ok (.ireturn, 1) := by decide +kernel
theorem dX9_lookedOf_0 : decode cX9_lookedOf 0 = .ok (.aload_n 0, 1) := by decide +kernel
theorem dX9_lookedOf_1 : decode cX9_lookedOf 1 = .ok (.getfield 28, 3) := by decide +kernel
theorem dX9_lookedOf_4 : decode cX9_lookedOf 4 = .ok (.iconst 3, 1) := by decide +kernel
theorem dX9_lookedOf_5 : decode cX9_lookedOf 5 = .ok (.iload_n 1, 1) := by decide +kernel
theorem dX9_lookedOf_6 : decode cX9_lookedOf 6 = .ok (.imul, 1) := by decide +kernel
theorem dX9_lookedOf_7 : decode cX9_lookedOf 7 = .ok (.iconst 1, 1) := by decide +kernel
theorem dX9_lookedOf_8 : decode cX9_lookedOf 8 = .ok (.iadd, 1) := by decide +kernel
theorem dX9_lookedOf_9 : decode cX9_lookedOf 9 = .ok (.iaload, 1) := by decide +kernel
theorem dX9_lookedOf_10 : decode cX9_lookedOf 10 = .ok (.istore_n 2, 1) := by decide +kernel
theorem dX9_lookedOf_11 : decode cX9_lookedOf 11 = .ok (.iconst 0, 1) := by decide +kernel
theorem dX9_lookedOf_12 : decode cX9_lookedOf 12 = .ok (.istore_n 3, 1) := by decide +kernel
theorem dX9_lookedOf_13 : decode cX9_lookedOf 13 = .ok (.iconst 0, 1) := by decide +kernel
theorem dX9_lookedOf_14 : decode cX9_lookedOf 14 = .ok (.istore 4, 2) := by decide +kernel
theorem dX9_lookedOf_16 : decode cX9_lookedOf 16 = .ok (.iload 4, 2) := by decide +kernel
theorem dX9_lookedOf_18 : decode cX9_lookedOf 18 = .ok (.bipush 10, 2) := by decide +kernel
theorem dX9_lookedOf_20 : decode cX9_lookedOf 20 = .ok (.if_icmp .ge 75, 3) := by decide +kernel
theorem dX9_lookedOf_23 : decode cX9_lookedOf 23 = .ok (.aload_n 0, 1) := by decide +kernel
theorem dX9_lookedOf_24 : decode cX9_lookedOf 24 = .ok (.getfield 28, 3) := by decide +kernel
theorem dX9_lookedOf_27 : decode cX9_lookedOf 27 = .ok (.iconst 3, 1) := by decide +kernel
theorem dX9_lookedOf_28 : decode cX9_lookedOf 28 = .ok (.iload_n 1, 1) := by decide +kernel
theorem dX9_lookedOf_29 : decode cX9_lookedOf 29 = .ok (.imul, 1) := by decide +kernel
theorem dX9_lookedOf_30 : decode cX9_lookedOf 30 = .ok (.iconst 1, 1) := by decide +kernel
theorem dX9_lookedOf_31 : decode cX9_lookedOf 31 = .ok (.iadd, 1) := by decide +kernel
theorem dX9_lookedOf_32 : decode cX9_lookedOf 32 = .ok (.iload 4, 2) := by decide +kernel
theorem dX9_lookedOf_34 : decode cX9_lookedOf 34 = .ok (.iastore, 1) := by decide +kernel
theorem dX9_lookedOf_35 : decode cX9_lookedOf 35 = .ok (.iload_n 3, 1) := by decide +kernel
theorem dX9_lookedOf_36 : decode cX9_lookedOf 36 = .ok (.aload_n 0, 1) := by decide +kernel
theorem dX9_lookedOf_37 : decode cX9_lookedOf 37 = .ok (.invokevirtual 271, 3) := by decide +kernel
theorem dX9_lookedOf_40 : decode cX9_lookedOf 40 = .ok (.ifCond .eq 10, 3) := by decide +kernel
theorem dX9_lookedOf_43 : decode cX9_lookedOf 43 = .ok (.iconst 1, 1) := by decide +kernel
theorem dX9_lookedOf_44 : decode cX9_lookedOf 44 = .ok (.iload 4, 2) := by decide +kernel
theorem dX9_lookedOf_46 : decode cX9_lookedOf 46 = .ok (.ishl, 1) := by decide +kernel
theorem dX9_lookedOf_47 : decode cX9_lookedOf 47 = .ok (.goto 4, 3) := by decide +kernel
theorem dX9_lookedOf_50 : decode cX9_lookedOf 50 = .ok (.iconst 0, 1) := by decide +kernel
theorem dX9_lookedOf_51 : decode cX9_lookedOf 51 = .ok (.ior, 1) := by decide +kernel
theorem dX9_lookedOf_52 : decode cX9_lookedOf 52 = .ok (.istore_n 3, 1) := by decide +kernel
theorem dX9_lookedOf_53 : decode cX9_lookedOf 53 = .ok (.iconst 0, 1) := by decide +kernel
theorem dX9_lookedOf_54 : decode cX9_lookedOf 54 = .ok (.istore 5, 2) := by decide +kernel
theorem dX9_lookedOf_56 : decode cX9_lookedOf 56 = .ok (.iload 5, 2) := by decide +kernel
theorem dX9_lookedOf_58 : decode cX9_lookedOf 58 = .ok (.bipush 12, 2) := by decide +kernel
theorem dX9_lookedOf_60 : decode cX9_lookedOf 60 = .ok (.if_icmp .ge 29, 3) := by decide +kernel
theorem dX9_lookedOf_63 : decode cX9_lookedOf 63 = .ok (.aload_n 0, 1) := by decide +kernel
theorem dX9_lookedOf_64 : decode cX9_lookedOf 64 = .ok (.getfield 80, 3) := by decide +kernel
theorem dX9_lookedOf_67 : decode cX9_lookedOf 67 = .ok (.bipush 12, 2) := by decide +kernel
theorem dX9_lookedOf_69 : decode cX9_lookedOf 69 = .ok (.iload 4, 2) := by decide +kernel
theorem dX9_lookedOf_71 : decode cX9_lookedOf 71 = .ok (.imul, 1) := by decide +kernel
theorem dX9_lookedOf_72 : decode cX9_lookedOf 72 = .ok (.iload 5, 2) := by decide +kernel
theorem dX9_lookedOf_74 : decode cX9_lookedOf 74 = .ok (.iadd, 1) := by decide +kernel
theorem dX9_lookedOf_75 : decode cX9_lookedOf 75 = .ok (.aload_n 0, 1) := by decide +kernel
theorem dX9_lookedOf_76 : decode cX9_lookedOf 76 = .ok (.iload 5, 2) := by decide +kernel
theorem dX9_lookedOf_78 : decode cX9_lookedOf 78 = .ok (.iload_n 1, 1) := by decide +kernel
theorem dX9_lookedOf_79 : decode cX9_lookedOf 79 = .ok (.invokevirtual 268, 3) := by decide +kernel
theorem dX9_lookedOf_82 : decode cX9_lookedOf 82 = .ok (.iastore, 1) := by decide +kernel
theorem dX9_lookedOf_83 : decode cX9_lookedOf 83 = .ok (.iinc 5 1, 3) := by decide +kernel
theorem dX9_lookedOf_86 : decode cX9_lookedOf 86 = .ok (.goto (-30), 3) := by decide +kernel
theorem dX9_lookedOf_89 : decode cX9_lookedOf 89 = .ok (.iinc 4 1, 3) := by decide +kernel
theorem dX9_lookedOf_92 : decode cX9_lookedOf 92 = .ok (.goto (-76), 3) := by decide +kernel
theorem dX9_lookedOf_95 : decode cX9_lookedOf 95 = .ok (.aload_n 0, 1) := by decide +kernel
theorem dX9_lookedOf_96 : decode cX9_lookedOf 96 = .ok (.getfield 28, 3) := by decide +kernel
theorem dX9_lookedOf_99 : decode cX9_lookedOf 99 = .ok (.iconst 3, 1) := by decide +kernel
theorem dX9_lookedOf_100 : decode cX9_lookedOf 100 = .ok (.iload_n 1, 1) := by decide +kernel
theorem dX9_lookedOf_101 : decode cX9_lookedOf 101 = .ok (.imul, 1) := by decide +kernel
theorem dX9_lookedOf_102 : decode cX9_lookedOf 102 = .ok (.iconst 1, 1) := by decide +kernel
theorem dX9_lookedOf_103 : decode cX9_lookedOf 103 = .ok (.iadd, 1) := by decide +kernel
theorem dX9_lookedOf_104 : decode cX9_lookedOf 104 = .ok (.iload_n 2, 1) := by decide +kernel
theorem dX9_lookedOf_105 : decode cX9_lookedOf 105 = .ok (.iastore, 1) := by decide +kernel
theorem dX9_lookedOf_106 : decode cX9_lookedOf 106 = .ok (.iload_n 3, 1) := by decide +kernel
theorem dX9_lookedOf_107 : decode cX9_lookedOf 107 = .ok (.ireturn, 1) := by decide +kernel
theorem dX9_looked_0 : decode cX9_looked 0 = .ok (.aload_n 0, 1) := by decide +kernel
theorem dX9_looked_1 : decode cX9_looked 1 = .ok (.invokevirtual 220, 3) := by decide +kernel
theorem dX9_looked_4 : decode cX9_looked 4 = .ok (.aload_n 0, 1) := by decide +kernel
theorem dX9_looked_5 : decode cX9_looked 5 = .ok (.iload_n 1, 1) := by decide +kernel
theorem dX9_looked_6 : decode cX9_looked 6 = .ok (.invokevirtual 158, 3) := by decide +kernel
theorem dX9_looked_9 : decode cX9_looked 9 = .ok (.ifCond .eq 11, 3) := by decide +kernel
theorem dX9_looked_12 : decode cX9_looked 12 = .ok (.aload_n 0, 1) := by decide +kernel
theorem dX9_looked_13 : decode cX9_looked 13 = .ok (.iload_n 1, 1) := by decide +kernel
theorem dX9_looked_14 : decode cX9_looked 14 = .ok (.invokevirtual 278, 3) := by decide +kernel
theorem dX9_looked_17 : decode cX9_looked 17 = .ok (.goto 5, 3) := by decide +kernel
theorem dX9_looked_20 : decode cX9_looked 20 = .ok (.bipush (-2), 2) := by decide +kernel
theorem dX9_looked_22 : decode cX9_looked 22 = .ok (.ireturn, 1) := by decide +kernel
theorem dX9_tastesOf_0 : decode cX9_tastesOf 0 = .ok (.aload_n 0, 1) := by decide +kernel
theorem dX9_tastesOf_1 : decode cX9_tastesOf 1 = .ok (.getfield 31, 3) := by decide +kernel
theorem dX9_tastesOf_4 : decode cX9_tastesOf 4 = .ok (.iconst 3, 1) := by decide +kernel
theorem dX9_tastesOf_5 : decode cX9_tastesOf 5 = .ok (.iload_n 1, 1) := by decide +kernel
theorem dX9_tastesOf_6 : decode cX9_tastesOf 6 = .ok (.imul, 1) := by decide +kernel
theorem dX9_tastesOf_7 : decode cX9_tastesOf 7 = .ok (.iaload, 1) := by decide +kernel
theorem dX9_tastesOf_8 : decode cX9_tastesOf 8 = .ok (.istore_n 2, 1) := by decide +kernel
theorem dX9_tastesOf_9 : decode cX9_tastesOf 9 = .ok (.iconst 0, 1) := by decide +kernel
theorem dX9_tastesOf_10 : decode cX9_tastesOf 10 = .ok (.istore_n 3, 1) := by decide +kernel
theorem dX9_tastesOf_11 : decode cX9_tastesOf 11 = .ok (.iconst 0, 1) := by decide +kernel
theorem dX9_tastesOf_12 : decode cX9_tastesOf 12 = .ok (.istore 4, 2) := by decide +kernel
theorem dX9_tastesOf_14 : decode cX9_tastesOf 14 = .ok (.iload 4, 2) := by decide +kernel
theorem dX9_tastesOf_16 : decode cX9_tastesOf 16 = .ok (.iconst 3, 1) := by decide +kernel
theorem dX9_tastesOf_17 : decode cX9_tastesOf 17 = .ok (.if_icmp .ge 37, 3) := by decide +kernel
theorem dX9_tastesOf_20 : decode cX9_tastesOf 20 = .ok (.aload_n 0, 1) := by decide +kernel
theorem dX9_tastesOf_21 : decode cX9_tastesOf 21 = .ok (.getfield 31, 3) := by decide +kernel
theorem dX9_tastesOf_24 : decode cX9_tastesOf 24 = .ok (.iconst 3, 1) := by decide +kernel
theorem dX9_tastesOf_25 : decode cX9_tastesOf 25 = .ok (.iload_n 1, 1) := by decide +kernel
theorem dX9_tastesOf_26 : decode cX9_tastesOf 26 = .ok (.imul, 1) := by decide +kernel
theorem dX9_tastesOf_27 : decode cX9_tastesOf 27 = .ok (.iload 4, 2) := by decide +kernel
theorem dX9_tastesOf_29 : decode cX9_tastesOf 29 = .ok (.iastore, 1) := by decide +kernel
theorem dX9_tastesOf_30 : decode cX9_tastesOf 30 = .ok (.iload_n 3, 1) := by decide +kernel
theorem dX9_tastesOf_31 : decode cX9_tastesOf 31 = .ok (.aload_n 0, 1) := by decide +kernel
theorem dX9_tastesOf_32 : decode cX9_tastesOf 32 = .ok (.invokevirtual 271, 3) := by decide +kernel
theorem dX9_tastesOf_35 : decode cX9_tastesOf 35 = .ok (.ifCond .eq 10, 3) := by decide +kernel
theorem dX9_tastesOf_38 : decode cX9_tastesOf 38 = .ok (.iconst 1, 1) := by decide +kernel
theorem dX9_tastesOf_39 : decode cX9_tastesOf 39 = .ok (.iload 4, 2) := by decide +kernel
theorem dX9_tastesOf_41 : decode cX9_tastesOf 41 = .ok (.ishl, 1) := by decide +kernel
theorem dX9_tastesOf_42 : decode cX9_tastesOf 42 = .ok (.goto 4, 3) := by decide +kernel
theorem dX9_tastesOf_45 : decode cX9_tastesOf 45 = .ok (.iconst 0, 1) := by decide +kernel
theorem dX9_tastesOf_46 : decode cX9_tastesOf 46 = .ok (.ior, 1) := by decide +kernel
theorem dX9_tastesOf_47 : decode cX9_tastesOf 47 = .ok (.istore_n 3, 1) := by decide +kernel
theorem dX9_tastesOf_48 : decode cX9_tastesOf 48 = .ok (.iinc 4 1, 3) := by decide +kernel
theorem dX9_tastesOf_51 : decode cX9_tastesOf 51 = .ok (.goto (-37), 3) := by decide +kernel
theorem dX9_tastesOf_54 : decode cX9_tastesOf 54 = .ok (.aload_n 0, 1) := by decide +kernel
theorem dX9_tastesOf_55 : decode cX9_tastesOf 55 = .ok (.getfield 31, 3) := by decide +kernel
theorem dX9_tastesOf_58 : decode cX9_tastesOf 58 = .ok (.iconst 3, 1) := by decide +kernel
theorem dX9_tastesOf_59 : decode cX9_tastesOf 59 = .ok (.iload_n 1, 1) := by decide +kernel
theorem dX9_tastesOf_60 : decode cX9_tastesOf 60 = .ok (.imul, 1) := by decide +kernel
theorem dX9_tastesOf_61 : decode cX9_tastesOf 61 = .ok (.iload_n 2, 1) := by decide +kernel
theorem dX9_tastesOf_62 : decode cX9_tastesOf 62 = .ok (.iastore, 1) := by decide +kernel
theorem dX9_tastesOf_63 : decode cX9_tastesOf 63 = .ok (.iload_n 3, 1) := by decide +kernel
theorem dX9_tastesOf_64 : decode cX9_tastesOf 64 = .ok (.ireturn, 1) := by decide +kernel
theorem dX9_tastes_0 : decode cX9_tastes 0 = .ok (.aload_n 0, 1) := by decide +kernel
theorem dX9_tastes_1 : decode cX9_tastes 1 = .ok (.invokevirtual 220, 3) := by decide +kernel
theorem dX9_tastes_4 : decode cX9_tastes 4 = .ok (.aload_n 0, 1) := by decide +kernel
theorem dX9_tastes_5 : decode cX9_tastes 5 = .ok (.iload_n 1, 1) := by decide +kernel
theorem dX9_tastes_6 : decode cX9_tastes 6 = .ok (.invokevirtual 161, 3) := by decide +kernel
theorem dX9_tastes_9 : decode cX9_tastes 9 = .ok (.ifCond .eq 11, 3) := by decide +kernel
theorem dX9_tastes_12 : decode cX9_tastes 12 = .ok (.aload_n 0, 1) := by decide +kernel
theorem dX9_tastes_13 : decode cX9_tastes 13 = .ok (.iload_n 1, 1) := by decide +kernel
theorem dX9_tastes_14 : decode cX9_tastes 14 = .ok (.invokevirtual 281, 3) := by decide +kernel
theorem dX9_tastes_17 : decode cX9_tastes 17 = .ok (.goto 5, 3) := by decide +kernel
theorem dX9_tastes_20 : decode cX9_tastes 20 = .ok (.bipush (-2), 2) := by decide +kernel
theorem dX9_tastes_22 : decode cX9_tastes 22 = .ok (.ireturn, 1) := by decide +kernel
theorem dX9_alike_0 : decode cX9_alike 0 = .ok (.iconst 0, 1) := by decide +kernel
theorem dX9_alike_1 : decode cX9_alike 1 = .ok (.istore_n 3, 1) := by decide +kernel
theorem dX9_alike_2 : decode cX9_alike 2 = .ok (.iconst 0, 1) := by decide +kernel
theorem dX9_alike_3 : decode cX9_alike 3 = .ok (.istore 4, 2) := by decide +kernel
theorem dX9_alike_5 : decode cX9_alike 5 = .ok (.iload 4, 2) := by decide +kernel
theorem dX9_alike_7 : decode cX9_alike 7 = .ok (.bipush 10, 2) := by decide +kernel
theorem dX9_alike_9 : decode cX9_alike 9 = .ok (.if_icmp .ge 90, 3) := by decide +kernel
theorem dX9_alike_12 : decode cX9_alike 12 = .ok (.iconst 0, 1) := by decide +kernel
theorem dX9_alike_13 : decode cX9_alike 13 = .ok (.istore 5, 2) := by decide +kernel
theorem dX9_alike_15 : decode cX9_alike 15 = .ok (.iconst 0, 1) := by decide +kernel
theorem dX9_alike_16 : decode cX9_alike 16 = .ok (.istore 6, 2) := by decide +kernel
theorem dX9_alike_18 : decode cX9_alike 18 = .ok (.iload 6, 2) := by decide +kernel
theorem dX9_alike_20 : decode cX9_alike 20 = .ok (.bipush 10, 2) := by decide +kernel
theorem dX9_alike_22 : decode cX9_alike 22 = .ok (.if_icmp .ge 64, 3) := by decide +kernel
theorem dX9_alike_25 : decode cX9_alike 25 = .ok (.iload 5, 2) := by decide +kernel
theorem dX9_alike_27 : decode cX9_alike 27 = .ok (.iload_n 1, 1) := by decide +kernel
theorem dX9_alike_28 : decode cX9_alike 28 = .ok (.iload 4, 2) := by decide +kernel
theorem dX9_alike_30 : decode cX9_alike 30 = .ok (.invokestatic 187, 3) := by decide +kernel
theorem dX9_alike_33 : decode cX9_alike 33 = .ok (.ifCond .eq 43, 3) := by decide +kernel
theorem dX9_alike_36 : decode cX9_alike 36 = .ok (.iload_n 1, 1) := by decide +kernel
theorem dX9_alike_37 : decode cX9_alike 37 = .ok (.iload 6, 2) := by decide +kernel
theorem dX9_alike_39 : decode cX9_alike 39 = .ok (.invokestatic 187, 3) := by decide +kernel
theorem dX9_alike_42 : decode cX9_alike 42 = .ok (.ifCond .eq 34, 3) := by decide +kernel
theorem dX9_alike_45 : decode cX9_alike 45 = .ok (.aload_n 0, 1) := by decide +kernel
theorem dX9_alike_46 : decode cX9_alike 46 = .ok (.getfield 80, 3) := by decide +kernel
theorem dX9_alike_49 : decode cX9_alike 49 = .ok (.bipush 12, 2) := by decide +kernel
theorem dX9_alike_51 : decode cX9_alike 51 = .ok (.iload 4, 2) := by decide +kernel
theorem dX9_alike_53 : decode cX9_alike 53 = .ok (.imul, 1) := by decide +kernel
theorem dX9_alike_54 : decode cX9_alike 54 = .ok (.iload_n 2, 1) := by decide +kernel
theorem dX9_alike_55 : decode cX9_alike 55 = .ok (.iadd, 1) := by decide +kernel
theorem dX9_alike_56 : decode cX9_alike 56 = .ok (.iaload, 1) := by decide +kernel
theorem dX9_alike_57 : decode cX9_alike 57 = .ok (.aload_n 0, 1) := by decide +kernel
theorem dX9_alike_58 : decode cX9_alike 58 = .ok (.getfield 80, 3) := by decide +kernel
theorem dX9_alike_61 : decode cX9_alike 61 = .ok (.bipush 12, 2) := by decide +kernel
theorem dX9_alike_63 : decode cX9_alike 63 = .ok (.iload 6, 2) := by decide +kernel
theorem dX9_alike_65 : decode cX9_alike 65 = .ok (.imul, 1) := by decide +kernel
theorem dX9_alike_66 : decode cX9_alike 66 = .ok (.iload_n 2, 1) := by decide +kernel
theorem dX9_alike_67 : decode cX9_alike 67 = .ok (.iadd, 1) := by decide +kernel
theorem dX9_alike_68 : decode cX9_alike 68 = .ok (.iaload, 1) := by decide +kernel
theorem dX9_alike_69 : decode cX9_alike 69 = .ok (.if_icmp .ne 7, 3) := by decide +kernel
theorem dX9_alike_72 : decode cX9_alike 72 = .ok (.iconst 1, 1) := by decide +kernel
theorem dX9_alike_73 : decode cX9_alike 73 = .ok (.goto 4, 3) := by decide +kernel
theorem dX9_alike_76 : decode cX9_alike 76 = .ok (.iconst 0, 1) := by decide +kernel
theorem dX9_alike_77 : decode cX9_alike 77 = .ok (.iadd, 1) := by decide +kernel
theorem dX9_alike_78 : decode cX9_alike 78 = .ok (.istore 5, 2) := by decide +kernel
theorem dX9_alike_80 : decode cX9_alike 80 = .ok (.iinc 6 1, 3) := by decide +kernel
theorem dX9_alike_83 : decode cX9_alike 83 = .ok (.goto (-65), 3) := by decide +kernel
theorem dX9_alike_86 : decode cX9_alike 86 = .ok (.iload 5, 2) := by decide +kernel
theorem dX9_alike_88 : decode cX9_alike 88 = .ok (.iload_n 3, 1) := by decide +kernel
theorem dX9_alike_89 : decode cX9_alike 89 = .ok (.invokestatic 181, 3) := by decide +kernel
theorem dX9_alike_92 : decode cX9_alike 92 = .ok (.istore_n 3, 1) := by decide +kernel
theorem dX9_alike_93 : decode cX9_alike 93 = .ok (.iinc 4 1, 3) := by decide +kernel
theorem dX9_alike_96 : decode cX9_alike 96 = .ok (.goto (-91), 3) := by decide +kernel
theorem dX9_alike_99 : decode cX9_alike 99 = .ok (.iload_n 3, 1) := by decide +kernel
theorem dX9_alike_100 : decode cX9_alike 100 = .ok (.ireturn, 1) := by decide +kernel
theorem dX9_askOf_0 : decode cX9_askOf 0 = .ok (.aload_n 0, 1) := by decide +kernel
theorem dX9_askOf_1 : decode cX9_askOf 1 = .ok (.iload_n 1, 1) := by decide +kernel
theorem dX9_askOf_2 : decode cX9_askOf 2 = .ok (.invokevirtual 278, 3) := by decide +kernel
theorem dX9_askOf_5 : decode cX9_askOf 5 = .ok (.istore_n 2, 1) := by decide +kernel
theorem dX9_askOf_6 : decode cX9_askOf 6 = .ok (.iconst 0, 1) := by decide +kernel
theorem dX9_askOf_7 : decode cX9_askOf 7 = .ok (.istore_n 3, 1) := by decide +kernel
theorem dX9_askOf_8 : decode cX9_askOf 8 = .ok (.iconst 1, 1) := by decide +kernel
theorem dX9_askOf_9 : decode cX9_askOf 9 = .ok (.istore 4, 2) := by decide +kernel
theorem dX9_askOf_11 : decode cX9_askOf 11 = .ok (.iload 4, 2) := by decide +kernel
theorem dX9_askOf_13 : decode cX9_askOf 13 = .ok (.bipush 12, 2) := by decide +kernel
theorem dX9_askOf_15 : decode cX9_askOf 15 = .ok (.if_icmp .ge 32, 3) := by decide +kernel
theorem dX9_askOf_18 : decode cX9_askOf 18 = .ok (.aload_n 0, 1) := by decide +kernel
theorem dX9_askOf_19 : decode cX9_askOf 19 = .ok (.iload_n 2, 1) := by decide +kernel
theorem dX9_askOf_20 : decode cX9_askOf 20 = .ok (.iload 4, 2) := by decide +kernel
theorem dX9_askOf_22 : decode cX9_askOf 22 = .ok (.invokevirtual 284, 3) := by decide +kernel
theorem dX9_askOf_25 : decode cX9_askOf 25 = .ok (.aload_n 0, 1) := by decide +kernel
theorem dX9_askOf_26 : decode cX9_askOf 26 = .ok (.iload_n 2, 1) := by decide +kernel
theorem dX9_askOf_27 : decode cX9_askOf 27 = .ok (.iload_n 3, 1) := by decide +kernel
theorem dX9_askOf_28 : decode cX9_askOf 28 = .ok (.invokevirtual 284, 3) := by decide +kernel
theorem dX9_askOf_31 : decode cX9_askOf 31 = .ok (.if_icmp .ge 8, 3) := by decide +kernel
theorem dX9_askOf_34 : decode cX9_askOf 34 = .ok (.iload 4, 2) := by decide +kernel
theorem dX9_askOf_36 : decode cX9_askOf 36 = .ok (.goto 4, 3) := by decide +kernel
theorem dX9_askOf_39 : decode cX9_askOf 39 = .ok (.iload_n 3, 1) := by decide +kernel
theorem dX9_askOf_40 : decode cX9_askOf 40 = .ok (.istore_n 3, 1) := by decide +kernel
theorem dX9_askOf_41 : decode cX9_askOf 41 = .ok (.iinc 4 1, 3) := by decide +kernel
theorem dX9_askOf_44 : decode cX9_askOf 44 = .ok (.goto (-33), 3) := by decide +kernel
theorem dX9_askOf_47 : decode cX9_askOf 47 = .ok (.iload_n 3, 1) := by decide +kernel
theorem dX9_askOf_48 : decode cX9_askOf 48 = .ok (.ireturn, 1) := by decide +kernel
theorem dX9_ask_0 : decode cX9_ask 0 = .ok (.aload_n 0, 1) := by decide +kernel
theorem dX9_ask_1 : decode cX9_ask 1 = .ok (.invokevirtual 220, 3) := by decide +kernel
theorem dX9_ask_4 : decode cX9_ask 4 = .ok (.aload_n 0, 1) := by decide +kernel
theorem dX9_ask_5 : decode cX9_ask 5 = .ok (.iload_n 1, 1) := by decide +kernel
theorem dX9_ask_6 : decode cX9_ask 6 = .ok (.invokevirtual 158, 3) := by decide +kernel
theorem dX9_ask_9 : decode cX9_ask 9 = .ok (.ifCond .eq 11, 3) := by decide +kernel
theorem dX9_ask_12 : decode cX9_ask 12 = .ok (.aload_n 0, 1) := by decide +kernel
theorem dX9_ask_13 : decode cX9_ask 13 = .ok (.iload_n 1, 1) := by decide +kernel
theorem dX9_ask_14 : decode cX9_ask 14 = .ok (.invokevirtual 287, 3) := by decide +kernel
theorem dX9_ask_17 : decode cX9_ask 17 = .ok (.goto 5, 3) := by decide +kernel
theorem dX9_ask_20 : decode cX9_ask 20 = .ok (.bipush (-2), 2) := by decide +kernel
theorem dX9_ask_22 : decode cX9_ask 22 = .ok (.ireturn, 1) := by decide +kernel
theorem dX9_chanceOf_0 : decode cX9_chanceOf 0 = .ok (.lconst 0, 1) := by decide +kernel
theorem dX9_chanceOf_1 : decode cX9_chanceOf 1 = .ok (.lstore 4, 2) := by decide +kernel
theorem dX9_chanceOf_3 : decode cX9_chanceOf 3 = .ok (.iconst 0, 1) := by decide +kernel
theorem dX9_chanceOf_4 : decode cX9_chanceOf 4 = .ok (.istore 6, 2) := by decide +kernel
theorem dX9_chanceOf_6 : decode cX9_chanceOf 6 = .ok (.iload 6, 2) := by decide +kernel
theorem dX9_chanceOf_8 : decode cX9_chanceOf 8 = .ok (.iconst 1, 1) := by decide +kernel
theorem dX9_chanceOf_9 : decode cX9_chanceOf 9 = .ok (.aload_n 0, 1) := by decide +kernel
theorem dX9_chanceOf_10 : decode cX9_chanceOf 10 = .ok (.getfield 169, 3) := by decide +kernel
theorem dX9_chanceOf_13 : decode cX9_chanceOf 13 = .ok (.ishl, 1) := by decide +kernel
theorem dX9_chanceOf_14 : decode cX9_chanceOf 14 = .ok (.if_icmp .ge 84, 3) := by decide +kernel
theorem dX9_chanceOf_17 : decode cX9_chanceOf 17 = .ok (.aload_n 0, 1) := by decide +kernel
theorem dX9_chanceOf_18 : decode cX9_chanceOf 18 = .ok (.iload 6, 2) := by decide +kernel
theorem dX9_chanceOf_20 : decode cX9_chanceOf 20 = .ok (.putfield 197, 3) := by decide +kernel
theorem dX9_chanceOf_23 : decode cX9_chanceOf 23 = .ok (.aload_n 0, 1) := by decide +kernel
theorem dX9_chanceOf_24 : decode cX9_chanceOf 24 = .ok (.invokevirtual 217, 3) := by decide +kernel
theorem dX9_chanceOf_27 : decode cX9_chanceOf 27 = .ok (.aload_n 0, 1) := by decide +kernel
theorem dX9_chanceOf_28 : decode cX9_chanceOf 28 = .ok (.invokevirtual 242, 3) := by decide +kernel
theorem dX9_chanceOf_31 : decode cX9_chanceOf 31 = .ok (.iload_n 2, 1) := by decide +kernel
theorem dX9_chanceOf_32 : decode cX9_chanceOf 32 = .ok (.if_icmp .ne 7, 3) := by decide +kernel
theorem dX9_chanceOf_35 : decode cX9_chanceOf 35 = .ok (.lconst 1, 1) := by decide +kernel
theorem dX9_chanceOf_36 : decode cX9_chanceOf 36 = .ok (.goto 4, 3) := by decide +kernel
theorem dX9_chanceOf_39 : decode cX9_chanceOf 39 = .ok (.lconst 0, 1) := by decide +kernel
theorem dX9_chanceOf_40 : decode cX9_chanceOf 40 = .ok (.lstore 7, 2) := by decide +kernel
theorem dX9_chanceOf_42 : decode cX9_chanceOf 42 = .ok (.iconst 0, 1) := by decide +kernel
theorem dX9_chanceOf_43 : decode cX9_chanceOf 43 = .ok (.istore 9, 2) := by decide +kernel
theorem dX9_chanceOf_45 : decode cX9_chanceOf 45 = .ok (.iload 9, 2) := by decide +kernel
theorem dX9_chanceOf_47 : decode cX9_chanceOf 47 = .ok (.aload_n 0, 1) := by decide +kernel
theorem dX9_chanceOf_48 : decode cX9_chanceOf 48 = .ok (.getfield 169, 3) := by decide +kernel
theorem dX9_chanceOf_51 : decode cX9_chanceOf 51 = .ok (.if_icmp .ge 34, 3) := by decide +kernel
theorem dX9_chanceOf_54 : decode cX9_chanceOf 54 = .ok (.lload 7, 2) := by decide +kernel
theorem dX9_chanceOf_56 : decode cX9_chanceOf 56 = .ok (.iload 6, 2) := by decide +kernel
theorem dX9_chanceOf_58 : decode cX9_chanceOf 58 = .ok (.iload 9, 2) := by decide +kernel
theorem dX9_chanceOf_60 : decode cX9_chanceOf 60 = .ok (.invokestatic 187, 3) := by decide +kernel
theorem dX9_chanceOf_63 : decode cX9_chanceOf 63 = .ok (.ifCond .eq 11, 3) := by decide +kernel
theorem dX9_chanceOf_66 : decode cX9_chanceOf 66 = .ok (.bipush 16, 2) := by decide +kernel
theorem dX9_chanceOf_68 : decode cX9_chanceOf 68 = .ok (.iload_n 1, 1) := by decide +kernel
theorem dX9_chanceOf_69 : decode cX9_chanceOf 69 = .ok (.isub, 1) := by decide +kernel
theorem dX9_chanceOf_70 : decode cX9_chanceOf 70 = .ok (.i2l, 1) := by decide +kernel
theorem dX9_chanceOf_71 : decode cX9_chanceOf 71 = .ok (.goto 5, 3) := by decide +kernel
theorem dX9_chanceOf_74 : decode cX9_chanceOf 74 = .ok (.iload_n 1, 1) := by decide +kernel
theorem dX9_chanceOf_75 : decode cX9_chanceOf 75 = .ok (.i2l, 1) := by decide +kernel
theorem dX9_chanceOf_76 : decode cX9_chanceOf 76 = .ok (.lmul, 1) := by decide +kernel
theorem dX9_chanceOf_77 : decode cX9_chanceOf 77 = .ok (.lstore 7, 2) := by decide +kernel
theorem dX9_chanceOf_79 : decode cX9_chanceOf 79 = .ok (.iinc 9 1, 3) := by decide +kernel
theorem dX9_chanceOf_82 : decode cX9_chanceOf 82 = .ok (.goto (-37), 3) := by decide +kernel
theorem dX9_chanceOf_85 : decode cX9_chanceOf 85 = .ok (.lload 4, 2) := by decide +kernel
theorem dX9_chanceOf_87 : decode cX9_chanceOf 87 = .ok (.lload 7, 2) := by decide +kernel
theorem dX9_chanceOf_89 : decode cX9_chanceOf 89 = .ok (.ladd, 1) := by decide +kernel
theorem dX9_chanceOf_90 : decode cX9_chanceOf 90 = .ok (.lstore 4, 2) := by decide +kernel
theorem dX9_chanceOf_92 : decode cX9_chanceOf 92 = .ok (.iinc 6 1, 3) := by decide +kernel
theorem dX9_chanceOf_95 : decode cX9_chanceOf 95 = .ok (.goto (-89), 3) := by decide +kernel
theorem dX9_chanceOf_98 : decode cX9_chanceOf 98 = .ok (.aload_n 0, 1) := by decide +kernel
theorem dX9_chanceOf_99 : decode cX9_chanceOf 99 = .ok (.iconst 0, 1) := by decide +kernel
theorem dX9_chanceOf_100 : decode cX9_chanceOf 100 = .ok (.putfield 197, 3) := by decide +kernel
theorem dX9_chanceOf_103 : decode cX9_chanceOf 103 = .ok (.lload 4, 2) := by decide +kernel
theorem dX9_chanceOf_105 : decode cX9_chanceOf 105 = .ok (.lconst 1, 1) := by decide +kernel
theorem dX9_chanceOf_106 : decode cX9_chanceOf 106 = .ok (.iconst 4, 1) := by decide +kernel
theorem dX9_chanceOf_107 : decode cX9_chanceOf 107 = .ok (.aload_n 0, 1) := by decide +kernel
theorem dX9_chanceOf_108 : decode cX9_chanceOf 108 = .ok (.getfield 169, 3) := by decide +kernel
theorem dX9_chanceOf_111 : decode cX9_chanceOf 111 = .ok (.imul, 1) := by decide +kernel
theorem dX9_chanceOf_112 : decode cX9_chanceOf 112 = .ok (.lshl, 1) := by decide +kernel
theorem dX9_chanceOf_113 : decode cX9_chanceOf 113 = .ok (.iload_n 3, 1) := by decide +kernel
theorem dX9_chanceOf_114 : decode cX9_chanceOf 114 = .ok (.invokestatic 290, 3) := by decide +kernel
theorem dX9_chanceOf_117 : decode cX9_chanceOf 117 = .ok (.lreturn, 1) := by decide +kernel
theorem dX9_chance_0 : decode cX9_chance 0 = .ok (.aload_n 0, 1) := by decide +kernel
theorem dX9_chance_1 : decode cX9_chance 1 = .ok (.invokevirtual 220, 3) := by decide +kernel
theorem dX9_chance_4 : decode cX9_chance 4 = .ok (.iload_n 1, 1) := by decide +kernel
theorem dX9_chance_5 : decode cX9_chance 5 = .ok (.i2l, 1) := by decide +kernel
theorem dX9_chance_6 : decode cX9_chance 6 = .ok (.lconst 0, 1) := by decide +kernel
theorem dX9_chance_7 : decode cX9_chance 7 = .ok (.ldc2_w 294, 3) := by decide +kernel
theorem dX9_chance_10 : decode cX9_chance 10 = .ok (.invokestatic 92, 3) := by decide +kernel
theorem dX9_chance_13 : decode cX9_chance 13 = .ok (.ifCond .eq 28, 3) := by decide +kernel
theorem dX9_chance_16 : decode cX9_chance 16 = .ok (.aload_n 0, 1) := by decide +kernel
theorem dX9_chance_17 : decode cX9_chance 17 = .ok (.iload_n 2, 1) := by decide +kernel
theorem dX9_chance_18 : decode cX9_chance 18 = .ok (.invokevirtual 158, 3) := by decide +kernel
theorem dX9_chance_21 : decode cX9_chance 21 = .ok (.ifCond .eq 20, 3) := by decide +kernel
theorem dX9_chance_24 : decode cX9_chance 24 = .ok (.iload_n 3, 1) := by decide +kernel
theorem dX9_chance_25 : decode cX9_chance 25 = .ok (.invokestatic 228, 3) := by decide +kernel
theorem dX9_chance_28 : decode cX9_chance 28 = .ok (.ifCond .eq 13, 3) := by decide +kernel
theorem dX9_chance_31 : decode cX9_chance 31 = .ok (.aload_n 0, 1) := by decide +kernel
theorem dX9_chance_32 : decode cX9_chance 32 = .ok (.iload_n 1, 1) := by decide +kernel
theorem dX9_chance_33 : decode cX9_chance 33 = .ok (.iload_n 2, 1) := by decide +kernel
theorem dX9_chance_34 : decode cX9_chance 34 = .ok (.iload_n 3, 1) := by decide +kernel
theorem dX9_chance_35 : decode cX9_chance 35 = .ok (.invokevirtual 296, 3) := by decide +kernel
theorem dX9_chance_38 : decode cX9_chance 38 = .ok (.goto 8, 3) := by decide +kernel
theorem dX9_chance_41 : decode cX9_chance 41 = .ok (.bipush (-2), 2) := by decide +kernel
theorem dX9_chance_43 : decode cX9_chance 43 = .ok (.invokestatic 300, 3) := by decide +kernel
theorem dX9_chance_46 : decode cX9_chance 46 = .ok (.lreturn, 1) := by decide +kernel
theorem dX9_lot_0 : decode cX9_lot 0 = .ok (.aload_n 0, 1) := by decide +kernel
theorem dX9_lot_1 : decode cX9_lot 1 = .ok (.ldc_w 304, 3) := by decide +kernel
theorem dX9_lot_4 : decode cX9_lot 4 = .ok (.aload_n 0, 1) := by decide +kernel
theorem dX9_lot_5 : decode cX9_lot 5 = .ok (.getfield 305, 3) := by decide +kernel
theorem dX9_lot_8 : decode cX9_lot 8 = .ok (.imul, 1) := by decide +kernel
theorem dX9_lot_9 : decode cX9_lot 9 = .ok (.sipush 12345, 3) := by decide +kernel
theorem dX9_lot_12 : decode cX9_lot 12 = .ok (.iadd, 1) := by decide +kernel
theorem dX9_lot_13 : decode cX9_lot 13 = .ok (.putfield 305, 3) := by decide +kernel
theorem dX9_lot_16 : decode cX9_lot 16 = .ok (.aload_n 0, 1) := by decide +kernel
theorem dX9_lot_17 : decode cX9_lot 17 = .ok (.getfield 305, 3) := by decide +kernel
theorem dX9_lot_20 : decode cX9_lot 20 = .ok (.bipush 16, 2) := by decide +kernel
theorem dX9_lot_22 : decode cX9_lot 22 = .ok (.iushr, 1) := by decide +kernel
theorem dX9_lot_23 : decode cX9_lot 23 = .ok (.iload_n 1, 1) := by decide +kernel
theorem dX9_lot_24 : decode cX9_lot 24 = .ok (.irem, 1) := by decide +kernel
theorem dX9_lot_25 : decode cX9_lot 25 = .ok (.ireturn, 1) := by decide +kernel
theorem dX9_yearsOf_0 : decode cX9_yearsOf 0 = .ok (.aload_n 0, 1) := by decide +kernel
theorem dX9_yearsOf_1 : decode cX9_yearsOf 1 = .ok (.iload_n 1, 1) := by decide +kernel
theorem dX9_yearsOf_2 : decode cX9_yearsOf 2 = .ok (.putfield 305, 3) := by decide +kernel
theorem dX9_yearsOf_5 : decode cX9_yearsOf 5 = .ok (.iconst 0, 1) := by decide +kernel
theorem dX9_yearsOf_6 : decode cX9_yearsOf 6 = .ok (.istore 4, 2) := by decide +kernel
theorem dX9_yearsOf_8 : decode cX9_yearsOf 8 = .ok (.iload 4, 2) := by decide +kernel
theorem dX9_yearsOf_10 : decode cX9_yearsOf 10 = .ok (.bipush 12, 2) := by decide +kernel
theorem dX9_yearsOf_12 : decode cX9_yearsOf 12 = .ok (.if_icmp .ge 31, 3) := by decide +kernel
theorem dX9_yearsOf_15 : decode cX9_yearsOf 15 = .ok (.aload_n 0, 1) := by decide +kernel
theorem dX9_yearsOf_16 : decode cX9_yearsOf 16 = .ok (.getfield 34, 3) := by decide +kernel
theorem dX9_yearsOf_19 : decode cX9_yearsOf 19 = .ok (.iload 4, 2) := by decide +kernel
theorem dX9_yearsOf_21 : decode cX9_yearsOf 21 = .ok (.iload 4, 2) := by decide +kernel
theorem dX9_yearsOf_23 : decode cX9_yearsOf 23 = .ok (.iload_n 2, 1) := by decide +kernel
theorem dX9_yearsOf_24 : decode cX9_yearsOf 24 = .ok (.if_icmp .ge 11, 3) := by decide +kernel
theorem dX9_yearsOf_27 : decode cX9_yearsOf 27 = .ok (.aload_n 0, 1) := by decide +kernel
theorem dX9_yearsOf_28 : decode cX9_yearsOf 28 = .ok (.iconst 4, 1) := by decide +kernel
theorem dX9_yearsOf_29 : decode cX9_yearsOf 29 = .ok (.invokevirtual 308, 3) := by decide +kernel
theorem dX9_yearsOf_32 : decode cX9_yearsOf 32 = .ok (.goto 4, 3) := by decide +kernel
theorem dX9_yearsOf_35 : decode cX9_yearsOf 35 = .ok (.iconst 0, 1) := by decide +kernel
theorem dX9_yearsOf_36 : decode cX9_yearsOf 36 = .ok (.iastore, 1) := by decide +kernel
theorem dX9_yearsOf_37 : decode cX9_yearsOf 37 = .ok (.iinc 4 1, 3) := by decide +kernel
theorem dX9_yearsOf_40 : decode cX9_yearsOf 40 = .ok (.goto (-32), 3) := by decide +kernel
theorem dX9_yearsOf_43 : decode cX9_yearsOf 43 = .ok (.aload_n 0, 1) := by decide +kernel
theorem dX9_yearsOf_44 : decode cX9_yearsOf 44 = .ok (.invokevirtual 217, 3) := by decide +kernel
theorem dX9_yearsOf_47 : decode cX9_yearsOf 47 = .ok (.aload_n 0, 1) := by decide +kernel
theorem dX9_yearsOf_48 : decode cX9_yearsOf 48 = .ok (.invokevirtual 150, 3) := by decide +kernel
theorem dX9_yearsOf_51 : decode cX9_yearsOf 51 = .ok (.pop, 1) := by decide +kernel
theorem dX9_yearsOf_52 : decode cX9_yearsOf 52 = .ok (.iload_n 3, 1) := by decide +kernel
theorem dX9_yearsOf_53 : decode cX9_yearsOf 53 = .ok (.ifCond .ne 10, 3) := by decide +kernel
theorem dX9_yearsOf_56 : decode cX9_yearsOf 56 = .ok (.aload_n 0, 1) := by decide +kernel
theorem dX9_yearsOf_57 : decode cX9_yearsOf 57 = .ok (.invokevirtual 242, 3) := by decide +kernel
theorem dX9_yearsOf_60 : decode cX9_yearsOf 60 = .ok (.goto 11, 3) := by decide +kernel
theorem dX9_yearsOf_63 : decode cX9_yearsOf 63 = .ok (.aload_n 0, 1) := by decide +kernel
theorem dX9_yearsOf_64 : decode cX9_yearsOf 64 = .ok (.iconst 0, 1) := by decide +kernel
theorem dX9_yearsOf_65 : decode cX9_yearsOf 65 = .ok (.invokevirtual 245, 3) := by decide +kernel
theorem dX9_yearsOf_68 : decode cX9_yearsOf 68 = .ok (.invokestatic 311, 3) := by decide +kernel
theorem dX9_yearsOf_71 : decode cX9_yearsOf 71 = .ok (.ireturn, 1) := by decide +kernel
theorem dX9_years_0 : decode cX9_years 0 = .ok (.aload_n 0, 1) := by decide +kernel
theorem dX9_years_1 : decode cX9_years 1 = .ok (.invokevirtual 220, 3) := by decide +kernel
theorem dX9_years_4 : decode cX9_years 4 = .ok (.iload_n 2, 1) := by decide +kernel
theorem dX9_years_5 : decode cX9_years 5 = .ok (.i2l, 1) := by decide +kernel
theorem dX9_years_6 : decode cX9_years 6 = .ok (.lconst 0, 1) := by decide +kernel
theorem dX9_years_7 : decode cX9_years 7 = .ok (.ldc2_w 314, 3) := by decide +kernel
theorem dX9_years_10 : decode cX9_years 10 = .ok (.invokestatic 92, 3) := by decide +kernel
theorem dX9_years_13 : decode cX9_years 13 = .ok (.ifCond .eq 20, 3) := by decide +kernel
theorem dX9_years_16 : decode cX9_years 16 = .ok (.iload_n 3, 1) := by decide +kernel
theorem dX9_years_17 : decode cX9_years 17 = .ok (.invokestatic 228, 3) := by decide +kernel
theorem dX9_years_20 : decode cX9_years 20 = .ok (.ifCond .eq 13, 3) := by decide +kernel
theorem dX9_years_23 : decode cX9_years 23 = .ok (.aload_n 0, 1) := by decide +kernel
theorem dX9_years_24 : decode cX9_years 24 = .ok (.iload_n 1, 1) := by decide +kernel
theorem dX9_years_25 : decode cX9_years 25 = .ok (.iload_n 2, 1) := by decide +kernel
theorem dX9_years_26 : decode cX9_years 26 = .ok (.iload_n 3, 1) := by decide +kernel
theorem dX9_years_27 : decode cX9_years 27 = .ok (.invokevirtual 316, 3) := by decide +kernel
theorem dX9_years_30 : decode cX9_years 30 = .ok (.goto 5, 3) := by decide +kernel
theorem dX9_years_33 : decode cX9_years 33 = .ok (.bipush (-2), 2) := by decide +kernel
theorem dX9_years_35 : decode cX9_years 35 = .ok (.ireturn, 1) := by decide +kernel
theorem dX9_write_0 : decode cX9_write 0 = .ok (.aload_n 0, 1) := by decide +kernel
theorem dX9_write_1 : decode cX9_write 1 = .ok (.invokevirtual 220, 3) := by decide +kernel
theorem dX9_write_4 : decode cX9_write 4 = .ok (.aload_n 0, 1) := by decide +kernel
theorem dX9_write_5 : decode cX9_write 5 = .ok (.iload_n 1, 1) := by decide +kernel
theorem dX9_write_6 : decode cX9_write 6 = .ok (.invokevirtual 158, 3) := by decide +kernel
theorem dX9_write_9 : decode cX9_write 9 = .ok (.ifCond .eq 10, 3) := by decide +kernel
theorem dX9_write_12 : decode cX9_write 12 = .ok (.iload_n 2, 1) := by decide +kernel
theorem dX9_write_13 : decode cX9_write 13 = .ok (.invokestatic 101, 3) := by decide +kernel
theorem dX9_write_16 : decode cX9_write 16 = .ok (.ifCond .ne 6, 3) := by decide +kernel
theorem dX9_write_19 : decode cX9_write 19 = .ok (.bipush (-2), 2) := by decide +kernel
theorem dX9_write_21 : decode cX9_write 21 = .ok (.ireturn, 1) := by decide +kernel
theorem dX9_write_22 : decode cX9_write 22 = .ok (.aload_n 0, 1) := by decide +kernel
theorem dX9_write_23 : decode cX9_write 23 = .ok (.getfield 7, 3) := by decide +kernel
theorem dX9_write_26 : decode cX9_write 26 = .ok (.iload_n 2, 1) := by decide +kernel
theorem dX9_write_27 : decode cX9_write 27 = .ok (.iaload, 1) := by decide +kernel
theorem dX9_write_28 : decode cX9_write 28 = .ok (.ifCond .ge 9, 3) := by decide +kernel
theorem dX9_write_31 : decode cX9_write 31 = .ok (.aload_n 0, 1) := by decide +kernel
theorem dX9_write_32 : decode cX9_write 32 = .ok (.iconst 1, 1) := by decide +kernel
theorem dX9_write_33 : decode cX9_write 33 = .ok (.invokevirtual 107, 3) := by decide +kernel
theorem dX9_write_36 : decode cX9_write 36 = .ok (.ireturn, 1) := by decide +kernel
theorem dX9_write_37 : decode cX9_write 37 = .ok (.aload_n 0, 1) := by decide +kernel
theorem dX9_write_38 : decode cX9_write 38 = .ok (.getfield 13, 3) := by decide +kernel
theorem dX9_write_41 : decode cX9_write 41 = .ok (.iload_n 2, 1) := by decide +kernel
theorem dX9_write_42 : decode cX9_write 42 = .ok (.iaload, 1) := by decide +kernel
theorem dX9_write_43 : decode cX9_write 43 = .ok (.bipush 12, 2) := by decide +kernel
theorem dX9_write_45 : decode cX9_write 45 = .ok (.invokestatic 174, 3) := by decide +kernel
theorem dX9_write_48 : decode cX9_write 48 = .ok (.istore_n 3, 1) := by decide +kernel
theorem dX9_write_49 : decode cX9_write 49 = .ok (.iconst 0, 1) := by decide +kernel
theorem dX9_write_50 : decode cX9_write 50 = .ok (.istore 4, 2) := by decide +kernel
theorem dX9_write_52 : decode cX9_write 52 = .ok (.iload 4, 2) := by decide +kernel
theorem dX9_write_54 : decode cX9_write 54 = .ok (.iload_n 3, 1) := by decide +kernel
theorem dX9_write_55 : decode cX9_write 55 = .ok (.if_icmp .ge 42, 3) := by decide +kernel
theorem dX9_write_58 : decode cX9_write 58 = .ok (.aload_n 0, 1) := by decide +kernel
theorem dX9_write_59 : decode cX9_write 59 = .ok (.getfield 16, 3) := by decide +kernel
theorem dX9_write_62 : decode cX9_write 62 = .ok (.bipush 60, 2) := by decide +kernel
theorem dX9_write_64 : decode cX9_write 64 = .ok (.iload_n 2, 1) := by decide +kernel
theorem dX9_write_65 : decode cX9_write 65 = .ok (.imul, 1) := by decide +kernel
theorem dX9_write_66 : decode cX9_write 66 = .ok (.iload 4, 2) := by decide +kernel
theorem dX9_write_68 : decode cX9_write 68 = .ok (.iadd, 1) := by decide +kernel
theorem dX9_write_69 : decode cX9_write 69 = .ok (.aload_n 0, 1) := by decide +kernel
theorem dX9_write_70 : decode cX9_write 70 = .ok (.getfield 7, 3) := by decide +kernel
theorem dX9_write_73 : decode cX9_write 73 = .ok (.iload_n 2, 1) := by decide +kernel
theorem dX9_write_74 : decode cX9_write 74 = .ok (.iaload, 1) := by decide +kernel
theorem dX9_write_75 : decode cX9_write 75 = .ok (.aload_n 0, 1) := by decide +kernel
theorem dX9_write_76 : decode cX9_write 76 = .ok (.getfield 62, 3) := by decide +kernel
theorem dX9_write_79 : decode cX9_write 79 = .ok (.bipush 10, 2) := by decide +kernel
theorem dX9_write_81 : decode cX9_write 81 = .ok (.iload 4, 2) := by decide +kernel
theorem dX9_write_83 : decode cX9_write 83 = .ok (.imul, 1) := by decide +kernel
theorem dX9_write_84 : decode cX9_write 84 = .ok (.iload_n 1, 1) := by decide +kernel
theorem dX9_write_85 : decode cX9_write 85 = .ok (.iadd, 1) := by decide +kernel
theorem dX9_write_86 : decode cX9_write 86 = .ok (.iaload, 1) := by decide +kernel
theorem dX9_write_87 : decode cX9_write 87 = .ok (.invokestatic 115, 3) := by decide +kernel
theorem dX9_write_90 : decode cX9_write 90 = .ok (.iastore, 1) := by decide +kernel
theorem dX9_write_91 : decode cX9_write 91 = .ok (.iinc 4 1, 3) := by decide +kernel
theorem dX9_write_94 : decode cX9_write 94 = .ok (.goto (-42), 3) := by decide +kernel
theorem dX9_write_97 : decode cX9_write 97 = .ok (.iload_n 3, 1) := by decide +kernel
theorem dX9_write_98 : decode cX9_write 98 = .ok (.ireturn, 1) := by decide +kernel
theorem dX9_count_0 : decode cX9_count 0 = .ok (.aload_n 0, 1) := by decide +kernel
theorem dX9_count_1 : decode cX9_count 1 = .ok (.invokevirtual 220, 3) := by decide +kernel
theorem dX9_count_4 : decode cX9_count 4 = .ok (.iload_n 1, 1) := by decide +kernel
theorem dX9_count_5 : decode cX9_count 5 = .ok (.tableswitch 90 0 8 #[51, 56, 61, 66, 66, 66, 75, 80, 85], 51) := by decide +kernel
theorem dX9_count_56 : decode cX9_count 56 = .ok (.aload_n 0, 1) := by decide +kernel
theorem dX9_count_57 : decode cX9_count 57 = .ok (.getfield 128, 3) := by decide +kernel
theorem dX9_count_60 : decode cX9_count 60 = .ok (.ireturn, 1) := by decide +kernel
theorem dX9_count_61 : decode cX9_count 61 = .ok (.aload_n 0, 1) := by decide +kernel
theorem dX9_count_62 : decode cX9_count 62 = .ok (.getfield 134, 3) := by decide +kernel
theorem dX9_count_65 : decode cX9_count 65 = .ok (.ireturn, 1) := by decide +kernel
theorem dX9_count_66 : decode cX9_count 66 = .ok (.aload_n 0, 1) := by decide +kernel
theorem dX9_count_67 : decode cX9_count 67 = .ok (.getfield 137, 3) := by decide +kernel
theorem dX9_count_70 : decode cX9_count 70 = .ok (.ireturn, 1) := by decide +kernel
theorem dX9_count_71 : decode cX9_count 71 = .ok (.aload_n 0, 1) := by decide +kernel
theorem dX9_count_72 : decode cX9_count 72 = .ok (.getfield 25, 3) := by decide +kernel
theorem dX9_count_75 : decode cX9_count 75 = .ok (.iload_n 1, 1) := by decide +kernel
theorem dX9_count_76 : decode cX9_count 76 = .ok (.iconst 3, 1) := by decide +kernel
theorem dX9_count_77 : decode cX9_count 77 = .ok (.isub, 1) := by decide +kernel
theorem dX9_count_78 : decode cX9_count 78 = .ok (.iaload, 1) := by decide +kernel
theorem dX9_count_79 : decode cX9_count 79 = .ok (.ireturn, 1) := by decide +kernel
theorem dX9_count_80 : decode cX9_count 80 = .ok (.aload_n 0, 1) := by decide +kernel
theorem dX9_count_81 : decode cX9_count 81 = .ok (.getfield 169, 3) := by decide +kernel
theorem dX9_count_84 : decode cX9_count 84 = .ok (.ireturn, 1) := by decide +kernel
theorem dX9_count_85 : decode cX9_count 85 = .ok (.aload_n 0, 1) := by decide +kernel
theorem dX9_count_86 : decode cX9_count 86 = .ok (.getfield 265, 3) := by decide +kernel
theorem dX9_count_89 : decode cX9_count 89 = .ok (.ireturn, 1) := by decide +kernel
theorem dX9_count_90 : decode cX9_count 90 = .ok (.aload_n 0, 1) := by decide +kernel
theorem dX9_count_91 : decode cX9_count 91 = .ok (.getfield 96, 3) := by decide +kernel
theorem dX9_count_94 : decode cX9_count 94 = .ok (.ireturn, 1) := by decide +kernel
theorem dX9_count_95 : decode cX9_count 95 = .ok (.bipush (-2), 2) := by decide +kernel
theorem dX9_count_97 : decode cX9_count 97 = .ok (.ireturn, 1) := by decide +kernel
theorem dX9_tellsWeek_0 : decode cX9_tellsWeek 0 = .ok (.lload_n 1, 1) := by decide +kernel
theorem dX9_tellsWeek_1 : decode cX9_tellsWeek 1 = .ok (.lstore 5, 2) := by decide +kernel
theorem dX9_tellsWeek_3 : decode cX9_tellsWeek 3 = .ok (.iconst 0, 1) := by decide +kernel
theorem dX9_tellsWeek_4 : decode cX9_tellsWeek 4 = .ok (.istore 7, 2) := by decide +kernel
theorem dX9_tellsWeek_6 : decode cX9_tellsWeek 6 = .ok (.iload 7, 2) := by decide +kernel
theorem dX9_tellsWeek_8 : decode cX9_tellsWeek 8 = .ok (.iconst 5, 1) := by decide +kernel
theorem dX9_tellsWeek_9 : decode cX9_tellsWeek 9 = .ok (.if_icmp .ge 28, 3) := by decide +kernel
theorem dX9_tellsWeek_12 : decode cX9_tellsWeek 12 = .ok (.ldc2_w 319, 3) := by decide +kernel
theorem dX9_tellsWeek_15 : decode cX9_tellsWeek 15 = .ok (.lload 5, 2) := by decide +kernel
theorem dX9_tellsWeek_17 : decode cX9_tellsWeek 17 = .ok (.lmul, 1) := by decide +kernel
theorem dX9_tellsWeek_18 : decode cX9_tellsWeek 18 = .ok (.aload_n 0, 1) := by decide +kernel
theorem dX9_tellsWeek_19 : decode cX9_tellsWeek 19 = .ok (.iload_n 3, 1) := by decide +kernel
theorem dX9_tellsWeek_20 : decode cX9_tellsWeek 20 = .ok (.iload 4, 2) := by decide +kernel
theorem dX9_tellsWeek_22 : decode cX9_tellsWeek 22 = .ok (.iload 7, 2) := by decide +kernel
theorem dX9_tellsWeek_24 : decode cX9_tellsWeek 24 = .ok (.invokevirtual 225, 3) := by decide +kernel
theorem dX9_tellsWeek_27 : decode cX9_tellsWeek 27 = .ok (.i2l, 1) := by decide +kernel
theorem dX9_tellsWeek_28 : decode cX9_tellsWeek 28 = .ok (.ladd, 1) := by decide +kernel
theorem dX9_tellsWeek_29 : decode cX9_tellsWeek 29 = .ok (.lstore 5, 2) := by decide +kernel
theorem dX9_tellsWeek_31 : decode cX9_tellsWeek 31 = .ok (.iinc 7 1, 3) := by decide +kernel
theorem dX9_tellsWeek_34 : decode cX9_tellsWeek 34 = .ok (.goto (-28), 3) := by decide +kernel
theorem dX9_tellsWeek_37 : decode cX9_tellsWeek 37 = .ok (.lload 5, 2) := by decide +kernel
theorem dX9_tellsWeek_39 : decode cX9_tellsWeek 39 = .ok (.lreturn, 1) := by decide +kernel
theorem dX9_tellsThing_0 : decode cX9_tellsThing 0 = .ok (.aload_n 0, 1) := by decide +kernel
theorem dX9_tellsThing_1 : decode cX9_tellsThing 1 = .ok (.invokevirtual 217, 3) := by decide +kernel
theorem dX9_tellsThing_4 : decode cX9_tellsThing 4 = .ok (.lload_n 1, 1) := by decide +kernel
theorem dX9_tellsThing_5 : decode cX9_tellsThing 5 = .ok (.lstore 4, 2) := by decide +kernel
theorem dX9_tellsThing_7 : decode cX9_tellsThing 7 = .ok (.iconst 0, 1) := by decide +kernel
theorem dX9_tellsThing_8 : decode cX9_tellsThing 8 = .ok (.istore 6, 2) := by decide +kernel
theorem dX9_tellsThing_10 : decode cX9_tellsThing 10 = .ok (.iload 6, 2) := by decide +kernel
theorem dX9_tellsThing_12 : decode cX9_tellsThing 12 = .ok (.iconst 3, 1) := by decide +kernel
theorem dX9_tellsThing_13 : decode cX9_tellsThing 13 = .ok (.if_icmp .ge 30, 3) := by decide +kernel
theorem dX9_tellsThing_16 : decode cX9_tellsThing 16 = .ok (.ldc2_w 319, 3) := by decide +kernel
theorem dX9_tellsThing_19 : decode cX9_tellsThing 19 = .ok (.lload 4, 2) := by decide +kernel
theorem dX9_tellsThing_21 : decode cX9_tellsThing 21 = .ok (.lmul, 1) := by decide +kernel
theorem dX9_tellsThing_22 : decode cX9_tellsThing 22 = .ok (.aload_n 0, 1) := by decide +kernel
theorem dX9_tellsThing_23 : decode cX9_tellsThing 23 = .ok (.getfield 28, 3) := by decide +kernel
theorem dX9_tellsThing_26 : decode cX9_tellsThing 26 = .ok (.iconst 3, 1) := by decide +kernel
theorem dX9_tellsThing_27 : decode cX9_tellsThing 27 = .ok (.iload_n 3, 1) := by decide +kernel
theorem dX9_tellsThing_28 : decode cX9_tellsThing 28 = .ok (.imul, 1) := by decide +kernel
theorem dX9_tellsThing_29 : decode cX9_tellsThing 29 = .ok (.iload 6, 2) := by decide +kernel
theorem dX9_tellsThing_31 : decode cX9_tellsThing 31 = .ok (.iadd, 1) := by decide +kernel
theorem dX9_tellsThing_32 : decode cX9_tellsThing 32 = .ok (.iaload, 1) := by decide +kernel
theorem dX9_tellsThing_33 : decode cX9_tellsThing 33 = .ok (.i2l, 1) := by decide +kernel
theorem dX9_tellsThing_34 : decode cX9_tellsThing 34 = .ok (.ladd, 1) := by decide +kernel
theorem dX9_tellsThing_35 : decode cX9_tellsThing 35 = .ok (.lstore 4, 2) := by decide +kernel
theorem dX9_tellsThing_37 : decode cX9_tellsThing 37 = .ok (.iinc 6 1, 3) := by decide +kernel
theorem dX9_tellsThing_40 : decode cX9_tellsThing 40 = .ok (.goto (-30), 3) := by decide +kernel
theorem dX9_tellsThing_43 : decode cX9_tellsThing 43 = .ok (.aload_n 0, 1) := by decide +kernel
theorem dX9_tellsThing_44 : decode cX9_tellsThing 44 = .ok (.aload_n 0, 1) := by decide +kernel
theorem dX9_tellsThing_45 : decode cX9_tellsThing 45 = .ok (.aload_n 0, 1) := by decide +kernel
theorem dX9_tellsThing_46 : decode cX9_tellsThing 46 = .ok (.aload_n 0, 1) := by decide +kernel
theorem dX9_tellsThing_47 : decode cX9_tellsThing 47 = .ok (.lload 4, 2) := by decide +kernel
theorem dX9_tellsThing_49 : decode cX9_tellsThing 49 = .ok (.iconst 0, 1) := by decide +kernel
theorem dX9_tellsThing_50 : decode cX9_tellsThing 50 = .ok (.iload_n 3, 1) := by decide +kernel
theorem dX9_tellsThing_51 : decode cX9_tellsThing 51 = .ok (.invokevirtual 321, 3) := by decide +kernel
theorem dX9_tellsThing_54 : decode cX9_tellsThing 54 = .ok (.iconst 4, 1) := by decide +kernel
theorem dX9_tellsThing_55 : decode cX9_tellsThing 55 = .ok (.iload_n 3, 1) := by decide +kernel
theorem dX9_tellsThing_56 : decode cX9_tellsThing 56 = .ok (.invokevirtual 321, 3) := by decide +kernel
theorem dX9_tellsThing_59 : decode cX9_tellsThing 59 = .ok (.bipush 8, 2) := by decide +kernel
theorem dX9_tellsThing_61 : decode cX9_tellsThing 61 = .ok (.iload_n 3, 1) := by decide +kernel
theorem dX9_tellsThing_62 : decode cX9_tellsThing 62 = .ok (.invokevirtual 321, 3) := by decide +kernel
theorem dX9_tellsThing_65 : decode cX9_tellsThing 65 = .ok (.bipush 11, 2) := by decide +kernel
theorem dX9_tellsThing_67 : decode cX9_tellsThing 67 = .ok (.iload_n 3, 1) := by decide +kernel
theorem dX9_tellsThing_68 : decode cX9_tellsThing 68 = .ok (.invokevirtual 321, 3) := by decide +kernel
theorem dX9_tellsThing_71 : decode cX9_tellsThing 71 = .ok (.lstore 4, 2) := by decide +kernel
theorem dX9_tellsThing_73 : decode cX9_tellsThing 73 = .ok (.ldc2_w 319, 3) := by decide +kernel
theorem dX9_tellsThing_76 : decode cX9_tellsThing 76 = .ok (.lload 4, 2) := by decide +kernel
theorem dX9_tellsThing_78 : decode cX9_tellsThing 78 = .ok (.lmul, 1) := by decide +kernel
theorem dX9_tellsThing_79 : decode cX9_tellsThing 79 = .ok (.aload_n 0, 1) := by decide +kernel
theorem dX9_tellsThing_80 : decode cX9_tellsThing 80 = .ok (.iload_n 3, 1) := by decide +kernel
theorem dX9_tellsThing_81 : decode cX9_tellsThing 81 = .ok (.iconst 0, 1) := by decide +kernel
theorem dX9_tellsThing_82 : decode cX9_tellsThing 82 = .ok (.invokevirtual 248, 3) := by decide +kernel
theorem dX9_tellsThing_85 : decode cX9_tellsThing 85 = .ok (.i2l, 1) := by decide +kernel
theorem dX9_tellsThing_86 : decode cX9_tellsThing 86 = .ok (.ladd, 1) := by decide +kernel
theorem dX9_tellsThing_87 : decode cX9_tellsThing 87 = .ok (.lstore 4, 2) := by decide +kernel
theorem dX9_tellsThing_89 : decode cX9_tellsThing 89 = .ok (.ldc2_w 319, 3) := by decide +kernel
theorem dX9_tellsThing_92 : decode cX9_tellsThing 92 = .ok (.lload 4, 2) := by decide +kernel
theorem dX9_tellsThing_94 : decode cX9_tellsThing 94 = .ok (.lmul, 1) := by decide +kernel
theorem dX9_tellsThing_95 : decode cX9_tellsThing 95 = .ok (.aload_n 0, 1) := by decide +kernel
theorem dX9_tellsThing_96 : decode cX9_tellsThing 96 = .ok (.iload_n 3, 1) := by decide +kernel
theorem dX9_tellsThing_97 : decode cX9_tellsThing 97 = .ok (.iconst 1, 1) := by decide +kernel
theorem dX9_tellsThing_98 : decode cX9_tellsThing 98 = .ok (.invokevirtual 248, 3) := by decide +kernel
theorem dX9_tellsThing_101 : decode cX9_tellsThing 101 = .ok (.i2l, 1) := by decide +kernel
theorem dX9_tellsThing_102 : decode cX9_tellsThing 102 = .ok (.ladd, 1) := by decide +kernel
theorem dX9_tellsThing_103 : decode cX9_tellsThing 103 = .ok (.lstore 4, 2) := by decide +kernel
theorem dX9_tellsThing_105 : decode cX9_tellsThing 105 = .ok (.ldc2_w 319, 3) := by decide +kernel
theorem dX9_tellsThing_108 : decode cX9_tellsThing 108 = .ok (.lload 4, 2) := by decide +kernel
theorem dX9_tellsThing_110 : decode cX9_tellsThing 110 = .ok (.lmul, 1) := by decide +kernel
theorem dX9_tellsThing_111 : decode cX9_tellsThing 111 = .ok (.aload_n 0, 1) := by decide +kernel
theorem dX9_tellsThing_112 : decode cX9_tellsThing 112 = .ok (.iload_n 3, 1) := by decide +kernel
theorem dX9_tellsThing_113 : decode cX9_tellsThing 113 = .ok (.iconst 0, 1) := by decide +kernel
theorem dX9_tellsThing_114 : decode cX9_tellsThing 114 = .ok (.invokevirtual 251, 3) := by decide +kernel
theorem dX9_tellsThing_117 : decode cX9_tellsThing 117 = .ok (.i2l, 1) := by decide +kernel
theorem dX9_tellsThing_118 : decode cX9_tellsThing 118 = .ok (.ladd, 1) := by decide +kernel
theorem dX9_tellsThing_119 : decode cX9_tellsThing 119 = .ok (.lstore 4, 2) := by decide +kernel
theorem dX9_tellsThing_121 : decode cX9_tellsThing 121 = .ok (.ldc2_w 319, 3) := by decide +kernel
theorem dX9_tellsThing_124 : decode cX9_tellsThing 124 = .ok (.lload 4, 2) := by decide +kernel
theorem dX9_tellsThing_126 : decode cX9_tellsThing 126 = .ok (.lmul, 1) := by decide +kernel
theorem dX9_tellsThing_127 : decode cX9_tellsThing 127 = .ok (.aload_n 0, 1) := by decide +kernel
theorem dX9_tellsThing_128 : decode cX9_tellsThing 128 = .ok (.iload_n 3, 1) := by decide +kernel
theorem dX9_tellsThing_129 : decode cX9_tellsThing 129 = .ok (.iconst 1, 1) := by decide +kernel
theorem dX9_tellsThing_130 : decode cX9_tellsThing 130 = .ok (.invokevirtual 251, 3) := by decide +kernel
theorem dX9_tellsThing_133 : decode cX9_tellsThing 133 = .ok (.i2l, 1) := by decide +kernel
theorem dX9_tellsThing_134 : decode cX9_tellsThing 134 = .ok (.ladd, 1) := by decide +kernel
theorem dX9_tellsThing_135 : decode cX9_tellsThing 135 = .ok (.lstore 4, 2) := by decide +kernel
theorem dX9_tellsThing_137 : decode cX9_tellsThing 137 = .ok (.ldc2_w 319, 3) := by decide +kernel
theorem dX9_tellsThing_140 : decode cX9_tellsThing 140 = .ok (.lload 4, 2) := by decide +kernel
theorem dX9_tellsThing_142 : decode cX9_tellsThing 142 = .ok (.lmul, 1) := by decide +kernel
theorem dX9_tellsThing_143 : decode cX9_tellsThing 143 = .ok (.aload_n 0, 1) := by decide +kernel
theorem dX9_tellsThing_144 : decode cX9_tellsThing 144 = .ok (.iload_n 3, 1) := by decide +kernel
theorem dX9_tellsThing_145 : decode cX9_tellsThing 145 = .ok (.invokevirtual 278, 3) := by decide +kernel
theorem dX9_tellsThing_148 : decode cX9_tellsThing 148 = .ok (.i2l, 1) := by decide +kernel
theorem dX9_tellsThing_149 : decode cX9_tellsThing 149 = .ok (.ladd, 1) := by decide +kernel
theorem dX9_tellsThing_150 : decode cX9_tellsThing 150 = .ok (.lstore 4, 2) := by decide +kernel
theorem dX9_tellsThing_152 : decode cX9_tellsThing 152 = .ok (.ldc2_w 319, 3) := by decide +kernel
theorem dX9_tellsThing_155 : decode cX9_tellsThing 155 = .ok (.lload 4, 2) := by decide +kernel
theorem dX9_tellsThing_157 : decode cX9_tellsThing 157 = .ok (.lmul, 1) := by decide +kernel
theorem dX9_tellsThing_158 : decode cX9_tellsThing 158 = .ok (.aload_n 0, 1) := by decide +kernel
theorem dX9_tellsThing_159 : decode cX9_tellsThing 159 = .ok (.iload_n 3, 1) := by decide +kernel
theorem dX9_tellsThing_160 : decode cX9_tellsThing 160 = .ok (.invokevirtual 287, 3) := by decide +kernel
theorem dX9_tellsThing_163 : decode cX9_tellsThing 163 = .ok (.i2l, 1) := by decide +kernel
theorem dX9_tellsThing_164 : decode cX9_tellsThing 164 = .ok (.ladd, 1) := by decide +kernel
theorem dX9_tellsThing_165 : decode cX9_tellsThing 165 = .ok (.lstore 4, 2) := by decide +kernel
theorem dX9_tellsThing_167 : decode cX9_tellsThing 167 = .ok (.ldc2_w 319, 3) := by decide +kernel
theorem dX9_tellsThing_170 : decode cX9_tellsThing 170 = .ok (.lload 4, 2) := by decide +kernel
theorem dX9_tellsThing_172 : decode cX9_tellsThing 172 = .ok (.lmul, 1) := by decide +kernel
theorem dX9_tellsThing_173 : decode cX9_tellsThing 173 = .ok (.aload_n 0, 1) := by decide +kernel
theorem dX9_tellsThing_174 : decode cX9_tellsThing 174 = .ok (.iconst 5, 1) := by decide +kernel
theorem dX9_tellsThing_175 : decode cX9_tellsThing 175 = .ok (.iload_n 3, 1) := by decide +kernel
theorem dX9_tellsThing_176 : decode cX9_tellsThing 176 = .ok (.iconst 0, 1) := by decide +kernel
theorem dX9_tellsThing_177 : decode cX9_tellsThing 177 = .ok (.invokevirtual 296, 3) := by decide +kernel
theorem dX9_tellsThing_180 : decode cX9_tellsThing 180 = .ok (.ladd, 1) := by decide +kernel
theorem dX9_tellsThing_181 : decode cX9_tellsThing 181 = .ok (.lstore 4, 2) := by decide +kernel
theorem dX9_tellsThing_183 : decode cX9_tellsThing 183 = .ok (.ldc2_w 319, 3) := by decide +kernel
theorem dX9_tellsThing_186 : decode cX9_tellsThing 186 = .ok (.lload 4, 2) := by decide +kernel
theorem dX9_tellsThing_188 : decode cX9_tellsThing 188 = .ok (.lmul, 1) := by decide +kernel
theorem dX9_tellsThing_189 : decode cX9_tellsThing 189 = .ok (.aload_n 0, 1) := by decide +kernel
theorem dX9_tellsThing_190 : decode cX9_tellsThing 190 = .ok (.iconst 5, 1) := by decide +kernel
theorem dX9_tellsThing_191 : decode cX9_tellsThing 191 = .ok (.iload_n 3, 1) := by decide +kernel
theorem dX9_tellsThing_192 : decode cX9_tellsThing 192 = .ok (.iconst 1, 1) := by decide +kernel
theorem dX9_tellsThing_193 : decode cX9_tellsThing 193 = .ok (.invokevirtual 296, 3) := by decide +kernel
theorem dX9_tellsThing_196 : decode cX9_tellsThing 196 = .ok (.ladd, 1) := by decide +kernel
theorem dX9_tellsThing_197 : decode cX9_tellsThing 197 = .ok (.lreturn, 1) := by decide +kernel
theorem dX9_tellsOwner_0 : decode cX9_tellsOwner 0 = .ok (.aload_n 0, 1) := by decide +kernel
theorem dX9_tellsOwner_1 : decode cX9_tellsOwner 1 = .ok (.invokevirtual 217, 3) := by decide +kernel
theorem dX9_tellsOwner_4 : decode cX9_tellsOwner 4 = .ok (.ldc2_w 319, 3) := by decide +kernel
theorem dX9_tellsOwner_7 : decode cX9_tellsOwner 7 = .ok (.lload_n 1, 1) := by decide +kernel
theorem dX9_tellsOwner_8 : decode cX9_tellsOwner 8 = .ok (.lmul, 1) := by decide +kernel
theorem dX9_tellsOwner_9 : decode cX9_tellsOwner 9 = .ok (.aload_n 0, 1) := by decide +kernel
theorem dX9_tellsOwner_10 : decode cX9_tellsOwner 10 = .ok (.iload_n 3, 1) := by decide +kernel
theorem dX9_tellsOwner_11 : decode cX9_tellsOwner 11 = .ok (.invokevirtual 236, 3) := by decide +kernel
theorem dX9_tellsOwner_14 : decode cX9_tellsOwner 14 = .ok (.i2l, 1) := by decide +kernel
theorem dX9_tellsOwner_15 : decode cX9_tellsOwner 15 = .ok (.ladd, 1) := by decide +kernel
theorem dX9_tellsOwner_16 : decode cX9_tellsOwner 16 = .ok (.lstore 4, 2) := by decide +kernel
theorem dX9_tellsOwner_18 : decode cX9_tellsOwner 18 = .ok (.ldc2_w 319, 3) := by decide +kernel
theorem dX9_tellsOwner_21 : decode cX9_tellsOwner 21 = .ok (.lload 4, 2) := by decide +kernel
theorem dX9_tellsOwner_23 : decode cX9_tellsOwner 23 = .ok (.lmul, 1) := by decide +kernel
theorem dX9_tellsOwner_24 : decode cX9_tellsOwner 24 = .ok (.aload_n 0, 1) := by decide +kernel
theorem dX9_tellsOwner_25 : decode cX9_tellsOwner 25 = .ok (.bipush 6, 2) := by decide +kernel
theorem dX9_tellsOwner_27 : decode cX9_tellsOwner 27 = .ok (.iload_n 3, 1) := by decide +kernel
theorem dX9_tellsOwner_28 : decode cX9_tellsOwner 28 = .ok (.iconst 0, 1) := by decide +kernel
theorem dX9_tellsOwner_29 : decode cX9_tellsOwner 29 = .ok (.invokevirtual 254, 3) := by decide +kernel
theorem dX9_tellsOwner_32 : decode cX9_tellsOwner 32 = .ok (.i2l, 1) := by decide +kernel
theorem dX9_tellsOwner_33 : decode cX9_tellsOwner 33 = .ok (.ladd, 1) := by decide +kernel
theorem dX9_tellsOwner_34 : decode cX9_tellsOwner 34 = .ok (.lstore 4, 2) := by decide +kernel
theorem dX9_tellsOwner_36 : decode cX9_tellsOwner 36 = .ok (.ldc2_w 319, 3) := by decide +kernel
theorem dX9_tellsOwner_39 : decode cX9_tellsOwner 39 = .ok (.lload 4, 2) := by decide +kernel
theorem dX9_tellsOwner_41 : decode cX9_tellsOwner 41 = .ok (.lmul, 1) := by decide +kernel
theorem dX9_tellsOwner_42 : decode cX9_tellsOwner 42 = .ok (.aload_n 0, 1) := by decide +kernel
theorem dX9_tellsOwner_43 : decode cX9_tellsOwner 43 = .ok (.bipush 6, 2) := by decide +kernel
theorem dX9_tellsOwner_45 : decode cX9_tellsOwner 45 = .ok (.iload_n 3, 1) := by decide +kernel
theorem dX9_tellsOwner_46 : decode cX9_tellsOwner 46 = .ok (.iconst 1, 1) := by decide +kernel
theorem dX9_tellsOwner_47 : decode cX9_tellsOwner 47 = .ok (.invokevirtual 254, 3) := by decide +kernel
theorem dX9_tellsOwner_50 : decode cX9_tellsOwner 50 = .ok (.i2l, 1) := by decide +kernel
theorem dX9_tellsOwner_51 : decode cX9_tellsOwner 51 = .ok (.ladd, 1) := by decide +kernel
theorem dX9_tellsOwner_52 : decode cX9_tellsOwner 52 = .ok (.lreturn, 1) := by decide +kernel
theorem dX9_digest_0 : decode cX9_digest 0 = .ok (.ldc2_w 325, 3) := by decide +kernel
theorem dX9_digest_3 : decode cX9_digest 3 = .ok (.lstore_n 1, 1) := by decide +kernel
theorem dX9_digest_4 : decode cX9_digest 4 = .ok (.iconst 0, 1) := by decide +kernel
theorem dX9_digest_5 : decode cX9_digest 5 = .ok (.istore_n 3, 1) := by decide +kernel
theorem dX9_digest_6 : decode cX9_digest 6 = .ok (.iload_n 3, 1) := by decide +kernel
theorem dX9_digest_7 : decode cX9_digest 7 = .ok (.bipush 8, 2) := by decide +kernel
theorem dX9_digest_9 : decode cX9_digest 9 = .ok (.if_icmp .ge 22, 3) := by decide +kernel
theorem dX9_digest_12 : decode cX9_digest 12 = .ok (.ldc2_w 319, 3) := by decide +kernel
theorem dX9_digest_15 : decode cX9_digest 15 = .ok (.lload_n 1, 1) := by decide +kernel
theorem dX9_digest_16 : decode cX9_digest 16 = .ok (.lmul, 1) := by decide +kernel
theorem dX9_digest_17 : decode cX9_digest 17 = .ok (.aload_n 0, 1) := by decide +kernel
theorem dX9_digest_18 : decode cX9_digest 18 = .ok (.iload_n 3, 1) := by decide +kernel
theorem dX9_digest_19 : decode cX9_digest 19 = .ok (.invokevirtual 327, 3) := by decide +kernel
theorem dX9_digest_22 : decode cX9_digest 22 = .ok (.i2l, 1) := by decide +kernel
theorem dX9_digest_23 : decode cX9_digest 23 = .ok (.ladd, 1) := by decide +kernel
theorem dX9_digest_24 : decode cX9_digest 24 = .ok (.lstore_n 1, 1) := by decide +kernel
theorem dX9_digest_25 : decode cX9_digest 25 = .ok (.iinc 3 1, 3) := by decide +kernel
theorem dX9_digest_28 : decode cX9_digest 28 = .ok (.goto (-22), 3) := by decide +kernel
theorem dX9_digest_31 : decode cX9_digest 31 = .ok (.iconst 0, 1) := by decide +kernel
theorem dX9_digest_32 : decode cX9_digest 32 = .ok (.istore_n 3, 1) := by decide +kernel
theorem dX9_digest_33 : decode cX9_digest 33 = .ok (.iload_n 3, 1) := by decide +kernel
theorem dX9_digest_34 : decode cX9_digest 34 = .ok (.iconst 3, 1) := by decide +kernel
theorem dX9_digest_35 : decode cX9_digest 35 = .ok (.if_icmp .ge 22, 3) := by decide +kernel
theorem dX9_digest_38 : decode cX9_digest 38 = .ok (.ldc2_w 319, 3) := by decide +kernel
theorem dX9_digest_41 : decode cX9_digest 41 = .ok (.lload_n 1, 1) := by decide +kernel
theorem dX9_digest_42 : decode cX9_digest 42 = .ok (.lmul, 1) := by decide +kernel
theorem dX9_digest_43 : decode cX9_digest 43 = .ok (.aload_n 0, 1) := by decide +kernel
theorem dX9_digest_44 : decode cX9_digest 44 = .ok (.iload_n 3, 1) := by decide +kernel
theorem dX9_digest_45 : decode cX9_digest 45 = .ok (.invokevirtual 153, 3) := by decide +kernel
theorem dX9_digest_48 : decode cX9_digest 48 = .ok (.i2l, 1) := by decide +kernel
theorem dX9_digest_49 : decode cX9_digest 49 = .ok (.ladd, 1) := by decide +kernel
theorem dX9_digest_50 : decode cX9_digest 50 = .ok (.lstore_n 1, 1) := by decide +kernel
theorem dX9_digest_51 : decode cX9_digest 51 = .ok (.iinc 3 1, 3) := by decide +kernel
theorem dX9_digest_54 : decode cX9_digest 54 = .ok (.goto (-21), 3) := by decide +kernel
theorem dX9_digest_57 : decode cX9_digest 57 = .ok (.aload_n 0, 1) := by decide +kernel
theorem dX9_digest_58 : decode cX9_digest 58 = .ok (.invokevirtual 217, 3) := by decide +kernel
theorem dX9_digest_61 : decode cX9_digest 61 = .ok (.iconst 0, 1) := by decide +kernel
theorem dX9_digest_62 : decode cX9_digest 62 = .ok (.istore_n 3, 1) := by decide +kernel
theorem dX9_digest_63 : decode cX9_digest 63 = .ok (.iload_n 3, 1) := by decide +kernel
theorem dX9_digest_64 : decode cX9_digest 64 = .ok (.bipush 12, 2) := by decide +kernel
theorem dX9_digest_66 : decode cX9_digest 66 = .ok (.if_icmp .ge 71, 3) := by decide +kernel
theorem dX9_digest_69 : decode cX9_digest 69 = .ok (.ldc2_w 319, 3) := by decide +kernel
theorem dX9_digest_72 : decode cX9_digest 72 = .ok (.lload_n 1, 1) := by decide +kernel
theorem dX9_digest_73 : decode cX9_digest 73 = .ok (.lmul, 1) := by decide +kernel
theorem dX9_digest_74 : decode cX9_digest 74 = .ok (.aload_n 0, 1) := by decide +kernel
theorem dX9_digest_75 : decode cX9_digest 75 = .ok (.iload_n 3, 1) := by decide +kernel
theorem dX9_digest_76 : decode cX9_digest 76 = .ok (.iconst 0, 1) := by decide +kernel
theorem dX9_digest_77 : decode cX9_digest 77 = .ok (.invokevirtual 231, 3) := by decide +kernel
theorem dX9_digest_80 : decode cX9_digest 80 = .ok (.i2l, 1) := by decide +kernel
theorem dX9_digest_81 : decode cX9_digest 81 = .ok (.ladd, 1) := by decide +kernel
theorem dX9_digest_82 : decode cX9_digest 82 = .ok (.lstore_n 1, 1) := by decide +kernel
theorem dX9_digest_83 : decode cX9_digest 83 = .ok (.ldc2_w 319, 3) := by decide +kernel
theorem dX9_digest_86 : decode cX9_digest 86 = .ok (.lload_n 1, 1) := by decide +kernel
theorem dX9_digest_87 : decode cX9_digest 87 = .ok (.lmul, 1) := by decide +kernel
theorem dX9_digest_88 : decode cX9_digest 88 = .ok (.aload_n 0, 1) := by decide +kernel
theorem dX9_digest_89 : decode cX9_digest 89 = .ok (.iload_n 3, 1) := by decide +kernel
theorem dX9_digest_90 : decode cX9_digest 90 = .ok (.iconst 1, 1) := by decide +kernel
theorem dX9_digest_91 : decode cX9_digest 91 = .ok (.invokevirtual 231, 3) := by decide +kernel
theorem dX9_digest_94 : decode cX9_digest 94 = .ok (.i2l, 1) := by decide +kernel
theorem dX9_digest_95 : decode cX9_digest 95 = .ok (.ladd, 1) := by decide +kernel
theorem dX9_digest_96 : decode cX9_digest 96 = .ok (.lstore_n 1, 1) := by decide +kernel
theorem dX9_digest_97 : decode cX9_digest 97 = .ok (.iconst 0, 1) := by decide +kernel
theorem dX9_digest_98 : decode cX9_digest 98 = .ok (.istore 4, 2) := by decide +kernel
theorem dX9_digest_100 : decode cX9_digest 100 = .ok (.iload 4, 2) := by decide +kernel
theorem dX9_digest_102 : decode cX9_digest 102 = .ok (.iconst 3, 1) := by decide +kernel
theorem dX9_digest_103 : decode cX9_digest 103 = .ok (.if_icmp .ge 28, 3) := by decide +kernel
theorem dX9_digest_106 : decode cX9_digest 106 = .ok (.ldc2_w 319, 3) := by decide +kernel
theorem dX9_digest_109 : decode cX9_digest 109 = .ok (.lload_n 1, 1) := by decide +kernel
theorem dX9_digest_110 : decode cX9_digest 110 = .ok (.lmul, 1) := by decide +kernel
theorem dX9_digest_111 : decode cX9_digest 111 = .ok (.aload_n 0, 1) := by decide +kernel
theorem dX9_digest_112 : decode cX9_digest 112 = .ok (.getfield 74, 3) := by decide +kernel
theorem dX9_digest_115 : decode cX9_digest 115 = .ok (.iconst 3, 1) := by decide +kernel
theorem dX9_digest_116 : decode cX9_digest 116 = .ok (.iload_n 3, 1) := by decide +kernel
theorem dX9_digest_117 : decode cX9_digest 117 = .ok (.imul, 1) := by decide +kernel
theorem dX9_digest_118 : decode cX9_digest 118 = .ok (.iload 4, 2) := by decide +kernel
theorem dX9_digest_120 : decode cX9_digest 120 = .ok (.iadd, 1) := by decide +kernel
theorem dX9_digest_121 : decode cX9_digest 121 = .ok (.iaload, 1) := by decide +kernel
theorem dX9_digest_122 : decode cX9_digest 122 = .ok (.i2l, 1) := by decide +kernel
theorem dX9_digest_123 : decode cX9_digest 123 = .ok (.ladd, 1) := by decide +kernel
theorem dX9_digest_124 : decode cX9_digest 124 = .ok (.lstore_n 1, 1) := by decide +kernel
theorem dX9_digest_125 : decode cX9_digest 125 = .ok (.iinc 4 1, 3) := by decide +kernel
theorem dX9_digest_128 : decode cX9_digest 128 = .ok (.goto (-28), 3) := by decide +kernel
theorem dX9_digest_131 : decode cX9_digest 131 = .ok (.iinc 3 1, 3) := by decide +kernel
theorem dX9_digest_134 : decode cX9_digest 134 = .ok (.goto (-71), 3) := by decide +kernel
theorem dX9_digest_137 : decode cX9_digest 137 = .ok (.iconst 0, 1) := by decide +kernel
theorem dX9_digest_138 : decode cX9_digest 138 = .ok (.istore_n 3, 1) := by decide +kernel
theorem dX9_digest_139 : decode cX9_digest 139 = .ok (.iload_n 3, 1) := by decide +kernel
theorem dX9_digest_140 : decode cX9_digest 140 = .ok (.aload_n 0, 1) := by decide +kernel
theorem dX9_digest_141 : decode cX9_digest 141 = .ok (.getfield 128, 3) := by decide +kernel
theorem dX9_digest_144 : decode cX9_digest 144 = .ok (.if_icmp .ge 16, 3) := by decide +kernel
theorem dX9_digest_147 : decode cX9_digest 147 = .ok (.aload_n 0, 1) := by decide +kernel
theorem dX9_digest_148 : decode cX9_digest 148 = .ok (.lload_n 1, 1) := by decide +kernel
theorem dX9_digest_149 : decode cX9_digest 149 = .ok (.iload_n 3, 1) := by decide +kernel
theorem dX9_digest_150 : decode cX9_digest 150 = .ok (.invokevirtual 330, 3) := by decide +kernel
theorem dX9_digest_153 : decode cX9_digest 153 = .ok (.lstore_n 1, 1) := by decide +kernel
theorem dX9_digest_154 : decode cX9_digest 154 = .ok (.iinc 3 1, 3) := by decide +kernel
theorem dX9_digest_157 : decode cX9_digest 157 = .ok (.goto (-18), 3) := by decide +kernel
theorem dX9_digest_160 : decode cX9_digest 160 = .ok (.iconst 0, 1) := by decide +kernel
theorem dX9_digest_161 : decode cX9_digest 161 = .ok (.istore_n 3, 1) := by decide +kernel
theorem dX9_digest_162 : decode cX9_digest 162 = .ok (.iload_n 3, 1) := by decide +kernel
theorem dX9_digest_163 : decode cX9_digest 163 = .ok (.aload_n 0, 1) := by decide +kernel
theorem dX9_digest_164 : decode cX9_digest 164 = .ok (.getfield 134, 3) := by decide +kernel
theorem dX9_digest_167 : decode cX9_digest 167 = .ok (.if_icmp .ge 56, 3) := by decide +kernel
theorem dX9_digest_170 : decode cX9_digest 170 = .ok (.iconst 0, 1) := by decide +kernel
theorem dX9_digest_171 : decode cX9_digest 171 = .ok (.istore 4, 2) := by decide +kernel
theorem dX9_digest_173 : decode cX9_digest 173 = .ok (.iload 4, 2) := by decide +kernel
theorem dX9_digest_175 : decode cX9_digest 175 = .ok (.iconst 3, 1) := by decide +kernel
theorem dX9_digest_176 : decode cX9_digest 176 = .ok (.if_icmp .ge 28, 3) := by decide +kernel
theorem dX9_digest_179 : decode cX9_digest 179 = .ok (.ldc2_w 319, 3) := by decide +kernel
theorem dX9_digest_182 : decode cX9_digest 182 = .ok (.lload_n 1, 1) := by decide +kernel
theorem dX9_digest_183 : decode cX9_digest 183 = .ok (.lmul, 1) := by decide +kernel
theorem dX9_digest_184 : decode cX9_digest 184 = .ok (.aload_n 0, 1) := by decide +kernel
theorem dX9_digest_185 : decode cX9_digest 185 = .ok (.getfield 31, 3) := by decide +kernel
theorem dX9_digest_188 : decode cX9_digest 188 = .ok (.iconst 3, 1) := by decide +kernel
theorem dX9_digest_189 : decode cX9_digest 189 = .ok (.iload_n 3, 1) := by decide +kernel
theorem dX9_digest_190 : decode cX9_digest 190 = .ok (.imul, 1) := by decide +kernel
theorem dX9_digest_191 : decode cX9_digest 191 = .ok (.iload 4, 2) := by decide +kernel
theorem dX9_digest_193 : decode cX9_digest 193 = .ok (.iadd, 1) := by decide +kernel
theorem dX9_digest_194 : decode cX9_digest 194 = .ok (.iaload, 1) := by decide +kernel
theorem dX9_digest_195 : decode cX9_digest 195 = .ok (.i2l, 1) := by decide +kernel
theorem dX9_digest_196 : decode cX9_digest 196 = .ok (.ladd, 1) := by decide +kernel
theorem dX9_digest_197 : decode cX9_digest 197 = .ok (.lstore_n 1, 1) := by decide +kernel
theorem dX9_digest_198 : decode cX9_digest 198 = .ok (.iinc 4 1, 3) := by decide +kernel
theorem dX9_digest_201 : decode cX9_digest 201 = .ok (.goto (-28), 3) := by decide +kernel
theorem dX9_digest_204 : decode cX9_digest 204 = .ok (.ldc2_w 319, 3) := by decide +kernel
theorem dX9_digest_207 : decode cX9_digest 207 = .ok (.lload_n 1, 1) := by decide +kernel
theorem dX9_digest_208 : decode cX9_digest 208 = .ok (.lmul, 1) := by decide +kernel
theorem dX9_digest_209 : decode cX9_digest 209 = .ok (.aload_n 0, 1) := by decide +kernel
theorem dX9_digest_210 : decode cX9_digest 210 = .ok (.iload_n 3, 1) := by decide +kernel
theorem dX9_digest_211 : decode cX9_digest 211 = .ok (.invokevirtual 281, 3) := by decide +kernel
theorem dX9_digest_214 : decode cX9_digest 214 = .ok (.i2l, 1) := by decide +kernel
theorem dX9_digest_215 : decode cX9_digest 215 = .ok (.ladd, 1) := by decide +kernel
theorem dX9_digest_216 : decode cX9_digest 216 = .ok (.lstore_n 1, 1) := by decide +kernel
theorem dX9_digest_217 : decode cX9_digest 217 = .ok (.iinc 3 1, 3) := by decide +kernel
theorem dX9_digest_220 : decode cX9_digest 220 = .ok (.goto (-58), 3) := by decide +kernel
theorem dX9_digest_223 : decode cX9_digest 223 = .ok (.iconst 0, 1) := by decide +kernel
theorem dX9_digest_224 : decode cX9_digest 224 = .ok (.istore_n 3, 1) := by decide +kernel
theorem dX9_digest_225 : decode cX9_digest 225 = .ok (.iload_n 3, 1) := by decide +kernel
theorem dX9_digest_226 : decode cX9_digest 226 = .ok (.bipush 6, 2) := by decide +kernel
theorem dX9_digest_228 : decode cX9_digest 228 = .ok (.if_icmp .ge 16, 3) := by decide +kernel
theorem dX9_digest_231 : decode cX9_digest 231 = .ok (.aload_n 0, 1) := by decide +kernel
theorem dX9_digest_232 : decode cX9_digest 232 = .ok (.lload_n 1, 1) := by decide +kernel
theorem dX9_digest_233 : decode cX9_digest 233 = .ok (.iload_n 3, 1) := by decide +kernel
theorem dX9_digest_234 : decode cX9_digest 234 = .ok (.invokevirtual 334, 3) := by decide +kernel
theorem dX9_digest_237 : decode cX9_digest 237 = .ok (.lstore_n 1, 1) := by decide +kernel
theorem dX9_digest_238 : decode cX9_digest 238 = .ok (.iinc 3 1, 3) := by decide +kernel
theorem dX9_digest_241 : decode cX9_digest 241 = .ok (.goto (-16), 3) := by decide +kernel
theorem dX9_digest_244 : decode cX9_digest 244 = .ok (.aload_n 0, 1) := by decide +kernel
theorem dX9_digest_245 : decode cX9_digest 245 = .ok (.invokevirtual 217, 3) := by decide +kernel
theorem dX9_digest_248 : decode cX9_digest 248 = .ok (.ldc2_w 319, 3) := by decide +kernel
theorem dX9_digest_251 : decode cX9_digest 251 = .ok (.lload_n 1, 1) := by decide +kernel
theorem dX9_digest_252 : decode cX9_digest 252 = .ok (.lmul, 1) := by decide +kernel
theorem dX9_digest_253 : decode cX9_digest 253 = .ok (.aload_n 0, 1) := by decide +kernel
theorem dX9_digest_254 : decode cX9_digest 254 = .ok (.invokevirtual 239, 3) := by decide +kernel
theorem dX9_digest_257 : decode cX9_digest 257 = .ok (.i2l, 1) := by decide +kernel
theorem dX9_digest_258 : decode cX9_digest 258 = .ok (.ladd, 1) := by decide +kernel
theorem dX9_digest_259 : decode cX9_digest 259 = .ok (.lstore_n 1, 1) := by decide +kernel
theorem dX9_digest_260 : decode cX9_digest 260 = .ok (.ldc2_w 319, 3) := by decide +kernel
theorem dX9_digest_263 : decode cX9_digest 263 = .ok (.lload_n 1, 1) := by decide +kernel
theorem dX9_digest_264 : decode cX9_digest 264 = .ok (.lmul, 1) := by decide +kernel
theorem dX9_digest_265 : decode cX9_digest 265 = .ok (.aload_n 0, 1) := by decide +kernel
theorem dX9_digest_266 : decode cX9_digest 266 = .ok (.invokevirtual 242, 3) := by decide +kernel
theorem dX9_digest_269 : decode cX9_digest 269 = .ok (.i2l, 1) := by decide +kernel
theorem dX9_digest_270 : decode cX9_digest 270 = .ok (.ladd, 1) := by decide +kernel
theorem dX9_digest_271 : decode cX9_digest 271 = .ok (.lstore_n 1, 1) := by decide +kernel
theorem dX9_digest_272 : decode cX9_digest 272 = .ok (.ldc2_w 319, 3) := by decide +kernel
theorem dX9_digest_275 : decode cX9_digest 275 = .ok (.lload_n 1, 1) := by decide +kernel
theorem dX9_digest_276 : decode cX9_digest 276 = .ok (.lmul, 1) := by decide +kernel
theorem dX9_digest_277 : decode cX9_digest 277 = .ok (.aload_n 0, 1) := by decide +kernel
theorem dX9_digest_278 : decode cX9_digest 278 = .ok (.iconst 0, 1) := by decide +kernel
theorem dX9_digest_279 : decode cX9_digest 279 = .ok (.invokevirtual 245, 3) := by decide +kernel
theorem dX9_digest_282 : decode cX9_digest 282 = .ok (.i2l, 1) := by decide +kernel
theorem dX9_digest_283 : decode cX9_digest 283 = .ok (.ladd, 1) := by decide +kernel
theorem dX9_digest_284 : decode cX9_digest 284 = .ok (.lstore_n 1, 1) := by decide +kernel
theorem dX9_digest_285 : decode cX9_digest 285 = .ok (.ldc2_w 319, 3) := by decide +kernel
theorem dX9_digest_288 : decode cX9_digest 288 = .ok (.lload_n 1, 1) := by decide +kernel
theorem dX9_digest_289 : decode cX9_digest 289 = .ok (.lmul, 1) := by decide +kernel
theorem dX9_digest_290 : decode cX9_digest 290 = .ok (.aload_n 0, 1) := by decide +kernel
theorem dX9_digest_291 : decode cX9_digest 291 = .ok (.iconst 1, 1) := by decide +kernel
theorem dX9_digest_292 : decode cX9_digest 292 = .ok (.invokevirtual 245, 3) := by decide +kernel
theorem dX9_digest_295 : decode cX9_digest 295 = .ok (.i2l, 1) := by decide +kernel
theorem dX9_digest_296 : decode cX9_digest 296 = .ok (.ladd, 1) := by decide +kernel
theorem dX9_digest_297 : decode cX9_digest 297 = .ok (.lstore_n 1, 1) := by decide +kernel
theorem dX9_digest_298 : decode cX9_digest 298 = .ok (.ldc2_w 319, 3) := by decide +kernel
theorem dX9_digest_301 : decode cX9_digest 301 = .ok (.lload_n 1, 1) := by decide +kernel
theorem dX9_digest_302 : decode cX9_digest 302 = .ok (.lmul, 1) := by decide +kernel
theorem dX9_digest_303 : decode cX9_digest 303 = .ok (.aload_n 0, 1) := by decide +kernel
theorem dX9_digest_304 : decode cX9_digest 304 = .ok (.iconst (-1), 1) := by decide +kernel
theorem dX9_digest_305 : decode cX9_digest 305 = .ok (.invokevirtual 262, 3) := by decide +kernel
theorem dX9_digest_308 : decode cX9_digest 308 = .ok (.i2l, 1) := by decide +kernel
theorem dX9_digest_309 : decode cX9_digest 309 = .ok (.ladd, 1) := by decide +kernel
theorem dX9_digest_310 : decode cX9_digest 310 = .ok (.lstore_n 1, 1) := by decide +kernel
theorem dX9_digest_311 : decode cX9_digest 311 = .ok (.ldc2_w 319, 3) := by decide +kernel
theorem dX9_digest_314 : decode cX9_digest 314 = .ok (.lload_n 1, 1) := by decide +kernel
theorem dX9_digest_315 : decode cX9_digest 315 = .ok (.lmul, 1) := by decide +kernel
theorem dX9_digest_316 : decode cX9_digest 316 = .ok (.aload_n 0, 1) := by decide +kernel
theorem dX9_digest_317 : decode cX9_digest 317 = .ok (.iconst 0, 1) := by decide +kernel
theorem dX9_digest_318 : decode cX9_digest 318 = .ok (.invokevirtual 262, 3) := by decide +kernel
theorem dX9_digest_321 : decode cX9_digest 321 = .ok (.i2l, 1) := by decide +kernel
theorem dX9_digest_322 : decode cX9_digest 322 = .ok (.ladd, 1) := by decide +kernel
theorem dX9_digest_323 : decode cX9_digest 323 = .ok (.lstore_n 1, 1) := by decide +kernel
theorem dX9_digest_324 : decode cX9_digest 324 = .ok (.ldc2_w 319, 3) := by decide +kernel
theorem dX9_digest_327 : decode cX9_digest 327 = .ok (.lload_n 1, 1) := by decide +kernel
theorem dX9_digest_328 : decode cX9_digest 328 = .ok (.lmul, 1) := by decide +kernel
theorem dX9_digest_329 : decode cX9_digest 329 = .ok (.aload_n 0, 1) := by decide +kernel
theorem dX9_digest_330 : decode cX9_digest 330 = .ok (.invokevirtual 275, 3) := by decide +kernel
theorem dX9_digest_333 : decode cX9_digest 333 = .ok (.i2l, 1) := by decide +kernel
theorem dX9_digest_334 : decode cX9_digest 334 = .ok (.ladd, 1) := by decide +kernel
theorem dX9_digest_335 : decode cX9_digest 335 = .ok (.lstore_n 1, 1) := by decide +kernel
theorem dX9_digest_336 : decode cX9_digest 336 = .ok (.ldc2_w 319, 3) := by decide +kernel
theorem dX9_digest_339 : decode cX9_digest 339 = .ok (.lload_n 1, 1) := by decide +kernel
theorem dX9_digest_340 : decode cX9_digest 340 = .ok (.lmul, 1) := by decide +kernel
theorem dX9_digest_341 : decode cX9_digest 341 = .ok (.aload_n 0, 1) := by decide +kernel
theorem dX9_digest_342 : decode cX9_digest 342 = .ok (.bipush 7, 2) := by decide +kernel
theorem dX9_digest_344 : decode cX9_digest 344 = .ok (.bipush 9, 2) := by decide +kernel
theorem dX9_digest_346 : decode cX9_digest 346 = .ok (.iconst 0, 1) := by decide +kernel
theorem dX9_digest_347 : decode cX9_digest 347 = .ok (.invokevirtual 316, 3) := by decide +kernel
theorem dX9_digest_350 : decode cX9_digest 350 = .ok (.i2l, 1) := by decide +kernel
theorem dX9_digest_351 : decode cX9_digest 351 = .ok (.ladd, 1) := by decide +kernel
theorem dX9_digest_352 : decode cX9_digest 352 = .ok (.lstore_n 1, 1) := by decide +kernel
theorem dX9_digest_353 : decode cX9_digest 353 = .ok (.ldc2_w 319, 3) := by decide +kernel
theorem dX9_digest_356 : decode cX9_digest 356 = .ok (.lload_n 1, 1) := by decide +kernel
theorem dX9_digest_357 : decode cX9_digest 357 = .ok (.lmul, 1) := by decide +kernel
theorem dX9_digest_358 : decode cX9_digest 358 = .ok (.aload_n 0, 1) := by decide +kernel
theorem dX9_digest_359 : decode cX9_digest 359 = .ok (.bipush 7, 2) := by decide +kernel
theorem dX9_digest_361 : decode cX9_digest 361 = .ok (.bipush 9, 2) := by decide +kernel
theorem dX9_digest_363 : decode cX9_digest 363 = .ok (.iconst 1, 1) := by decide +kernel
theorem dX9_digest_364 : decode cX9_digest 364 = .ok (.invokevirtual 316, 3) := by decide +kernel
theorem dX9_digest_367 : decode cX9_digest 367 = .ok (.i2l, 1) := by decide +kernel
theorem dX9_digest_368 : decode cX9_digest 368 = .ok (.ladd, 1) := by decide +kernel
theorem dX9_digest_369 : decode cX9_digest 369 = .ok (.lreturn, 1) := by decide +kernel
theorem dJ6_highestOneBit_0f7a4_0 : decode cJ6_highestOneBit_0f7a4 0 = .ok (.iload_n 0, 1) := by decide +kernel
theorem dJ6_highestOneBit_0f7a4_1 : decode cJ6_highestOneBit_0f7a4 1 = .ok (.ldc 127, 2) := by decide +kernel
theorem dJ6_highestOneBit_0f7a4_3 : decode cJ6_highestOneBit_0f7a4 3 = .ok (.iload_n 0, 1) := by decide +kernel
theorem dJ6_highestOneBit_0f7a4_4 : decode cJ6_highestOneBit_0f7a4 4 = .ok (.invokestatic 51, 3) := by decide +kernel
theorem dJ6_highestOneBit_0f7a4_7 : decode cJ6_highestOneBit_0f7a4 7 = .ok (.iushr, 1) := by decide +kernel
theorem dJ6_highestOneBit_0f7a4_8 : decode cJ6_highestOneBit_0f7a4 8 = .ok (.iand, 1) := by decide +kernel
theorem dJ6_highestOneBit_0f7a4_9 : decode cJ6_highestOneBit_0f7a4 9 = .ok (.ireturn, 1) := by decide +kernel
theorem dJ6_lowestOneBit_0f7a4_0 : decode cJ6_lowestOneBit_0f7a4 0 = .ok (.iload_n 0, 1) := by decide +kernel
theorem dJ6_lowestOneBit_0f7a4_1 : decode cJ6_lowestOneBit_0f7a4 1 = .ok (.iload_n 0, 1) := by decide +kernel
theorem dJ6_lowestOneBit_0f7a4_2 : decode cJ6_lowestOneBit_0f7a4 2 = .ok (.ineg, 1) := by decide +kernel
theorem dJ6_lowestOneBit_0f7a4_3 : decode cJ6_lowestOneBit_0f7a4 3 = .ok (.iand, 1) := by decide +kernel
theorem dJ6_lowestOneBit_0f7a4_4 : decode cJ6_lowestOneBit_0f7a4 4 = .ok (.ireturn, 1) := by decide +kernel
theorem dJ6_numberOfLeadingZeros_0f7a4_0 : decode cJ6_numberOfLeadingZeros_0f7a4 0 = .ok (.iload_n 0, 1) := by decide +kernel
theorem dJ6_numberOfLeadingZeros_0f7a4_1 : decode cJ6_numberOfLeadingZeros_0f7a4 1 = .ok (.ifCond .gt 14, 3) := by decide +kernel
theorem dJ6_numberOfLeadingZeros_0f7a4_4 : decode cJ6_numberOfLeadingZeros_0f7a4 4 = .ok (.iload_n 0, 1) := by decide +kernel
theorem dJ6_numberOfLeadingZeros_0f7a4_5 : decode cJ6_numberOfLeadingZeros_0f7a4 5 = .ok (.ifCond .ne 8, 3) := by decide +kernel
theorem dJ6_numberOfLeadingZeros_0f7a4_8 : decode cJ6_numberOfLeadingZeros_0f7a4 8 = .ok (.bipush 32, 2) := by decide +kernel
theorem dJ6_numberOfLeadingZeros_0f7a4_10 : decode cJ6_numberOfLeadingZeros_0f7a4 10 = .ok (.goto 4, 3) := by decide +kernel
theorem dJ6_numberOfLeadingZeros_0f7a4_13 : decode cJ6_numberOfLeadingZeros_0f7a4 13 = .ok (.iconst 0, 1) := by decide +kernel
theorem dJ6_numberOfLeadingZeros_0f7a4_14 : decode cJ6_numberOfLeadingZeros_0f7a4 14 = .ok (.ireturn, 1) := by decide +kernel
theorem dJ6_numberOfLeadingZeros_0f7a4_15 : decode cJ6_numberOfLeadingZeros_0f7a4 15 = .ok (.bipush 31, 2) := by decide +kernel
theorem dJ6_numberOfLeadingZeros_0f7a4_17 : decode cJ6_numberOfLeadingZeros_0f7a4 17 = .ok (.istore_n 1, 1) := by decide +kernel
theorem dJ6_numberOfLeadingZeros_0f7a4_18 : decode cJ6_numberOfLeadingZeros_0f7a4 18 = .ok (.iload_n 0, 1) := by decide +kernel
theorem dJ6_numberOfLeadingZeros_0f7a4_19 : decode cJ6_numberOfLeadingZeros_0f7a4 19 = .ok (.ldc_w 264, 3) := by decide +kernel
theorem dJ6_numberOfLeadingZeros_0f7a4_22 : decode cJ6_numberOfLeadingZeros_0f7a4 22 = .ok (.if_icmp .lt 11, 3) := by decide +kernel
theorem dJ6_numberOfLeadingZeros_0f7a4_25 : decode cJ6_numberOfLeadingZeros_0f7a4 25 = .ok (.iinc 1 (-16), 3) := by decide +kernel
theorem dJ6_numberOfLeadingZeros_0f7a4_28 : decode cJ6_numberOfLeadingZeros_0f7a4 28 = .ok (.iload_n 0, 1) := by decide +kernel
theorem dJ6_numberOfLeadingZeros_0f7a4_29 : decode cJ6_numberOfLeadingZeros_0f7a4 29 = .ok (.bipush 16, 2) := by decide +kernel
theorem dJ6_numberOfLeadingZeros_0f7a4_31 : decode cJ6_numberOfLeadingZeros_0f7a4 31 = .ok (.iushr, 1) := by decide +kernel
theorem dJ6_numberOfLeadingZeros_0f7a4_32 : decode cJ6_numberOfLeadingZeros_0f7a4 32 = .ok (.istore_n 0, 1) := by decide +kernel
theorem dJ6_numberOfLeadingZeros_0f7a4_33 : decode cJ6_numberOfLeadingZeros_0f7a4 33 = .ok (.iload_n 0, 1) := by decide +kernel
theorem dJ6_numberOfLeadingZeros_0f7a4_34 : decode cJ6_numberOfLeadingZeros_0f7a4 34 = .ok (.sipush 256, 3) := by decide +kernel
theorem dJ6_numberOfLeadingZeros_0f7a4_37 : decode cJ6_numberOfLeadingZeros_0f7a4 37 = .ok (.if_icmp .lt 11, 3) := by decide +kernel
theorem dJ6_numberOfLeadingZeros_0f7a4_40 : decode cJ6_numberOfLeadingZeros_0f7a4 40 = .ok (.iinc 1 (-8), 3) := by decide +kernel
theorem dJ6_numberOfLeadingZeros_0f7a4_43 : decode cJ6_numberOfLeadingZeros_0f7a4 43 = .ok (.iload_n 0, 1) := by decide +kernel
theorem dJ6_numberOfLeadingZeros_0f7a4_44 : decode cJ6_numberOfLeadingZeros_0f7a4 44 = .ok (.bipush 8, 2) := by decide +kernel
theorem dJ6_numberOfLeadingZeros_0f7a4_46 : decode cJ6_numberOfLeadingZeros_0f7a4 46 = .ok (.iushr, 1) := by decide +kernel
theorem dJ6_numberOfLeadingZeros_0f7a4_47 : decode cJ6_numberOfLeadingZeros_0f7a4 47 = .ok (.istore_n 0, 1) := by decide +kernel
theorem dJ6_numberOfLeadingZeros_0f7a4_48 : decode cJ6_numberOfLeadingZeros_0f7a4 48 = .ok (.iload_n 0, 1) := by decide +kernel
theorem dJ6_numberOfLeadingZeros_0f7a4_49 : decode cJ6_numberOfLeadingZeros_0f7a4 49 = .ok (.bipush 16, 2) := by decide +kernel
theorem dJ6_numberOfLeadingZeros_0f7a4_51 : decode cJ6_numberOfLeadingZeros_0f7a4 51 = .ok (.if_icmp .lt 10, 3) := by decide +kernel
theorem dJ6_numberOfLeadingZeros_0f7a4_54 : decode cJ6_numberOfLeadingZeros_0f7a4 54 = .ok (.iinc 1 (-4), 3) := by decide +kernel
theorem dJ6_numberOfLeadingZeros_0f7a4_57 : decode cJ6_numberOfLeadingZeros_0f7a4 57 = .ok (.iload_n 0, 1) := by decide +kernel
theorem dJ6_numberOfLeadingZeros_0f7a4_58 : decode cJ6_numberOfLeadingZeros_0f7a4 58 = .ok (.iconst 4, 1) := by decide +kernel
theorem dJ6_numberOfLeadingZeros_0f7a4_59 : decode cJ6_numberOfLeadingZeros_0f7a4 59 = .ok (.iushr, 1) := by decide +kernel
theorem dJ6_numberOfLeadingZeros_0f7a4_60 : decode cJ6_numberOfLeadingZeros_0f7a4 60 = .ok (.istore_n 0, 1) := by decide +kernel
theorem dJ6_numberOfLeadingZeros_0f7a4_61 : decode cJ6_numberOfLeadingZeros_0f7a4 61 = .ok (.iload_n 0, 1) := by decide +kernel
theorem dJ6_numberOfLeadingZeros_0f7a4_62 : decode cJ6_numberOfLeadingZeros_0f7a4 62 = .ok (.iconst 4, 1) := by decide +kernel
theorem dJ6_numberOfLeadingZeros_0f7a4_63 : decode cJ6_numberOfLeadingZeros_0f7a4 63 = .ok (.if_icmp .lt 10, 3) := by decide +kernel
theorem dJ6_numberOfLeadingZeros_0f7a4_66 : decode cJ6_numberOfLeadingZeros_0f7a4 66 = .ok (.iinc 1 (-2), 3) := by decide +kernel
theorem dJ6_numberOfLeadingZeros_0f7a4_69 : decode cJ6_numberOfLeadingZeros_0f7a4 69 = .ok (.iload_n 0, 1) := by decide +kernel
theorem dJ6_numberOfLeadingZeros_0f7a4_70 : decode cJ6_numberOfLeadingZeros_0f7a4 70 = .ok (.iconst 2, 1) := by decide +kernel
theorem dJ6_numberOfLeadingZeros_0f7a4_71 : decode cJ6_numberOfLeadingZeros_0f7a4 71 = .ok (.iushr, 1) := by decide +kernel
theorem dJ6_numberOfLeadingZeros_0f7a4_72 : decode cJ6_numberOfLeadingZeros_0f7a4 72 = .ok (.istore_n 0, 1) := by decide +kernel
theorem dJ6_numberOfLeadingZeros_0f7a4_73 : decode cJ6_numberOfLeadingZeros_0f7a4 73 = .ok (.iload_n 1, 1) := by decide +kernel
theorem dJ6_numberOfLeadingZeros_0f7a4_74 : decode cJ6_numberOfLeadingZeros_0f7a4 74 = .ok (.iload_n 0, 1) := by decide +kernel
theorem dJ6_numberOfLeadingZeros_0f7a4_75 : decode cJ6_numberOfLeadingZeros_0f7a4 75 = .ok (.iconst 1, 1) := by decide +kernel
theorem dJ6_numberOfLeadingZeros_0f7a4_76 : decode cJ6_numberOfLeadingZeros_0f7a4 76 = .ok (.iushr, 1) := by decide +kernel
theorem dJ6_numberOfLeadingZeros_0f7a4_77 : decode cJ6_numberOfLeadingZeros_0f7a4 77 = .ok (.isub, 1) := by decide +kernel
theorem dJ6_numberOfLeadingZeros_0f7a4_78 : decode cJ6_numberOfLeadingZeros_0f7a4 78 = .ok (.ireturn, 1) := by decide +kernel
theorem dJ6_numberOfTrailingZeros_0f7a4_0 : decode cJ6_numberOfTrailingZeros_0f7a4 0 = .ok (.iload_n 0, 1) := by decide +kernel
theorem dJ6_numberOfTrailingZeros_0f7a4_1 : decode cJ6_numberOfTrailingZeros_0f7a4 1 = .ok (.iconst (-1), 1) := by decide +kernel
theorem dJ6_numberOfTrailingZeros_0f7a4_2 : decode cJ6_numberOfTrailingZeros_0f7a4 2 = .ok (.ixor, 1) := by decide +kernel
theorem dJ6_numberOfTrailingZeros_0f7a4_3 : decode cJ6_numberOfTrailingZeros_0f7a4 3 = .ok (.iload_n 0, 1) := by decide +kernel
theorem dJ6_numberOfTrailingZeros_0f7a4_4 : decode cJ6_numberOfTrailingZeros_0f7a4 4 = .ok (.iconst 1, 1) := by decide +kernel
theorem dJ6_numberOfTrailingZeros_0f7a4_5 : decode cJ6_numberOfTrailingZeros_0f7a4 5 = .ok (.isub, 1) := by decide +kernel
theorem dJ6_numberOfTrailingZeros_0f7a4_6 : decode cJ6_numberOfTrailingZeros_0f7a4 6 = .ok (.iand, 1) := by decide +kernel
theorem dJ6_numberOfTrailingZeros_0f7a4_7 : decode cJ6_numberOfTrailingZeros_0f7a4 7 = .ok (.istore_n 0, 1) := by decide +kernel
theorem dJ6_numberOfTrailingZeros_0f7a4_8 : decode cJ6_numberOfTrailingZeros_0f7a4 8 = .ok (.iload_n 0, 1) := by decide +kernel
theorem dJ6_numberOfTrailingZeros_0f7a4_9 : decode cJ6_numberOfTrailingZeros_0f7a4 9 = .ok (.ifCond .gt 8, 3) := by decide +kernel
theorem dJ6_numberOfTrailingZeros_0f7a4_12 : decode cJ6_numberOfTrailingZeros_0f7a4 12 = .ok (.iload_n 0, 1) := by decide +kernel
theorem dJ6_numberOfTrailingZeros_0f7a4_13 : decode cJ6_numberOfTrailingZeros_0f7a4 13 = .ok (.bipush 32, 2) := by decide +kernel
theorem dJ6_numberOfTrailingZeros_0f7a4_15 : decode cJ6_numberOfTrailingZeros_0f7a4 15 = .ok (.iand, 1) := by decide +kernel
theorem dJ6_numberOfTrailingZeros_0f7a4_16 : decode cJ6_numberOfTrailingZeros_0f7a4 16 = .ok (.ireturn, 1) := by decide +kernel
theorem dJ6_numberOfTrailingZeros_0f7a4_17 : decode cJ6_numberOfTrailingZeros_0f7a4 17 = .ok (.iconst 1, 1) := by decide +kernel
theorem dJ6_numberOfTrailingZeros_0f7a4_18 : decode cJ6_numberOfTrailingZeros_0f7a4 18 = .ok (.istore_n 1, 1) := by decide +kernel
theorem dJ6_numberOfTrailingZeros_0f7a4_19 : decode cJ6_numberOfTrailingZeros_0f7a4 19 = .ok (.iload_n 0, 1) := by decide +kernel
theorem dJ6_numberOfTrailingZeros_0f7a4_20 : decode cJ6_numberOfTrailingZeros_0f7a4 20 = .ok (.ldc_w 264, 3) := by decide +kernel
theorem dJ6_numberOfTrailingZeros_0f7a4_23 : decode cJ6_numberOfTrailingZeros_0f7a4 23 = .ok (.if_icmp .le 11, 3) := by decide +kernel
theorem dJ6_numberOfTrailingZeros_0f7a4_26 : decode cJ6_numberOfTrailingZeros_0f7a4 26 = .ok (.iinc 1 16, 3) := by decide +kernel
theorem dJ6_numberOfTrailingZeros_0f7a4_29 : decode cJ6_numberOfTrailingZeros_0f7a4 29 = .ok (.iload_n 0, 1) := by decide +kernel
theorem dJ6_numberOfTrailingZeros_0f7a4_30 : decode cJ6_numberOfTrailingZeros_0f7a4 30 = .ok (.bipush 16, 2) := by decide +kernel
theorem dJ6_numberOfTrailingZeros_0f7a4_32 : decode cJ6_numberOfTrailingZeros_0f7a4 32 = .ok (.iushr, 1) := by decide +kernel
theorem dJ6_numberOfTrailingZeros_0f7a4_33 : decode cJ6_numberOfTrailingZeros_0f7a4 33 = .ok (.istore_n 0, 1) := by decide +kernel
theorem dJ6_numberOfTrailingZeros_0f7a4_34 : decode cJ6_numberOfTrailingZeros_0f7a4 34 = .ok (.iload_n 0, 1) := by decide +kernel
theorem dJ6_numberOfTrailingZeros_0f7a4_35 : decode cJ6_numberOfTrailingZeros_0f7a4 35 = .ok (.sipush 256, 3) := by decide +kernel
theorem dJ6_numberOfTrailingZeros_0f7a4_38 : decode cJ6_numberOfTrailingZeros_0f7a4 38 = .ok (.if_icmp .le 11, 3) := by decide +kernel
theorem dJ6_numberOfTrailingZeros_0f7a4_41 : decode cJ6_numberOfTrailingZeros_0f7a4 41 = .ok (.iinc 1 8, 3) := by decide +kernel
theorem dJ6_numberOfTrailingZeros_0f7a4_44 : decode cJ6_numberOfTrailingZeros_0f7a4 44 = .ok (.iload_n 0, 1) := by decide +kernel
theorem dJ6_numberOfTrailingZeros_0f7a4_45 : decode cJ6_numberOfTrailingZeros_0f7a4 45 = .ok (.bipush 8, 2) := by decide +kernel
theorem dJ6_numberOfTrailingZeros_0f7a4_47 : decode cJ6_numberOfTrailingZeros_0f7a4 47 = .ok (.iushr, 1) := by decide +kernel
theorem dJ6_numberOfTrailingZeros_0f7a4_48 : decode cJ6_numberOfTrailingZeros_0f7a4 48 = .ok (.istore_n 0, 1) := by decide +kernel
theorem dJ6_numberOfTrailingZeros_0f7a4_49 : decode cJ6_numberOfTrailingZeros_0f7a4 49 = .ok (.iload_n 0, 1) := by decide +kernel
theorem dJ6_numberOfTrailingZeros_0f7a4_50 : decode cJ6_numberOfTrailingZeros_0f7a4 50 = .ok (.bipush 16, 2) := by decide +kernel
theorem dJ6_numberOfTrailingZeros_0f7a4_52 : decode cJ6_numberOfTrailingZeros_0f7a4 52 = .ok (.if_icmp .le 10, 3) := by decide +kernel
theorem dJ6_numberOfTrailingZeros_0f7a4_55 : decode cJ6_numberOfTrailingZeros_0f7a4 55 = .ok (.iinc 1 4, 3) := by decide +kernel
theorem dJ6_numberOfTrailingZeros_0f7a4_58 : decode cJ6_numberOfTrailingZeros_0f7a4 58 = .ok (.iload_n 0, 1) := by decide +kernel
theorem dJ6_numberOfTrailingZeros_0f7a4_59 : decode cJ6_numberOfTrailingZeros_0f7a4 59 = .ok (.iconst 4, 1) := by decide +kernel
theorem dJ6_numberOfTrailingZeros_0f7a4_60 : decode cJ6_numberOfTrailingZeros_0f7a4 60 = .ok (.iushr, 1) := by decide +kernel
theorem dJ6_numberOfTrailingZeros_0f7a4_61 : decode cJ6_numberOfTrailingZeros_0f7a4 61 = .ok (.istore_n 0, 1) := by decide +kernel
theorem dJ6_numberOfTrailingZeros_0f7a4_62 : decode cJ6_numberOfTrailingZeros_0f7a4 62 = .ok (.iload_n 0, 1) := by decide +kernel
theorem dJ6_numberOfTrailingZeros_0f7a4_63 : decode cJ6_numberOfTrailingZeros_0f7a4 63 = .ok (.iconst 4, 1) := by decide +kernel
theorem dJ6_numberOfTrailingZeros_0f7a4_64 : decode cJ6_numberOfTrailingZeros_0f7a4 64 = .ok (.if_icmp .le 10, 3) := by decide +kernel
theorem dJ6_numberOfTrailingZeros_0f7a4_67 : decode cJ6_numberOfTrailingZeros_0f7a4 67 = .ok (.iinc 1 2, 3) := by decide +kernel
theorem dJ6_numberOfTrailingZeros_0f7a4_70 : decode cJ6_numberOfTrailingZeros_0f7a4 70 = .ok (.iload_n 0, 1) := by decide +kernel
theorem dJ6_numberOfTrailingZeros_0f7a4_71 : decode cJ6_numberOfTrailingZeros_0f7a4 71 = .ok (.iconst 2, 1) := by decide +kernel
theorem dJ6_numberOfTrailingZeros_0f7a4_72 : decode cJ6_numberOfTrailingZeros_0f7a4 72 = .ok (.iushr, 1) := by decide +kernel
theorem dJ6_numberOfTrailingZeros_0f7a4_73 : decode cJ6_numberOfTrailingZeros_0f7a4 73 = .ok (.istore_n 0, 1) := by decide +kernel
theorem dJ6_numberOfTrailingZeros_0f7a4_74 : decode cJ6_numberOfTrailingZeros_0f7a4 74 = .ok (.iload_n 1, 1) := by decide +kernel
theorem dJ6_numberOfTrailingZeros_0f7a4_75 : decode cJ6_numberOfTrailingZeros_0f7a4 75 = .ok (.iload_n 0, 1) := by decide +kernel
theorem dJ6_numberOfTrailingZeros_0f7a4_76 : decode cJ6_numberOfTrailingZeros_0f7a4 76 = .ok (.iconst 1, 1) := by decide +kernel
theorem dJ6_numberOfTrailingZeros_0f7a4_77 : decode cJ6_numberOfTrailingZeros_0f7a4 77 = .ok (.iushr, 1) := by decide +kernel
theorem dJ6_numberOfTrailingZeros_0f7a4_78 : decode cJ6_numberOfTrailingZeros_0f7a4 78 = .ok (.iadd, 1) := by decide +kernel
theorem dJ6_numberOfTrailingZeros_0f7a4_79 : decode cJ6_numberOfTrailingZeros_0f7a4 79 = .ok (.ireturn, 1) := by decide +kernel
theorem dJ6_bitCount_0f7a4_0 : decode cJ6_bitCount_0f7a4 0 = .ok (.iload_n 0, 1) := by decide +kernel
theorem dJ6_bitCount_0f7a4_1 : decode cJ6_bitCount_0f7a4 1 = .ok (.iload_n 0, 1) := by decide +kernel
theorem dJ6_bitCount_0f7a4_2 : decode cJ6_bitCount_0f7a4 2 = .ok (.iconst 1, 1) := by decide +kernel
theorem dJ6_bitCount_0f7a4_3 : decode cJ6_bitCount_0f7a4 3 = .ok (.iushr, 1) := by decide +kernel
theorem dJ6_bitCount_0f7a4_4 : decode cJ6_bitCount_0f7a4 4 = .ok (.ldc_w 265, 3) := by decide +kernel
theorem dJ6_bitCount_0f7a4_7 : decode cJ6_bitCount_0f7a4 7 = .ok (.iand, 1) := by decide +kernel
theorem dJ6_bitCount_0f7a4_8 : decode cJ6_bitCount_0f7a4 8 = .ok (.isub, 1) := by decide +kernel
theorem dJ6_bitCount_0f7a4_9 : decode cJ6_bitCount_0f7a4 9 = .ok (.istore_n 0, 1) := by decide +kernel
theorem dJ6_bitCount_0f7a4_10 : decode cJ6_bitCount_0f7a4 10 = .ok (.iload_n 0, 1) := by decide +kernel
theorem dJ6_bitCount_0f7a4_11 : decode cJ6_bitCount_0f7a4 11 = .ok (.ldc_w 266, 3) := by decide +kernel
theorem dJ6_bitCount_0f7a4_14 : decode cJ6_bitCount_0f7a4 14 = .ok (.iand, 1) := by decide +kernel
theorem dJ6_bitCount_0f7a4_15 : decode cJ6_bitCount_0f7a4 15 = .ok (.iload_n 0, 1) := by decide +kernel
theorem dJ6_bitCount_0f7a4_16 : decode cJ6_bitCount_0f7a4 16 = .ok (.iconst 2, 1) := by decide +kernel
theorem dJ6_bitCount_0f7a4_17 : decode cJ6_bitCount_0f7a4 17 = .ok (.iushr, 1) := by decide +kernel
theorem dJ6_bitCount_0f7a4_18 : decode cJ6_bitCount_0f7a4 18 = .ok (.ldc_w 266, 3) := by decide +kernel
theorem dJ6_bitCount_0f7a4_21 : decode cJ6_bitCount_0f7a4 21 = .ok (.iand, 1) := by decide +kernel
theorem dJ6_bitCount_0f7a4_22 : decode cJ6_bitCount_0f7a4 22 = .ok (.iadd, 1) := by decide +kernel
theorem dJ6_bitCount_0f7a4_23 : decode cJ6_bitCount_0f7a4 23 = .ok (.istore_n 0, 1) := by decide +kernel
theorem dJ6_bitCount_0f7a4_24 : decode cJ6_bitCount_0f7a4 24 = .ok (.iload_n 0, 1) := by decide +kernel
theorem dJ6_bitCount_0f7a4_25 : decode cJ6_bitCount_0f7a4 25 = .ok (.iload_n 0, 1) := by decide +kernel
theorem dJ6_bitCount_0f7a4_26 : decode cJ6_bitCount_0f7a4 26 = .ok (.iconst 4, 1) := by decide +kernel
theorem dJ6_bitCount_0f7a4_27 : decode cJ6_bitCount_0f7a4 27 = .ok (.iushr, 1) := by decide +kernel
theorem dJ6_bitCount_0f7a4_28 : decode cJ6_bitCount_0f7a4 28 = .ok (.iadd, 1) := by decide +kernel
theorem dJ6_bitCount_0f7a4_29 : decode cJ6_bitCount_0f7a4 29 = .ok (.ldc_w 267, 3) := by decide +kernel
theorem dJ6_bitCount_0f7a4_32 : decode cJ6_bitCount_0f7a4 32 = .ok (.iand, 1) := by decide +kernel
theorem dJ6_bitCount_0f7a4_33 : decode cJ6_bitCount_0f7a4 33 = .ok (.istore_n 0, 1) := by decide +kernel
theorem dJ6_bitCount_0f7a4_34 : decode cJ6_bitCount_0f7a4 34 = .ok (.iload_n 0, 1) := by decide +kernel
theorem dJ6_bitCount_0f7a4_35 : decode cJ6_bitCount_0f7a4 35 = .ok (.iload_n 0, 1) := by decide +kernel
theorem dJ6_bitCount_0f7a4_36 : decode cJ6_bitCount_0f7a4 36 = .ok (.bipush 8, 2) := by decide +kernel
theorem dJ6_bitCount_0f7a4_38 : decode cJ6_bitCount_0f7a4 38 = .ok (.iushr, 1) := by decide +kernel
theorem dJ6_bitCount_0f7a4_39 : decode cJ6_bitCount_0f7a4 39 = .ok (.iadd, 1) := by decide +kernel
theorem dJ6_bitCount_0f7a4_40 : decode cJ6_bitCount_0f7a4 40 = .ok (.istore_n 0, 1) := by decide +kernel
theorem dJ6_bitCount_0f7a4_41 : decode cJ6_bitCount_0f7a4 41 = .ok (.iload_n 0, 1) := by decide +kernel
theorem dJ6_bitCount_0f7a4_42 : decode cJ6_bitCount_0f7a4 42 = .ok (.iload_n 0, 1) := by decide +kernel
theorem dJ6_bitCount_0f7a4_43 : decode cJ6_bitCount_0f7a4 43 = .ok (.bipush 16, 2) := by decide +kernel
theorem dJ6_bitCount_0f7a4_45 : decode cJ6_bitCount_0f7a4 45 = .ok (.iushr, 1) := by decide +kernel
theorem dJ6_bitCount_0f7a4_46 : decode cJ6_bitCount_0f7a4 46 = .ok (.iadd, 1) := by decide +kernel
theorem dJ6_bitCount_0f7a4_47 : decode cJ6_bitCount_0f7a4 47 = .ok (.istore_n 0, 1) := by decide +kernel
theorem dJ6_bitCount_0f7a4_48 : decode cJ6_bitCount_0f7a4 48 = .ok (.iload_n 0, 1) := by decide +kernel
theorem dJ6_bitCount_0f7a4_49 : decode cJ6_bitCount_0f7a4 49 = .ok (.bipush 63, 2) := by decide +kernel
theorem dJ6_bitCount_0f7a4_51 : decode cJ6_bitCount_0f7a4 51 = .ok (.iand, 1) := by decide +kernel
theorem dJ6_bitCount_0f7a4_52 : decode cJ6_bitCount_0f7a4 52 = .ok (.ireturn, 1) := by decide +kernel
theorem dJ9_max_7cf53_0 : decode cJ9_max_7cf53 0 = .ok (.iload_n 0, 1) := by decide +kernel
theorem dJ9_max_7cf53_1 : decode cJ9_max_7cf53 1 = .ok (.iload_n 1, 1) := by decide +kernel
theorem dJ9_max_7cf53_2 : decode cJ9_max_7cf53 2 = .ok (.if_icmp .lt 7, 3) := by decide +kernel
theorem dJ9_max_7cf53_5 : decode cJ9_max_7cf53 5 = .ok (.iload_n 0, 1) := by decide +kernel
theorem dJ9_max_7cf53_6 : decode cJ9_max_7cf53 6 = .ok (.goto 4, 3) := by decide +kernel
theorem dJ9_max_7cf53_9 : decode cJ9_max_7cf53 9 = .ok (.iload_n 1, 1) := by decide +kernel
theorem dJ9_max_7cf53_10 : decode cJ9_max_7cf53 10 = .ok (.ireturn, 1) := by decide +kernel
theorem dJ9_min_7cf53_0 : decode cJ9_min_7cf53 0 = .ok (.iload_n 0, 1) := by decide +kernel
theorem dJ9_min_7cf53_1 : decode cJ9_min_7cf53 1 = .ok (.iload_n 1, 1) := by decide +kernel
theorem dJ9_min_7cf53_2 : decode cJ9_min_7cf53 2 = .ok (.if_icmp .gt 7, 3) := by decide +kernel
theorem dJ9_min_7cf53_5 : decode cJ9_min_7cf53 5 = .ok (.iload_n 0, 1) := by decide +kernel
theorem dJ9_min_7cf53_6 : decode cJ9_min_7cf53 6 = .ok (.goto 4, 3) := by decide +kernel
theorem dJ9_min_7cf53_9 : decode cJ9_min_7cf53 9 = .ok (.iload_n 1, 1) := by decide +kernel
theorem dJ9_min_7cf53_10 : decode cJ9_min_7cf53 10 = .ok (.ireturn, 1) := by decide +kernel
theorem dL_law_0 : decode cL_law 0 = .ok (.new 7, 3) := by decide +kernel
theorem dL_law_3 : decode cL_law 3 = .ok (.dup, 1) := by decide +kernel
theorem dL_law_4 : decode cL_law 4 = .ok (.invokespecial 9, 3) := by decide +kernel
theorem dL_law_7 : decode cL_law 7 = .ok (.astore_n 1, 1) := by decide +kernel
theorem dL_law_8 : decode cL_law 8 = .ok (.new 10, 3) := by decide +kernel
theorem dL_law_11 : decode cL_law 11 = .ok (.dup, 1) := by decide +kernel
theorem dL_law_12 : decode cL_law 12 = .ok (.invokespecial 12, 3) := by decide +kernel
theorem dL_law_15 : decode cL_law 15 = .ok (.astore_n 2, 1) := by decide +kernel
theorem dL_law_16 : decode cL_law 16 = .ok (.iconst 0, 1) := by decide +kernel
theorem dL_law_17 : decode cL_law 17 = .ok (.istore_n 3, 1) := by decide +kernel
theorem dL_law_18 : decode cL_law 18 = .ok (.iload_n 3, 1) := by decide +kernel
theorem dL_law_19 : decode cL_law 19 = .ok (.aload_n 0, 1) := by decide +kernel
theorem dL_law_20 : decode cL_law 20 = .ok (.arraylength, 1) := by decide +kernel
theorem dL_law_21 : decode cL_law 21 = .ok (.bipush 6, 2) := by decide +kernel
theorem dL_law_23 : decode cL_law 23 = .ok (.isub, 1) := by decide +kernel
theorem dL_law_24 : decode cL_law 24 = .ok (.if_icmp .gt 1254, 3) := by decide +kernel
theorem dL_law_27 : decode cL_law 27 = .ok (.aload_n 0, 1) := by decide +kernel
theorem dL_law_28 : decode cL_law 28 = .ok (.iload_n 3, 1) := by decide +kernel
theorem dL_law_29 : decode cL_law 29 = .ok (.iaload, 1) := by decide +kernel
theorem dL_law_30 : decode cL_law 30 = .ok (.bipush 63, 2) := by decide +kernel
theorem dL_law_32 : decode cL_law 32 = .ok (.iand, 1) := by decide +kernel
theorem dL_law_33 : decode cL_law 33 = .ok (.tableswitch 1239 0 35 #[159, 192, 215, 238, 261, 294, 327, 370, 383, 406, 439, 482, 515, 538, 551, 564, 587, 620, 653, 696, 719, 762, 775, 788, 811, 834, 857, 901, 944, 987, 1010, 1063, 1106, 1169, 1202, 1225], 159) := by decide +kernel
theorem dL_law_192 : decode cL_law 192 = .ok (.aload_n 1, 1) := by decide +kernel
theorem dL_law_193 : decode cL_law 193 = .ok (.aload_n 0, 1) := by decide +kernel
theorem dL_law_194 : decode cL_law 194 = .ok (.iload_n 3, 1) := by decide +kernel
theorem dL_law_195 : decode cL_law 195 = .ok (.iconst 1, 1) := by decide +kernel
theorem dL_law_196 : decode cL_law 196 = .ok (.iadd, 1) := by decide +kernel
theorem dL_law_197 : decode cL_law 197 = .ok (.iaload, 1) := by decide +kernel
theorem dL_law_198 : decode cL_law 198 = .ok (.aload_n 0, 1) := by decide +kernel
theorem dL_law_199 : decode cL_law 199 = .ok (.iload_n 3, 1) := by decide +kernel
theorem dL_law_200 : decode cL_law 200 = .ok (.iconst 2, 1) := by decide +kernel
theorem dL_law_201 : decode cL_law 201 = .ok (.iadd, 1) := by decide +kernel
theorem dL_law_202 : decode cL_law 202 = .ok (.iaload, 1) := by decide +kernel
theorem dL_law_203 : decode cL_law 203 = .ok (.invokevirtual 13, 3) := by decide +kernel
theorem dL_law_206 : decode cL_law 206 = .ok (.aload_n 2, 1) := by decide +kernel
theorem dL_law_207 : decode cL_law 207 = .ok (.aload_n 0, 1) := by decide +kernel
theorem dL_law_208 : decode cL_law 208 = .ok (.iload_n 3, 1) := by decide +kernel
theorem dL_law_209 : decode cL_law 209 = .ok (.iconst 1, 1) := by decide +kernel
theorem dL_law_210 : decode cL_law 210 = .ok (.iadd, 1) := by decide +kernel
theorem dL_law_211 : decode cL_law 211 = .ok (.iaload, 1) := by decide +kernel
theorem dL_law_212 : decode cL_law 212 = .ok (.aload_n 0, 1) := by decide +kernel
theorem dL_law_213 : decode cL_law 213 = .ok (.iload_n 3, 1) := by decide +kernel
theorem dL_law_214 : decode cL_law 214 = .ok (.iconst 2, 1) := by decide +kernel
theorem dL_law_215 : decode cL_law 215 = .ok (.iadd, 1) := by decide +kernel
theorem dL_law_216 : decode cL_law 216 = .ok (.iaload, 1) := by decide +kernel
theorem dL_law_217 : decode cL_law 217 = .ok (.invokevirtual 17, 3) := by decide +kernel
theorem dL_law_220 : decode cL_law 220 = .ok (.if_icmp .eq 1052, 3) := by decide +kernel
theorem dL_law_223 : decode cL_law 223 = .ok (.iconst 0, 1) := by decide +kernel
theorem dL_law_224 : decode cL_law 224 = .ok (.ireturn, 1) := by decide +kernel
theorem dL_law_225 : decode cL_law 225 = .ok (.aload_n 1, 1) := by decide +kernel
theorem dL_law_226 : decode cL_law 226 = .ok (.aload_n 0, 1) := by decide +kernel
theorem dL_law_227 : decode cL_law 227 = .ok (.iload_n 3, 1) := by decide +kernel
theorem dL_law_228 : decode cL_law 228 = .ok (.iconst 1, 1) := by decide +kernel
theorem dL_law_229 : decode cL_law 229 = .ok (.iadd, 1) := by decide +kernel
theorem dL_law_230 : decode cL_law 230 = .ok (.iaload, 1) := by decide +kernel
theorem dL_law_231 : decode cL_law 231 = .ok (.invokevirtual 18, 3) := by decide +kernel
theorem dL_law_234 : decode cL_law 234 = .ok (.aload_n 2, 1) := by decide +kernel
theorem dL_law_235 : decode cL_law 235 = .ok (.aload_n 0, 1) := by decide +kernel
theorem dL_law_236 : decode cL_law 236 = .ok (.iload_n 3, 1) := by decide +kernel
theorem dL_law_237 : decode cL_law 237 = .ok (.iconst 1, 1) := by decide +kernel
theorem dL_law_238 : decode cL_law 238 = .ok (.iadd, 1) := by decide +kernel
theorem dL_law_239 : decode cL_law 239 = .ok (.iaload, 1) := by decide +kernel
theorem dL_law_240 : decode cL_law 240 = .ok (.invokevirtual 22, 3) := by decide +kernel
theorem dL_law_243 : decode cL_law 243 = .ok (.if_icmp .eq 1029, 3) := by decide +kernel
theorem dL_law_246 : decode cL_law 246 = .ok (.iconst 0, 1) := by decide +kernel
theorem dL_law_247 : decode cL_law 247 = .ok (.ireturn, 1) := by decide +kernel
theorem dL_law_248 : decode cL_law 248 = .ok (.aload_n 1, 1) := by decide +kernel
theorem dL_law_249 : decode cL_law 249 = .ok (.aload_n 0, 1) := by decide +kernel
theorem dL_law_250 : decode cL_law 250 = .ok (.iload_n 3, 1) := by decide +kernel
theorem dL_law_251 : decode cL_law 251 = .ok (.iconst 1, 1) := by decide +kernel
theorem dL_law_252 : decode cL_law 252 = .ok (.iadd, 1) := by decide +kernel
theorem dL_law_253 : decode cL_law 253 = .ok (.iaload, 1) := by decide +kernel
theorem dL_law_254 : decode cL_law 254 = .ok (.invokevirtual 23, 3) := by decide +kernel
theorem dL_law_257 : decode cL_law 257 = .ok (.aload_n 2, 1) := by decide +kernel
theorem dL_law_258 : decode cL_law 258 = .ok (.aload_n 0, 1) := by decide +kernel
theorem dL_law_259 : decode cL_law 259 = .ok (.iload_n 3, 1) := by decide +kernel
theorem dL_law_260 : decode cL_law 260 = .ok (.iconst 1, 1) := by decide +kernel
theorem dL_law_261 : decode cL_law 261 = .ok (.iadd, 1) := by decide +kernel
theorem dL_law_262 : decode cL_law 262 = .ok (.iaload, 1) := by decide +kernel
theorem dL_law_263 : decode cL_law 263 = .ok (.invokevirtual 26, 3) := by decide +kernel
theorem dL_law_266 : decode cL_law 266 = .ok (.if_icmp .eq 1006, 3) := by decide +kernel
theorem dL_law_269 : decode cL_law 269 = .ok (.iconst 0, 1) := by decide +kernel
theorem dL_law_270 : decode cL_law 270 = .ok (.ireturn, 1) := by decide +kernel
theorem dL_law_271 : decode cL_law 271 = .ok (.aload_n 1, 1) := by decide +kernel
theorem dL_law_272 : decode cL_law 272 = .ok (.aload_n 0, 1) := by decide +kernel
theorem dL_law_273 : decode cL_law 273 = .ok (.iload_n 3, 1) := by decide +kernel
theorem dL_law_274 : decode cL_law 274 = .ok (.iconst 1, 1) := by decide +kernel
theorem dL_law_275 : decode cL_law 275 = .ok (.iadd, 1) := by decide +kernel
theorem dL_law_276 : decode cL_law 276 = .ok (.iaload, 1) := by decide +kernel
theorem dL_law_277 : decode cL_law 277 = .ok (.invokevirtual 27, 3) := by decide +kernel
theorem dL_law_280 : decode cL_law 280 = .ok (.aload_n 2, 1) := by decide +kernel
theorem dL_law_281 : decode cL_law 281 = .ok (.aload_n 0, 1) := by decide +kernel
theorem dL_law_282 : decode cL_law 282 = .ok (.iload_n 3, 1) := by decide +kernel
theorem dL_law_283 : decode cL_law 283 = .ok (.iconst 1, 1) := by decide +kernel
theorem dL_law_284 : decode cL_law 284 = .ok (.iadd, 1) := by decide +kernel
theorem dL_law_285 : decode cL_law 285 = .ok (.iaload, 1) := by decide +kernel
theorem dL_law_286 : decode cL_law 286 = .ok (.invokevirtual 30, 3) := by decide +kernel
theorem dL_law_289 : decode cL_law 289 = .ok (.if_icmp .eq 983, 3) := by decide +kernel
theorem dL_law_292 : decode cL_law 292 = .ok (.iconst 0, 1) := by decide +kernel
theorem dL_law_293 : decode cL_law 293 = .ok (.ireturn, 1) := by decide +kernel
theorem dL_law_294 : decode cL_law 294 = .ok (.aload_n 1, 1) := by decide +kernel
theorem dL_law_295 : decode cL_law 295 = .ok (.aload_n 0, 1) := by decide +kernel
theorem dL_law_296 : decode cL_law 296 = .ok (.iload_n 3, 1) := by decide +kernel
theorem dL_law_297 : decode cL_law 297 = .ok (.iconst 1, 1) := by decide +kernel
theorem dL_law_298 : decode cL_law 298 = .ok (.iadd, 1) := by decide +kernel
theorem dL_law_299 : decode cL_law 299 = .ok (.iaload, 1) := by decide +kernel
theorem dL_law_300 : decode cL_law 300 = .ok (.aload_n 0, 1) := by decide +kernel
theorem dL_law_301 : decode cL_law 301 = .ok (.iload_n 3, 1) := by decide +kernel
theorem dL_law_302 : decode cL_law 302 = .ok (.iconst 2, 1) := by decide +kernel
theorem dL_law_303 : decode cL_law 303 = .ok (.iadd, 1) := by decide +kernel
theorem dL_law_304 : decode cL_law 304 = .ok (.iaload, 1) := by decide +kernel
theorem dL_law_305 : decode cL_law 305 = .ok (.invokevirtual 31, 3) := by decide +kernel
theorem dL_law_308 : decode cL_law 308 = .ok (.aload_n 2, 1) := by decide +kernel
theorem dL_law_309 : decode cL_law 309 = .ok (.aload_n 0, 1) := by decide +kernel
theorem dL_law_310 : decode cL_law 310 = .ok (.iload_n 3, 1) := by decide +kernel
theorem dL_law_311 : decode cL_law 311 = .ok (.iconst 1, 1) := by decide +kernel
theorem dL_law_312 : decode cL_law 312 = .ok (.iadd, 1) := by decide +kernel
theorem dL_law_313 : decode cL_law 313 = .ok (.iaload, 1) := by decide +kernel
theorem dL_law_314 : decode cL_law 314 = .ok (.aload_n 0, 1) := by decide +kernel
theorem dL_law_315 : decode cL_law 315 = .ok (.iload_n 3, 1) := by decide +kernel
theorem dL_law_316 : decode cL_law 316 = .ok (.iconst 2, 1) := by decide +kernel
theorem dL_law_317 : decode cL_law 317 = .ok (.iadd, 1) := by decide +kernel
theorem dL_law_318 : decode cL_law 318 = .ok (.iaload, 1) := by decide +kernel
theorem dL_law_319 : decode cL_law 319 = .ok (.invokevirtual 34, 3) := by decide +kernel
theorem dL_law_322 : decode cL_law 322 = .ok (.if_icmp .eq 950, 3) := by decide +kernel
theorem dL_law_325 : decode cL_law 325 = .ok (.iconst 0, 1) := by decide +kernel
theorem dL_law_326 : decode cL_law 326 = .ok (.ireturn, 1) := by decide +kernel
theorem dL_law_327 : decode cL_law 327 = .ok (.aload_n 1, 1) := by decide +kernel
theorem dL_law_328 : decode cL_law 328 = .ok (.aload_n 0, 1) := by decide +kernel
theorem dL_law_329 : decode cL_law 329 = .ok (.iload_n 3, 1) := by decide +kernel
theorem dL_law_330 : decode cL_law 330 = .ok (.iconst 1, 1) := by decide +kernel
theorem dL_law_331 : decode cL_law 331 = .ok (.iadd, 1) := by decide +kernel
theorem dL_law_332 : decode cL_law 332 = .ok (.iaload, 1) := by decide +kernel
theorem dL_law_333 : decode cL_law 333 = .ok (.aload_n 0, 1) := by decide +kernel
theorem dL_law_334 : decode cL_law 334 = .ok (.iload_n 3, 1) := by decide +kernel
theorem dL_law_335 : decode cL_law 335 = .ok (.iconst 2, 1) := by decide +kernel
theorem dL_law_336 : decode cL_law 336 = .ok (.iadd, 1) := by decide +kernel
theorem dL_law_337 : decode cL_law 337 = .ok (.iaload, 1) := by decide +kernel
theorem dL_law_338 : decode cL_law 338 = .ok (.invokevirtual 35, 3) := by decide +kernel
theorem dL_law_341 : decode cL_law 341 = .ok (.aload_n 2, 1) := by decide +kernel
theorem dL_law_342 : decode cL_law 342 = .ok (.aload_n 0, 1) := by decide +kernel
theorem dL_law_343 : decode cL_law 343 = .ok (.iload_n 3, 1) := by decide +kernel
theorem dL_law_344 : decode cL_law 344 = .ok (.iconst 1, 1) := by decide +kernel
theorem dL_law_345 : decode cL_law 345 = .ok (.iadd, 1) := by decide +kernel
theorem dL_law_346 : decode cL_law 346 = .ok (.iaload, 1) := by decide +kernel
theorem dL_law_347 : decode cL_law 347 = .ok (.aload_n 0, 1) := by decide +kernel
theorem dL_law_348 : decode cL_law 348 = .ok (.iload_n 3, 1) := by decide +kernel
theorem dL_law_349 : decode cL_law 349 = .ok (.iconst 2, 1) := by decide +kernel
theorem dL_law_350 : decode cL_law 350 = .ok (.iadd, 1) := by decide +kernel
theorem dL_law_351 : decode cL_law 351 = .ok (.iaload, 1) := by decide +kernel
theorem dL_law_352 : decode cL_law 352 = .ok (.invokevirtual 38, 3) := by decide +kernel
theorem dL_law_355 : decode cL_law 355 = .ok (.if_icmp .eq 917, 3) := by decide +kernel
theorem dL_law_358 : decode cL_law 358 = .ok (.iconst 0, 1) := by decide +kernel
theorem dL_law_359 : decode cL_law 359 = .ok (.ireturn, 1) := by decide +kernel
theorem dL_law_360 : decode cL_law 360 = .ok (.aload_n 1, 1) := by decide +kernel
theorem dL_law_361 : decode cL_law 361 = .ok (.aload_n 0, 1) := by decide +kernel
theorem dL_law_362 : decode cL_law 362 = .ok (.iload_n 3, 1) := by decide +kernel
theorem dL_law_363 : decode cL_law 363 = .ok (.iconst 1, 1) := by decide +kernel
theorem dL_law_364 : decode cL_law 364 = .ok (.iadd, 1) := by decide +kernel
theorem dL_law_365 : decode cL_law 365 = .ok (.iaload, 1) := by decide +kernel
theorem dL_law_366 : decode cL_law 366 = .ok (.aload_n 0, 1) := by decide +kernel
theorem dL_law_367 : decode cL_law 367 = .ok (.iload_n 3, 1) := by decide +kernel
theorem dL_law_368 : decode cL_law 368 = .ok (.iconst 2, 1) := by decide +kernel
theorem dL_law_369 : decode cL_law 369 = .ok (.iadd, 1) := by decide +kernel
theorem dL_law_370 : decode cL_law 370 = .ok (.iaload, 1) := by decide +kernel
theorem dL_law_371 : decode cL_law 371 = .ok (.aload_n 0, 1) := by decide +kernel
theorem dL_law_372 : decode cL_law 372 = .ok (.iload_n 3, 1) := by decide +kernel
theorem dL_law_373 : decode cL_law 373 = .ok (.iconst 3, 1) := by decide +kernel
theorem dL_law_374 : decode cL_law 374 = .ok (.iadd, 1) := by decide +kernel
theorem dL_law_375 : decode cL_law 375 = .ok (.iaload, 1) := by decide +kernel
theorem dL_law_376 : decode cL_law 376 = .ok (.invokevirtual 39, 3) := by decide +kernel
theorem dL_law_379 : decode cL_law 379 = .ok (.aload_n 2, 1) := by decide +kernel
theorem dL_law_380 : decode cL_law 380 = .ok (.aload_n 0, 1) := by decide +kernel
theorem dL_law_381 : decode cL_law 381 = .ok (.iload_n 3, 1) := by decide +kernel
theorem dL_law_382 : decode cL_law 382 = .ok (.iconst 1, 1) := by decide +kernel
theorem dL_law_383 : decode cL_law 383 = .ok (.iadd, 1) := by decide +kernel
theorem dL_law_384 : decode cL_law 384 = .ok (.iaload, 1) := by decide +kernel
theorem dL_law_385 : decode cL_law 385 = .ok (.aload_n 0, 1) := by decide +kernel
theorem dL_law_386 : decode cL_law 386 = .ok (.iload_n 3, 1) := by decide +kernel
theorem dL_law_387 : decode cL_law 387 = .ok (.iconst 2, 1) := by decide +kernel
theorem dL_law_388 : decode cL_law 388 = .ok (.iadd, 1) := by decide +kernel
theorem dL_law_389 : decode cL_law 389 = .ok (.iaload, 1) := by decide +kernel
theorem dL_law_390 : decode cL_law 390 = .ok (.aload_n 0, 1) := by decide +kernel
theorem dL_law_391 : decode cL_law 391 = .ok (.iload_n 3, 1) := by decide +kernel
theorem dL_law_392 : decode cL_law 392 = .ok (.iconst 3, 1) := by decide +kernel
theorem dL_law_393 : decode cL_law 393 = .ok (.iadd, 1) := by decide +kernel
theorem dL_law_394 : decode cL_law 394 = .ok (.iaload, 1) := by decide +kernel
theorem dL_law_395 : decode cL_law 395 = .ok (.invokevirtual 43, 3) := by decide +kernel
theorem dL_law_398 : decode cL_law 398 = .ok (.if_icmp .eq 874, 3) := by decide +kernel
theorem dL_law_401 : decode cL_law 401 = .ok (.iconst 0, 1) := by decide +kernel
theorem dL_law_402 : decode cL_law 402 = .ok (.ireturn, 1) := by decide +kernel
theorem dL_law_403 : decode cL_law 403 = .ok (.aload_n 1, 1) := by decide +kernel
theorem dL_law_404 : decode cL_law 404 = .ok (.invokevirtual 44, 3) := by decide +kernel
theorem dL_law_407 : decode cL_law 407 = .ok (.aload_n 2, 1) := by decide +kernel
theorem dL_law_408 : decode cL_law 408 = .ok (.invokevirtual 48, 3) := by decide +kernel
theorem dL_law_411 : decode cL_law 411 = .ok (.if_icmp .eq 861, 3) := by decide +kernel
theorem dL_law_414 : decode cL_law 414 = .ok (.iconst 0, 1) := by decide +kernel
theorem dL_law_415 : decode cL_law 415 = .ok (.ireturn, 1) := by decide +kernel
theorem dL_law_416 : decode cL_law 416 = .ok (.aload_n 1, 1) := by decide +kernel
theorem dL_law_417 : decode cL_law 417 = .ok (.aload_n 0, 1) := by decide +kernel
theorem dL_law_418 : decode cL_law 418 = .ok (.iload_n 3, 1) := by decide +kernel
theorem dL_law_419 : decode cL_law 419 = .ok (.iconst 1, 1) := by decide +kernel
theorem dL_law_420 : decode cL_law 420 = .ok (.iadd, 1) := by decide +kernel
theorem dL_law_421 : decode cL_law 421 = .ok (.iaload, 1) := by decide +kernel
theorem dL_law_422 : decode cL_law 422 = .ok (.invokevirtual 49, 3) := by decide +kernel
theorem dL_law_425 : decode cL_law 425 = .ok (.aload_n 2, 1) := by decide +kernel
theorem dL_law_426 : decode cL_law 426 = .ok (.aload_n 0, 1) := by decide +kernel
theorem dL_law_427 : decode cL_law 427 = .ok (.iload_n 3, 1) := by decide +kernel
theorem dL_law_428 : decode cL_law 428 = .ok (.iconst 1, 1) := by decide +kernel
theorem dL_law_429 : decode cL_law 429 = .ok (.iadd, 1) := by decide +kernel
theorem dL_law_430 : decode cL_law 430 = .ok (.iaload, 1) := by decide +kernel
theorem dL_law_431 : decode cL_law 431 = .ok (.invokevirtual 52, 3) := by decide +kernel
theorem dL_law_434 : decode cL_law 434 = .ok (.if_icmp .eq 838, 3) := by decide +kernel
theorem dL_law_437 : decode cL_law 437 = .ok (.iconst 0, 1) := by decide +kernel
theorem dL_law_438 : decode cL_law 438 = .ok (.ireturn, 1) := by decide +kernel
theorem dL_law_439 : decode cL_law 439 = .ok (.aload_n 1, 1) := by decide +kernel
theorem dL_law_440 : decode cL_law 440 = .ok (.aload_n 0, 1) := by decide +kernel
theorem dL_law_441 : decode cL_law 441 = .ok (.iload_n 3, 1) := by decide +kernel
theorem dL_law_442 : decode cL_law 442 = .ok (.iconst 1, 1) := by decide +kernel
theorem dL_law_443 : decode cL_law 443 = .ok (.iadd, 1) := by decide +kernel
theorem dL_law_444 : decode cL_law 444 = .ok (.iaload, 1) := by decide +kernel
theorem dL_law_445 : decode cL_law 445 = .ok (.aload_n 0, 1) := by decide +kernel
theorem dL_law_446 : decode cL_law 446 = .ok (.iload_n 3, 1) := by decide +kernel
theorem dL_law_447 : decode cL_law 447 = .ok (.iconst 2, 1) := by decide +kernel
theorem dL_law_448 : decode cL_law 448 = .ok (.iadd, 1) := by decide +kernel
theorem dL_law_449 : decode cL_law 449 = .ok (.iaload, 1) := by decide +kernel
theorem dL_law_450 : decode cL_law 450 = .ok (.invokevirtual 53, 3) := by decide +kernel
theorem dL_law_453 : decode cL_law 453 = .ok (.aload_n 2, 1) := by decide +kernel
theorem dL_law_454 : decode cL_law 454 = .ok (.aload_n 0, 1) := by decide +kernel
theorem dL_law_455 : decode cL_law 455 = .ok (.iload_n 3, 1) := by decide +kernel
theorem dL_law_456 : decode cL_law 456 = .ok (.iconst 1, 1) := by decide +kernel
theorem dL_law_457 : decode cL_law 457 = .ok (.iadd, 1) := by decide +kernel
theorem dL_law_458 : decode cL_law 458 = .ok (.iaload, 1) := by decide +kernel
theorem dL_law_459 : decode cL_law 459 = .ok (.aload_n 0, 1) := by decide +kernel
theorem dL_law_460 : decode cL_law 460 = .ok (.iload_n 3, 1) := by decide +kernel
theorem dL_law_461 : decode cL_law 461 = .ok (.iconst 2, 1) := by decide +kernel
theorem dL_law_462 : decode cL_law 462 = .ok (.iadd, 1) := by decide +kernel
theorem dL_law_463 : decode cL_law 463 = .ok (.iaload, 1) := by decide +kernel
theorem dL_law_464 : decode cL_law 464 = .ok (.invokevirtual 56, 3) := by decide +kernel
theorem dL_law_467 : decode cL_law 467 = .ok (.if_icmp .eq 805, 3) := by decide +kernel
theorem dL_law_470 : decode cL_law 470 = .ok (.iconst 0, 1) := by decide +kernel
theorem dL_law_471 : decode cL_law 471 = .ok (.ireturn, 1) := by decide +kernel
theorem dL_law_472 : decode cL_law 472 = .ok (.aload_n 1, 1) := by decide +kernel
theorem dL_law_473 : decode cL_law 473 = .ok (.aload_n 0, 1) := by decide +kernel
theorem dL_law_474 : decode cL_law 474 = .ok (.iload_n 3, 1) := by decide +kernel
theorem dL_law_475 : decode cL_law 475 = .ok (.iconst 1, 1) := by decide +kernel
theorem dL_law_476 : decode cL_law 476 = .ok (.iadd, 1) := by decide +kernel
theorem dL_law_477 : decode cL_law 477 = .ok (.iaload, 1) := by decide +kernel
theorem dL_law_478 : decode cL_law 478 = .ok (.aload_n 0, 1) := by decide +kernel
theorem dL_law_479 : decode cL_law 479 = .ok (.iload_n 3, 1) := by decide +kernel
theorem dL_law_480 : decode cL_law 480 = .ok (.iconst 2, 1) := by decide +kernel
theorem dL_law_481 : decode cL_law 481 = .ok (.iadd, 1) := by decide +kernel
theorem dL_law_482 : decode cL_law 482 = .ok (.iaload, 1) := by decide +kernel
theorem dL_law_483 : decode cL_law 483 = .ok (.aload_n 0, 1) := by decide +kernel
theorem dL_law_484 : decode cL_law 484 = .ok (.iload_n 3, 1) := by decide +kernel
theorem dL_law_485 : decode cL_law 485 = .ok (.iconst 3, 1) := by decide +kernel
theorem dL_law_486 : decode cL_law 486 = .ok (.iadd, 1) := by decide +kernel
theorem dL_law_487 : decode cL_law 487 = .ok (.iaload, 1) := by decide +kernel
theorem dL_law_488 : decode cL_law 488 = .ok (.invokevirtual 57, 3) := by decide +kernel
theorem dL_law_491 : decode cL_law 491 = .ok (.aload_n 2, 1) := by decide +kernel
theorem dL_law_492 : decode cL_law 492 = .ok (.aload_n 0, 1) := by decide +kernel
theorem dL_law_493 : decode cL_law 493 = .ok (.iload_n 3, 1) := by decide +kernel
theorem dL_law_494 : decode cL_law 494 = .ok (.iconst 1, 1) := by decide +kernel
theorem dL_law_495 : decode cL_law 495 = .ok (.iadd, 1) := by decide +kernel
theorem dL_law_496 : decode cL_law 496 = .ok (.iaload, 1) := by decide +kernel
theorem dL_law_497 : decode cL_law 497 = .ok (.aload_n 0, 1) := by decide +kernel
theorem dL_law_498 : decode cL_law 498 = .ok (.iload_n 3, 1) := by decide +kernel
theorem dL_law_499 : decode cL_law 499 = .ok (.iconst 2, 1) := by decide +kernel
theorem dL_law_500 : decode cL_law 500 = .ok (.iadd, 1) := by decide +kernel
theorem dL_law_501 : decode cL_law 501 = .ok (.iaload, 1) := by decide +kernel
theorem dL_law_502 : decode cL_law 502 = .ok (.aload_n 0, 1) := by decide +kernel
theorem dL_law_503 : decode cL_law 503 = .ok (.iload_n 3, 1) := by decide +kernel
theorem dL_law_504 : decode cL_law 504 = .ok (.iconst 3, 1) := by decide +kernel
theorem dL_law_505 : decode cL_law 505 = .ok (.iadd, 1) := by decide +kernel
theorem dL_law_506 : decode cL_law 506 = .ok (.iaload, 1) := by decide +kernel
theorem dL_law_507 : decode cL_law 507 = .ok (.invokevirtual 60, 3) := by decide +kernel
theorem dL_law_510 : decode cL_law 510 = .ok (.if_icmp .eq 762, 3) := by decide +kernel
theorem dL_law_513 : decode cL_law 513 = .ok (.iconst 0, 1) := by decide +kernel
theorem dL_law_514 : decode cL_law 514 = .ok (.ireturn, 1) := by decide +kernel
theorem dL_law_515 : decode cL_law 515 = .ok (.aload_n 1, 1) := by decide +kernel
theorem dL_law_516 : decode cL_law 516 = .ok (.aload_n 0, 1) := by decide +kernel
theorem dL_law_517 : decode cL_law 517 = .ok (.iload_n 3, 1) := by decide +kernel
theorem dL_law_518 : decode cL_law 518 = .ok (.iconst 1, 1) := by decide +kernel
theorem dL_law_519 : decode cL_law 519 = .ok (.iadd, 1) := by decide +kernel
theorem dL_law_520 : decode cL_law 520 = .ok (.iaload, 1) := by decide +kernel
theorem dL_law_521 : decode cL_law 521 = .ok (.aload_n 0, 1) := by decide +kernel
theorem dL_law_522 : decode cL_law 522 = .ok (.iload_n 3, 1) := by decide +kernel
theorem dL_law_523 : decode cL_law 523 = .ok (.iconst 2, 1) := by decide +kernel
theorem dL_law_524 : decode cL_law 524 = .ok (.iadd, 1) := by decide +kernel
theorem dL_law_525 : decode cL_law 525 = .ok (.iaload, 1) := by decide +kernel
theorem dL_law_526 : decode cL_law 526 = .ok (.invokevirtual 61, 3) := by decide +kernel
theorem dL_law_529 : decode cL_law 529 = .ok (.aload_n 2, 1) := by decide +kernel
theorem dL_law_530 : decode cL_law 530 = .ok (.aload_n 0, 1) := by decide +kernel
theorem dL_law_531 : decode cL_law 531 = .ok (.iload_n 3, 1) := by decide +kernel
theorem dL_law_532 : decode cL_law 532 = .ok (.iconst 1, 1) := by decide +kernel
theorem dL_law_533 : decode cL_law 533 = .ok (.iadd, 1) := by decide +kernel
theorem dL_law_534 : decode cL_law 534 = .ok (.iaload, 1) := by decide +kernel
theorem dL_law_535 : decode cL_law 535 = .ok (.aload_n 0, 1) := by decide +kernel
theorem dL_law_536 : decode cL_law 536 = .ok (.iload_n 3, 1) := by decide +kernel
theorem dL_law_537 : decode cL_law 537 = .ok (.iconst 2, 1) := by decide +kernel
theorem dL_law_538 : decode cL_law 538 = .ok (.iadd, 1) := by decide +kernel
theorem dL_law_539 : decode cL_law 539 = .ok (.iaload, 1) := by decide +kernel
theorem dL_law_540 : decode cL_law 540 = .ok (.invokevirtual 64, 3) := by decide +kernel
theorem dL_law_543 : decode cL_law 543 = .ok (.if_icmp .eq 729, 3) := by decide +kernel
theorem dL_law_546 : decode cL_law 546 = .ok (.iconst 0, 1) := by decide +kernel
theorem dL_law_547 : decode cL_law 547 = .ok (.ireturn, 1) := by decide +kernel
theorem dL_law_548 : decode cL_law 548 = .ok (.aload_n 1, 1) := by decide +kernel
theorem dL_law_549 : decode cL_law 549 = .ok (.aload_n 0, 1) := by decide +kernel
theorem dL_law_550 : decode cL_law 550 = .ok (.iload_n 3, 1) := by decide +kernel
theorem dL_law_551 : decode cL_law 551 = .ok (.iconst 1, 1) := by decide +kernel
theorem dL_law_552 : decode cL_law 552 = .ok (.iadd, 1) := by decide +kernel
theorem dL_law_553 : decode cL_law 553 = .ok (.iaload, 1) := by decide +kernel
theorem dL_law_554 : decode cL_law 554 = .ok (.invokevirtual 65, 3) := by decide +kernel
theorem dL_law_557 : decode cL_law 557 = .ok (.aload_n 2, 1) := by decide +kernel
theorem dL_law_558 : decode cL_law 558 = .ok (.aload_n 0, 1) := by decide +kernel
theorem dL_law_559 : decode cL_law 559 = .ok (.iload_n 3, 1) := by decide +kernel
theorem dL_law_560 : decode cL_law 560 = .ok (.iconst 1, 1) := by decide +kernel
theorem dL_law_561 : decode cL_law 561 = .ok (.iadd, 1) := by decide +kernel
theorem dL_law_562 : decode cL_law 562 = .ok (.iaload, 1) := by decide +kernel
theorem dL_law_563 : decode cL_law 563 = .ok (.invokevirtual 68, 3) := by decide +kernel
theorem dL_law_566 : decode cL_law 566 = .ok (.if_icmp .eq 706, 3) := by decide +kernel
theorem dL_law_569 : decode cL_law 569 = .ok (.iconst 0, 1) := by decide +kernel
theorem dL_law_570 : decode cL_law 570 = .ok (.ireturn, 1) := by decide +kernel
theorem dL_law_571 : decode cL_law 571 = .ok (.aload_n 1, 1) := by decide +kernel
theorem dL_law_572 : decode cL_law 572 = .ok (.invokevirtual 69, 3) := by decide +kernel
theorem dL_law_575 : decode cL_law 575 = .ok (.aload_n 2, 1) := by decide +kernel
theorem dL_law_576 : decode cL_law 576 = .ok (.invokevirtual 72, 3) := by decide +kernel
theorem dL_law_579 : decode cL_law 579 = .ok (.if_icmp .eq 693, 3) := by decide +kernel
theorem dL_law_582 : decode cL_law 582 = .ok (.iconst 0, 1) := by decide +kernel
theorem dL_law_583 : decode cL_law 583 = .ok (.ireturn, 1) := by decide +kernel
theorem dL_law_584 : decode cL_law 584 = .ok (.aload_n 1, 1) := by decide +kernel
theorem dL_law_585 : decode cL_law 585 = .ok (.invokevirtual 73, 3) := by decide +kernel
theorem dL_law_588 : decode cL_law 588 = .ok (.aload_n 2, 1) := by decide +kernel
theorem dL_law_589 : decode cL_law 589 = .ok (.invokevirtual 76, 3) := by decide +kernel
theorem dL_law_592 : decode cL_law 592 = .ok (.if_icmp .eq 680, 3) := by decide +kernel
theorem dL_law_595 : decode cL_law 595 = .ok (.iconst 0, 1) := by decide +kernel
theorem dL_law_596 : decode cL_law 596 = .ok (.ireturn, 1) := by decide +kernel
theorem dL_law_597 : decode cL_law 597 = .ok (.aload_n 1, 1) := by decide +kernel
theorem dL_law_598 : decode cL_law 598 = .ok (.aload_n 0, 1) := by decide +kernel
theorem dL_law_599 : decode cL_law 599 = .ok (.iload_n 3, 1) := by decide +kernel
theorem dL_law_600 : decode cL_law 600 = .ok (.iconst 1, 1) := by decide +kernel
theorem dL_law_601 : decode cL_law 601 = .ok (.iadd, 1) := by decide +kernel
theorem dL_law_602 : decode cL_law 602 = .ok (.iaload, 1) := by decide +kernel
theorem dL_law_603 : decode cL_law 603 = .ok (.invokevirtual 77, 3) := by decide +kernel
theorem dL_law_606 : decode cL_law 606 = .ok (.aload_n 2, 1) := by decide +kernel
theorem dL_law_607 : decode cL_law 607 = .ok (.aload_n 0, 1) := by decide +kernel
theorem dL_law_608 : decode cL_law 608 = .ok (.iload_n 3, 1) := by decide +kernel
theorem dL_law_609 : decode cL_law 609 = .ok (.iconst 1, 1) := by decide +kernel
theorem dL_law_610 : decode cL_law 610 = .ok (.iadd, 1) := by decide +kernel
theorem dL_law_611 : decode cL_law 611 = .ok (.iaload, 1) := by decide +kernel
theorem dL_law_612 : decode cL_law 612 = .ok (.invokevirtual 80, 3) := by decide +kernel
theorem dL_law_615 : decode cL_law 615 = .ok (.if_icmp .eq 657, 3) := by decide +kernel
theorem dL_law_618 : decode cL_law 618 = .ok (.iconst 0, 1) := by decide +kernel
theorem dL_law_619 : decode cL_law 619 = .ok (.ireturn, 1) := by decide +kernel
theorem dL_law_620 : decode cL_law 620 = .ok (.aload_n 1, 1) := by decide +kernel
theorem dL_law_621 : decode cL_law 621 = .ok (.aload_n 0, 1) := by decide +kernel
theorem dL_law_622 : decode cL_law 622 = .ok (.iload_n 3, 1) := by decide +kernel
theorem dL_law_623 : decode cL_law 623 = .ok (.iconst 1, 1) := by decide +kernel
theorem dL_law_624 : decode cL_law 624 = .ok (.iadd, 1) := by decide +kernel
theorem dL_law_625 : decode cL_law 625 = .ok (.iaload, 1) := by decide +kernel
theorem dL_law_626 : decode cL_law 626 = .ok (.aload_n 0, 1) := by decide +kernel
theorem dL_law_627 : decode cL_law 627 = .ok (.iload_n 3, 1) := by decide +kernel
theorem dL_law_628 : decode cL_law 628 = .ok (.iconst 2, 1) := by decide +kernel
theorem dL_law_629 : decode cL_law 629 = .ok (.iadd, 1) := by decide +kernel
theorem dL_law_630 : decode cL_law 630 = .ok (.iaload, 1) := by decide +kernel
theorem dL_law_631 : decode cL_law 631 = .ok (.invokevirtual 81, 3) := by decide +kernel
theorem dL_law_634 : decode cL_law 634 = .ok (.aload_n 2, 1) := by decide +kernel
theorem dL_law_635 : decode cL_law 635 = .ok (.aload_n 0, 1) := by decide +kernel
theorem dL_law_636 : decode cL_law 636 = .ok (.iload_n 3, 1) := by decide +kernel
theorem dL_law_637 : decode cL_law 637 = .ok (.iconst 1, 1) := by decide +kernel
theorem dL_law_638 : decode cL_law 638 = .ok (.iadd, 1) := by decide +kernel
theorem dL_law_639 : decode cL_law 639 = .ok (.iaload, 1) := by decide +kernel
theorem dL_law_640 : decode cL_law 640 = .ok (.aload_n 0, 1) := by decide +kernel
theorem dL_law_641 : decode cL_law 641 = .ok (.iload_n 3, 1) := by decide +kernel
theorem dL_law_642 : decode cL_law 642 = .ok (.iconst 2, 1) := by decide +kernel
theorem dL_law_643 : decode cL_law 643 = .ok (.iadd, 1) := by decide +kernel
theorem dL_law_644 : decode cL_law 644 = .ok (.iaload, 1) := by decide +kernel
theorem dL_law_645 : decode cL_law 645 = .ok (.invokevirtual 84, 3) := by decide +kernel
theorem dL_law_648 : decode cL_law 648 = .ok (.if_icmp .eq 624, 3) := by decide +kernel
theorem dL_law_651 : decode cL_law 651 = .ok (.iconst 0, 1) := by decide +kernel
theorem dL_law_652 : decode cL_law 652 = .ok (.ireturn, 1) := by decide +kernel
theorem dL_law_653 : decode cL_law 653 = .ok (.aload_n 1, 1) := by decide +kernel
theorem dL_law_654 : decode cL_law 654 = .ok (.aload_n 0, 1) := by decide +kernel
theorem dL_law_655 : decode cL_law 655 = .ok (.iload_n 3, 1) := by decide +kernel
theorem dL_law_656 : decode cL_law 656 = .ok (.iconst 1, 1) := by decide +kernel
theorem dL_law_657 : decode cL_law 657 = .ok (.iadd, 1) := by decide +kernel
theorem dL_law_658 : decode cL_law 658 = .ok (.iaload, 1) := by decide +kernel
theorem dL_law_659 : decode cL_law 659 = .ok (.aload_n 0, 1) := by decide +kernel
theorem dL_law_660 : decode cL_law 660 = .ok (.iload_n 3, 1) := by decide +kernel
theorem dL_law_661 : decode cL_law 661 = .ok (.iconst 2, 1) := by decide +kernel
theorem dL_law_662 : decode cL_law 662 = .ok (.iadd, 1) := by decide +kernel
theorem dL_law_663 : decode cL_law 663 = .ok (.iaload, 1) := by decide +kernel
theorem dL_law_664 : decode cL_law 664 = .ok (.invokevirtual 85, 3) := by decide +kernel
theorem dL_law_667 : decode cL_law 667 = .ok (.aload_n 2, 1) := by decide +kernel
theorem dL_law_668 : decode cL_law 668 = .ok (.aload_n 0, 1) := by decide +kernel
theorem dL_law_669 : decode cL_law 669 = .ok (.iload_n 3, 1) := by decide +kernel
theorem dL_law_670 : decode cL_law 670 = .ok (.iconst 1, 1) := by decide +kernel
theorem dL_law_671 : decode cL_law 671 = .ok (.iadd, 1) := by decide +kernel
theorem dL_law_672 : decode cL_law 672 = .ok (.iaload, 1) := by decide +kernel
theorem dL_law_673 : decode cL_law 673 = .ok (.aload_n 0, 1) := by decide +kernel
theorem dL_law_674 : decode cL_law 674 = .ok (.iload_n 3, 1) := by decide +kernel
theorem dL_law_675 : decode cL_law 675 = .ok (.iconst 2, 1) := by decide +kernel
theorem dL_law_676 : decode cL_law 676 = .ok (.iadd, 1) := by decide +kernel
theorem dL_law_677 : decode cL_law 677 = .ok (.iaload, 1) := by decide +kernel
theorem dL_law_678 : decode cL_law 678 = .ok (.invokevirtual 88, 3) := by decide +kernel
theorem dL_law_681 : decode cL_law 681 = .ok (.if_icmp .eq 591, 3) := by decide +kernel
theorem dL_law_684 : decode cL_law 684 = .ok (.iconst 0, 1) := by decide +kernel
theorem dL_law_685 : decode cL_law 685 = .ok (.ireturn, 1) := by decide +kernel
theorem dL_law_686 : decode cL_law 686 = .ok (.aload_n 1, 1) := by decide +kernel
theorem dL_law_687 : decode cL_law 687 = .ok (.aload_n 0, 1) := by decide +kernel
theorem dL_law_688 : decode cL_law 688 = .ok (.iload_n 3, 1) := by decide +kernel
theorem dL_law_689 : decode cL_law 689 = .ok (.iconst 1, 1) := by decide +kernel
theorem dL_law_690 : decode cL_law 690 = .ok (.iadd, 1) := by decide +kernel
theorem dL_law_691 : decode cL_law 691 = .ok (.iaload, 1) := by decide +kernel
theorem dL_law_692 : decode cL_law 692 = .ok (.aload_n 0, 1) := by decide +kernel
theorem dL_law_693 : decode cL_law 693 = .ok (.iload_n 3, 1) := by decide +kernel
theorem dL_law_694 : decode cL_law 694 = .ok (.iconst 2, 1) := by decide +kernel
theorem dL_law_695 : decode cL_law 695 = .ok (.iadd, 1) := by decide +kernel
theorem dL_law_696 : decode cL_law 696 = .ok (.iaload, 1) := by decide +kernel
theorem dL_law_697 : decode cL_law 697 = .ok (.aload_n 0, 1) := by decide +kernel
theorem dL_law_698 : decode cL_law 698 = .ok (.iload_n 3, 1) := by decide +kernel
theorem dL_law_699 : decode cL_law 699 = .ok (.iconst 3, 1) := by decide +kernel
theorem dL_law_700 : decode cL_law 700 = .ok (.iadd, 1) := by decide +kernel
theorem dL_law_701 : decode cL_law 701 = .ok (.iaload, 1) := by decide +kernel
theorem dL_law_702 : decode cL_law 702 = .ok (.invokevirtual 89, 3) := by decide +kernel
theorem dL_law_705 : decode cL_law 705 = .ok (.aload_n 2, 1) := by decide +kernel
theorem dL_law_706 : decode cL_law 706 = .ok (.aload_n 0, 1) := by decide +kernel
theorem dL_law_707 : decode cL_law 707 = .ok (.iload_n 3, 1) := by decide +kernel
theorem dL_law_708 : decode cL_law 708 = .ok (.iconst 1, 1) := by decide +kernel
theorem dL_law_709 : decode cL_law 709 = .ok (.iadd, 1) := by decide +kernel
theorem dL_law_710 : decode cL_law 710 = .ok (.iaload, 1) := by decide +kernel
theorem dL_law_711 : decode cL_law 711 = .ok (.aload_n 0, 1) := by decide +kernel
theorem dL_law_712 : decode cL_law 712 = .ok (.iload_n 3, 1) := by decide +kernel
theorem dL_law_713 : decode cL_law 713 = .ok (.iconst 2, 1) := by decide +kernel
theorem dL_law_714 : decode cL_law 714 = .ok (.iadd, 1) := by decide +kernel
theorem dL_law_715 : decode cL_law 715 = .ok (.iaload, 1) := by decide +kernel
theorem dL_law_716 : decode cL_law 716 = .ok (.aload_n 0, 1) := by decide +kernel
theorem dL_law_717 : decode cL_law 717 = .ok (.iload_n 3, 1) := by decide +kernel
theorem dL_law_718 : decode cL_law 718 = .ok (.iconst 3, 1) := by decide +kernel
theorem dL_law_719 : decode cL_law 719 = .ok (.iadd, 1) := by decide +kernel
theorem dL_law_720 : decode cL_law 720 = .ok (.iaload, 1) := by decide +kernel
theorem dL_law_721 : decode cL_law 721 = .ok (.invokevirtual 92, 3) := by decide +kernel
theorem dL_law_724 : decode cL_law 724 = .ok (.if_icmp .eq 548, 3) := by decide +kernel
theorem dL_law_727 : decode cL_law 727 = .ok (.iconst 0, 1) := by decide +kernel
theorem dL_law_728 : decode cL_law 728 = .ok (.ireturn, 1) := by decide +kernel
theorem dL_law_729 : decode cL_law 729 = .ok (.aload_n 1, 1) := by decide +kernel
theorem dL_law_730 : decode cL_law 730 = .ok (.aload_n 0, 1) := by decide +kernel
theorem dL_law_731 : decode cL_law 731 = .ok (.iload_n 3, 1) := by decide +kernel
theorem dL_law_732 : decode cL_law 732 = .ok (.iconst 1, 1) := by decide +kernel
theorem dL_law_733 : decode cL_law 733 = .ok (.iadd, 1) := by decide +kernel
theorem dL_law_734 : decode cL_law 734 = .ok (.iaload, 1) := by decide +kernel
theorem dL_law_735 : decode cL_law 735 = .ok (.invokevirtual 93, 3) := by decide +kernel
theorem dL_law_738 : decode cL_law 738 = .ok (.aload_n 2, 1) := by decide +kernel
theorem dL_law_739 : decode cL_law 739 = .ok (.aload_n 0, 1) := by decide +kernel
theorem dL_law_740 : decode cL_law 740 = .ok (.iload_n 3, 1) := by decide +kernel
theorem dL_law_741 : decode cL_law 741 = .ok (.iconst 1, 1) := by decide +kernel
theorem dL_law_742 : decode cL_law 742 = .ok (.iadd, 1) := by decide +kernel
theorem dL_law_743 : decode cL_law 743 = .ok (.iaload, 1) := by decide +kernel
theorem dL_law_744 : decode cL_law 744 = .ok (.invokevirtual 96, 3) := by decide +kernel
theorem dL_law_747 : decode cL_law 747 = .ok (.if_icmp .eq 525, 3) := by decide +kernel
theorem dL_law_750 : decode cL_law 750 = .ok (.iconst 0, 1) := by decide +kernel
theorem dL_law_751 : decode cL_law 751 = .ok (.ireturn, 1) := by decide +kernel
theorem dL_law_752 : decode cL_law 752 = .ok (.aload_n 1, 1) := by decide +kernel
theorem dL_law_753 : decode cL_law 753 = .ok (.aload_n 0, 1) := by decide +kernel
theorem dL_law_754 : decode cL_law 754 = .ok (.iload_n 3, 1) := by decide +kernel
theorem dL_law_755 : decode cL_law 755 = .ok (.iconst 1, 1) := by decide +kernel
theorem dL_law_756 : decode cL_law 756 = .ok (.iadd, 1) := by decide +kernel
theorem dL_law_757 : decode cL_law 757 = .ok (.iaload, 1) := by decide +kernel
theorem dL_law_758 : decode cL_law 758 = .ok (.aload_n 0, 1) := by decide +kernel
theorem dL_law_759 : decode cL_law 759 = .ok (.iload_n 3, 1) := by decide +kernel
theorem dL_law_760 : decode cL_law 760 = .ok (.iconst 2, 1) := by decide +kernel
theorem dL_law_761 : decode cL_law 761 = .ok (.iadd, 1) := by decide +kernel
theorem dL_law_762 : decode cL_law 762 = .ok (.iaload, 1) := by decide +kernel
theorem dL_law_763 : decode cL_law 763 = .ok (.aload_n 0, 1) := by decide +kernel
theorem dL_law_764 : decode cL_law 764 = .ok (.iload_n 3, 1) := by decide +kernel
theorem dL_law_765 : decode cL_law 765 = .ok (.iconst 3, 1) := by decide +kernel
theorem dL_law_766 : decode cL_law 766 = .ok (.iadd, 1) := by decide +kernel
theorem dL_law_767 : decode cL_law 767 = .ok (.iaload, 1) := by decide +kernel
theorem dL_law_768 : decode cL_law 768 = .ok (.invokevirtual 97, 3) := by decide +kernel
theorem dL_law_771 : decode cL_law 771 = .ok (.aload_n 2, 1) := by decide +kernel
theorem dL_law_772 : decode cL_law 772 = .ok (.aload_n 0, 1) := by decide +kernel
theorem dL_law_773 : decode cL_law 773 = .ok (.iload_n 3, 1) := by decide +kernel
theorem dL_law_774 : decode cL_law 774 = .ok (.iconst 1, 1) := by decide +kernel
theorem dL_law_775 : decode cL_law 775 = .ok (.iadd, 1) := by decide +kernel
theorem dL_law_776 : decode cL_law 776 = .ok (.iaload, 1) := by decide +kernel
theorem dL_law_777 : decode cL_law 777 = .ok (.aload_n 0, 1) := by decide +kernel
theorem dL_law_778 : decode cL_law 778 = .ok (.iload_n 3, 1) := by decide +kernel
theorem dL_law_779 : decode cL_law 779 = .ok (.iconst 2, 1) := by decide +kernel
theorem dL_law_780 : decode cL_law 780 = .ok (.iadd, 1) := by decide +kernel
theorem dL_law_781 : decode cL_law 781 = .ok (.iaload, 1) := by decide +kernel
theorem dL_law_782 : decode cL_law 782 = .ok (.aload_n 0, 1) := by decide +kernel
theorem dL_law_783 : decode cL_law 783 = .ok (.iload_n 3, 1) := by decide +kernel
theorem dL_law_784 : decode cL_law 784 = .ok (.iconst 3, 1) := by decide +kernel
theorem dL_law_785 : decode cL_law 785 = .ok (.iadd, 1) := by decide +kernel
theorem dL_law_786 : decode cL_law 786 = .ok (.iaload, 1) := by decide +kernel
theorem dL_law_787 : decode cL_law 787 = .ok (.invokevirtual 100, 3) := by decide +kernel
theorem dL_law_790 : decode cL_law 790 = .ok (.if_icmp .eq 482, 3) := by decide +kernel
theorem dL_law_793 : decode cL_law 793 = .ok (.iconst 0, 1) := by decide +kernel
theorem dL_law_794 : decode cL_law 794 = .ok (.ireturn, 1) := by decide +kernel
theorem dL_law_795 : decode cL_law 795 = .ok (.aload_n 1, 1) := by decide +kernel
theorem dL_law_796 : decode cL_law 796 = .ok (.invokevirtual 101, 3) := by decide +kernel
theorem dL_law_799 : decode cL_law 799 = .ok (.aload_n 2, 1) := by decide +kernel
theorem dL_law_800 : decode cL_law 800 = .ok (.invokevirtual 104, 3) := by decide +kernel
theorem dL_law_803 : decode cL_law 803 = .ok (.if_icmp .eq 469, 3) := by decide +kernel
theorem dL_law_806 : decode cL_law 806 = .ok (.iconst 0, 1) := by decide +kernel
theorem dL_law_807 : decode cL_law 807 = .ok (.ireturn, 1) := by decide +kernel
theorem dL_law_808 : decode cL_law 808 = .ok (.aload_n 1, 1) := by decide +kernel
theorem dL_law_809 : decode cL_law 809 = .ok (.invokevirtual 105, 3) := by decide +kernel
theorem dL_law_812 : decode cL_law 812 = .ok (.aload_n 2, 1) := by decide +kernel
theorem dL_law_813 : decode cL_law 813 = .ok (.invokevirtual 108, 3) := by decide +kernel
theorem dL_law_816 : decode cL_law 816 = .ok (.if_icmp .eq 456, 3) := by decide +kernel
theorem dL_law_819 : decode cL_law 819 = .ok (.iconst 0, 1) := by decide +kernel
theorem dL_law_820 : decode cL_law 820 = .ok (.ireturn, 1) := by decide +kernel
theorem dL_law_821 : decode cL_law 821 = .ok (.aload_n 1, 1) := by decide +kernel
theorem dL_law_822 : decode cL_law 822 = .ok (.aload_n 0, 1) := by decide +kernel
theorem dL_law_823 : decode cL_law 823 = .ok (.iload_n 3, 1) := by decide +kernel
theorem dL_law_824 : decode cL_law 824 = .ok (.iconst 1, 1) := by decide +kernel
theorem dL_law_825 : decode cL_law 825 = .ok (.iadd, 1) := by decide +kernel
theorem dL_law_826 : decode cL_law 826 = .ok (.iaload, 1) := by decide +kernel
theorem dL_law_827 : decode cL_law 827 = .ok (.invokevirtual 109, 3) := by decide +kernel
theorem dL_law_830 : decode cL_law 830 = .ok (.aload_n 2, 1) := by decide +kernel
theorem dL_law_831 : decode cL_law 831 = .ok (.aload_n 0, 1) := by decide +kernel
theorem dL_law_832 : decode cL_law 832 = .ok (.iload_n 3, 1) := by decide +kernel
theorem dL_law_833 : decode cL_law 833 = .ok (.iconst 1, 1) := by decide +kernel
theorem dL_law_834 : decode cL_law 834 = .ok (.iadd, 1) := by decide +kernel
theorem dL_law_835 : decode cL_law 835 = .ok (.iaload, 1) := by decide +kernel
theorem dL_law_836 : decode cL_law 836 = .ok (.invokevirtual 112, 3) := by decide +kernel
theorem dL_law_839 : decode cL_law 839 = .ok (.if_icmp .eq 433, 3) := by decide +kernel
theorem dL_law_842 : decode cL_law 842 = .ok (.iconst 0, 1) := by decide +kernel
theorem dL_law_843 : decode cL_law 843 = .ok (.ireturn, 1) := by decide +kernel
theorem dL_law_844 : decode cL_law 844 = .ok (.aload_n 1, 1) := by decide +kernel
theorem dL_law_845 : decode cL_law 845 = .ok (.aload_n 0, 1) := by decide +kernel
theorem dL_law_846 : decode cL_law 846 = .ok (.iload_n 3, 1) := by decide +kernel
theorem dL_law_847 : decode cL_law 847 = .ok (.iconst 1, 1) := by decide +kernel
theorem dL_law_848 : decode cL_law 848 = .ok (.iadd, 1) := by decide +kernel
theorem dL_law_849 : decode cL_law 849 = .ok (.iaload, 1) := by decide +kernel
theorem dL_law_850 : decode cL_law 850 = .ok (.invokevirtual 113, 3) := by decide +kernel
theorem dL_law_853 : decode cL_law 853 = .ok (.aload_n 2, 1) := by decide +kernel
theorem dL_law_854 : decode cL_law 854 = .ok (.aload_n 0, 1) := by decide +kernel
theorem dL_law_855 : decode cL_law 855 = .ok (.iload_n 3, 1) := by decide +kernel
theorem dL_law_856 : decode cL_law 856 = .ok (.iconst 1, 1) := by decide +kernel
theorem dL_law_857 : decode cL_law 857 = .ok (.iadd, 1) := by decide +kernel
theorem dL_law_858 : decode cL_law 858 = .ok (.iaload, 1) := by decide +kernel
theorem dL_law_859 : decode cL_law 859 = .ok (.invokevirtual 116, 3) := by decide +kernel
theorem dL_law_862 : decode cL_law 862 = .ok (.if_icmp .eq 410, 3) := by decide +kernel
theorem dL_law_865 : decode cL_law 865 = .ok (.iconst 0, 1) := by decide +kernel
theorem dL_law_866 : decode cL_law 866 = .ok (.ireturn, 1) := by decide +kernel
theorem dL_law_867 : decode cL_law 867 = .ok (.aload_n 1, 1) := by decide +kernel
theorem dL_law_868 : decode cL_law 868 = .ok (.aload_n 0, 1) := by decide +kernel
theorem dL_law_869 : decode cL_law 869 = .ok (.iload_n 3, 1) := by decide +kernel
theorem dL_law_870 : decode cL_law 870 = .ok (.iconst 1, 1) := by decide +kernel
theorem dL_law_871 : decode cL_law 871 = .ok (.iadd, 1) := by decide +kernel
theorem dL_law_872 : decode cL_law 872 = .ok (.iaload, 1) := by decide +kernel
theorem dL_law_873 : decode cL_law 873 = .ok (.invokevirtual 117, 3) := by decide +kernel
theorem dL_law_876 : decode cL_law 876 = .ok (.aload_n 2, 1) := by decide +kernel
theorem dL_law_877 : decode cL_law 877 = .ok (.aload_n 0, 1) := by decide +kernel
theorem dL_law_878 : decode cL_law 878 = .ok (.iload_n 3, 1) := by decide +kernel
theorem dL_law_879 : decode cL_law 879 = .ok (.iconst 1, 1) := by decide +kernel
theorem dL_law_880 : decode cL_law 880 = .ok (.iadd, 1) := by decide +kernel
theorem dL_law_881 : decode cL_law 881 = .ok (.iaload, 1) := by decide +kernel
theorem dL_law_882 : decode cL_law 882 = .ok (.invokevirtual 120, 3) := by decide +kernel
theorem dL_law_885 : decode cL_law 885 = .ok (.if_icmp .eq 387, 3) := by decide +kernel
theorem dL_law_888 : decode cL_law 888 = .ok (.iconst 0, 1) := by decide +kernel
theorem dL_law_889 : decode cL_law 889 = .ok (.ireturn, 1) := by decide +kernel
theorem dL_law_890 : decode cL_law 890 = .ok (.aload_n 1, 1) := by decide +kernel
theorem dL_law_891 : decode cL_law 891 = .ok (.aload_n 0, 1) := by decide +kernel
theorem dL_law_892 : decode cL_law 892 = .ok (.iload_n 3, 1) := by decide +kernel
theorem dL_law_893 : decode cL_law 893 = .ok (.iconst 1, 1) := by decide +kernel
theorem dL_law_894 : decode cL_law 894 = .ok (.iadd, 1) := by decide +kernel
theorem dL_law_895 : decode cL_law 895 = .ok (.iaload, 1) := by decide +kernel
theorem dL_law_896 : decode cL_law 896 = .ok (.aload_n 0, 1) := by decide +kernel
theorem dL_law_897 : decode cL_law 897 = .ok (.iload_n 3, 1) := by decide +kernel
theorem dL_law_898 : decode cL_law 898 = .ok (.iconst 2, 1) := by decide +kernel
theorem dL_law_899 : decode cL_law 899 = .ok (.iadd, 1) := by decide +kernel
theorem dL_law_900 : decode cL_law 900 = .ok (.iaload, 1) := by decide +kernel
theorem dL_law_901 : decode cL_law 901 = .ok (.aload_n 0, 1) := by decide +kernel
theorem dL_law_902 : decode cL_law 902 = .ok (.iload_n 3, 1) := by decide +kernel
theorem dL_law_903 : decode cL_law 903 = .ok (.iconst 3, 1) := by decide +kernel
theorem dL_law_904 : decode cL_law 904 = .ok (.iadd, 1) := by decide +kernel
theorem dL_law_905 : decode cL_law 905 = .ok (.iaload, 1) := by decide +kernel
theorem dL_law_906 : decode cL_law 906 = .ok (.invokevirtual 121, 3) := by decide +kernel
theorem dL_law_909 : decode cL_law 909 = .ok (.aload_n 2, 1) := by decide +kernel
theorem dL_law_910 : decode cL_law 910 = .ok (.aload_n 0, 1) := by decide +kernel
theorem dL_law_911 : decode cL_law 911 = .ok (.iload_n 3, 1) := by decide +kernel
theorem dL_law_912 : decode cL_law 912 = .ok (.iconst 1, 1) := by decide +kernel
theorem dL_law_913 : decode cL_law 913 = .ok (.iadd, 1) := by decide +kernel
theorem dL_law_914 : decode cL_law 914 = .ok (.iaload, 1) := by decide +kernel
theorem dL_law_915 : decode cL_law 915 = .ok (.aload_n 0, 1) := by decide +kernel
theorem dL_law_916 : decode cL_law 916 = .ok (.iload_n 3, 1) := by decide +kernel
theorem dL_law_917 : decode cL_law 917 = .ok (.iconst 2, 1) := by decide +kernel
theorem dL_law_918 : decode cL_law 918 = .ok (.iadd, 1) := by decide +kernel
theorem dL_law_919 : decode cL_law 919 = .ok (.iaload, 1) := by decide +kernel
theorem dL_law_920 : decode cL_law 920 = .ok (.aload_n 0, 1) := by decide +kernel
theorem dL_law_921 : decode cL_law 921 = .ok (.iload_n 3, 1) := by decide +kernel
theorem dL_law_922 : decode cL_law 922 = .ok (.iconst 3, 1) := by decide +kernel
theorem dL_law_923 : decode cL_law 923 = .ok (.iadd, 1) := by decide +kernel
theorem dL_law_924 : decode cL_law 924 = .ok (.iaload, 1) := by decide +kernel
theorem dL_law_925 : decode cL_law 925 = .ok (.invokevirtual 125, 3) := by decide +kernel
theorem dL_law_928 : decode cL_law 928 = .ok (.lcmp, 1) := by decide +kernel
theorem dL_law_929 : decode cL_law 929 = .ok (.ifCond .eq 343, 3) := by decide +kernel
theorem dL_law_932 : decode cL_law 932 = .ok (.iconst 0, 1) := by decide +kernel
theorem dL_law_933 : decode cL_law 933 = .ok (.ireturn, 1) := by decide +kernel
theorem dL_law_934 : decode cL_law 934 = .ok (.aload_n 1, 1) := by decide +kernel
theorem dL_law_935 : decode cL_law 935 = .ok (.aload_n 0, 1) := by decide +kernel
theorem dL_law_936 : decode cL_law 936 = .ok (.iload_n 3, 1) := by decide +kernel
theorem dL_law_937 : decode cL_law 937 = .ok (.iconst 1, 1) := by decide +kernel
theorem dL_law_938 : decode cL_law 938 = .ok (.iadd, 1) := by decide +kernel
theorem dL_law_939 : decode cL_law 939 = .ok (.iaload, 1) := by decide +kernel
theorem dL_law_940 : decode cL_law 940 = .ok (.aload_n 0, 1) := by decide +kernel
theorem dL_law_941 : decode cL_law 941 = .ok (.iload_n 3, 1) := by decide +kernel
theorem dL_law_942 : decode cL_law 942 = .ok (.iconst 2, 1) := by decide +kernel
theorem dL_law_943 : decode cL_law 943 = .ok (.iadd, 1) := by decide +kernel
theorem dL_law_944 : decode cL_law 944 = .ok (.iaload, 1) := by decide +kernel
theorem dL_law_945 : decode cL_law 945 = .ok (.aload_n 0, 1) := by decide +kernel
theorem dL_law_946 : decode cL_law 946 = .ok (.iload_n 3, 1) := by decide +kernel
theorem dL_law_947 : decode cL_law 947 = .ok (.iconst 3, 1) := by decide +kernel
theorem dL_law_948 : decode cL_law 948 = .ok (.iadd, 1) := by decide +kernel
theorem dL_law_949 : decode cL_law 949 = .ok (.iaload, 1) := by decide +kernel
theorem dL_law_950 : decode cL_law 950 = .ok (.invokevirtual 126, 3) := by decide +kernel
theorem dL_law_953 : decode cL_law 953 = .ok (.aload_n 2, 1) := by decide +kernel
theorem dL_law_954 : decode cL_law 954 = .ok (.aload_n 0, 1) := by decide +kernel
theorem dL_law_955 : decode cL_law 955 = .ok (.iload_n 3, 1) := by decide +kernel
theorem dL_law_956 : decode cL_law 956 = .ok (.iconst 1, 1) := by decide +kernel
theorem dL_law_957 : decode cL_law 957 = .ok (.iadd, 1) := by decide +kernel
theorem dL_law_958 : decode cL_law 958 = .ok (.iaload, 1) := by decide +kernel
theorem dL_law_959 : decode cL_law 959 = .ok (.aload_n 0, 1) := by decide +kernel
theorem dL_law_960 : decode cL_law 960 = .ok (.iload_n 3, 1) := by decide +kernel
theorem dL_law_961 : decode cL_law 961 = .ok (.iconst 2, 1) := by decide +kernel
theorem dL_law_962 : decode cL_law 962 = .ok (.iadd, 1) := by decide +kernel
theorem dL_law_963 : decode cL_law 963 = .ok (.iaload, 1) := by decide +kernel
theorem dL_law_964 : decode cL_law 964 = .ok (.aload_n 0, 1) := by decide +kernel
theorem dL_law_965 : decode cL_law 965 = .ok (.iload_n 3, 1) := by decide +kernel
theorem dL_law_966 : decode cL_law 966 = .ok (.iconst 3, 1) := by decide +kernel
theorem dL_law_967 : decode cL_law 967 = .ok (.iadd, 1) := by decide +kernel
theorem dL_law_968 : decode cL_law 968 = .ok (.iaload, 1) := by decide +kernel
theorem dL_law_969 : decode cL_law 969 = .ok (.invokevirtual 129, 3) := by decide +kernel
theorem dL_law_972 : decode cL_law 972 = .ok (.if_icmp .eq 300, 3) := by decide +kernel
theorem dL_law_975 : decode cL_law 975 = .ok (.iconst 0, 1) := by decide +kernel
theorem dL_law_976 : decode cL_law 976 = .ok (.ireturn, 1) := by decide +kernel
theorem dL_law_977 : decode cL_law 977 = .ok (.aload_n 1, 1) := by decide +kernel
theorem dL_law_978 : decode cL_law 978 = .ok (.aload_n 0, 1) := by decide +kernel
theorem dL_law_979 : decode cL_law 979 = .ok (.iload_n 3, 1) := by decide +kernel
theorem dL_law_980 : decode cL_law 980 = .ok (.iconst 1, 1) := by decide +kernel
theorem dL_law_981 : decode cL_law 981 = .ok (.iadd, 1) := by decide +kernel
theorem dL_law_982 : decode cL_law 982 = .ok (.iaload, 1) := by decide +kernel
theorem dL_law_983 : decode cL_law 983 = .ok (.aload_n 0, 1) := by decide +kernel
theorem dL_law_984 : decode cL_law 984 = .ok (.iload_n 3, 1) := by decide +kernel
theorem dL_law_985 : decode cL_law 985 = .ok (.iconst 2, 1) := by decide +kernel
theorem dL_law_986 : decode cL_law 986 = .ok (.iadd, 1) := by decide +kernel
theorem dL_law_987 : decode cL_law 987 = .ok (.iaload, 1) := by decide +kernel
theorem dL_law_988 : decode cL_law 988 = .ok (.aload_n 0, 1) := by decide +kernel
theorem dL_law_989 : decode cL_law 989 = .ok (.iload_n 3, 1) := by decide +kernel
theorem dL_law_990 : decode cL_law 990 = .ok (.iconst 3, 1) := by decide +kernel
theorem dL_law_991 : decode cL_law 991 = .ok (.iadd, 1) := by decide +kernel
theorem dL_law_992 : decode cL_law 992 = .ok (.iaload, 1) := by decide +kernel
theorem dL_law_993 : decode cL_law 993 = .ok (.invokevirtual 130, 3) := by decide +kernel
theorem dL_law_996 : decode cL_law 996 = .ok (.aload_n 2, 1) := by decide +kernel
theorem dL_law_997 : decode cL_law 997 = .ok (.aload_n 0, 1) := by decide +kernel
theorem dL_law_998 : decode cL_law 998 = .ok (.iload_n 3, 1) := by decide +kernel
theorem dL_law_999 : decode cL_law 999 = .ok (.iconst 1, 1) := by decide +kernel
theorem dL_law_1000 : decode cL_law 1000 = .ok (.iadd, 1) := by decide +kernel
theorem dL_law_1001 : decode cL_law 1001 = .ok (.iaload, 1) := by decide +kernel
theorem dL_law_1002 : decode cL_law 1002 = .ok (.aload_n 0, 1) := by decide +kernel
theorem dL_law_1003 : decode cL_law 1003 = .ok (.iload_n 3, 1) := by decide +kernel
theorem dL_law_1004 : decode cL_law 1004 = .ok (.iconst 2, 1) := by decide +kernel
theorem dL_law_1005 : decode cL_law 1005 = .ok (.iadd, 1) := by decide +kernel
theorem dL_law_1006 : decode cL_law 1006 = .ok (.iaload, 1) := by decide +kernel
theorem dL_law_1007 : decode cL_law 1007 = .ok (.aload_n 0, 1) := by decide +kernel
theorem dL_law_1008 : decode cL_law 1008 = .ok (.iload_n 3, 1) := by decide +kernel
theorem dL_law_1009 : decode cL_law 1009 = .ok (.iconst 3, 1) := by decide +kernel
theorem dL_law_1010 : decode cL_law 1010 = .ok (.iadd, 1) := by decide +kernel
theorem dL_law_1011 : decode cL_law 1011 = .ok (.iaload, 1) := by decide +kernel
theorem dL_law_1012 : decode cL_law 1012 = .ok (.invokevirtual 133, 3) := by decide +kernel
theorem dL_law_1015 : decode cL_law 1015 = .ok (.if_icmp .eq 257, 3) := by decide +kernel
theorem dL_law_1018 : decode cL_law 1018 = .ok (.iconst 0, 1) := by decide +kernel
theorem dL_law_1019 : decode cL_law 1019 = .ok (.ireturn, 1) := by decide +kernel
theorem dL_law_1020 : decode cL_law 1020 = .ok (.aload_n 1, 1) := by decide +kernel
theorem dL_law_1021 : decode cL_law 1021 = .ok (.aload_n 0, 1) := by decide +kernel
theorem dL_law_1022 : decode cL_law 1022 = .ok (.iload_n 3, 1) := by decide +kernel
theorem dL_law_1023 : decode cL_law 1023 = .ok (.iconst 1, 1) := by decide +kernel
theorem dL_law_1024 : decode cL_law 1024 = .ok (.iadd, 1) := by decide +kernel
theorem dL_law_1025 : decode cL_law 1025 = .ok (.iaload, 1) := by decide +kernel
theorem dL_law_1026 : decode cL_law 1026 = .ok (.invokevirtual 134, 3) := by decide +kernel
theorem dL_law_1029 : decode cL_law 1029 = .ok (.aload_n 2, 1) := by decide +kernel
theorem dL_law_1030 : decode cL_law 1030 = .ok (.aload_n 0, 1) := by decide +kernel
theorem dL_law_1031 : decode cL_law 1031 = .ok (.iload_n 3, 1) := by decide +kernel
theorem dL_law_1032 : decode cL_law 1032 = .ok (.iconst 1, 1) := by decide +kernel
theorem dL_law_1033 : decode cL_law 1033 = .ok (.iadd, 1) := by decide +kernel
theorem dL_law_1034 : decode cL_law 1034 = .ok (.iaload, 1) := by decide +kernel
theorem dL_law_1035 : decode cL_law 1035 = .ok (.invokevirtual 137, 3) := by decide +kernel
theorem dL_law_1038 : decode cL_law 1038 = .ok (.if_icmp .eq 234, 3) := by decide +kernel
theorem dL_law_1041 : decode cL_law 1041 = .ok (.iconst 0, 1) := by decide +kernel
theorem dL_law_1042 : decode cL_law 1042 = .ok (.ireturn, 1) := by decide +kernel
theorem dL_law_1043 : decode cL_law 1043 = .ok (.aload_n 1, 1) := by decide +kernel
theorem dL_law_1044 : decode cL_law 1044 = .ok (.aload_n 0, 1) := by decide +kernel
theorem dL_law_1045 : decode cL_law 1045 = .ok (.iload_n 3, 1) := by decide +kernel
theorem dL_law_1046 : decode cL_law 1046 = .ok (.iconst 1, 1) := by decide +kernel
theorem dL_law_1047 : decode cL_law 1047 = .ok (.iadd, 1) := by decide +kernel
theorem dL_law_1048 : decode cL_law 1048 = .ok (.iaload, 1) := by decide +kernel
theorem dL_law_1049 : decode cL_law 1049 = .ok (.aload_n 0, 1) := by decide +kernel
theorem dL_law_1050 : decode cL_law 1050 = .ok (.iload_n 3, 1) := by decide +kernel
theorem dL_law_1051 : decode cL_law 1051 = .ok (.iconst 2, 1) := by decide +kernel
theorem dL_law_1052 : decode cL_law 1052 = .ok (.iadd, 1) := by decide +kernel
theorem dL_law_1053 : decode cL_law 1053 = .ok (.iaload, 1) := by decide +kernel
theorem dL_law_1054 : decode cL_law 1054 = .ok (.aload_n 0, 1) := by decide +kernel
theorem dL_law_1055 : decode cL_law 1055 = .ok (.iload_n 3, 1) := by decide +kernel
theorem dL_law_1056 : decode cL_law 1056 = .ok (.iconst 3, 1) := by decide +kernel
theorem dL_law_1057 : decode cL_law 1057 = .ok (.iadd, 1) := by decide +kernel
theorem dL_law_1058 : decode cL_law 1058 = .ok (.iaload, 1) := by decide +kernel
theorem dL_law_1059 : decode cL_law 1059 = .ok (.aload_n 0, 1) := by decide +kernel
theorem dL_law_1060 : decode cL_law 1060 = .ok (.iload_n 3, 1) := by decide +kernel
theorem dL_law_1061 : decode cL_law 1061 = .ok (.iconst 4, 1) := by decide +kernel
theorem dL_law_1062 : decode cL_law 1062 = .ok (.iadd, 1) := by decide +kernel
theorem dL_law_1063 : decode cL_law 1063 = .ok (.iaload, 1) := by decide +kernel
theorem dL_law_1064 : decode cL_law 1064 = .ok (.invokevirtual 138, 3) := by decide +kernel
theorem dL_law_1067 : decode cL_law 1067 = .ok (.aload_n 2, 1) := by decide +kernel
theorem dL_law_1068 : decode cL_law 1068 = .ok (.aload_n 0, 1) := by decide +kernel
theorem dL_law_1069 : decode cL_law 1069 = .ok (.iload_n 3, 1) := by decide +kernel
theorem dL_law_1070 : decode cL_law 1070 = .ok (.iconst 1, 1) := by decide +kernel
theorem dL_law_1071 : decode cL_law 1071 = .ok (.iadd, 1) := by decide +kernel
theorem dL_law_1072 : decode cL_law 1072 = .ok (.iaload, 1) := by decide +kernel
theorem dL_law_1073 : decode cL_law 1073 = .ok (.aload_n 0, 1) := by decide +kernel
theorem dL_law_1074 : decode cL_law 1074 = .ok (.iload_n 3, 1) := by decide +kernel
theorem dL_law_1075 : decode cL_law 1075 = .ok (.iconst 2, 1) := by decide +kernel
theorem dL_law_1076 : decode cL_law 1076 = .ok (.iadd, 1) := by decide +kernel
theorem dL_law_1077 : decode cL_law 1077 = .ok (.iaload, 1) := by decide +kernel
theorem dL_law_1078 : decode cL_law 1078 = .ok (.aload_n 0, 1) := by decide +kernel
theorem dL_law_1079 : decode cL_law 1079 = .ok (.iload_n 3, 1) := by decide +kernel
theorem dL_law_1080 : decode cL_law 1080 = .ok (.iconst 3, 1) := by decide +kernel
theorem dL_law_1081 : decode cL_law 1081 = .ok (.iadd, 1) := by decide +kernel
theorem dL_law_1082 : decode cL_law 1082 = .ok (.iaload, 1) := by decide +kernel
theorem dL_law_1083 : decode cL_law 1083 = .ok (.aload_n 0, 1) := by decide +kernel
theorem dL_law_1084 : decode cL_law 1084 = .ok (.iload_n 3, 1) := by decide +kernel
theorem dL_law_1085 : decode cL_law 1085 = .ok (.iconst 4, 1) := by decide +kernel
theorem dL_law_1086 : decode cL_law 1086 = .ok (.iadd, 1) := by decide +kernel
theorem dL_law_1087 : decode cL_law 1087 = .ok (.iaload, 1) := by decide +kernel
theorem dL_law_1088 : decode cL_law 1088 = .ok (.invokevirtual 142, 3) := by decide +kernel
theorem dL_law_1091 : decode cL_law 1091 = .ok (.if_icmp .eq 181, 3) := by decide +kernel
theorem dL_law_1094 : decode cL_law 1094 = .ok (.iconst 0, 1) := by decide +kernel
theorem dL_law_1095 : decode cL_law 1095 = .ok (.ireturn, 1) := by decide +kernel
theorem dL_law_1096 : decode cL_law 1096 = .ok (.aload_n 1, 1) := by decide +kernel
theorem dL_law_1097 : decode cL_law 1097 = .ok (.aload_n 0, 1) := by decide +kernel
theorem dL_law_1098 : decode cL_law 1098 = .ok (.iload_n 3, 1) := by decide +kernel
theorem dL_law_1099 : decode cL_law 1099 = .ok (.iconst 1, 1) := by decide +kernel
theorem dL_law_1100 : decode cL_law 1100 = .ok (.iadd, 1) := by decide +kernel
theorem dL_law_1101 : decode cL_law 1101 = .ok (.iaload, 1) := by decide +kernel
theorem dL_law_1102 : decode cL_law 1102 = .ok (.aload_n 0, 1) := by decide +kernel
theorem dL_law_1103 : decode cL_law 1103 = .ok (.iload_n 3, 1) := by decide +kernel
theorem dL_law_1104 : decode cL_law 1104 = .ok (.iconst 2, 1) := by decide +kernel
theorem dL_law_1105 : decode cL_law 1105 = .ok (.iadd, 1) := by decide +kernel
theorem dL_law_1106 : decode cL_law 1106 = .ok (.iaload, 1) := by decide +kernel
theorem dL_law_1107 : decode cL_law 1107 = .ok (.aload_n 0, 1) := by decide +kernel
theorem dL_law_1108 : decode cL_law 1108 = .ok (.iload_n 3, 1) := by decide +kernel
theorem dL_law_1109 : decode cL_law 1109 = .ok (.iconst 3, 1) := by decide +kernel
theorem dL_law_1110 : decode cL_law 1110 = .ok (.iadd, 1) := by decide +kernel
theorem dL_law_1111 : decode cL_law 1111 = .ok (.iaload, 1) := by decide +kernel
theorem dL_law_1112 : decode cL_law 1112 = .ok (.invokevirtual 143, 3) := by decide +kernel
theorem dL_law_1115 : decode cL_law 1115 = .ok (.aload_n 2, 1) := by decide +kernel
theorem dL_law_1116 : decode cL_law 1116 = .ok (.aload_n 0, 1) := by decide +kernel
theorem dL_law_1117 : decode cL_law 1117 = .ok (.iload_n 3, 1) := by decide +kernel
theorem dL_law_1118 : decode cL_law 1118 = .ok (.iconst 1, 1) := by decide +kernel
theorem dL_law_1119 : decode cL_law 1119 = .ok (.iadd, 1) := by decide +kernel
theorem dL_law_1120 : decode cL_law 1120 = .ok (.iaload, 1) := by decide +kernel
theorem dL_law_1121 : decode cL_law 1121 = .ok (.aload_n 0, 1) := by decide +kernel
theorem dL_law_1122 : decode cL_law 1122 = .ok (.iload_n 3, 1) := by decide +kernel
theorem dL_law_1123 : decode cL_law 1123 = .ok (.iconst 2, 1) := by decide +kernel
theorem dL_law_1124 : decode cL_law 1124 = .ok (.iadd, 1) := by decide +kernel
theorem dL_law_1125 : decode cL_law 1125 = .ok (.iaload, 1) := by decide +kernel
theorem dL_law_1126 : decode cL_law 1126 = .ok (.aload_n 0, 1) := by decide +kernel
theorem dL_law_1127 : decode cL_law 1127 = .ok (.iload_n 3, 1) := by decide +kernel
theorem dL_law_1128 : decode cL_law 1128 = .ok (.iconst 3, 1) := by decide +kernel
theorem dL_law_1129 : decode cL_law 1129 = .ok (.iadd, 1) := by decide +kernel
theorem dL_law_1130 : decode cL_law 1130 = .ok (.iaload, 1) := by decide +kernel
theorem dL_law_1131 : decode cL_law 1131 = .ok (.invokevirtual 146, 3) := by decide +kernel
theorem dL_law_1134 : decode cL_law 1134 = .ok (.if_icmp .eq 138, 3) := by decide +kernel
theorem dL_law_1137 : decode cL_law 1137 = .ok (.iconst 0, 1) := by decide +kernel
theorem dL_law_1138 : decode cL_law 1138 = .ok (.ireturn, 1) := by decide +kernel
theorem dL_law_1139 : decode cL_law 1139 = .ok (.aload_n 1, 1) := by decide +kernel
theorem dL_law_1140 : decode cL_law 1140 = .ok (.aload_n 0, 1) := by decide +kernel
theorem dL_law_1141 : decode cL_law 1141 = .ok (.iload_n 3, 1) := by decide +kernel
theorem dL_law_1142 : decode cL_law 1142 = .ok (.iconst 1, 1) := by decide +kernel
theorem dL_law_1143 : decode cL_law 1143 = .ok (.iadd, 1) := by decide +kernel
theorem dL_law_1144 : decode cL_law 1144 = .ok (.iaload, 1) := by decide +kernel
theorem dL_law_1145 : decode cL_law 1145 = .ok (.aload_n 0, 1) := by decide +kernel
theorem dL_law_1146 : decode cL_law 1146 = .ok (.iload_n 3, 1) := by decide +kernel
theorem dL_law_1147 : decode cL_law 1147 = .ok (.iconst 2, 1) := by decide +kernel
theorem dL_law_1148 : decode cL_law 1148 = .ok (.iadd, 1) := by decide +kernel
theorem dL_law_1149 : decode cL_law 1149 = .ok (.iaload, 1) := by decide +kernel
theorem dL_law_1150 : decode cL_law 1150 = .ok (.aload_n 0, 1) := by decide +kernel
theorem dL_law_1151 : decode cL_law 1151 = .ok (.iload_n 3, 1) := by decide +kernel
theorem dL_law_1152 : decode cL_law 1152 = .ok (.iconst 3, 1) := by decide +kernel
theorem dL_law_1153 : decode cL_law 1153 = .ok (.iadd, 1) := by decide +kernel
theorem dL_law_1154 : decode cL_law 1154 = .ok (.iaload, 1) := by decide +kernel
theorem dL_law_1155 : decode cL_law 1155 = .ok (.aload_n 0, 1) := by decide +kernel
theorem dL_law_1156 : decode cL_law 1156 = .ok (.iload_n 3, 1) := by decide +kernel
theorem dL_law_1157 : decode cL_law 1157 = .ok (.iconst 4, 1) := by decide +kernel
theorem dL_law_1158 : decode cL_law 1158 = .ok (.iadd, 1) := by decide +kernel
theorem dL_law_1159 : decode cL_law 1159 = .ok (.iaload, 1) := by decide +kernel
theorem dL_law_1160 : decode cL_law 1160 = .ok (.aload_n 0, 1) := by decide +kernel
theorem dL_law_1161 : decode cL_law 1161 = .ok (.iload_n 3, 1) := by decide +kernel
theorem dL_law_1162 : decode cL_law 1162 = .ok (.iconst 5, 1) := by decide +kernel
theorem dL_law_1163 : decode cL_law 1163 = .ok (.iadd, 1) := by decide +kernel
theorem dL_law_1164 : decode cL_law 1164 = .ok (.iaload, 1) := by decide +kernel
theorem dL_law_1165 : decode cL_law 1165 = .ok (.invokevirtual 147, 3) := by decide +kernel
theorem dL_law_1168 : decode cL_law 1168 = .ok (.aload_n 2, 1) := by decide +kernel
theorem dL_law_1169 : decode cL_law 1169 = .ok (.aload_n 0, 1) := by decide +kernel
theorem dL_law_1170 : decode cL_law 1170 = .ok (.iload_n 3, 1) := by decide +kernel
theorem dL_law_1171 : decode cL_law 1171 = .ok (.iconst 1, 1) := by decide +kernel
theorem dL_law_1172 : decode cL_law 1172 = .ok (.iadd, 1) := by decide +kernel
theorem dL_law_1173 : decode cL_law 1173 = .ok (.iaload, 1) := by decide +kernel
theorem dL_law_1174 : decode cL_law 1174 = .ok (.aload_n 0, 1) := by decide +kernel
theorem dL_law_1175 : decode cL_law 1175 = .ok (.iload_n 3, 1) := by decide +kernel
theorem dL_law_1176 : decode cL_law 1176 = .ok (.iconst 2, 1) := by decide +kernel
theorem dL_law_1177 : decode cL_law 1177 = .ok (.iadd, 1) := by decide +kernel
theorem dL_law_1178 : decode cL_law 1178 = .ok (.iaload, 1) := by decide +kernel
theorem dL_law_1179 : decode cL_law 1179 = .ok (.aload_n 0, 1) := by decide +kernel
theorem dL_law_1180 : decode cL_law 1180 = .ok (.iload_n 3, 1) := by decide +kernel
theorem dL_law_1181 : decode cL_law 1181 = .ok (.iconst 3, 1) := by decide +kernel
theorem dL_law_1182 : decode cL_law 1182 = .ok (.iadd, 1) := by decide +kernel
theorem dL_law_1183 : decode cL_law 1183 = .ok (.iaload, 1) := by decide +kernel
theorem dL_law_1184 : decode cL_law 1184 = .ok (.aload_n 0, 1) := by decide +kernel
theorem dL_law_1185 : decode cL_law 1185 = .ok (.iload_n 3, 1) := by decide +kernel
theorem dL_law_1186 : decode cL_law 1186 = .ok (.iconst 4, 1) := by decide +kernel
theorem dL_law_1187 : decode cL_law 1187 = .ok (.iadd, 1) := by decide +kernel
theorem dL_law_1188 : decode cL_law 1188 = .ok (.iaload, 1) := by decide +kernel
theorem dL_law_1189 : decode cL_law 1189 = .ok (.aload_n 0, 1) := by decide +kernel
theorem dL_law_1190 : decode cL_law 1190 = .ok (.iload_n 3, 1) := by decide +kernel
theorem dL_law_1191 : decode cL_law 1191 = .ok (.iconst 5, 1) := by decide +kernel
theorem dL_law_1192 : decode cL_law 1192 = .ok (.iadd, 1) := by decide +kernel
theorem dL_law_1193 : decode cL_law 1193 = .ok (.iaload, 1) := by decide +kernel
theorem dL_law_1194 : decode cL_law 1194 = .ok (.invokevirtual 151, 3) := by decide +kernel
theorem dL_law_1197 : decode cL_law 1197 = .ok (.if_icmp .eq 75, 3) := by decide +kernel
theorem dL_law_1200 : decode cL_law 1200 = .ok (.iconst 0, 1) := by decide +kernel
theorem dL_law_1201 : decode cL_law 1201 = .ok (.ireturn, 1) := by decide +kernel
theorem dL_law_1202 : decode cL_law 1202 = .ok (.aload_n 1, 1) := by decide +kernel
theorem dL_law_1203 : decode cL_law 1203 = .ok (.aload_n 0, 1) := by decide +kernel
theorem dL_law_1204 : decode cL_law 1204 = .ok (.iload_n 3, 1) := by decide +kernel
theorem dL_law_1205 : decode cL_law 1205 = .ok (.iconst 1, 1) := by decide +kernel
theorem dL_law_1206 : decode cL_law 1206 = .ok (.iadd, 1) := by decide +kernel
theorem dL_law_1207 : decode cL_law 1207 = .ok (.iaload, 1) := by decide +kernel
theorem dL_law_1208 : decode cL_law 1208 = .ok (.aload_n 0, 1) := by decide +kernel
theorem dL_law_1209 : decode cL_law 1209 = .ok (.iload_n 3, 1) := by decide +kernel
theorem dL_law_1210 : decode cL_law 1210 = .ok (.iconst 2, 1) := by decide +kernel
theorem dL_law_1211 : decode cL_law 1211 = .ok (.iadd, 1) := by decide +kernel
theorem dL_law_1212 : decode cL_law 1212 = .ok (.iaload, 1) := by decide +kernel
theorem dL_law_1213 : decode cL_law 1213 = .ok (.invokevirtual 152, 3) := by decide +kernel
theorem dL_law_1216 : decode cL_law 1216 = .ok (.aload_n 2, 1) := by decide +kernel
theorem dL_law_1217 : decode cL_law 1217 = .ok (.aload_n 0, 1) := by decide +kernel
theorem dL_law_1218 : decode cL_law 1218 = .ok (.iload_n 3, 1) := by decide +kernel
theorem dL_law_1219 : decode cL_law 1219 = .ok (.iconst 1, 1) := by decide +kernel
theorem dL_law_1220 : decode cL_law 1220 = .ok (.iadd, 1) := by decide +kernel
theorem dL_law_1221 : decode cL_law 1221 = .ok (.iaload, 1) := by decide +kernel
theorem dL_law_1222 : decode cL_law 1222 = .ok (.aload_n 0, 1) := by decide +kernel
theorem dL_law_1223 : decode cL_law 1223 = .ok (.iload_n 3, 1) := by decide +kernel
theorem dL_law_1224 : decode cL_law 1224 = .ok (.iconst 2, 1) := by decide +kernel
theorem dL_law_1225 : decode cL_law 1225 = .ok (.iadd, 1) := by decide +kernel
theorem dL_law_1226 : decode cL_law 1226 = .ok (.iaload, 1) := by decide +kernel
theorem dL_law_1227 : decode cL_law 1227 = .ok (.invokevirtual 155, 3) := by decide +kernel
theorem dL_law_1230 : decode cL_law 1230 = .ok (.if_icmp .eq 42, 3) := by decide +kernel
theorem dL_law_1233 : decode cL_law 1233 = .ok (.iconst 0, 1) := by decide +kernel
theorem dL_law_1234 : decode cL_law 1234 = .ok (.ireturn, 1) := by decide +kernel
theorem dL_law_1235 : decode cL_law 1235 = .ok (.aload_n 1, 1) := by decide +kernel
theorem dL_law_1236 : decode cL_law 1236 = .ok (.aload_n 0, 1) := by decide +kernel
theorem dL_law_1237 : decode cL_law 1237 = .ok (.iload_n 3, 1) := by decide +kernel
theorem dL_law_1238 : decode cL_law 1238 = .ok (.iconst 1, 1) := by decide +kernel
theorem dL_law_1239 : decode cL_law 1239 = .ok (.iadd, 1) := by decide +kernel
theorem dL_law_1240 : decode cL_law 1240 = .ok (.iaload, 1) := by decide +kernel
theorem dL_law_1241 : decode cL_law 1241 = .ok (.invokevirtual 156, 3) := by decide +kernel
theorem dL_law_1244 : decode cL_law 1244 = .ok (.aload_n 2, 1) := by decide +kernel
theorem dL_law_1245 : decode cL_law 1245 = .ok (.aload_n 0, 1) := by decide +kernel
theorem dL_law_1246 : decode cL_law 1246 = .ok (.iload_n 3, 1) := by decide +kernel
theorem dL_law_1247 : decode cL_law 1247 = .ok (.iconst 1, 1) := by decide +kernel
theorem dL_law_1248 : decode cL_law 1248 = .ok (.iadd, 1) := by decide +kernel
theorem dL_law_1249 : decode cL_law 1249 = .ok (.iaload, 1) := by decide +kernel
theorem dL_law_1250 : decode cL_law 1250 = .ok (.invokevirtual 159, 3) := by decide +kernel
theorem dL_law_1253 : decode cL_law 1253 = .ok (.if_icmp .eq 19, 3) := by decide +kernel
theorem dL_law_1256 : decode cL_law 1256 = .ok (.iconst 0, 1) := by decide +kernel
theorem dL_law_1257 : decode cL_law 1257 = .ok (.ireturn, 1) := by decide +kernel
theorem dL_law_1258 : decode cL_law 1258 = .ok (.aload_n 1, 1) := by decide +kernel
theorem dL_law_1259 : decode cL_law 1259 = .ok (.invokevirtual 160, 3) := by decide +kernel
theorem dL_law_1262 : decode cL_law 1262 = .ok (.aload_n 2, 1) := by decide +kernel
theorem dL_law_1263 : decode cL_law 1263 = .ok (.invokevirtual 164, 3) := by decide +kernel
theorem dL_law_1266 : decode cL_law 1266 = .ok (.lcmp, 1) := by decide +kernel
theorem dL_law_1267 : decode cL_law 1267 = .ok (.ifCond .eq 5, 3) := by decide +kernel
theorem dL_law_1270 : decode cL_law 1270 = .ok (.iconst 0, 1) := by decide +kernel
theorem dL_law_1271 : decode cL_law 1271 = .ok (.ireturn, 1) := by decide +kernel
theorem dL_law_1272 : decode cL_law 1272 = .ok (.iinc 3 6, 3) := by decide +kernel
theorem dL_law_1275 : decode cL_law 1275 = .ok (.goto (-1257), 3) := by decide +kernel
theorem dL_law_1278 : decode cL_law 1278 = .ok (.iconst 1, 1) := by decide +kernel
theorem dL_law_1279 : decode cL_law 1279 = .ok (.ireturn, 1) := by decide +kernel
end
section
/-! A small program logic over worlds of fixed cells. A world is a number of cells and what each cell is, given its row of ints and its row of longs. References on the stack and in locals are numbers of cells. -/
def lw_g : List Cond := lw_tbl.filter goodWord
theorem lg_of {x : Cond} (h : x ∈ lw_tbl) (hg : goodWord x = true) : x ∈ lw_g := List.mem_filter.mpr ⟨h, hg⟩
theorem lg_good {L : List Cond} (h : ∀ x ∈ L, x ∈ lw_g) : GoodIn lw_g L := fun x hx => ⟨h x hx, good_of_word (List.mem_filter.mp (h x hx)).2⟩
/-- three words that are not kept by the lists: they go from caller to callee -/
def Nx (U : State) : Prop := va_Nw (.declares ⟨"RosetteShow$Text", "fits", "(II)Z"⟩) U ∧ va_Nw (.declares ⟨"RosetteShow$Text", "mayEndAt", "(I)Z"⟩) U ∧ va_Nw (.methodLinkNest "RosetteShow$Sheet" 26 ⟨"RosetteShow", "isIn", "(II)Z"⟩ "RosetteShow") U
theorem Nx_warm {s U : State} (hW : s.WarmedH U.vm) (h : Nx s) : Nx U := ⟨va_Nw.warmD hW h.1, va_Nw.warmD hW h.2.1, va_Nw.warmM hW h.2.2⟩
theorem Nx_same {u U : State} (e : u.vm = U.vm) (h : Nx u) : Nx U := ⟨va_Nw.same rfl e h.1, va_Nw.same rfl e h.2.1, va_Nw.same rfl e h.2.2⟩
abbrev Mm : Type := (Nat → Nat → Int32) × (Nat → Nat → Int64)
abbrev Ad : Type := Nat → Nat
abbrev Cs : Type := Nat → ClassId
abbrev Wd : Type := Nat × (Ad → Cs → (Nat → Int32) → (Nat → Int64) → Nat → va_E)
def wR (μ : Mm) (k : Nat) (f : Nat → Int32) : Mm := (fun a => if a = k then f else μ.1 a, μ.2)
def wRL (μ : Mm) (k : Nat) (f : Nat → Int64) : Mm := (μ.1, fun a => if a = k then f else μ.2 a)
def wI (μ : Mm) (k i : Nat) (v : Int32) : Mm := wR μ k (upd (μ.1 k) i v)
def wL (μ : Mm) (k i : Nat) (v : Int64) : Mm := wRL μ k (vp_updL (μ.2 k) i v)
def ww (w : Wd) (ad : Ad) (cs : Cs) (μ : Mm) : va_W := (List.range w.1).map (fun k => (ad k, w.2 ad cs (μ.1 k) (μ.2 k) k))
def tyl (cs : Cs) : List (ClassId × FieldType) := [(cs 0, .int), (cs 1, .long), (cs 2, .boolean), (cs 3, .object "RosetteShow$Sheet")]
def tr (ad : Ad) : Value → Value
  | .ref k => .ref (ad k)
  | v => v
def trl (ad : Ad) (q : Nat × Value) : Nat × Value := (q.1, tr ad q.2)
def Aw (w : Wd) (ad : Ad) (sz : Nat) : Nat → Prop := fun q => (∃ k, k < w.1 ∧ q = ad k) ∨ sz ≤ q
def dW (j : Nat) : Int32 := if j = 0 then 0 else if j = 1 then 4 else if j = 2 then 8 else 11
def Zs (t : Nat) (A : Nat → Prop) (U : State) (H : Heap) : Prop := va_Z "RosetteShow" "DIGEST_WEEKS" "[I" (.ref t) A U H ∧ va_T .int t 4 (fun j => .int (dW j)) A U H
def rmL (n : Nat) : Room := { frames := n, cells := 0, slots := 0, locals := 30 * n }
def Pw (w : Wd) (ad : Ad) (cs : Cs) (D : va_G) (sz : Nat) (μ : Mm) (U : State) : Prop := U.heap.size = sz ∧ va_P D vwCl (ww w ad cs μ) U.heap ∧ va_K D vwCl (tyl cs) U ∧ va_D (fun _ => True) (ww w ad cs μ) ∧ Zs (ad 99) (Aw w ad sz) U U.heap ∧ Nx U
def Qw (w : Wd) (ad : Ad) (cs : Cs) (D : va_G) (A : Nat → Prop) (r : Option Value) (μ : Mm) : Array Value → State → Outcome → State → Prop := fun _ st oc t => oc = .returned r ∧ va_P D vwCl (ww w ad cs μ) t.heap ∧ va_K D vwCl (tyl cs) t ∧ va_D A (ww w ad cs μ) ∧ va_F A st t
/-- a method's contract: with these arguments and this memory it answers r and leaves the memory μ' -/
def Cn (w : Wd) (y : MethodName) (cc : ByteArray) (nL : Nat) (ret : Option FieldType) (lev : Nat) (as : List Value) (μ : Mm) (r : Option Value) (μ' : Mm) : Prop :=
  ∀ (l : Launch) (ad : Ad) (cs : Cs) (D : va_G) (sz : Nat), Met l y (.code y cc nL ret :: lw_g) (rmL lev) (va_Pc (as.map (tr ad)) (Pw w ad cs D sz μ)) (Qw w ad cs D (Aw w ad sz) (r.map (tr ad)) μ') 0 0 (Aw w ad sz)
/-- what holds all through a method's body -/
def Cx (w : Wd) (own : String) (cc : ByteArray) (nL : Nat) (ret : Option FieldType) (p : Program) (s : State) (m : MethodId) (args : Array Value) (meth : Method) (c : Code) (ad : Ad) (cs : Cs) (D : va_G) : Prop :=
  p.tables.exec = Jvm.exec ∧ c.code = cc ∧ c.maxLocals = nL ∧ meth.sig.returnType = ret ∧ meth.locks = false ∧ s.vm.findClass own = some m.cls ∧ (∀ x ∈ lw_g, x.before args s = true) ∧ va_K D vwCl (tyl cs) s ∧ Zs (ad 99) (Aw w ad s.heap.size) s s.heap ∧ Nx s
/-- from this place of the body, with these locals, this stack and this memory, the method comes to its end with r and μr -/
def G (w : Wd) (own : String) (cc : ByteArray) (nL : Nat) (ret : Option FieldType) (lev : Nat) (r : Option Value) (μr : Mm) (pc : Nat) (ls : List (Nat × Value)) (st : List Value) (μ : Mm) : Prop :=
  ∀ (p : Program) (l : Launch) (e : Env) (s : State) (m : MethodId) (args : Array Value) (below : List Frame) (meth : Method) (c : Code) (ad : Ad) (cs : Cs) (D : va_G),
    Cx w own cc nL ret p s m args meth c ad cs D → ∀ (H : Heap) (locs : List Loc) (la : Array Slot),
      va_P D vwCl (ww w ad cs μ) H → va_D (Aw w ad s.heap.size) (ww w ad cs μ) → va_S (Aw w ad s.heap.size) s.heap H locs → lv_has la nL (ls.map (trl ad)) →
      W p l e (rmL lev) s m args below meth c H locs 0 0 (MQ below (Qw w ad cs D (Aw w ad s.heap.size) (r.map (tr ad)) μr) args s 0 0 (Aw w ad s.heap.size)) (F0 m pc la (st.map (tr ad)))
theorem tr_cat (ad : Ad) (v : Value) : (tr ad v).category = v.category := by cases v <;> rfl
theorem tr_cats (ad : Ad) (st : List Value) : ((st.map (tr ad)).map fun v => v.category) = st.map fun v => v.category := by
  rw [List.map_map]; exact List.map_congr_left fun v _ => tr_cat ad v
theorem ww_at {w : Wd} {ad : Ad} {cs : Cs} {μ : Mm} {k : Nat} (hk : k < w.1) : (ww w ad cs μ)[k]? = some (ad k, w.2 ad cs (μ.1 k) (μ.2 k) k) := by
  simp [ww, hk]
theorem ww_len {w : Wd} {ad : Ad} {cs : Cs} {μ : Mm} : (ww w ad cs μ).length = w.1 := by simp [ww]
theorem ww_some {w : Wd} {ad : Ad} {cs : Cs} {μ : Mm} {k : Nat} {q : Nat × va_E} (h : (ww w ad cs μ)[k]? = some q) : k < w.1 ∧ q.1 = ad k := by
  have hk : k < w.1 := by rw [← ww_len (w := w) (ad := ad) (cs := cs) (μ := μ)]; exact (List.getElem?_eq_some_iff.mp h).1
  rw [ww_at hk] at h
  cases h
  exact ⟨hk, rfl⟩
theorem ww_set {w : Wd} {ad : Ad} {cs : Cs} {μ μ' : Mm} {k : Nat} {e : va_E} (hk : k < w.1) (h0 : ∀ j, j ≠ k → μ'.1 j = μ.1 j ∧ μ'.2 j = μ.2 j) (he : e = w.2 ad cs (μ'.1 k) (μ'.2 k) k) : (ww w ad cs μ).set k (ad k, e) = ww w ad cs μ' := by
  apply List.ext_getElem?
  intro j
  by_cases hj : j = k
  · subst hj
    rw [List.getElem?_set_self (by rw [ww_len]; exact hk), ww_at hk, he]
  · rw [List.getElem?_set_ne (Ne.symm hj)]
    by_cases hl : j < w.1
    · rw [ww_at hl, ww_at hl, (h0 j hj).1, (h0 j hj).2]
    · rw [List.getElem?_eq_none (by rw [ww_len]; omega), List.getElem?_eq_none (by rw [ww_len]; omega)]
theorem wR_ne {μ : Mm} {k : Nat} {f : Nat → Int32} {j : Nat} (h : j ≠ k) : (wR μ k f).1 j = μ.1 j := if_neg h
theorem wR_eq {μ : Mm} {k : Nat} {f : Nat → Int32} : (wR μ k f).1 k = f := if_pos rfl
theorem wRL_ne {μ : Mm} {k : Nat} {f : Nat → Int64} {j : Nat} (h : j ≠ k) : (wRL μ k f).2 j = μ.2 j := if_neg h
theorem wRL_eq {μ : Mm} {k : Nat} {f : Nat → Int64} : (wRL μ k f).2 k = f := if_pos rfl
theorem ww_setR {w : Wd} {ad : Ad} {cs : Cs} {μ : Mm} {k : Nat} {f : Nat → Int32} {e : va_E} (hk : k < w.1) (he : e = w.2 ad cs f (μ.2 k) k) : (ww w ad cs μ).set k (ad k, e) = ww w ad cs (wR μ k f) :=
  ww_set hk (fun _ hj => ⟨wR_ne hj, rfl⟩) (by rw [wR_eq]; exact he)
theorem ww_setL {w : Wd} {ad : Ad} {cs : Cs} {μ : Mm} {k : Nat} {f : Nat → Int64} {e : va_E} (hk : k < w.1) (he : e = w.2 ad cs (μ.1 k) f k) : (ww w ad cs μ).set k (ad k, e) = ww w ad cs (wRL μ k f) :=
  ww_set hk (fun _ hj => ⟨rfl, wRL_ne hj⟩) (by rw [wRL_eq]; exact he)
theorem Aw_mono {w : Wd} {ad : Ad} {a b : Nat} (h : a ≤ b) : ∀ q, Aw w ad b q → Aw w ad a q := fun q hq => hq.elim Or.inl (fun z => Or.inr (Nat.le_trans h z))
theorem Aw_lt {w : Wd} {ad : Ad} {a b : Nat} : ∀ q, q < b → Aw w ad b q → Aw w ad a q := fun q hq h => h.elim Or.inl (fun z => absurd hq (by omega))
theorem Zs_kept {t : Nat} {A : Nat → Prop} {U : State} {H H1 : Heap} (h : Zs t A U H) (hq : ∀ a : Nat, a < H.size → ¬ A a → H1[a]? = H[a]?) : Zs t A U H1 := ⟨h.1.kept hq, h.2.kept hq⟩
theorem Zs_narrow {t : Nat} {A B : Nat → Prop} {U : State} {H : Heap} (h : Zs t A U H) (hq : ∀ q, B q → A q) : Zs t B U H := ⟨h.1.narrow hq, h.2.narrow hq⟩
theorem Zs_moved {t : Nat} {A : Nat → Prop} {u U : State} {H : Heap} (hvm : u.vm.Alike U.vm) (h : Zs t A u H) : Zs t A U H := ⟨h.1.moved hvm, h.2.moved hvm⟩
theorem Pw_blind {w : Wd} {ad : Ad} {cs : Cs} {D : va_G} {sz : Nat} {μ : Mm} {av : List Value} : FrameBlind (va_Pc av (Pw w ad cs D sz μ)) := by
  intro a U g mk h
  obtain ⟨h0, h1, h2, h3, h4, h5, h6⟩ := h
  exact ⟨h0, h1, h2, va_K.moved (u := U) (U := U.calling g mk a) (Vm.Alike.refl U.vm) h3, h4, Zs_moved (u := U) (U := U.calling g mk a) (Vm.Alike.refl U.vm) h5, Nx_same (u := U) (U := U.calling g mk a) rfl h6⟩
/-- the whole of a method's body gives its contract -/
theorem Cn_of {w : Wd} {y : MethodName} {cc : ByteArray} {nL : Nat} {ret : Option FieldType} {lev : Nat} {as : List Value} {μ : Mm} {r : Option Value} {μ' : Mm} (hy : plainName y.cls = true) (hn : (lg_sl as).length ≤ nL)
    (k : G w y.cls cc nL ret lev r μ' 0 (lv_args 0 as) [] μ) : Cn w y cc nL ret lev as μ r μ' := by
  intro l ad cs D sz
  refine Met.ofW (cc := cc) (maxL := nL) (ret := ret) hy rfl ?_
  intro p e s m args below meth c s₁ B hml hv
  obtain ⟨rfl, hsz, hP, hK, hD0, hZ, hNx⟩ := hv
  subst hsz
  have hts := atoms_spec (ws := Cond.code y cc nL ret :: lw_g) B.pre
  have hown : s.vm.findClass y.cls = some m.cls := findClass_of_methodNamed B.named
  have hD : va_D (Aw w ad s.heap.size) (ww w ad cs μ) := ⟨hD0.1, fun k q hk => Or.inl ⟨k, ww_some hk⟩⟩
  have hsl : ∀ as : List Value, (lg_sl (as.map (tr ad))).length = (lg_sl as).length := by
    intro as
    induction as with
    | nil => rfl
    | cons v t ih =>
      simp only [lg_sl, List.map_cons, List.flatMap_cons, List.length_append, tr_cat] at ih ⊢
      rw [ih]
      by_cases hc : v.category = 2 <;> simp [hc]
  have hla : ∀ (as : List Value) (i : Nat), lv_args i (as.map (tr ad)) = (lv_args i as).map (trl ad) := by
    intro as
    induction as with
    | nil => intro i; rfl
    | cons v t ih => intro i; simp only [List.map_cons, lv_args, tr_cat, ih]; rfl
  have hl := lv_entry (as.map (tr ad)) (n := nL) (by rw [hsl]; exact hn)
  rw [lg_entry_eq]
  rw [hla] at hl
  exact k p l e s m _ below meth c ad cs D ⟨B.exec, B.bytes, hml, B.returns, B.notSynchronized, hown, fun x hx => hts x (List.mem_cons_of_mem _ hx), hK, hZ, hNx⟩ s.heap [] _ hP hD va_S.rf hl
end
section
section GRows
variable {w : Wd} {own : String} {cc : ByteArray} {nL : Nat} {ret : Option FieldType} {lev : Nat} {r : Option Value} {μr : Mm} {pc : Nat} {ls : List (Nat × Value)} {st : List Value} {μ : Mm}
theorem G_iadd {x y : Int32} (hd : decode cc pc = .ok (.iadd, 1))  (k : G w own cc nL ret lev r μr (pc + 1) ls (.int (x + y) :: st) μ) : G w own cc nL ret lev r μr pc ls (.int y :: .int x :: st) μ :=
  fun p l e s m args below meth c ad cs D C H locs la hP hD hS hl => lv_iadd C.1 C.2.1 hd  (k p l e s m args below meth c ad cs D C H locs la hP hD hS hl)
theorem G_isub {x y : Int32} (hd : decode cc pc = .ok (.isub, 1))  (k : G w own cc nL ret lev r μr (pc + 1) ls (.int (x - y) :: st) μ) : G w own cc nL ret lev r μr pc ls (.int y :: .int x :: st) μ :=
  fun p l e s m args below meth c ad cs D C H locs la hP hD hS hl => lv_isub C.1 C.2.1 hd  (k p l e s m args below meth c ad cs D C H locs la hP hD hS hl)
theorem G_imul {x y : Int32} (hd : decode cc pc = .ok (.imul, 1))  (k : G w own cc nL ret lev r μr (pc + 1) ls (.int (x * y) :: st) μ) : G w own cc nL ret lev r μr pc ls (.int y :: .int x :: st) μ :=
  fun p l e s m args below meth c ad cs D C H locs la hP hD hS hl => lv_imul C.1 C.2.1 hd  (k p l e s m args below meth c ad cs D C H locs la hP hD hS hl)
theorem G_iand {x y : Int32} (hd : decode cc pc = .ok (.iand, 1))  (k : G w own cc nL ret lev r μr (pc + 1) ls (.int (x &&& y) :: st) μ) : G w own cc nL ret lev r μr pc ls (.int y :: .int x :: st) μ :=
  fun p l e s m args below meth c ad cs D C H locs la hP hD hS hl => lv_iand C.1 C.2.1 hd  (k p l e s m args below meth c ad cs D C H locs la hP hD hS hl)
theorem G_ior {x y : Int32} (hd : decode cc pc = .ok (.ior, 1))  (k : G w own cc nL ret lev r μr (pc + 1) ls (.int (x ||| y) :: st) μ) : G w own cc nL ret lev r μr pc ls (.int y :: .int x :: st) μ :=
  fun p l e s m args below meth c ad cs D C H locs la hP hD hS hl => lv_ior C.1 C.2.1 hd  (k p l e s m args below meth c ad cs D C H locs la hP hD hS hl)
theorem G_ixor {x y : Int32} (hd : decode cc pc = .ok (.ixor, 1))  (k : G w own cc nL ret lev r μr (pc + 1) ls (.int (x ^^^ y) :: st) μ) : G w own cc nL ret lev r μr pc ls (.int y :: .int x :: st) μ :=
  fun p l e s m args below meth c ad cs D C H locs la hP hD hS hl => lv_ixor C.1 C.2.1 hd  (k p l e s m args below meth c ad cs D C H locs la hP hD hS hl)
theorem G_ladd {x y : Int64} (hd : decode cc pc = .ok (.ladd, 1))  (k : G w own cc nL ret lev r μr (pc + 1) ls (.long (x + y) :: st) μ) : G w own cc nL ret lev r μr pc ls (.long y :: .long x :: st) μ :=
  fun p l e s m args below meth c ad cs D C H locs la hP hD hS hl => lv_ladd C.1 C.2.1 hd  (k p l e s m args below meth c ad cs D C H locs la hP hD hS hl)
theorem G_lsub {x y : Int64} (hd : decode cc pc = .ok (.lsub, 1))  (k : G w own cc nL ret lev r μr (pc + 1) ls (.long (x - y) :: st) μ) : G w own cc nL ret lev r μr pc ls (.long y :: .long x :: st) μ :=
  fun p l e s m args below meth c ad cs D C H locs la hP hD hS hl => lv_lsub C.1 C.2.1 hd  (k p l e s m args below meth c ad cs D C H locs la hP hD hS hl)
theorem G_lmul {x y : Int64} (hd : decode cc pc = .ok (.lmul, 1))  (k : G w own cc nL ret lev r μr (pc + 1) ls (.long (x * y) :: st) μ) : G w own cc nL ret lev r μr pc ls (.long y :: .long x :: st) μ :=
  fun p l e s m args below meth c ad cs D C H locs la hP hD hS hl => lv_lmul C.1 C.2.1 hd  (k p l e s m args below meth c ad cs D C H locs la hP hD hS hl)
theorem G_land {x y : Int64} (hd : decode cc pc = .ok (.land, 1))  (k : G w own cc nL ret lev r μr (pc + 1) ls (.long (x &&& y) :: st) μ) : G w own cc nL ret lev r μr pc ls (.long y :: .long x :: st) μ :=
  fun p l e s m args below meth c ad cs D C H locs la hP hD hS hl => lv_land C.1 C.2.1 hd  (k p l e s m args below meth c ad cs D C H locs la hP hD hS hl)
theorem G_lor {x y : Int64} (hd : decode cc pc = .ok (.lor, 1))  (k : G w own cc nL ret lev r μr (pc + 1) ls (.long (x ||| y) :: st) μ) : G w own cc nL ret lev r μr pc ls (.long y :: .long x :: st) μ :=
  fun p l e s m args below meth c ad cs D C H locs la hP hD hS hl => lv_lor C.1 C.2.1 hd  (k p l e s m args below meth c ad cs D C H locs la hP hD hS hl)
theorem G_lxor {x y : Int64} (hd : decode cc pc = .ok (.lxor, 1))  (k : G w own cc nL ret lev r μr (pc + 1) ls (.long (x ^^^ y) :: st) μ) : G w own cc nL ret lev r μr pc ls (.long y :: .long x :: st) μ :=
  fun p l e s m args below meth c ad cs D C H locs la hP hD hS hl => lv_lxor C.1 C.2.1 hd  (k p l e s m args below meth c ad cs D C H locs la hP hD hS hl)
theorem G_idiv {x y : Int32} (hd : decode cc pc = .ok (.idiv, 1)) (hne : ¬ y = 0) (k : G w own cc nL ret lev r μr (pc + 1) ls (.int (x / y) :: st) μ) : G w own cc nL ret lev r μr pc ls (.int y :: .int x :: st) μ :=
  fun p l e s m args below meth c ad cs D C H locs la hP hD hS hl => lv_idiv C.1 C.2.1 hd hne (k p l e s m args below meth c ad cs D C H locs la hP hD hS hl)
theorem G_irem {x y : Int32} (hd : decode cc pc = .ok (.irem, 1)) (hne : ¬ y = 0) (k : G w own cc nL ret lev r μr (pc + 1) ls (.int (x - x / y * y) :: st) μ) : G w own cc nL ret lev r μr pc ls (.int y :: .int x :: st) μ :=
  fun p l e s m args below meth c ad cs D C H locs la hP hD hS hl => lv_irem C.1 C.2.1 hd hne (k p l e s m args below meth c ad cs D C H locs la hP hD hS hl)
theorem G_ldiv {x y : Int64} (hd : decode cc pc = .ok (.ldiv, 1)) (hne : ¬ y = 0) (k : G w own cc nL ret lev r μr (pc + 1) ls (.long (x / y) :: st) μ) : G w own cc nL ret lev r μr pc ls (.long y :: .long x :: st) μ :=
  fun p l e s m args below meth c ad cs D C H locs la hP hD hS hl => lv_ldiv C.1 C.2.1 hd hne (k p l e s m args below meth c ad cs D C H locs la hP hD hS hl)
theorem G_lrem {x y : Int64} (hd : decode cc pc = .ok (.lrem, 1)) (hne : ¬ y = 0) (k : G w own cc nL ret lev r μr (pc + 1) ls (.long (x - x / y * y) :: st) μ) : G w own cc nL ret lev r μr pc ls (.long y :: .long x :: st) μ :=
  fun p l e s m args below meth c ad cs D C H locs la hP hD hS hl => lv_lrem C.1 C.2.1 hd hne (k p l e s m args below meth c ad cs D C H locs la hP hD hS hl)
theorem G_ishl {x y : Int32} (hd : decode cc pc = .ok (.ishl, 1))  (k : G w own cc nL ret lev r μr (pc + 1) ls (.int (x <<< (y &&& 31)) :: st) μ) : G w own cc nL ret lev r μr pc ls (.int y :: .int x :: st) μ :=
  fun p l e s m args below meth c ad cs D C H locs la hP hD hS hl => lv_ishl C.1 C.2.1 hd  (k p l e s m args below meth c ad cs D C H locs la hP hD hS hl)
theorem G_ishr {x y : Int32} (hd : decode cc pc = .ok (.ishr, 1))  (k : G w own cc nL ret lev r μr (pc + 1) ls (.int (x >>> (y &&& 31)) :: st) μ) : G w own cc nL ret lev r μr pc ls (.int y :: .int x :: st) μ :=
  fun p l e s m args below meth c ad cs D C H locs la hP hD hS hl => lv_ishr C.1 C.2.1 hd  (k p l e s m args below meth c ad cs D C H locs la hP hD hS hl)
theorem G_iushr {x y : Int32} (hd : decode cc pc = .ok (.iushr, 1))  (k : G w own cc nL ret lev r μr (pc + 1) ls (.int ((x.toUInt32 >>> (y.toUInt32 &&& Int32.toUInt32 31)).toInt32) :: st) μ) : G w own cc nL ret lev r μr pc ls (.int y :: .int x :: st) μ :=
  fun p l e s m args below meth c ad cs D C H locs la hP hD hS hl => lv_iushr C.1 C.2.1 hd rfl (k p l e s m args below meth c ad cs D C H locs la hP hD hS hl)
theorem G_lshl {x : Int64} {y : Int32} (hd : decode cc pc = .ok (.lshl, 1))  (k : G w own cc nL ret lev r μr (pc + 1) ls (.long (x <<< (y.toInt64 &&& 63)) :: st) μ) : G w own cc nL ret lev r μr pc ls (.int y :: .long x :: st) μ :=
  fun p l e s m args below meth c ad cs D C H locs la hP hD hS hl => lv_lshl C.1 C.2.1 hd rfl (k p l e s m args below meth c ad cs D C H locs la hP hD hS hl)
theorem G_lshr {x : Int64} {y : Int32} (hd : decode cc pc = .ok (.lshr, 1))  (k : G w own cc nL ret lev r μr (pc + 1) ls (.long (x >>> (y.toInt64 &&& 63)) :: st) μ) : G w own cc nL ret lev r μr pc ls (.int y :: .long x :: st) μ :=
  fun p l e s m args below meth c ad cs D C H locs la hP hD hS hl => lv_lshr C.1 C.2.1 hd rfl (k p l e s m args below meth c ad cs D C H locs la hP hD hS hl)
theorem G_ineg {x : Int32} (hd : decode cc pc = .ok (.ineg, 1))  (k : G w own cc nL ret lev r μr (pc + 1) ls (.int (-x) :: st) μ) : G w own cc nL ret lev r μr pc ls (.int x :: st) μ :=
  fun p l e s m args below meth c ad cs D C H locs la hP hD hS hl => lv_ineg C.1 C.2.1 hd (k p l e s m args below meth c ad cs D C H locs la hP hD hS hl)
theorem G_lneg {x : Int64} (hd : decode cc pc = .ok (.lneg, 1))  (k : G w own cc nL ret lev r μr (pc + 1) ls (.long (-x) :: st) μ) : G w own cc nL ret lev r μr pc ls (.long x :: st) μ :=
  fun p l e s m args below meth c ad cs D C H locs la hP hD hS hl => lv_lneg C.1 C.2.1 hd (k p l e s m args below meth c ad cs D C H locs la hP hD hS hl)
theorem G_i2l {x : Int32} (hd : decode cc pc = .ok (.i2l, 1))  (k : G w own cc nL ret lev r μr (pc + 1) ls (.long (x.toInt64) :: st) μ) : G w own cc nL ret lev r μr pc ls (.int x :: st) μ :=
  fun p l e s m args below meth c ad cs D C H locs la hP hD hS hl => lv_i2l C.1 C.2.1 hd rfl (k p l e s m args below meth c ad cs D C H locs la hP hD hS hl)
theorem G_l2i {x : Int64} (hd : decode cc pc = .ok (.l2i, 1))  (k : G w own cc nL ret lev r μr (pc + 1) ls (.int (x.toInt32) :: st) μ) : G w own cc nL ret lev r μr pc ls (.long x :: st) μ :=
  fun p l e s m args below meth c ad cs D C H locs la hP hD hS hl => lv_l2i C.1 C.2.1 hd rfl (k p l e s m args below meth c ad cs D C H locs la hP hD hS hl)
theorem G_i2b {x : Int32} (hd : decode cc pc = .ok (.i2b, 1))  (k : G w own cc nL ret lev r μr (pc + 1) ls (.int (x.toInt8.toInt32) :: st) μ) : G w own cc nL ret lev r μr pc ls (.int x :: st) μ :=
  fun p l e s m args below meth c ad cs D C H locs la hP hD hS hl => lv_i2b C.1 C.2.1 hd rfl (k p l e s m args below meth c ad cs D C H locs la hP hD hS hl)
theorem G_i2s {x : Int32} (hd : decode cc pc = .ok (.i2s, 1))  (k : G w own cc nL ret lev r μr (pc + 1) ls (.int (x.toInt16.toInt32) :: st) μ) : G w own cc nL ret lev r μr pc ls (.int x :: st) μ :=
  fun p l e s m args below meth c ad cs D C H locs la hP hD hS hl => lv_i2s C.1 C.2.1 hd rfl (k p l e s m args below meth c ad cs D C H locs la hP hD hS hl)
theorem G_lcmp {x y : Int64} (hd : decode cc pc = .ok (.lcmp, 1))  (k : G w own cc nL ret lev r μr (pc + 1) ls (.int (lg_cmp x y) :: st) μ) : G w own cc nL ret lev r μr pc ls (.long y :: .long x :: st) μ :=
  fun p l e s m args below meth c ad cs D C H locs la hP hD hS hl => W.lcmp C.1 C.2.1 hd (k p l e s m args below meth c ad cs D C H locs la hP hD hS hl)
theorem G_iconst {n : Int} (v : Int32) (hd : decode cc pc = .ok (.iconst n, 1)) (hv : Int32.ofInt n = v) (k : G w own cc nL ret lev r μr (pc + 1) ls (.int v :: st) μ) : G w own cc nL ret lev r μr pc ls (st) μ :=
  fun p l e s m args below meth c ad cs D C H locs la hP hD hS hl => lv_iconst C.1 C.2.1 hd hv (k p l e s m args below meth c ad cs D C H locs la hP hD hS hl)
theorem G_bipush {n : Int} (v : Int32) (hd : decode cc pc = .ok (.bipush n, 2)) (hv : (Int8.ofInt n).toInt32 = v) (k : G w own cc nL ret lev r μr (pc + 2) ls (.int v :: st) μ) : G w own cc nL ret lev r μr pc ls (st) μ :=
  fun p l e s m args below meth c ad cs D C H locs la hP hD hS hl => lv_bipush C.1 C.2.1 hd hv (k p l e s m args below meth c ad cs D C H locs la hP hD hS hl)
theorem G_sipush {n : Int} (v : Int32) (hd : decode cc pc = .ok (.sipush n, 3)) (hv : (Int16.ofInt n).toInt32 = v) (k : G w own cc nL ret lev r μr (pc + 3) ls (.int v :: st) μ) : G w own cc nL ret lev r μr pc ls (st) μ :=
  fun p l e s m args below meth c ad cs D C H locs la hP hD hS hl => lv_sipush C.1 C.2.1 hd hv (k p l e s m args below meth c ad cs D C H locs la hP hD hS hl)
theorem G_lconst {n : Fin 2} (v : Int64) (hd : decode cc pc = .ok (.lconst n, 1)) (hv : Int64.ofNat (n : Nat) = v) (k : G w own cc nL ret lev r μr (pc + 1) ls (.long v :: st) μ) : G w own cc nL ret lev r μr pc ls (st) μ :=
  fun p l e s m args below meth c ad cs D C H locs la hP hD hS hl => lv_lconst C.1 C.2.1 hd hv (k p l e s m args below meth c ad cs D C H locs la hP hD hS hl)
theorem G_ldc {idx : Nat} (v : Int32) (hd : decode cc pc = .ok (.ldc idx, 2)) (hw : Cond.constant own idx v ∈ lw_g) (k : G w own cc nL ret lev r μr (pc + 2) ls (.int v :: st) μ) : G w own cc nL ret lev r μr pc ls (st) μ :=
  fun p l e s m args below meth c ad cs D C H locs la hP hD hS hl => lv_ldc C.1 C.2.1 C.2.2.2.2.2.1 (C.2.2.2.2.2.2.1 _ hw) hd (k p l e s m args below meth c ad cs D C H locs la hP hD hS hl)
theorem G_ldcw {idx : Nat} (v : Int32) (hd : decode cc pc = .ok (.ldc_w idx, 3)) (hw : Cond.constant own idx v ∈ lw_g) (k : G w own cc nL ret lev r μr (pc + 3) ls (.int v :: st) μ) : G w own cc nL ret lev r μr pc ls (st) μ :=
  fun p l e s m args below meth c ad cs D C H locs la hP hD hS hl => lv_ldcw C.1 C.2.1 C.2.2.2.2.2.1 (C.2.2.2.2.2.2.1 _ hw) hd (k p l e s m args below meth c ad cs D C H locs la hP hD hS hl)
theorem G_ldc2 {idx : Nat} (v : Int64) (hd : decode cc pc = .ok (.ldc2_w idx, 3)) (hw : Cond.constantLong own idx v ∈ lw_g) (k : G w own cc nL ret lev r μr (pc + 3) ls (.long v :: st) μ) : G w own cc nL ret lev r μr pc ls (st) μ :=
  fun p l e s m args below meth c ad cs D C H locs la hP hD hS hl => lv_ldc2 C.1 C.2.1 C.2.2.2.2.2.1 (C.2.2.2.2.2.2.1 _ hw) hd (k p l e s m args below meth c ad cs D C H locs la hP hD hS hl)
theorem G_dup {v : Value} (hd : decode cc pc = .ok (.dup, 1)) (hc : v.category = 1) (k : G w own cc nL ret lev r μr (pc + 1) ls (v :: v :: st) μ) : G w own cc nL ret lev r μr pc ls (v :: st) μ :=
  fun p l e s m args below meth c ad cs D C H locs la hP hD hS hl => lv_dup C.1 C.2.1 hd ((tr_cat ad v).trans hc) (k p l e s m args below meth c ad cs D C H locs la hP hD hS hl)
theorem G_pop {v : Value} (hd : decode cc pc = .ok (.pop, 1)) (hc : v.category = 1) (k : G w own cc nL ret lev r μr (pc + 1) ls (st) μ) : G w own cc nL ret lev r μr pc ls (v :: st) μ :=
  fun p l e s m args below meth c ad cs D C H locs la hP hD hS hl => lv_pop C.1 C.2.1 hd ((tr_cat ad v).trans hc) (k p l e s m args below meth c ad cs D C H locs la hP hD hS hl)
theorem G_dup2 {v u : Value} (hd : decode cc pc = .ok (.dup2, 1)) (hc : v.category = 1) (hc2 : u.category = 1) (k : G w own cc nL ret lev r μr (pc + 1) ls (v :: u :: v :: u :: st) μ) : G w own cc nL ret lev r μr pc ls (v :: u :: st) μ :=
  fun p l e s m args below meth c ad cs D C H locs la hP hD hS hl => lv_dup2_11 C.1 C.2.1 hd ((tr_cat ad v).trans hc) ((tr_cat ad u).trans hc2) (k p l e s m args below meth c ad cs D C H locs la hP hD hS hl)
theorem G_dup2L {x : Int64} (hd : decode cc pc = .ok (.dup2, 1))  (k : G w own cc nL ret lev r μr (pc + 1) ls (.long x :: .long x :: st) μ) : G w own cc nL ret lev r μr pc ls (.long x :: st) μ :=
  fun p l e s m args below meth c ad cs D C H locs la hP hD hS hl => lv_dup2_2 C.1 C.2.1 hd rfl (k p l e s m args below meth c ad cs D C H locs la hP hD hS hl)
theorem G_dup_x1 {v u : Value} (hd : decode cc pc = .ok (.dup_x1, 1)) (hc : v.category = 1) (hc2 : u.category = 1) (k : G w own cc nL ret lev r μr (pc + 1) ls (v :: u :: v :: st) μ) : G w own cc nL ret lev r μr pc ls (v :: u :: st) μ :=
  fun p l e s m args below meth c ad cs D C H locs la hP hD hS hl => lv_dup_x1 C.1 C.2.1 hd ((tr_cat ad v).trans hc) ((tr_cat ad u).trans hc2) (k p l e s m args below meth c ad cs D C H locs la hP hD hS hl)
theorem G_null  (hd : decode cc pc = .ok (.aconst_null, 1))  (k : G w own cc nL ret lev r μr (pc + 1) ls (.null :: st) μ) : G w own cc nL ret lev r μr pc ls (st) μ :=
  fun p l e s m args below meth c ad cs D C H locs la hP hD hS hl => lv_null C.1 C.2.1 hd (k p l e s m args below meth c ad cs D C H locs la hP hD hS hl)
theorem lsat {ad : Ad} {la : Array Slot} {nL : Nat} {ls : List (Nat × Value)} (hl : lv_has la nL (ls.map (trl ad))) (j : Nat) {i : Nat} {v : Value} (h : ls[j]? = some (i, v)) : la[i]? = some (.val (tr ad v)) := lv_at hl j (by rw [List.getElem?_map, h]; rfl)
theorem G_iload {i : Nat} {x : Int32} (j : Nat) (hd : decode cc pc = .ok (.iload i, 2)) (hj : ls[j]? = some (i, .int x)) (k : G w own cc nL ret lev r μr (pc + 2) ls (.int x :: st) μ) : G w own cc nL ret lev r μr pc ls (st) μ :=
  fun p l e s m args below meth c ad cs D C H locs la hP hD hS hl => lv_iload C.1 C.2.1 hd (lsat hl j hj) (k p l e s m args below meth c ad cs D C H locs la hP hD hS hl)
theorem G_iload_n {q : Fin 4} {x : Int32} (j : Nat) (hd : decode cc pc = .ok (.iload_n q, 1)) (hj : ls[j]? = some ((q : Nat), .int x)) (k : G w own cc nL ret lev r μr (pc + 1) ls (.int x :: st) μ) : G w own cc nL ret lev r μr pc ls (st) μ :=
  fun p l e s m args below meth c ad cs D C H locs la hP hD hS hl => lv_iload_n C.1 C.2.1 hd rfl (lsat hl j hj) (k p l e s m args below meth c ad cs D C H locs la hP hD hS hl)
theorem G_lload {i : Nat} {x : Int64} (j : Nat) (hd : decode cc pc = .ok (.lload i, 2)) (hj : ls[j]? = some (i, .long x)) (k : G w own cc nL ret lev r μr (pc + 2) ls (.long x :: st) μ) : G w own cc nL ret lev r μr pc ls (st) μ :=
  fun p l e s m args below meth c ad cs D C H locs la hP hD hS hl => lv_lload C.1 C.2.1 hd (lsat hl j hj) (k p l e s m args below meth c ad cs D C H locs la hP hD hS hl)
theorem G_lload_n {q : Fin 4} {x : Int64} (j : Nat) (hd : decode cc pc = .ok (.lload_n q, 1)) (hj : ls[j]? = some ((q : Nat), .long x)) (k : G w own cc nL ret lev r μr (pc + 1) ls (.long x :: st) μ) : G w own cc nL ret lev r μr pc ls (st) μ :=
  fun p l e s m args below meth c ad cs D C H locs la hP hD hS hl => lv_lload_n C.1 C.2.1 hd rfl (lsat hl j hj) (k p l e s m args below meth c ad cs D C H locs la hP hD hS hl)
theorem G_aload {i : Nat} {x : Nat} (j : Nat) (hd : decode cc pc = .ok (.aload i, 2)) (hj : ls[j]? = some (i, .ref x)) (k : G w own cc nL ret lev r μr (pc + 2) ls (.ref x :: st) μ) : G w own cc nL ret lev r μr pc ls (st) μ :=
  fun p l e s m args below meth c ad cs D C H locs la hP hD hS hl => lv_aload C.1 C.2.1 hd (lsat hl j hj) (k p l e s m args below meth c ad cs D C H locs la hP hD hS hl)
theorem G_aload_n {q : Fin 4} {x : Nat} (j : Nat) (hd : decode cc pc = .ok (.aload_n q, 1)) (hj : ls[j]? = some ((q : Nat), .ref x)) (k : G w own cc nL ret lev r μr (pc + 1) ls (.ref x :: st) μ) : G w own cc nL ret lev r μr pc ls (st) μ :=
  fun p l e s m args below meth c ad cs D C H locs la hP hD hS hl => lv_aload_n C.1 C.2.1 hd rfl (lsat hl j hj) (k p l e s m args below meth c ad cs D C H locs la hP hD hS hl)
theorem G_aload_nN {q : Fin 4} (j : Nat) (hd : decode cc pc = .ok (.aload_n q, 1)) (hj : ls[j]? = some ((q : Nat), .null)) (k : G w own cc nL ret lev r μr (pc + 1) ls (.null :: st) μ) : G w own cc nL ret lev r μr pc ls (st) μ :=
  fun p l e s m args below meth c ad cs D C H locs la hP hD hS hl => lv_aload_nN C.1 C.2.1 hd rfl (lsat hl j hj) (k p l e s m args below meth c ad cs D C H locs la hP hD hS hl)
def sf1 (i : Nat) (q : Nat × Value) : Bool := !(q.1 == i) && !(q.1 + 1 == i && q.2.category == 2)
def sf2 (i : Nat) (q : Nat × Value) : Bool := !(q.1 == i) && (!(q.1 == i + 1) && !(q.1 + 1 == i && q.2.category == 2))
theorem sfl1 {ad : Ad} {i : Nat} {v : Value} {ls ls' : List (Nat × Value)} (h : (i, v) :: ls.filter (sf1 i) = ls') : (i, tr ad v) :: (ls.map (trl ad)).filter (fun q => !(q.1 == i) && !(q.1 + 1 == i && q.2.category == 2)) = ls'.map (trl ad) := by
  subst h
  rw [List.filter_map, List.map_cons]
  have e : ((fun q : Nat × Value => !(q.1 == i) && !(q.1 + 1 == i && q.2.category == 2)) ∘ trl ad) = sf1 i := by
    funext q
    show (!(q.1 == i) && !(q.1 + 1 == i && (tr ad q.2).category == 2)) = _
    rw [tr_cat]; rfl
  rw [e]; rfl
theorem sfl2 {ad : Ad} {i : Nat} {v : Value} {ls ls' : List (Nat × Value)} (h : (i, v) :: ls.filter (sf2 i) = ls') : (i, tr ad v) :: (ls.map (trl ad)).filter (fun q => !(q.1 == i) && (!(q.1 == i + 1) && !(q.1 + 1 == i && q.2.category == 2))) = ls'.map (trl ad) := by
  subst h
  rw [List.filter_map, List.map_cons]
  have e : ((fun q : Nat × Value => !(q.1 == i) && (!(q.1 == i + 1) && !(q.1 + 1 == i && q.2.category == 2))) ∘ trl ad) = sf2 i := by
    funext q
    show (!(q.1 == i) && (!(q.1 == i + 1) && !(q.1 + 1 == i && (tr ad q.2).category == 2))) = _
    rw [tr_cat]; rfl
  rw [e]; rfl
theorem G_istore {i : Nat} {x : Int32} (ls' : List (Nat × Value)) (hd : decode cc pc = .ok (.istore i, 2)) (hn : i < nL) (h : (i, Value.int x) :: ls.filter (sf1 i) = ls') (k : G w own cc nL ret lev r μr (pc + 2) ls' st μ) : G w own cc nL ret lev r μr pc ls (.int x :: st) μ :=
  fun p l e s m args below meth c ad cs D C H locs la hP hD hS hl => lv_istore C.1 C.2.1 hd hl hn (sfl1 (v := .int x) h) (fun la' hl' => k p l e s m args below meth c ad cs D C H locs la' hP hD hS hl')
theorem G_istore_n {q : Fin 4} {x : Int32} (ls' : List (Nat × Value)) (hd : decode cc pc = .ok (.istore_n q, 1)) (hn : (q : Nat) < nL) (h : ((q : Nat), Value.int x) :: ls.filter (sf1 q) = ls') (k : G w own cc nL ret lev r μr (pc + 1) ls' st μ) : G w own cc nL ret lev r μr pc ls (.int x :: st) μ :=
  fun p l e s m args below meth c ad cs D C H locs la hP hD hS hl => lv_istore_n C.1 C.2.1 hd rfl hl hn (sfl1 (v := .int x) h) (fun la' hl' => k p l e s m args below meth c ad cs D C H locs la' hP hD hS hl')
theorem G_lstore {i : Nat} {x : Int64} (ls' : List (Nat × Value)) (hd : decode cc pc = .ok (.lstore i, 2)) (hn : i + 1 < nL) (h : (i, Value.long x) :: ls.filter (sf2 i) = ls') (k : G w own cc nL ret lev r μr (pc + 2) ls' st μ) : G w own cc nL ret lev r μr pc ls (.long x :: st) μ :=
  fun p l e s m args below meth c ad cs D C H locs la hP hD hS hl => lv_lstore C.1 C.2.1 hd hl hn (sfl2 (v := .long x) h) (fun la' hl' => k p l e s m args below meth c ad cs D C H locs la' hP hD hS hl')
theorem G_lstore_n {q : Fin 4} {x : Int64} (ls' : List (Nat × Value)) (hd : decode cc pc = .ok (.lstore_n q, 1)) (hn : (q : Nat) + 1 < nL) (h : ((q : Nat), Value.long x) :: ls.filter (sf2 q) = ls') (k : G w own cc nL ret lev r μr (pc + 1) ls' st μ) : G w own cc nL ret lev r μr pc ls (.long x :: st) μ :=
  fun p l e s m args below meth c ad cs D C H locs la hP hD hS hl => lv_lstore_n C.1 C.2.1 hd rfl hl hn (sfl2 (v := .long x) h) (fun la' hl' => k p l e s m args below meth c ad cs D C H locs la' hP hD hS hl')
theorem G_astore {i : Nat} {x : Nat} (ls' : List (Nat × Value)) (hd : decode cc pc = .ok (.astore i, 2)) (hn : i < nL) (h : (i, Value.ref x) :: ls.filter (sf1 i) = ls') (k : G w own cc nL ret lev r μr (pc + 2) ls' st μ) : G w own cc nL ret lev r μr pc ls (.ref x :: st) μ :=
  fun p l e s m args below meth c ad cs D C H locs la hP hD hS hl => lv_astore C.1 C.2.1 hd hl hn (sfl1 (v := .ref x) h) (fun la' hl' => k p l e s m args below meth c ad cs D C H locs la' hP hD hS hl')
theorem G_astore_n {q : Fin 4} {x : Nat} (ls' : List (Nat × Value)) (hd : decode cc pc = .ok (.astore_n q, 1)) (hn : (q : Nat) < nL) (h : ((q : Nat), Value.ref x) :: ls.filter (sf1 q) = ls') (k : G w own cc nL ret lev r μr (pc + 1) ls' st μ) : G w own cc nL ret lev r μr pc ls (.ref x :: st) μ :=
  fun p l e s m args below meth c ad cs D C H locs la hP hD hS hl => lv_astore_n C.1 C.2.1 hd rfl hl hn (sfl1 (v := .ref x) h) (fun la' hl' => k p l e s m args below meth c ad cs D C H locs la' hP hD hS hl')
theorem G_astore_nN {q : Fin 4} (ls' : List (Nat × Value)) (hd : decode cc pc = .ok (.astore_n q, 1)) (hn : (q : Nat) < nL) (h : ((q : Nat), Value.null) :: ls.filter (sf1 q) = ls') (k : G w own cc nL ret lev r μr (pc + 1) ls' st μ) : G w own cc nL ret lev r μr pc ls (.null :: st) μ :=
  fun p l e s m args below meth c ad cs D C H locs la hP hD hS hl => lv_astore_nN C.1 C.2.1 hd rfl hl hn (sfl1 (v := .null) h) (fun la' hl' => k p l e s m args below meth c ad cs D C H locs la' hP hD hS hl')
theorem G_iinc {i : Nat} {n : Int} {x : Int32} (v : Int32) (j : Nat) (ls' : List (Nat × Value)) (hd : decode cc pc = .ok (.iinc i n, 3)) (hv : Int32.ofInt n = v) (hj : ls[j]? = some (i, .int x)) (hn : i < nL) (h : (i, Value.int (x + v)) :: ls.filter (sf1 i) = ls') (k : G w own cc nL ret lev r μr (pc + 3) ls' st μ) : G w own cc nL ret lev r μr pc ls st μ :=
  fun p l e s m args below meth c ad cs D C H locs la hP hD hS hl => lv_iinc (k := j) (x := x) (v := x + v) C.1 C.2.1 hd hl (by rw [List.getElem?_map, hj]; rfl) (by rw [hv]) hn (sfl1 (v := .int (x + v)) h) (fun la' hl' => k p l e s m args below meth c ad cs D C H locs la' hP hD hS hl')
theorem G_loc (ks : List Nat) (ls' : List (Nat × Value)) (h : lv_pick ls ks = ls') (k : G w own cc nL ret lev r μr pc ls' st μ) : G w own cc nL ret lev r μr pc ls st μ := by
  intro p l e s m args below meth c ad cs D C H locs la hP hD hS hl
  refine k p l e s m args below meth c ad cs D C H locs la hP hD hS (lv_sub hl ks ?_)
  subst h
  simp only [lv_pick, List.getElem?_map, List.map_filterMap]
theorem G_goto (tgt : Nat) {off : Int} (hd : decode cc pc = .ok (.goto off, 3)) (ht : (pc : Int) + off = (tgt : Int)) (k : G w own cc nL ret lev r μr tgt ls st μ) : G w own cc nL ret lev r μr pc ls st μ :=
  fun p l e s m args below meth c ad cs D C H locs la hP hD hS hl => lv_goto C.1 C.2.1 hd ht (k p l e s m args below meth c ad cs D C H locs la hP hD hS hl)
theorem G_if_eq (tgt : Nat) {x : Int32} {off : Int} (hd : decode cc pc = .ok (.ifCond .eq off, 3)) (ht : (pc : Int) + off = (tgt : Int)) (kt : x = 0 → G w own cc nL ret lev r μr tgt ls st μ) (kf : ¬ (x = 0) → G w own cc nL ret lev r μr (pc + 3) ls st μ) : G w own cc nL ret lev r μr pc ls (.int x :: st) μ :=
  fun p l e s m args below meth c ad cs D C H locs la hP hD hS hl => lv_if_eq C.1 C.2.1 hd ht (fun h => kt h p l e s m args below meth c ad cs D C H locs la hP hD hS hl) (fun h => kf h p l e s m args below meth c ad cs D C H locs la hP hD hS hl)
theorem G_icmp_eq (tgt : Nat) {x y : Int32} {off : Int} (hd : decode cc pc = .ok (.if_icmp .eq off, 3)) (ht : (pc : Int) + off = (tgt : Int)) (kt : x = y → G w own cc nL ret lev r μr tgt ls st μ) (kf : ¬ (x = y) → G w own cc nL ret lev r μr (pc + 3) ls st μ) : G w own cc nL ret lev r μr pc ls (.int y :: .int x :: st) μ :=
  fun p l e s m args below meth c ad cs D C H locs la hP hD hS hl => lv_icmp_eq C.1 C.2.1 hd ht (fun h => kt h p l e s m args below meth c ad cs D C H locs la hP hD hS hl) (fun h => kf h p l e s m args below meth c ad cs D C H locs la hP hD hS hl)
theorem G_if_ne (tgt : Nat) {x : Int32} {off : Int} (hd : decode cc pc = .ok (.ifCond .ne off, 3)) (ht : (pc : Int) + off = (tgt : Int)) (kt : ¬ x = 0 → G w own cc nL ret lev r μr tgt ls st μ) (kf : x = 0 → G w own cc nL ret lev r μr (pc + 3) ls st μ) : G w own cc nL ret lev r μr pc ls (.int x :: st) μ :=
  fun p l e s m args below meth c ad cs D C H locs la hP hD hS hl => lv_if_ne C.1 C.2.1 hd ht (fun h => kt h p l e s m args below meth c ad cs D C H locs la hP hD hS hl) (fun h => kf h p l e s m args below meth c ad cs D C H locs la hP hD hS hl)
theorem G_icmp_ne (tgt : Nat) {x y : Int32} {off : Int} (hd : decode cc pc = .ok (.if_icmp .ne off, 3)) (ht : (pc : Int) + off = (tgt : Int)) (kt : ¬ x = y → G w own cc nL ret lev r μr tgt ls st μ) (kf : x = y → G w own cc nL ret lev r μr (pc + 3) ls st μ) : G w own cc nL ret lev r μr pc ls (.int y :: .int x :: st) μ :=
  fun p l e s m args below meth c ad cs D C H locs la hP hD hS hl => lv_icmp_ne C.1 C.2.1 hd ht (fun h => kt h p l e s m args below meth c ad cs D C H locs la hP hD hS hl) (fun h => kf h p l e s m args below meth c ad cs D C H locs la hP hD hS hl)
theorem G_if_lt (tgt : Nat) {x : Int32} {off : Int} (hd : decode cc pc = .ok (.ifCond .lt off, 3)) (ht : (pc : Int) + off = (tgt : Int)) (kt : x < 0 → G w own cc nL ret lev r μr tgt ls st μ) (kf : ¬ (x < 0) → G w own cc nL ret lev r μr (pc + 3) ls st μ) : G w own cc nL ret lev r μr pc ls (.int x :: st) μ :=
  fun p l e s m args below meth c ad cs D C H locs la hP hD hS hl => lv_if_lt C.1 C.2.1 hd ht (fun h => kt h p l e s m args below meth c ad cs D C H locs la hP hD hS hl) (fun h => kf h p l e s m args below meth c ad cs D C H locs la hP hD hS hl)
theorem G_icmp_lt (tgt : Nat) {x y : Int32} {off : Int} (hd : decode cc pc = .ok (.if_icmp .lt off, 3)) (ht : (pc : Int) + off = (tgt : Int)) (kt : x < y → G w own cc nL ret lev r μr tgt ls st μ) (kf : ¬ (x < y) → G w own cc nL ret lev r μr (pc + 3) ls st μ) : G w own cc nL ret lev r μr pc ls (.int y :: .int x :: st) μ :=
  fun p l e s m args below meth c ad cs D C H locs la hP hD hS hl => lv_icmp_lt C.1 C.2.1 hd ht (fun h => kt h p l e s m args below meth c ad cs D C H locs la hP hD hS hl) (fun h => kf h p l e s m args below meth c ad cs D C H locs la hP hD hS hl)
theorem G_if_ge (tgt : Nat) {x : Int32} {off : Int} (hd : decode cc pc = .ok (.ifCond .ge off, 3)) (ht : (pc : Int) + off = (tgt : Int)) (kt : 0 ≤ x → G w own cc nL ret lev r μr tgt ls st μ) (kf : ¬ (0 ≤ x) → G w own cc nL ret lev r μr (pc + 3) ls st μ) : G w own cc nL ret lev r μr pc ls (.int x :: st) μ :=
  fun p l e s m args below meth c ad cs D C H locs la hP hD hS hl => lv_if_ge C.1 C.2.1 hd ht (fun h => kt h p l e s m args below meth c ad cs D C H locs la hP hD hS hl) (fun h => kf h p l e s m args below meth c ad cs D C H locs la hP hD hS hl)
theorem G_icmp_ge (tgt : Nat) {x y : Int32} {off : Int} (hd : decode cc pc = .ok (.if_icmp .ge off, 3)) (ht : (pc : Int) + off = (tgt : Int)) (kt : y ≤ x → G w own cc nL ret lev r μr tgt ls st μ) (kf : ¬ (y ≤ x) → G w own cc nL ret lev r μr (pc + 3) ls st μ) : G w own cc nL ret lev r μr pc ls (.int y :: .int x :: st) μ :=
  fun p l e s m args below meth c ad cs D C H locs la hP hD hS hl => lv_icmp_ge C.1 C.2.1 hd ht (fun h => kt h p l e s m args below meth c ad cs D C H locs la hP hD hS hl) (fun h => kf h p l e s m args below meth c ad cs D C H locs la hP hD hS hl)
theorem G_if_gt (tgt : Nat) {x : Int32} {off : Int} (hd : decode cc pc = .ok (.ifCond .gt off, 3)) (ht : (pc : Int) + off = (tgt : Int)) (kt : 0 < x → G w own cc nL ret lev r μr tgt ls st μ) (kf : ¬ (0 < x) → G w own cc nL ret lev r μr (pc + 3) ls st μ) : G w own cc nL ret lev r μr pc ls (.int x :: st) μ :=
  fun p l e s m args below meth c ad cs D C H locs la hP hD hS hl => lv_if_gt C.1 C.2.1 hd ht (fun h => kt h p l e s m args below meth c ad cs D C H locs la hP hD hS hl) (fun h => kf h p l e s m args below meth c ad cs D C H locs la hP hD hS hl)
theorem G_icmp_gt (tgt : Nat) {x y : Int32} {off : Int} (hd : decode cc pc = .ok (.if_icmp .gt off, 3)) (ht : (pc : Int) + off = (tgt : Int)) (kt : y < x → G w own cc nL ret lev r μr tgt ls st μ) (kf : ¬ (y < x) → G w own cc nL ret lev r μr (pc + 3) ls st μ) : G w own cc nL ret lev r μr pc ls (.int y :: .int x :: st) μ :=
  fun p l e s m args below meth c ad cs D C H locs la hP hD hS hl => lv_icmp_gt C.1 C.2.1 hd ht (fun h => kt h p l e s m args below meth c ad cs D C H locs la hP hD hS hl) (fun h => kf h p l e s m args below meth c ad cs D C H locs la hP hD hS hl)
theorem G_if_le (tgt : Nat) {x : Int32} {off : Int} (hd : decode cc pc = .ok (.ifCond .le off, 3)) (ht : (pc : Int) + off = (tgt : Int)) (kt : x ≤ 0 → G w own cc nL ret lev r μr tgt ls st μ) (kf : ¬ (x ≤ 0) → G w own cc nL ret lev r μr (pc + 3) ls st μ) : G w own cc nL ret lev r μr pc ls (.int x :: st) μ :=
  fun p l e s m args below meth c ad cs D C H locs la hP hD hS hl => lv_if_le C.1 C.2.1 hd ht (fun h => kt h p l e s m args below meth c ad cs D C H locs la hP hD hS hl) (fun h => kf h p l e s m args below meth c ad cs D C H locs la hP hD hS hl)
theorem G_icmp_le (tgt : Nat) {x y : Int32} {off : Int} (hd : decode cc pc = .ok (.if_icmp .le off, 3)) (ht : (pc : Int) + off = (tgt : Int)) (kt : x ≤ y → G w own cc nL ret lev r μr tgt ls st μ) (kf : ¬ (x ≤ y) → G w own cc nL ret lev r μr (pc + 3) ls st μ) : G w own cc nL ret lev r μr pc ls (.int y :: .int x :: st) μ :=
  fun p l e s m args below meth c ad cs D C H locs la hP hD hS hl => lv_icmp_le C.1 C.2.1 hd ht (fun h => kt h p l e s m args below meth c ad cs D C H locs la hP hD hS hl) (fun h => kf h p l e s m args below meth c ad cs D C H locs la hP hD hS hl)
theorem G_ifnonnull (tgt : Nat) {x : Nat} {off : Int} (hd : decode cc pc = .ok (.ifnonnull off, 3)) (ht : (pc : Int) + off = (tgt : Int)) (k : G w own cc nL ret lev r μr tgt ls st μ) : G w own cc nL ret lev r μr pc ls (.ref x :: st) μ :=
  fun p l e s m args below meth c ad cs D C H locs la hP hD hS hl => lv_ifnonnull C.1 C.2.1 hd ht (k p l e s m args below meth c ad cs D C H locs la hP hD hS hl)
theorem G_ifnonnullN {off : Int} (hd : decode cc pc = .ok (.ifnonnull off, 3)) (k : G w own cc nL ret lev r μr (pc + 3) ls st μ) : G w own cc nL ret lev r μr pc ls (.null :: st) μ :=
  fun p l e s m args below meth c ad cs D C H locs la hP hD hS hl => lv_ifnonnullN C.1 C.2.1 hd (k p l e s m args below meth c ad cs D C H locs la hP hD hS hl)
theorem G_ifnull {x : Nat} {off : Int} (hd : decode cc pc = .ok (.ifnull off, 3)) (k : G w own cc nL ret lev r μr (pc + 3) ls st μ) : G w own cc nL ret lev r μr pc ls (.ref x :: st) μ :=
  fun p l e s m args below meth c ad cs D C H locs la hP hD hS hl => lv_ifnull C.1 C.2.1 hd (k p l e s m args below meth c ad cs D C H locs la hP hD hS hl)
theorem G_ifnullN (tgt : Nat) {off : Int} (hd : decode cc pc = .ok (.ifnull off, 3)) (ht : (pc : Int) + off = (tgt : Int)) (k : G w own cc nL ret lev r μr tgt ls st μ) : G w own cc nL ret lev r μr pc ls (.null :: st) μ :=
  fun p l e s m args below meth c ad cs D C H locs la hP hD hS hl => lv_ifnullN C.1 C.2.1 hd ht (k p l e s m args below meth c ad cs D C H locs la hP hD hS hl)
theorem G_tswIn (tgt : Nat) {dflt lo hi off : Int} {offs : Array Int} {len : Nat} {x : Int32} (hd : decode cc pc = .ok (.tableswitch dflt lo hi offs, len)) (h1 : ¬ x.toInt < lo) (h2 : ¬ hi < x.toInt) (ho : offs[(x.toInt - lo).toNat]? = some off) (ht : (pc : Int) + off = (tgt : Int)) (k : G w own cc nL ret lev r μr tgt ls st μ) : G w own cc nL ret lev r μr pc ls (.int x :: st) μ :=
  fun p l e s m args below meth c ad cs D C H locs la hP hD hS hl => lv_tableIn C.1 C.2.1 hd h1 h2 ho ht (k p l e s m args below meth c ad cs D C H locs la hP hD hS hl)
theorem G_tswOut (tgt : Nat) {dflt lo hi : Int} {offs : Array Int} {len : Nat} {x : Int32} (hd : decode cc pc = .ok (.tableswitch dflt lo hi offs, len)) (h : x.toInt < lo ∨ hi < x.toInt) (ht : (pc : Int) + dflt = (tgt : Int)) (k : G w own cc nL ret lev r μr tgt ls st μ) : G w own cc nL ret lev r μr pc ls (.int x :: st) μ :=
  fun p l e s m args below meth c ad cs D C H locs la hP hD hS hl => lv_tableOut C.1 C.2.1 hd h ht (k p l e s m args below meth c ad cs D C H locs la hP hD hS hl)
theorem G_lsw (tgt : Nat) {dflt off : Int} {ps : Array (Int × Int)} {len : Nat} {x : Int32} (hd : decode cc pc = .ok (.lookupswitch dflt ps, len)) (hp : (ps.toList.zip (ps.toList.drop 1)).all (fun (a, next) => a.1 < next.1) = true) (ho : Op.lookupswitch.offset ps.toList dflt x.toInt = off) (ht : (pc : Int) + off = (tgt : Int)) (k : G w own cc nL ret lev r μr tgt ls st μ) : G w own cc nL ret lev r μr pc ls (.int x :: st) μ :=
  fun p l e s m args below meth c ad cs D C H locs la hP hD hS hl => lv_lookup C.1 C.2.1 hd hp ho ht (k p l e s m args below meth c ad cs D C H locs la hP hD hS hl)
/-- the word of a field: own's entry idx is slot k of the class (C, T, N) -/
def FL (own : String) (idx : Nat) (T : u_T) (k : Nat) : Prop := ∃ ref : String, Cond.fieldLink own idx ref (T k).2.1 (T k).2.2.1 ∈ lw_g ∧ (ref = (T k).1 ∨ Cond.sameField ref (T k).1 (T k).2.1 (T k).2.2.1 ∈ lw_g)
theorem fl_same {T : u_T} {k : Nat} {ref : String} {args : Array Value} {s : State} (hts : ∀ x ∈ lw_g, x.before args s = true) (h : ref = (T k).1 ∨ Cond.sameField ref (T k).1 (T k).2.1 (T k).2.2.1 ∈ lw_g) : ∀ x, s.fieldFound? (T k).1 (T k).2.1 (T k).2.2.1 = some x → s.fieldFound? ref (T k).2.1 (T k).2.2.1 = some x := by
  intro x hx
  rcases h with rfl | h
  · exact hx
  · exact u_same (hts _ h) x hx
theorem G_get {idx : Nat} (a : Nat) (ci : Nat) {C0 : String} {T : u_T} {N : Nat} (j : Nat) (v : Value) (hd : decode cc pc = .ok (.getfield idx, 3)) (hf : FL own idx T j) (hin : ∀ x ∈ u_ws C0 T N, x ∈ lw_g) (hcl : vwCl[ci]? = some (C0, T, N)) (hj : j < N) (ha : a < w.1) (hv : ∀ ad cs, ∃ fs, w.2 ad cs (μ.1 a) (μ.2 a) a = .inr (ci, fs) ∧ fs[j]? = some (tr ad v)) (k : G w own cc nL ret lev r μr (pc + 3) ls (v :: st) μ) : G w own cc nL ret lev r μr pc ls (.ref a :: st) μ := by
  intro p l e s m args below meth c ad cs D C H locs la hP hD hS hl
  obtain ⟨ref, hl1, hl2⟩ := hf
  obtain ⟨fs, hfs, hv⟩ := hv ad cs
  exact va_get C.1 C.2.1 C.2.2.2.2.2.2.1 hin C.2.2.2.2.2.1 C.2.2.2.2.2.2.2.1 hP a ((ww_at ha).trans (by rw [hfs])) hcl j hj (C.2.2.2.2.2.2.1 _ hl1) (fl_same C.2.2.2.2.2.2.1 hl2) hv hd (k p l e s m args below meth c ad cs D C H locs la hP hD hS hl)
theorem G_put {idx : Nat} (a : Nat) (ci : Nat) {C0 : String} {T : u_T} {N : Nat} (j : Nat) (x : Int32) (ty : FieldType) {ty0 : Nat → FieldType} (hd : decode cc pc = .ok (.putfield idx, 3)) (hf : FL own idx T j) (hin : ∀ x ∈ u_ws C0 T N, x ∈ lw_g) (hty : ∀ k, k < N → parseFieldDescriptor (T k).2.2.1 = some (ty0 k)) (hnm : ∀ a, a < N → ∀ b, b < N → a ≠ b → (T a).2.1 ≠ (T b).2.1) (hcl : vwCl[ci]? = some (C0, T, N)) (hj : j < N) (hfin : (T j).2.2.2 = false) (hdt : parseFieldDescriptor (T j).2.2.1 = some ty) (hnar : narrow ty (.int x) = .int x) (hfit : fits ty (.int x) = true) (ha : a < w.1) (hv : ∀ ad cs, ∃ fs, w.2 ad cs (μ.1 a) (μ.2 a) a = .inr (ci, fs) ∧ j < fs.length ∧ w.2 ad cs (upd (μ.1 a) j x) (μ.2 a) a = .inr (ci, fs.set j (.int x))) (k : G w own cc nL ret lev r μr (pc + 3) ls st (wI μ a j x)) : G w own cc nL ret lev r μr pc ls (.int x :: .ref a :: st) μ := by
  intro p l e s m args below meth c ad cs D C H locs la hP hD hS hl
  obtain ⟨ref, hl1, hl2⟩ := hf
  obtain ⟨fs, hfs, hlen, hset⟩ := hv ad cs
  refine va_put (v := .int x) C.1 C.2.1 C.2.2.2.2.2.2.1 hin ty0 hty hnm C.2.2.2.2.2.1 C.2.2.2.2.2.2.2.1 hP hD hS a ((ww_at ha).trans (by rw [hfs])) hcl j hj (C.2.2.2.2.2.2.1 _ hl1) (fl_same C.2.2.2.2.2.2.1 hl2) hfin hdt hnar hfit hlen hd (fun H locs hP hD hS => ?_)
  rw [ww_setR (f := upd (μ.1 a) j x) ha hset.symm] at hP hD
  exact k p l e s m args below meth c ad cs D C H locs la hP hD hS hl
theorem G_iald (a n : Nat) {i : Int32} (hd : decode cc pc = .ok (.iaload, 1)) (hin : vp_in i n) (ha : a < w.1) (hv : ∀ ad cs, w.2 ad cs (μ.1 a) (μ.2 a) a = .inl (cs 0, n, .inl (μ.1 a))) (k : G w own cc nL ret lev r μr (pc + 1) ls (.int (μ.1 a i.toNatClampNeg) :: st) μ) : G w own cc nL ret lev r μr pc ls (.int i :: .ref a :: st) μ :=
  fun p l e s m args below meth c ad cs D C H locs la hP hD hS hl => va_iald C.1 C.2.1 C.2.2.2.2.2.2.2.1 hP a 0 ((ww_at ha).trans (by rw [hv])) rfl hin hd (k p l e s m args below meth c ad cs D C H locs la hP hD hS hl)
theorem G_zald (a n : Nat) {i : Int32} (hd : decode cc pc = .ok (.baload, 1)) (hin : vp_in i n) (ha : a < w.1) (hv : ∀ ad cs, w.2 ad cs (μ.1 a) (μ.2 a) a = .inl (cs 2, n, .inl (μ.1 a))) (k : G w own cc nL ret lev r μr (pc + 1) ls (.int (μ.1 a i.toNatClampNeg) :: st) μ) : G w own cc nL ret lev r μr pc ls (.int i :: .ref a :: st) μ :=
  fun p l e s m args below meth c ad cs D C H locs la hP hD hS hl => va_zald C.1 C.2.1 C.2.2.2.2.2.2.2.1 hP a 2 ((ww_at ha).trans (by rw [hv])) rfl hin hd (k p l e s m args below meth c ad cs D C H locs la hP hD hS hl)
theorem G_lald (a n : Nat) {i : Int32} (hd : decode cc pc = .ok (.laload, 1)) (hin : vp_in i n) (ha : a < w.1) (hv : ∀ ad cs, w.2 ad cs (μ.1 a) (μ.2 a) a = .inl (cs 1, n, .inr (.inl (μ.2 a)))) (k : G w own cc nL ret lev r μr (pc + 1) ls (.long (μ.2 a i.toNatClampNeg) :: st) μ) : G w own cc nL ret lev r μr pc ls (.int i :: .ref a :: st) μ :=
  fun p l e s m args below meth c ad cs D C H locs la hP hD hS hl => va_lald C.1 C.2.1 C.2.2.2.2.2.2.2.1 hP a 1 ((ww_at ha).trans (by rw [hv])) rfl hin hd (k p l e s m args below meth c ad cs D C H locs la hP hD hS hl)
theorem G_iast (a n : Nat) {i x : Int32} (hd : decode cc pc = .ok (.iastore, 1)) (hin : vp_in i n) (ha : a < w.1) (hv : ∀ ad cs f, w.2 ad cs f (μ.2 a) a = .inl (cs 0, n, .inl f)) (k : G w own cc nL ret lev r μr (pc + 1) ls st (wI μ a i.toNatClampNeg x)) : G w own cc nL ret lev r μr pc ls (.int x :: .int i :: .ref a :: st) μ := by
  intro p l e s m args below meth c ad cs D C H locs la hP hD hS hl
  refine va_iast C.1 C.2.1 C.2.2.2.2.2.2.2.1 hP hD hS a 0 ((ww_at ha).trans (by rw [hv])) rfl hin hd (fun H locs hP hD hS => ?_)
  rw [ww_setR (f := upd (μ.1 a) i.toNatClampNeg x) ha (hv ad cs _).symm] at hP hD
  exact k p l e s m args below meth c ad cs D C H locs la hP hD hS hl
theorem nar_b {x : Int32} (h : x = 0 ∨ x = 1) : vp_nar .boolean x = x := by rcases h with rfl | rfl <;> decide
theorem G_zast (a n : Nat) {i x : Int32} (hd : decode cc pc = .ok (.bastore, 1)) (hin : vp_in i n) (hx : x = 0 ∨ x = 1) (ha : a < w.1) (hv : ∀ ad cs f, w.2 ad cs f (μ.2 a) a = .inl (cs 2, n, .inl f)) (k : G w own cc nL ret lev r μr (pc + 1) ls st (wI μ a i.toNatClampNeg x)) : G w own cc nL ret lev r μr pc ls (.int x :: .int i :: .ref a :: st) μ := by
  intro p l e s m args below meth c ad cs D C H locs la hP hD hS hl
  refine va_zast C.1 C.2.1 C.2.2.2.2.2.2.2.1 hP hD hS a 2 ((ww_at ha).trans (by rw [hv])) rfl hin hd (fun H locs hP hD hS => ?_)
  rw [nar_b hx] at hP hD
  rw [ww_setR (f := upd (μ.1 a) i.toNatClampNeg x) ha (hv ad cs _).symm] at hP hD
  exact k p l e s m args below meth c ad cs D C H locs la hP hD hS hl
theorem G_last (a n : Nat) {i : Int32} {x : Int64} (hd : decode cc pc = .ok (.lastore, 1)) (hin : vp_in i n) (ha : a < w.1) (hv : ∀ ad cs f, w.2 ad cs (μ.1 a) f a = .inl (cs 1, n, .inr (.inl f))) (k : G w own cc nL ret lev r μr (pc + 1) ls st (wL μ a i.toNatClampNeg x)) : G w own cc nL ret lev r μr pc ls (.long x :: .int i :: .ref a :: st) μ := by
  intro p l e s m args below meth c ad cs D C H locs la hP hD hS hl
  refine va_last C.1 C.2.1 C.2.2.2.2.2.2.2.1 hP hD hS a 1 ((ww_at ha).trans (by rw [hv])) rfl hin hd (fun H locs hP hD hS => ?_)
  rw [ww_setL (f := vp_updL (μ.2 a) i.toNatClampNeg x) ha (hv ad cs _).symm] at hP hD
  exact k p l e s m args below meth c ad cs D C H locs la hP hD hS hl
theorem G_alen (a : Nat) (t : Nat) (ty : FieldType) (x : vp_A) (v : Int32) (hd : decode cc pc = .ok (.arraylength, 1)) (ha : a < w.1) (hv : ∀ ad cs, w.2 ad cs (μ.1 a) (μ.2 a) a = .inl (cs t, x)) (ht : ∀ cs : Cs, (tyl cs)[t]? = some (cs t, ty)) (hn : Int32.ofNat x.1 = v) (k : G w own cc nL ret lev r μr (pc + 1) ls (.int v :: st) μ) : G w own cc nL ret lev r μr pc ls (.ref a :: st) μ :=
  fun p l e s m args below meth c ad cs D C H locs la hP hD hS hl => va_alen C.1 C.2.1 C.2.2.2.2.2.2.2.1 hP a t ((ww_at ha).trans (by rw [hv])) (ht cs) hn hd (k p l e s m args below meth c ad cs D C H locs la hP hD hS hl)
theorem G_aald (a n : Nat) (f : Nat → Nat) {i : Int32} (hd : decode cc pc = .ok (.aaload, 1)) (hin : vp_in i n) (ha : a < w.1) (hv : ∀ ad cs, w.2 ad cs (μ.1 a) (μ.2 a) a = .inl (cs 3, n, .inr (.inr (.inr (.inr (fun j => some (ad (f j)))))))) (k : G w own cc nL ret lev r μr (pc + 1) ls (.ref (f i.toNatClampNeg) :: st) μ) : G w own cc nL ret lev r μr pc ls (.int i :: .ref a :: st) μ :=
  fun p l e s m args below meth c ad cs D C H locs la hP hD hS hl => va_aldq (f := fun j => some (ad (f j))) C.1 C.2.1 C.2.2.2.2.2.2.2.1 hP a 3 ((ww_at ha).trans (by rw [hv])) rfl hin hd (k p l e s m args below meth c ad cs D C H locs la hP hD hS hl)
theorem G_iret {x : Int32} (hr : ret = some .int) (hd : decode cc pc = .ok (.ireturn, 1)) : G w own cc nL ret lev (some (.int x)) μ pc ls [.int x] μ := by
  intro p l e s m args below meth c ad cs D C H locs la hP hD hS hl
  have hlocks := C.2.2.2.2.1
  exact W.iret (v := x) C.1 C.2.1 (C.2.2.2.1.trans hr) (fun t ht hW => ⟨rfl, by rw [ht]; exact hP, va_K.moved hW.alike C.2.2.2.2.2.2.2.1, hD, hS.F ht⟩) hS.2.2 hd
theorem G_zret {x : Int32} (hr : ret = some .boolean) (hx : x = 0 ∨ x = 1) (hd : decode cc pc = .ok (.ireturn, 1)) : G w own cc nL ret lev (some (.int x)) μ pc ls [.int x] μ := by
  intro p l e s m args below meth c ad cs D C H locs la hP hD hS hl
  have hlocks := C.2.2.2.2.1
  exact W.zret (v := x) (ty := .boolean) C.1 C.2.1 (C.2.2.2.1.trans hr) (by rcases hx with rfl | rfl <;> decide) (fun t ht hW => ⟨rfl, by rw [ht]; exact hP, va_K.moved hW.alike C.2.2.2.2.2.2.2.1, hD, hS.F ht⟩) hS.2.2 hd
theorem G_lret {x : Int64} (hr : ret = some .long) (hd : decode cc pc = .ok (.lreturn, 1)) : G w own cc nL ret lev (some (.long x)) μ pc ls [.long x] μ := by
  intro p l e s m args below meth c ad cs D C H locs la hP hD hS hl
  have hlocks := C.2.2.2.2.1
  exact W.lret (v := x) C.1 C.2.1 (C.2.2.2.1.trans hr) (fun t ht hW => ⟨rfl, by rw [ht]; exact hP, va_K.moved hW.alike C.2.2.2.2.2.2.2.1, hD, hS.F ht⟩) hS.2.2 hd
theorem G_vret (hr : ret = none) (hd : decode cc pc = .ok (.return_, 1)) : G w own cc nL ret lev none μ pc ls [] μ := by
  intro p l e s m args below meth c ad cs D C H locs la hP hD hS hl
  have hlocks := C.2.2.2.2.1
  exact W.vret C.1 C.2.1 (C.2.2.2.1.trans hr) (fun t ht hW => ⟨rfl, by rw [ht]; exact hP, va_K.moved hW.alike C.2.2.2.2.2.2.2.1, hD, hS.F ht⟩) hS.2.2 hd
theorem G_aret {v : Value} {nm : String} (hr : ret = some (.object nm)) (hv : v = .null ∨ ∃ a, v = .ref a) (hd : decode cc pc = .ok (.areturn, 1)) : G w own cc nL ret lev (some v) μ pc ls [v] μ := by
  intro p l e s m args below meth c ad cs D C H locs la hP hD hS hl
  have hlocks := C.2.2.2.2.1
  exact W.aret (v := tr ad v) C.1 C.2.1 (C.2.2.2.1.trans hr) (Or.inl ⟨_, rfl⟩) (hv.elim (fun h => Or.inl (by rw [h]; rfl)) (fun ⟨a, h⟩ => Or.inr ⟨ad a, by rw [h]; rfl⟩)) (fun t ht hW => ⟨rfl, by rw [ht]; exact hP, va_K.moved hW.alike C.2.2.2.2.2.2.2.1, hD, hS.F ht⟩) hS.2.2 hd
end GRows
end
section
section GCalls
variable {w : Wd} {own : String} {cc : ByteArray} {nL : Nat} {ret : Option FieldType} {lev : Nat} {r : Option Value} {μr : Mm} {pc : Nat} {ls : List (Nat × Value)} {st : List Value} {μ : Mm}
theorem va_callQ {p : Program} {l : Launch} {e : Env} {R : Room} {s : State} {m : MethodId} {args : Array Value} {below : List Frame} {meth : Method} {c : Code} {H : Heap} {locs : List Loc} {Q : State → Prop} {la : Array Slot} {st0 rest : List Value} {ad : Ad} {cs : Cs} {D : va_G} {rv : Option Value} {μ' : Mm} {aa : Array Value}
    (hr : va_Run p l e R s m args below meth c H locs 0 0 0 0 (F0 m pc la st0) rest (Qw w ad cs D (Aw w ad H.size) rv μ' aa) (Aw w ad H.size)) (hS : va_S (Aw w ad s.heap.size) s.heap H locs)
    (kk : ∀ (H1 : Heap) (locs1 : List Loc), va_P D vwCl (ww w ad cs μ') H1 → va_D (Aw w ad s.heap.size) (ww w ad cs μ') → va_S (Aw w ad s.heap.size) s.heap H1 locs1 → W p l e R s m args below meth c H1 locs1 0 0 Q (F0 m (pc + 3) la (rv.toList ++ rest))) : W p l e R s m args below meth c H locs 0 0 Q (F0 m pc la st0) := by
  intro T hT X
  obtain ⟨v, st₀, t, T', L, h0, X', hL, e1, e2, ⟨hv, hP1, hK1, hD1, hz, hk⟩, st⟩ := hr T hT X
  cases hv
  rw [h0] at hz hk
  obtain ⟨t2, a1, b1⟩ := kk T'.heap (locs ++ L) (by rw [e1]; exact hP1) (hD1.weaken (fun k q _ h => Aw_mono hS.1 _ h))
    ⟨Nat.le_trans hS.1 (by rw [e1]; exact hz), fun q h1 h2 => by rw [e1, hk q (Nat.lt_of_lt_of_le h1 hS.1) (fun z => h2 (Aw_mono hS.1 _ z))]; exact hS.2.1 q h1 h2, fun q hq => (List.mem_append.mp hq).elim (hS.2.2 q) (fun h => Aw_mono hS.1 _ (hL q h))⟩ T' rfl X'
  exact ⟨t2, st t2 a1, b1⟩
theorem Pw_now {p : Program} {s : State} {m : MethodId} {args : Array Value} {meth : Method} {c : Code} {ad : Ad} {cs : Cs} {D : va_G} (C : Cx w own cc nL ret p s m args meth c ad cs D) {H : Heap} {locs : List Loc} (hP : va_P D vwCl (ww w ad cs μ) H) (hD : va_D (Aw w ad s.heap.size) (ww w ad cs μ)) (hS : va_S (Aw w ad s.heap.size) s.heap H locs) {U : State} (hU : U.heap = H) (hW : s.WarmedH U.vm) : Pw w ad cs D H.size μ U :=
  ⟨by rw [hU], by rw [hU]; exact hP, va_K.moved hW.alike C.2.2.2.2.2.2.2.1, hD.weaken (fun _ _ _ _ => trivial), by rw [hU]; exact Zs_moved hW.alike (Zs_narrow (Zs_kept C.2.2.2.2.2.2.2.2.1 hS.2.1) (Aw_mono hS.1)), Nx_warm hW C.2.2.2.2.2.2.2.2.2⟩
abbrev notMH (c : String) : Prop := c ≠ "java/lang/invoke/MethodHandle" ∧ c ≠ "java/lang/invoke/VarHandle"
/-- the words of a call: virtual; inherited; abstract; static; a nest mate's static -/
def WV (own : String) (idx : Nat) (C : String) (y : MethodName) (n : Nat) : Prop := (∀ x ∈ ([.methodLink own idx y, .instanceMethod y, .selects C y y, .initialized C] : List Cond), x ∈ lw_g) ∧ y.cls = C ∧ y.cls ≠ "java/lang/invoke/MethodHandle" ∧ y.cls ≠ "java/lang/invoke/VarHandle" ∧ (parseMethodDescriptor y.desc).map (fun d => d.parameters.length) = some n
def WU (own : String) (idx : Nat) (C owner : String) (x y : MethodName) (n : Nat) : Prop := (∀ z ∈ ([.methodLink own idx x, .sameMethod x.cls owner x.name x.desc, .selects C x y, .instanceMethod y, .initialized y.cls] : List Cond), z ∈ lw_g) ∧ owner ≠ "java/lang/invoke/MethodHandle" ∧ owner ≠ "java/lang/invoke/VarHandle" ∧ (parseMethodDescriptor x.desc).map (fun d => d.parameters.length) = some n
def WS (own : String) (idx : Nat) (y : MethodName) (n : Nat) : Prop := (∀ x ∈ ([.methodLink own idx y, .static y, .initialized y.cls] : List Cond), x ∈ lw_g) ∧ y.cls ≠ "java/lang/invoke/MethodHandle" ∧ y.cls ≠ "java/lang/invoke/VarHandle" ∧ (parseMethodDescriptor y.desc).map (fun d => d.parameters.length) = some n
theorem wsall {L : List Cond} {y : MethodName} {cc' : ByteArray} {nL' : Nat} {ret' : Option FieldType} (h : ∀ x ∈ L, x ∈ lw_g) (hc : Cond.code y cc' nL' ret' ∈ lw_g) : GoodIn lw_g (L ++ (.code y cc' nL' ret' :: lw_g)) :=
  lg_good (fun x hx => (List.mem_append.mp hx).elim (h x) (fun h2 => (List.mem_cons.mp h2).elim (fun e => e ▸ hc) (fun h3 => h3)))
theorem rm_ok {lev lev' nL' : Nat} (h : lev' + 1 ≤ lev) (h2 : nL' ≤ 11) : (rmL lev').frames + 1 ≤ (rmL lev).frames ∧ 8 + (nL' + 11) + (rmL lev').locals ≤ (rmL lev).locals := by
  refine ⟨h, ?_⟩
  show 8 + (nL' + 11) + 30 * lev' ≤ 30 * lev
  omega
theorem roomst {m : MethodId} {la : Array Slot} {x : List Value} {ad : Ad} (h : (st.map fun v => v.category).sum ≤ 8) : 2 * (F0 m pc la x).monitorRoom + ((st.map (tr ad)).map fun v => v.category).sum ≤ 8 := lv_room (by rw [tr_cats]; exact h)

theorem G_callV0v {idx : Nat} {y : MethodName} {cc' : ByteArray} {nL' : Nat} {ret' : Option FieldType} {lev' : Nat} {μ' : Mm} (a ci : Nat) {C0 : String} {T : u_T} {N : Nat} (hd : decode cc pc = .ok (.invokevirtual idx, 3)) (hw : WV own idx C0 y 0) (hcode : Cond.code y cc' nL' ret' ∈ lw_g) (hc : Cn w y cc' nL' ret' lev' (.ref a :: []) μ none μ') (hlev : lev' + 1 ≤ lev) (hnl : nL' ≤ 11) (hcl : vwCl[ci]? = some (C0, T, N)) (ha : a < w.1) (hcell : ∀ ad cs, ∃ fs, w.2 ad cs (μ.1 a) (μ.2 a) a = .inr (ci, fs)) (hroom : (st.map fun v => v.category).sum ≤ 8) (k : G w own cc nL ret lev r μr (pc + 3) ls st μ') : G w own cc nL ret lev r μr pc ls (.ref a :: st) μ := by
  intro p l e s m args below meth c ad cs D C H locs la hP hD hS hl
  obtain ⟨fs, hfs⟩ := hcell ad cs
  exact va_callQ (va_runV (As := []) (rest := st.map (tr ad)) ⟨C.1, C.2.1, C.2.2.1, C.2.2.2.2.2.1, C.2.2.2.2.2.2.1⟩ (hc l ad cs D H.size) (cwV 0 C.2.2.2.2.2.2.1 (wsall hw.1 hcode) rfl rfl rfl hw.2 (rm_ok hlev hnl)) ⟨Pw_blind, va_recv C.2.2.2.2.2.2.2.1 hP hcl ((ww_at ha).trans (by rw [hfs])), fun U hU hW => ⟨rfl, Pw_now C hP hD hS hU hW⟩⟩ rfl rfl hl.1 rfl (roomst hroom) hd ⟨Nat.le_refl _, Nat.le_refl _⟩) hS (fun H locs hP hD hS => k p l e s m args below meth c ad cs D C H locs la hP hD hS hl)
theorem G_callU0v {idx : Nat} {y : MethodName} {cc' : ByteArray} {nL' : Nat} {ret' : Option FieldType} {lev' : Nat} {μ' : Mm} {x : MethodName} {owner : String} (a ci : Nat) {C0 : String} {T : u_T} {N : Nat} (hd : decode cc pc = .ok (.invokevirtual idx, 3)) (hw : WU own idx C0 owner x y 0) (hyx : y = ⟨owner, x.name, x.desc⟩) (hcode : Cond.code y cc' nL' ret' ∈ lw_g) (hc : Cn w y cc' nL' ret' lev' (.ref a :: []) μ none μ') (hlev : lev' + 1 ≤ lev) (hnl : nL' ≤ 11) (hcl : vwCl[ci]? = some (C0, T, N)) (ha : a < w.1) (hcell : ∀ ad cs, ∃ fs, w.2 ad cs (μ.1 a) (μ.2 a) a = .inr (ci, fs)) (hroom : (st.map fun v => v.category).sum ≤ 8) (k : G w own cc nL ret lev r μr (pc + 3) ls st μ') : G w own cc nL ret lev r μr pc ls (.ref a :: st) μ := by
  intro p l e s m args below meth c ad cs D C H locs la hP hD hS hl
  obtain ⟨fs, hfs⟩ := hcell ad cs
  exact va_callQ (va_runU (As := []) (rest := st.map (tr ad)) ⟨C.1, C.2.1, C.2.2.1, C.2.2.2.2.2.1, C.2.2.2.2.2.2.1⟩ (hc l ad cs D H.size) (va_cwU 0 C.2.2.2.2.2.2.1 (wsall hw.1 hcode) rfl rfl rfl hyx hw.2 (rm_ok hlev hnl)) ⟨Pw_blind, va_recv C.2.2.2.2.2.2.2.1 hP hcl ((ww_at ha).trans (by rw [hfs])), fun U hU hW => ⟨rfl, Pw_now C hP hD hS hU hW⟩⟩ rfl rfl hl.1 rfl (roomst hroom) hd ⟨Nat.le_refl _, Nat.le_refl _⟩) hS (fun H locs hP hD hS => k p l e s m args below meth c ad cs D C H locs la hP hD hS hl)
theorem G_callA0v {idx : Nat} {y : MethodName} {cc' : ByteArray} {nL' : Nat} {ret' : Option FieldType} {lev' : Nat} {μ' : Mm} {x : MethodName} {owner : String} (a ci : Nat) {C0 : String} {T : u_T} {N : Nat} (hd : decode cc pc = .ok (.invokevirtual idx, 3)) (hw : WU own idx C0 owner x y 0) (hz : ∀ U, Nx U → va_Nw (.declares ⟨owner, x.name, x.desc⟩) U) (hcode : Cond.code y cc' nL' ret' ∈ lw_g) (hc : Cn w y cc' nL' ret' lev' (.ref a :: []) μ none μ') (hlev : lev' + 1 ≤ lev) (hnl : nL' ≤ 11) (hcl : vwCl[ci]? = some (C0, T, N)) (ha : a < w.1) (hcell : ∀ ad cs, ∃ fs, w.2 ad cs (μ.1 a) (μ.2 a) a = .inr (ci, fs)) (hroom : (st.map fun v => v.category).sum ≤ 8) (k : G w own cc nL ret lev r μr (pc + 3) ls st μ') : G w own cc nL ret lev r μr pc ls (.ref a :: st) μ := by
  intro p l e s m args below meth c ad cs D C H locs la hP hD hS hl
  obtain ⟨fs, hfs⟩ := hcell ad cs
  exact va_callQ (va_runU (As := []) (rest := st.map (tr ad)) ⟨C.1, C.2.1, C.2.2.1, C.2.2.2.2.2.1, C.2.2.2.2.2.2.1⟩ (hc l ad cs D H.size) (va_cwA 0 C.2.2.2.2.2.2.1 (wsall hw.1 hcode) rfl rfl rfl (hz s C.2.2.2.2.2.2.2.2.2) hw.2 (rm_ok hlev hnl)) ⟨Pw_blind, va_recv C.2.2.2.2.2.2.2.1 hP hcl ((ww_at ha).trans (by rw [hfs])), fun U hU hW => ⟨rfl, Pw_now C hP hD hS hU hW⟩⟩ rfl rfl hl.1 rfl (roomst hroom) hd ⟨Nat.le_refl _, Nat.le_refl _⟩) hS (fun H locs hP hD hS => k p l e s m args below meth c ad cs D C H locs la hP hD hS hl)
theorem G_callS0v {idx : Nat} {y : MethodName} {cc' : ByteArray} {nL' : Nat} {ret' : Option FieldType} {lev' : Nat} {μ' : Mm} (hd : decode cc pc = .ok (.invokestatic idx, 3)) (hw : WS own idx y 0) (hcode : Cond.code y cc' nL' ret' ∈ lw_g) (hc : Cn w y cc' nL' ret' lev' [] μ none μ') (hlev : lev' + 1 ≤ lev) (hnl : nL' ≤ 11) (hroom : (st.map fun v => v.category).sum ≤ 8) (k : G w own cc nL ret lev r μr (pc + 3) ls st μ') : G w own cc nL ret lev r μr pc ls (st) μ :=
  fun p l e s m args below meth c ad cs D C H locs la hP hD hS hl => va_callQ (va_runS (As := []) (rest := st.map (tr ad)) ⟨C.1, C.2.1, C.2.2.1, C.2.2.2.2.2.1, C.2.2.2.2.2.2.1⟩ (hc l ad cs D H.size) (va_cwS 0 C.2.2.2.2.2.2.1 (wsall hw.1 hcode) rfl rfl rfl hw.2 (rm_ok hlev hnl)) ⟨Pw_blind, fun U hU hW => ⟨rfl, Pw_now C hP hD hS hU hW⟩⟩ rfl rfl hl.1 rfl (roomst hroom) hd ⟨Nat.le_refl _, Nat.le_refl _⟩) hS (fun H locs hP hD hS => k p l e s m args below meth c ad cs D C H locs la hP hD hS hl)
theorem G_callN0v {idx : Nat} {y : MethodName} {cc' : ByteArray} {nL' : Nat} {ret' : Option FieldType} {lev' : Nat} {μ' : Mm} {host : String} (hd : decode cc pc = .ok (.invokestatic idx, 3)) (hw : (∀ x ∈ ([.static y, .initialized y.cls] : List Cond), x ∈ lw_g) ∧ y.cls ≠ "java/lang/invoke/MethodHandle" ∧ y.cls ≠ "java/lang/invoke/VarHandle" ∧ (parseMethodDescriptor y.desc).map (fun d => d.parameters.length) = some 0) (hz : ∀ U, Nx U → va_Nw (.methodLinkNest own idx y host) U) (hcode : Cond.code y cc' nL' ret' ∈ lw_g) (hc : Cn w y cc' nL' ret' lev' [] μ none μ') (hlev : lev' + 1 ≤ lev) (hnl : nL' ≤ 11) (hroom : (st.map fun v => v.category).sum ≤ 8) (k : G w own cc nL ret lev r μr (pc + 3) ls st μ') : G w own cc nL ret lev r μr pc ls (st) μ :=
  fun p l e s m args below meth c ad cs D C H locs la hP hD hS hl => va_callQ (va_runSN (As := []) (rest := st.map (tr ad)) ⟨C.1, C.2.1, C.2.2.1, C.2.2.2.2.2.1, C.2.2.2.2.2.2.1⟩ (hc l ad cs D H.size) ⟨va_cnB 0 C.2.2.2.2.2.2.1 (wsall (L := []) (fun _ h => absurd h List.not_mem_nil) hcode) rfl rfl rfl (hz s C.2.2.2.2.2.2.2.2.2) (C.2.2.2.2.2.2.1 _ (hw.1 _ (by simp))) hw.2 (rm_ok hlev hnl), C.2.2.2.2.2.2.1 _ (hw.1 _ (by simp)), trivial⟩ ⟨Pw_blind, fun U hU hW => ⟨rfl, Pw_now C hP hD hS hU hW⟩⟩ rfl rfl hl.1 rfl (roomst hroom) hd ⟨Nat.le_refl _, Nat.le_refl _⟩) hS (fun H locs hP hD hS => k p l e s m args below meth c ad cs D C H locs la hP hD hS hl)
theorem G_callV0r {idx : Nat} {y : MethodName} {cc' : ByteArray} {nL' : Nat} {ret' : Option FieldType} {lev' : Nat} {vr : Value} {μ' : Mm} (a ci : Nat) {C0 : String} {T : u_T} {N : Nat} (hd : decode cc pc = .ok (.invokevirtual idx, 3)) (hw : WV own idx C0 y 0) (hcode : Cond.code y cc' nL' ret' ∈ lw_g) (hc : Cn w y cc' nL' ret' lev' (.ref a :: []) μ (some vr) μ') (hlev : lev' + 1 ≤ lev) (hnl : nL' ≤ 11) (hcl : vwCl[ci]? = some (C0, T, N)) (ha : a < w.1) (hcell : ∀ ad cs, ∃ fs, w.2 ad cs (μ.1 a) (μ.2 a) a = .inr (ci, fs)) (hroom : (st.map fun v => v.category).sum ≤ 8) (k : G w own cc nL ret lev r μr (pc + 3) ls (vr :: st) μ') : G w own cc nL ret lev r μr pc ls (.ref a :: st) μ := by
  intro p l e s m args below meth c ad cs D C H locs la hP hD hS hl
  obtain ⟨fs, hfs⟩ := hcell ad cs
  exact va_callQ (va_runV (As := []) (rest := st.map (tr ad)) ⟨C.1, C.2.1, C.2.2.1, C.2.2.2.2.2.1, C.2.2.2.2.2.2.1⟩ (hc l ad cs D H.size) (cwV 0 C.2.2.2.2.2.2.1 (wsall hw.1 hcode) rfl rfl rfl hw.2 (rm_ok hlev hnl)) ⟨Pw_blind, va_recv C.2.2.2.2.2.2.2.1 hP hcl ((ww_at ha).trans (by rw [hfs])), fun U hU hW => ⟨rfl, Pw_now C hP hD hS hU hW⟩⟩ rfl rfl hl.1 rfl (roomst hroom) hd ⟨Nat.le_refl _, Nat.le_refl _⟩) hS (fun H locs hP hD hS => k p l e s m args below meth c ad cs D C H locs la hP hD hS hl)
theorem G_callU0r {idx : Nat} {y : MethodName} {cc' : ByteArray} {nL' : Nat} {ret' : Option FieldType} {lev' : Nat} {vr : Value} {μ' : Mm} {x : MethodName} {owner : String} (a ci : Nat) {C0 : String} {T : u_T} {N : Nat} (hd : decode cc pc = .ok (.invokevirtual idx, 3)) (hw : WU own idx C0 owner x y 0) (hyx : y = ⟨owner, x.name, x.desc⟩) (hcode : Cond.code y cc' nL' ret' ∈ lw_g) (hc : Cn w y cc' nL' ret' lev' (.ref a :: []) μ (some vr) μ') (hlev : lev' + 1 ≤ lev) (hnl : nL' ≤ 11) (hcl : vwCl[ci]? = some (C0, T, N)) (ha : a < w.1) (hcell : ∀ ad cs, ∃ fs, w.2 ad cs (μ.1 a) (μ.2 a) a = .inr (ci, fs)) (hroom : (st.map fun v => v.category).sum ≤ 8) (k : G w own cc nL ret lev r μr (pc + 3) ls (vr :: st) μ') : G w own cc nL ret lev r μr pc ls (.ref a :: st) μ := by
  intro p l e s m args below meth c ad cs D C H locs la hP hD hS hl
  obtain ⟨fs, hfs⟩ := hcell ad cs
  exact va_callQ (va_runU (As := []) (rest := st.map (tr ad)) ⟨C.1, C.2.1, C.2.2.1, C.2.2.2.2.2.1, C.2.2.2.2.2.2.1⟩ (hc l ad cs D H.size) (va_cwU 0 C.2.2.2.2.2.2.1 (wsall hw.1 hcode) rfl rfl rfl hyx hw.2 (rm_ok hlev hnl)) ⟨Pw_blind, va_recv C.2.2.2.2.2.2.2.1 hP hcl ((ww_at ha).trans (by rw [hfs])), fun U hU hW => ⟨rfl, Pw_now C hP hD hS hU hW⟩⟩ rfl rfl hl.1 rfl (roomst hroom) hd ⟨Nat.le_refl _, Nat.le_refl _⟩) hS (fun H locs hP hD hS => k p l e s m args below meth c ad cs D C H locs la hP hD hS hl)
theorem G_callA0r {idx : Nat} {y : MethodName} {cc' : ByteArray} {nL' : Nat} {ret' : Option FieldType} {lev' : Nat} {vr : Value} {μ' : Mm} {x : MethodName} {owner : String} (a ci : Nat) {C0 : String} {T : u_T} {N : Nat} (hd : decode cc pc = .ok (.invokevirtual idx, 3)) (hw : WU own idx C0 owner x y 0) (hz : ∀ U, Nx U → va_Nw (.declares ⟨owner, x.name, x.desc⟩) U) (hcode : Cond.code y cc' nL' ret' ∈ lw_g) (hc : Cn w y cc' nL' ret' lev' (.ref a :: []) μ (some vr) μ') (hlev : lev' + 1 ≤ lev) (hnl : nL' ≤ 11) (hcl : vwCl[ci]? = some (C0, T, N)) (ha : a < w.1) (hcell : ∀ ad cs, ∃ fs, w.2 ad cs (μ.1 a) (μ.2 a) a = .inr (ci, fs)) (hroom : (st.map fun v => v.category).sum ≤ 8) (k : G w own cc nL ret lev r μr (pc + 3) ls (vr :: st) μ') : G w own cc nL ret lev r μr pc ls (.ref a :: st) μ := by
  intro p l e s m args below meth c ad cs D C H locs la hP hD hS hl
  obtain ⟨fs, hfs⟩ := hcell ad cs
  exact va_callQ (va_runU (As := []) (rest := st.map (tr ad)) ⟨C.1, C.2.1, C.2.2.1, C.2.2.2.2.2.1, C.2.2.2.2.2.2.1⟩ (hc l ad cs D H.size) (va_cwA 0 C.2.2.2.2.2.2.1 (wsall hw.1 hcode) rfl rfl rfl (hz s C.2.2.2.2.2.2.2.2.2) hw.2 (rm_ok hlev hnl)) ⟨Pw_blind, va_recv C.2.2.2.2.2.2.2.1 hP hcl ((ww_at ha).trans (by rw [hfs])), fun U hU hW => ⟨rfl, Pw_now C hP hD hS hU hW⟩⟩ rfl rfl hl.1 rfl (roomst hroom) hd ⟨Nat.le_refl _, Nat.le_refl _⟩) hS (fun H locs hP hD hS => k p l e s m args below meth c ad cs D C H locs la hP hD hS hl)
theorem G_callS0r {idx : Nat} {y : MethodName} {cc' : ByteArray} {nL' : Nat} {ret' : Option FieldType} {lev' : Nat} {vr : Value} {μ' : Mm} (hd : decode cc pc = .ok (.invokestatic idx, 3)) (hw : WS own idx y 0) (hcode : Cond.code y cc' nL' ret' ∈ lw_g) (hc : Cn w y cc' nL' ret' lev' [] μ (some vr) μ') (hlev : lev' + 1 ≤ lev) (hnl : nL' ≤ 11) (hroom : (st.map fun v => v.category).sum ≤ 8) (k : G w own cc nL ret lev r μr (pc + 3) ls (vr :: st) μ') : G w own cc nL ret lev r μr pc ls (st) μ :=
  fun p l e s m args below meth c ad cs D C H locs la hP hD hS hl => va_callQ (va_runS (As := []) (rest := st.map (tr ad)) ⟨C.1, C.2.1, C.2.2.1, C.2.2.2.2.2.1, C.2.2.2.2.2.2.1⟩ (hc l ad cs D H.size) (va_cwS 0 C.2.2.2.2.2.2.1 (wsall hw.1 hcode) rfl rfl rfl hw.2 (rm_ok hlev hnl)) ⟨Pw_blind, fun U hU hW => ⟨rfl, Pw_now C hP hD hS hU hW⟩⟩ rfl rfl hl.1 rfl (roomst hroom) hd ⟨Nat.le_refl _, Nat.le_refl _⟩) hS (fun H locs hP hD hS => k p l e s m args below meth c ad cs D C H locs la hP hD hS hl)
theorem G_callN0r {idx : Nat} {y : MethodName} {cc' : ByteArray} {nL' : Nat} {ret' : Option FieldType} {lev' : Nat} {vr : Value} {μ' : Mm} {host : String} (hd : decode cc pc = .ok (.invokestatic idx, 3)) (hw : (∀ x ∈ ([.static y, .initialized y.cls] : List Cond), x ∈ lw_g) ∧ y.cls ≠ "java/lang/invoke/MethodHandle" ∧ y.cls ≠ "java/lang/invoke/VarHandle" ∧ (parseMethodDescriptor y.desc).map (fun d => d.parameters.length) = some 0) (hz : ∀ U, Nx U → va_Nw (.methodLinkNest own idx y host) U) (hcode : Cond.code y cc' nL' ret' ∈ lw_g) (hc : Cn w y cc' nL' ret' lev' [] μ (some vr) μ') (hlev : lev' + 1 ≤ lev) (hnl : nL' ≤ 11) (hroom : (st.map fun v => v.category).sum ≤ 8) (k : G w own cc nL ret lev r μr (pc + 3) ls (vr :: st) μ') : G w own cc nL ret lev r μr pc ls (st) μ :=
  fun p l e s m args below meth c ad cs D C H locs la hP hD hS hl => va_callQ (va_runSN (As := []) (rest := st.map (tr ad)) ⟨C.1, C.2.1, C.2.2.1, C.2.2.2.2.2.1, C.2.2.2.2.2.2.1⟩ (hc l ad cs D H.size) ⟨va_cnB 0 C.2.2.2.2.2.2.1 (wsall (L := []) (fun _ h => absurd h List.not_mem_nil) hcode) rfl rfl rfl (hz s C.2.2.2.2.2.2.2.2.2) (C.2.2.2.2.2.2.1 _ (hw.1 _ (by simp))) hw.2 (rm_ok hlev hnl), C.2.2.2.2.2.2.1 _ (hw.1 _ (by simp)), trivial⟩ ⟨Pw_blind, fun U hU hW => ⟨rfl, Pw_now C hP hD hS hU hW⟩⟩ rfl rfl hl.1 rfl (roomst hroom) hd ⟨Nat.le_refl _, Nat.le_refl _⟩) hS (fun H locs hP hD hS => k p l e s m args below meth c ad cs D C H locs la hP hD hS hl)
theorem G_callV1v {idx : Nat} {y : MethodName} {cc' : ByteArray} {nL' : Nat} {ret' : Option FieldType} {lev' : Nat} {v1 : Value} {μ' : Mm} (a ci : Nat) {C0 : String} {T : u_T} {N : Nat} (hd : decode cc pc = .ok (.invokevirtual idx, 3)) (hw : WV own idx C0 y 1) (hcode : Cond.code y cc' nL' ret' ∈ lw_g) (hc : Cn w y cc' nL' ret' lev' (.ref a :: [v1]) μ none μ') (hlev : lev' + 1 ≤ lev) (hnl : nL' ≤ 11) (hcl : vwCl[ci]? = some (C0, T, N)) (ha : a < w.1) (hcell : ∀ ad cs, ∃ fs, w.2 ad cs (μ.1 a) (μ.2 a) a = .inr (ci, fs)) (hroom : (st.map fun v => v.category).sum ≤ 8) (k : G w own cc nL ret lev r μr (pc + 3) ls st μ') : G w own cc nL ret lev r μr pc ls (v1 :: .ref a :: st) μ := by
  intro p l e s m args below meth c ad cs D C H locs la hP hD hS hl
  obtain ⟨fs, hfs⟩ := hcell ad cs
  exact va_callQ (va_runV (As := [tr ad v1]) (rest := st.map (tr ad)) ⟨C.1, C.2.1, C.2.2.1, C.2.2.2.2.2.1, C.2.2.2.2.2.2.1⟩ (hc l ad cs D H.size) (cwV 1 C.2.2.2.2.2.2.1 (wsall hw.1 hcode) rfl rfl rfl hw.2 (rm_ok hlev hnl)) ⟨Pw_blind, va_recv C.2.2.2.2.2.2.2.1 hP hcl ((ww_at ha).trans (by rw [hfs])), fun U hU hW => ⟨rfl, Pw_now C hP hD hS hU hW⟩⟩ rfl rfl hl.1 rfl (roomst hroom) hd ⟨Nat.le_refl _, Nat.le_refl _⟩) hS (fun H locs hP hD hS => k p l e s m args below meth c ad cs D C H locs la hP hD hS hl)
theorem G_callU1v {idx : Nat} {y : MethodName} {cc' : ByteArray} {nL' : Nat} {ret' : Option FieldType} {lev' : Nat} {v1 : Value} {μ' : Mm} {x : MethodName} {owner : String} (a ci : Nat) {C0 : String} {T : u_T} {N : Nat} (hd : decode cc pc = .ok (.invokevirtual idx, 3)) (hw : WU own idx C0 owner x y 1) (hyx : y = ⟨owner, x.name, x.desc⟩) (hcode : Cond.code y cc' nL' ret' ∈ lw_g) (hc : Cn w y cc' nL' ret' lev' (.ref a :: [v1]) μ none μ') (hlev : lev' + 1 ≤ lev) (hnl : nL' ≤ 11) (hcl : vwCl[ci]? = some (C0, T, N)) (ha : a < w.1) (hcell : ∀ ad cs, ∃ fs, w.2 ad cs (μ.1 a) (μ.2 a) a = .inr (ci, fs)) (hroom : (st.map fun v => v.category).sum ≤ 8) (k : G w own cc nL ret lev r μr (pc + 3) ls st μ') : G w own cc nL ret lev r μr pc ls (v1 :: .ref a :: st) μ := by
  intro p l e s m args below meth c ad cs D C H locs la hP hD hS hl
  obtain ⟨fs, hfs⟩ := hcell ad cs
  exact va_callQ (va_runU (As := [tr ad v1]) (rest := st.map (tr ad)) ⟨C.1, C.2.1, C.2.2.1, C.2.2.2.2.2.1, C.2.2.2.2.2.2.1⟩ (hc l ad cs D H.size) (va_cwU 1 C.2.2.2.2.2.2.1 (wsall hw.1 hcode) rfl rfl rfl hyx hw.2 (rm_ok hlev hnl)) ⟨Pw_blind, va_recv C.2.2.2.2.2.2.2.1 hP hcl ((ww_at ha).trans (by rw [hfs])), fun U hU hW => ⟨rfl, Pw_now C hP hD hS hU hW⟩⟩ rfl rfl hl.1 rfl (roomst hroom) hd ⟨Nat.le_refl _, Nat.le_refl _⟩) hS (fun H locs hP hD hS => k p l e s m args below meth c ad cs D C H locs la hP hD hS hl)
theorem G_callA1v {idx : Nat} {y : MethodName} {cc' : ByteArray} {nL' : Nat} {ret' : Option FieldType} {lev' : Nat} {v1 : Value} {μ' : Mm} {x : MethodName} {owner : String} (a ci : Nat) {C0 : String} {T : u_T} {N : Nat} (hd : decode cc pc = .ok (.invokevirtual idx, 3)) (hw : WU own idx C0 owner x y 1) (hz : ∀ U, Nx U → va_Nw (.declares ⟨owner, x.name, x.desc⟩) U) (hcode : Cond.code y cc' nL' ret' ∈ lw_g) (hc : Cn w y cc' nL' ret' lev' (.ref a :: [v1]) μ none μ') (hlev : lev' + 1 ≤ lev) (hnl : nL' ≤ 11) (hcl : vwCl[ci]? = some (C0, T, N)) (ha : a < w.1) (hcell : ∀ ad cs, ∃ fs, w.2 ad cs (μ.1 a) (μ.2 a) a = .inr (ci, fs)) (hroom : (st.map fun v => v.category).sum ≤ 8) (k : G w own cc nL ret lev r μr (pc + 3) ls st μ') : G w own cc nL ret lev r μr pc ls (v1 :: .ref a :: st) μ := by
  intro p l e s m args below meth c ad cs D C H locs la hP hD hS hl
  obtain ⟨fs, hfs⟩ := hcell ad cs
  exact va_callQ (va_runU (As := [tr ad v1]) (rest := st.map (tr ad)) ⟨C.1, C.2.1, C.2.2.1, C.2.2.2.2.2.1, C.2.2.2.2.2.2.1⟩ (hc l ad cs D H.size) (va_cwA 1 C.2.2.2.2.2.2.1 (wsall hw.1 hcode) rfl rfl rfl (hz s C.2.2.2.2.2.2.2.2.2) hw.2 (rm_ok hlev hnl)) ⟨Pw_blind, va_recv C.2.2.2.2.2.2.2.1 hP hcl ((ww_at ha).trans (by rw [hfs])), fun U hU hW => ⟨rfl, Pw_now C hP hD hS hU hW⟩⟩ rfl rfl hl.1 rfl (roomst hroom) hd ⟨Nat.le_refl _, Nat.le_refl _⟩) hS (fun H locs hP hD hS => k p l e s m args below meth c ad cs D C H locs la hP hD hS hl)
theorem G_callS1v {idx : Nat} {y : MethodName} {cc' : ByteArray} {nL' : Nat} {ret' : Option FieldType} {lev' : Nat} {v1 : Value} {μ' : Mm} (hd : decode cc pc = .ok (.invokestatic idx, 3)) (hw : WS own idx y 1) (hcode : Cond.code y cc' nL' ret' ∈ lw_g) (hc : Cn w y cc' nL' ret' lev' [v1] μ none μ') (hlev : lev' + 1 ≤ lev) (hnl : nL' ≤ 11) (hroom : (st.map fun v => v.category).sum ≤ 8) (k : G w own cc nL ret lev r μr (pc + 3) ls st μ') : G w own cc nL ret lev r μr pc ls (v1 :: st) μ :=
  fun p l e s m args below meth c ad cs D C H locs la hP hD hS hl => va_callQ (va_runS (As := [tr ad v1]) (rest := st.map (tr ad)) ⟨C.1, C.2.1, C.2.2.1, C.2.2.2.2.2.1, C.2.2.2.2.2.2.1⟩ (hc l ad cs D H.size) (va_cwS 1 C.2.2.2.2.2.2.1 (wsall hw.1 hcode) rfl rfl rfl hw.2 (rm_ok hlev hnl)) ⟨Pw_blind, fun U hU hW => ⟨rfl, Pw_now C hP hD hS hU hW⟩⟩ rfl rfl hl.1 rfl (roomst hroom) hd ⟨Nat.le_refl _, Nat.le_refl _⟩) hS (fun H locs hP hD hS => k p l e s m args below meth c ad cs D C H locs la hP hD hS hl)
theorem G_callN1v {idx : Nat} {y : MethodName} {cc' : ByteArray} {nL' : Nat} {ret' : Option FieldType} {lev' : Nat} {v1 : Value} {μ' : Mm} {host : String} (hd : decode cc pc = .ok (.invokestatic idx, 3)) (hw : (∀ x ∈ ([.static y, .initialized y.cls] : List Cond), x ∈ lw_g) ∧ y.cls ≠ "java/lang/invoke/MethodHandle" ∧ y.cls ≠ "java/lang/invoke/VarHandle" ∧ (parseMethodDescriptor y.desc).map (fun d => d.parameters.length) = some 1) (hz : ∀ U, Nx U → va_Nw (.methodLinkNest own idx y host) U) (hcode : Cond.code y cc' nL' ret' ∈ lw_g) (hc : Cn w y cc' nL' ret' lev' [v1] μ none μ') (hlev : lev' + 1 ≤ lev) (hnl : nL' ≤ 11) (hroom : (st.map fun v => v.category).sum ≤ 8) (k : G w own cc nL ret lev r μr (pc + 3) ls st μ') : G w own cc nL ret lev r μr pc ls (v1 :: st) μ :=
  fun p l e s m args below meth c ad cs D C H locs la hP hD hS hl => va_callQ (va_runSN (As := [tr ad v1]) (rest := st.map (tr ad)) ⟨C.1, C.2.1, C.2.2.1, C.2.2.2.2.2.1, C.2.2.2.2.2.2.1⟩ (hc l ad cs D H.size) ⟨va_cnB 1 C.2.2.2.2.2.2.1 (wsall (L := []) (fun _ h => absurd h List.not_mem_nil) hcode) rfl rfl rfl (hz s C.2.2.2.2.2.2.2.2.2) (C.2.2.2.2.2.2.1 _ (hw.1 _ (by simp))) hw.2 (rm_ok hlev hnl), C.2.2.2.2.2.2.1 _ (hw.1 _ (by simp)), trivial⟩ ⟨Pw_blind, fun U hU hW => ⟨rfl, Pw_now C hP hD hS hU hW⟩⟩ rfl rfl hl.1 rfl (roomst hroom) hd ⟨Nat.le_refl _, Nat.le_refl _⟩) hS (fun H locs hP hD hS => k p l e s m args below meth c ad cs D C H locs la hP hD hS hl)
theorem G_callV1r {idx : Nat} {y : MethodName} {cc' : ByteArray} {nL' : Nat} {ret' : Option FieldType} {lev' : Nat} {v1 : Value} {vr : Value} {μ' : Mm} (a ci : Nat) {C0 : String} {T : u_T} {N : Nat} (hd : decode cc pc = .ok (.invokevirtual idx, 3)) (hw : WV own idx C0 y 1) (hcode : Cond.code y cc' nL' ret' ∈ lw_g) (hc : Cn w y cc' nL' ret' lev' (.ref a :: [v1]) μ (some vr) μ') (hlev : lev' + 1 ≤ lev) (hnl : nL' ≤ 11) (hcl : vwCl[ci]? = some (C0, T, N)) (ha : a < w.1) (hcell : ∀ ad cs, ∃ fs, w.2 ad cs (μ.1 a) (μ.2 a) a = .inr (ci, fs)) (hroom : (st.map fun v => v.category).sum ≤ 8) (k : G w own cc nL ret lev r μr (pc + 3) ls (vr :: st) μ') : G w own cc nL ret lev r μr pc ls (v1 :: .ref a :: st) μ := by
  intro p l e s m args below meth c ad cs D C H locs la hP hD hS hl
  obtain ⟨fs, hfs⟩ := hcell ad cs
  exact va_callQ (va_runV (As := [tr ad v1]) (rest := st.map (tr ad)) ⟨C.1, C.2.1, C.2.2.1, C.2.2.2.2.2.1, C.2.2.2.2.2.2.1⟩ (hc l ad cs D H.size) (cwV 1 C.2.2.2.2.2.2.1 (wsall hw.1 hcode) rfl rfl rfl hw.2 (rm_ok hlev hnl)) ⟨Pw_blind, va_recv C.2.2.2.2.2.2.2.1 hP hcl ((ww_at ha).trans (by rw [hfs])), fun U hU hW => ⟨rfl, Pw_now C hP hD hS hU hW⟩⟩ rfl rfl hl.1 rfl (roomst hroom) hd ⟨Nat.le_refl _, Nat.le_refl _⟩) hS (fun H locs hP hD hS => k p l e s m args below meth c ad cs D C H locs la hP hD hS hl)
theorem G_callU1r {idx : Nat} {y : MethodName} {cc' : ByteArray} {nL' : Nat} {ret' : Option FieldType} {lev' : Nat} {v1 : Value} {vr : Value} {μ' : Mm} {x : MethodName} {owner : String} (a ci : Nat) {C0 : String} {T : u_T} {N : Nat} (hd : decode cc pc = .ok (.invokevirtual idx, 3)) (hw : WU own idx C0 owner x y 1) (hyx : y = ⟨owner, x.name, x.desc⟩) (hcode : Cond.code y cc' nL' ret' ∈ lw_g) (hc : Cn w y cc' nL' ret' lev' (.ref a :: [v1]) μ (some vr) μ') (hlev : lev' + 1 ≤ lev) (hnl : nL' ≤ 11) (hcl : vwCl[ci]? = some (C0, T, N)) (ha : a < w.1) (hcell : ∀ ad cs, ∃ fs, w.2 ad cs (μ.1 a) (μ.2 a) a = .inr (ci, fs)) (hroom : (st.map fun v => v.category).sum ≤ 8) (k : G w own cc nL ret lev r μr (pc + 3) ls (vr :: st) μ') : G w own cc nL ret lev r μr pc ls (v1 :: .ref a :: st) μ := by
  intro p l e s m args below meth c ad cs D C H locs la hP hD hS hl
  obtain ⟨fs, hfs⟩ := hcell ad cs
  exact va_callQ (va_runU (As := [tr ad v1]) (rest := st.map (tr ad)) ⟨C.1, C.2.1, C.2.2.1, C.2.2.2.2.2.1, C.2.2.2.2.2.2.1⟩ (hc l ad cs D H.size) (va_cwU 1 C.2.2.2.2.2.2.1 (wsall hw.1 hcode) rfl rfl rfl hyx hw.2 (rm_ok hlev hnl)) ⟨Pw_blind, va_recv C.2.2.2.2.2.2.2.1 hP hcl ((ww_at ha).trans (by rw [hfs])), fun U hU hW => ⟨rfl, Pw_now C hP hD hS hU hW⟩⟩ rfl rfl hl.1 rfl (roomst hroom) hd ⟨Nat.le_refl _, Nat.le_refl _⟩) hS (fun H locs hP hD hS => k p l e s m args below meth c ad cs D C H locs la hP hD hS hl)
theorem G_callA1r {idx : Nat} {y : MethodName} {cc' : ByteArray} {nL' : Nat} {ret' : Option FieldType} {lev' : Nat} {v1 : Value} {vr : Value} {μ' : Mm} {x : MethodName} {owner : String} (a ci : Nat) {C0 : String} {T : u_T} {N : Nat} (hd : decode cc pc = .ok (.invokevirtual idx, 3)) (hw : WU own idx C0 owner x y 1) (hz : ∀ U, Nx U → va_Nw (.declares ⟨owner, x.name, x.desc⟩) U) (hcode : Cond.code y cc' nL' ret' ∈ lw_g) (hc : Cn w y cc' nL' ret' lev' (.ref a :: [v1]) μ (some vr) μ') (hlev : lev' + 1 ≤ lev) (hnl : nL' ≤ 11) (hcl : vwCl[ci]? = some (C0, T, N)) (ha : a < w.1) (hcell : ∀ ad cs, ∃ fs, w.2 ad cs (μ.1 a) (μ.2 a) a = .inr (ci, fs)) (hroom : (st.map fun v => v.category).sum ≤ 8) (k : G w own cc nL ret lev r μr (pc + 3) ls (vr :: st) μ') : G w own cc nL ret lev r μr pc ls (v1 :: .ref a :: st) μ := by
  intro p l e s m args below meth c ad cs D C H locs la hP hD hS hl
  obtain ⟨fs, hfs⟩ := hcell ad cs
  exact va_callQ (va_runU (As := [tr ad v1]) (rest := st.map (tr ad)) ⟨C.1, C.2.1, C.2.2.1, C.2.2.2.2.2.1, C.2.2.2.2.2.2.1⟩ (hc l ad cs D H.size) (va_cwA 1 C.2.2.2.2.2.2.1 (wsall hw.1 hcode) rfl rfl rfl (hz s C.2.2.2.2.2.2.2.2.2) hw.2 (rm_ok hlev hnl)) ⟨Pw_blind, va_recv C.2.2.2.2.2.2.2.1 hP hcl ((ww_at ha).trans (by rw [hfs])), fun U hU hW => ⟨rfl, Pw_now C hP hD hS hU hW⟩⟩ rfl rfl hl.1 rfl (roomst hroom) hd ⟨Nat.le_refl _, Nat.le_refl _⟩) hS (fun H locs hP hD hS => k p l e s m args below meth c ad cs D C H locs la hP hD hS hl)
theorem G_callS1r {idx : Nat} {y : MethodName} {cc' : ByteArray} {nL' : Nat} {ret' : Option FieldType} {lev' : Nat} {v1 : Value} {vr : Value} {μ' : Mm} (hd : decode cc pc = .ok (.invokestatic idx, 3)) (hw : WS own idx y 1) (hcode : Cond.code y cc' nL' ret' ∈ lw_g) (hc : Cn w y cc' nL' ret' lev' [v1] μ (some vr) μ') (hlev : lev' + 1 ≤ lev) (hnl : nL' ≤ 11) (hroom : (st.map fun v => v.category).sum ≤ 8) (k : G w own cc nL ret lev r μr (pc + 3) ls (vr :: st) μ') : G w own cc nL ret lev r μr pc ls (v1 :: st) μ :=
  fun p l e s m args below meth c ad cs D C H locs la hP hD hS hl => va_callQ (va_runS (As := [tr ad v1]) (rest := st.map (tr ad)) ⟨C.1, C.2.1, C.2.2.1, C.2.2.2.2.2.1, C.2.2.2.2.2.2.1⟩ (hc l ad cs D H.size) (va_cwS 1 C.2.2.2.2.2.2.1 (wsall hw.1 hcode) rfl rfl rfl hw.2 (rm_ok hlev hnl)) ⟨Pw_blind, fun U hU hW => ⟨rfl, Pw_now C hP hD hS hU hW⟩⟩ rfl rfl hl.1 rfl (roomst hroom) hd ⟨Nat.le_refl _, Nat.le_refl _⟩) hS (fun H locs hP hD hS => k p l e s m args below meth c ad cs D C H locs la hP hD hS hl)
theorem G_callN1r {idx : Nat} {y : MethodName} {cc' : ByteArray} {nL' : Nat} {ret' : Option FieldType} {lev' : Nat} {v1 : Value} {vr : Value} {μ' : Mm} {host : String} (hd : decode cc pc = .ok (.invokestatic idx, 3)) (hw : (∀ x ∈ ([.static y, .initialized y.cls] : List Cond), x ∈ lw_g) ∧ y.cls ≠ "java/lang/invoke/MethodHandle" ∧ y.cls ≠ "java/lang/invoke/VarHandle" ∧ (parseMethodDescriptor y.desc).map (fun d => d.parameters.length) = some 1) (hz : ∀ U, Nx U → va_Nw (.methodLinkNest own idx y host) U) (hcode : Cond.code y cc' nL' ret' ∈ lw_g) (hc : Cn w y cc' nL' ret' lev' [v1] μ (some vr) μ') (hlev : lev' + 1 ≤ lev) (hnl : nL' ≤ 11) (hroom : (st.map fun v => v.category).sum ≤ 8) (k : G w own cc nL ret lev r μr (pc + 3) ls (vr :: st) μ') : G w own cc nL ret lev r μr pc ls (v1 :: st) μ :=
  fun p l e s m args below meth c ad cs D C H locs la hP hD hS hl => va_callQ (va_runSN (As := [tr ad v1]) (rest := st.map (tr ad)) ⟨C.1, C.2.1, C.2.2.1, C.2.2.2.2.2.1, C.2.2.2.2.2.2.1⟩ (hc l ad cs D H.size) ⟨va_cnB 1 C.2.2.2.2.2.2.1 (wsall (L := []) (fun _ h => absurd h List.not_mem_nil) hcode) rfl rfl rfl (hz s C.2.2.2.2.2.2.2.2.2) (C.2.2.2.2.2.2.1 _ (hw.1 _ (by simp))) hw.2 (rm_ok hlev hnl), C.2.2.2.2.2.2.1 _ (hw.1 _ (by simp)), trivial⟩ ⟨Pw_blind, fun U hU hW => ⟨rfl, Pw_now C hP hD hS hU hW⟩⟩ rfl rfl hl.1 rfl (roomst hroom) hd ⟨Nat.le_refl _, Nat.le_refl _⟩) hS (fun H locs hP hD hS => k p l e s m args below meth c ad cs D C H locs la hP hD hS hl)
theorem G_callV2v {idx : Nat} {y : MethodName} {cc' : ByteArray} {nL' : Nat} {ret' : Option FieldType} {lev' : Nat} {v1 v2 : Value} {μ' : Mm} (a ci : Nat) {C0 : String} {T : u_T} {N : Nat} (hd : decode cc pc = .ok (.invokevirtual idx, 3)) (hw : WV own idx C0 y 2) (hcode : Cond.code y cc' nL' ret' ∈ lw_g) (hc : Cn w y cc' nL' ret' lev' (.ref a :: [v1, v2]) μ none μ') (hlev : lev' + 1 ≤ lev) (hnl : nL' ≤ 11) (hcl : vwCl[ci]? = some (C0, T, N)) (ha : a < w.1) (hcell : ∀ ad cs, ∃ fs, w.2 ad cs (μ.1 a) (μ.2 a) a = .inr (ci, fs)) (hroom : (st.map fun v => v.category).sum ≤ 8) (k : G w own cc nL ret lev r μr (pc + 3) ls st μ') : G w own cc nL ret lev r μr pc ls (v2 :: v1 :: .ref a :: st) μ := by
  intro p l e s m args below meth c ad cs D C H locs la hP hD hS hl
  obtain ⟨fs, hfs⟩ := hcell ad cs
  exact va_callQ (va_runV (As := [tr ad v1, tr ad v2]) (rest := st.map (tr ad)) ⟨C.1, C.2.1, C.2.2.1, C.2.2.2.2.2.1, C.2.2.2.2.2.2.1⟩ (hc l ad cs D H.size) (cwV 2 C.2.2.2.2.2.2.1 (wsall hw.1 hcode) rfl rfl rfl hw.2 (rm_ok hlev hnl)) ⟨Pw_blind, va_recv C.2.2.2.2.2.2.2.1 hP hcl ((ww_at ha).trans (by rw [hfs])), fun U hU hW => ⟨rfl, Pw_now C hP hD hS hU hW⟩⟩ rfl rfl hl.1 rfl (roomst hroom) hd ⟨Nat.le_refl _, Nat.le_refl _⟩) hS (fun H locs hP hD hS => k p l e s m args below meth c ad cs D C H locs la hP hD hS hl)
theorem G_callU2v {idx : Nat} {y : MethodName} {cc' : ByteArray} {nL' : Nat} {ret' : Option FieldType} {lev' : Nat} {v1 v2 : Value} {μ' : Mm} {x : MethodName} {owner : String} (a ci : Nat) {C0 : String} {T : u_T} {N : Nat} (hd : decode cc pc = .ok (.invokevirtual idx, 3)) (hw : WU own idx C0 owner x y 2) (hyx : y = ⟨owner, x.name, x.desc⟩) (hcode : Cond.code y cc' nL' ret' ∈ lw_g) (hc : Cn w y cc' nL' ret' lev' (.ref a :: [v1, v2]) μ none μ') (hlev : lev' + 1 ≤ lev) (hnl : nL' ≤ 11) (hcl : vwCl[ci]? = some (C0, T, N)) (ha : a < w.1) (hcell : ∀ ad cs, ∃ fs, w.2 ad cs (μ.1 a) (μ.2 a) a = .inr (ci, fs)) (hroom : (st.map fun v => v.category).sum ≤ 8) (k : G w own cc nL ret lev r μr (pc + 3) ls st μ') : G w own cc nL ret lev r μr pc ls (v2 :: v1 :: .ref a :: st) μ := by
  intro p l e s m args below meth c ad cs D C H locs la hP hD hS hl
  obtain ⟨fs, hfs⟩ := hcell ad cs
  exact va_callQ (va_runU (As := [tr ad v1, tr ad v2]) (rest := st.map (tr ad)) ⟨C.1, C.2.1, C.2.2.1, C.2.2.2.2.2.1, C.2.2.2.2.2.2.1⟩ (hc l ad cs D H.size) (va_cwU 2 C.2.2.2.2.2.2.1 (wsall hw.1 hcode) rfl rfl rfl hyx hw.2 (rm_ok hlev hnl)) ⟨Pw_blind, va_recv C.2.2.2.2.2.2.2.1 hP hcl ((ww_at ha).trans (by rw [hfs])), fun U hU hW => ⟨rfl, Pw_now C hP hD hS hU hW⟩⟩ rfl rfl hl.1 rfl (roomst hroom) hd ⟨Nat.le_refl _, Nat.le_refl _⟩) hS (fun H locs hP hD hS => k p l e s m args below meth c ad cs D C H locs la hP hD hS hl)
theorem G_callA2v {idx : Nat} {y : MethodName} {cc' : ByteArray} {nL' : Nat} {ret' : Option FieldType} {lev' : Nat} {v1 v2 : Value} {μ' : Mm} {x : MethodName} {owner : String} (a ci : Nat) {C0 : String} {T : u_T} {N : Nat} (hd : decode cc pc = .ok (.invokevirtual idx, 3)) (hw : WU own idx C0 owner x y 2) (hz : ∀ U, Nx U → va_Nw (.declares ⟨owner, x.name, x.desc⟩) U) (hcode : Cond.code y cc' nL' ret' ∈ lw_g) (hc : Cn w y cc' nL' ret' lev' (.ref a :: [v1, v2]) μ none μ') (hlev : lev' + 1 ≤ lev) (hnl : nL' ≤ 11) (hcl : vwCl[ci]? = some (C0, T, N)) (ha : a < w.1) (hcell : ∀ ad cs, ∃ fs, w.2 ad cs (μ.1 a) (μ.2 a) a = .inr (ci, fs)) (hroom : (st.map fun v => v.category).sum ≤ 8) (k : G w own cc nL ret lev r μr (pc + 3) ls st μ') : G w own cc nL ret lev r μr pc ls (v2 :: v1 :: .ref a :: st) μ := by
  intro p l e s m args below meth c ad cs D C H locs la hP hD hS hl
  obtain ⟨fs, hfs⟩ := hcell ad cs
  exact va_callQ (va_runU (As := [tr ad v1, tr ad v2]) (rest := st.map (tr ad)) ⟨C.1, C.2.1, C.2.2.1, C.2.2.2.2.2.1, C.2.2.2.2.2.2.1⟩ (hc l ad cs D H.size) (va_cwA 2 C.2.2.2.2.2.2.1 (wsall hw.1 hcode) rfl rfl rfl (hz s C.2.2.2.2.2.2.2.2.2) hw.2 (rm_ok hlev hnl)) ⟨Pw_blind, va_recv C.2.2.2.2.2.2.2.1 hP hcl ((ww_at ha).trans (by rw [hfs])), fun U hU hW => ⟨rfl, Pw_now C hP hD hS hU hW⟩⟩ rfl rfl hl.1 rfl (roomst hroom) hd ⟨Nat.le_refl _, Nat.le_refl _⟩) hS (fun H locs hP hD hS => k p l e s m args below meth c ad cs D C H locs la hP hD hS hl)
theorem G_callS2v {idx : Nat} {y : MethodName} {cc' : ByteArray} {nL' : Nat} {ret' : Option FieldType} {lev' : Nat} {v1 v2 : Value} {μ' : Mm} (hd : decode cc pc = .ok (.invokestatic idx, 3)) (hw : WS own idx y 2) (hcode : Cond.code y cc' nL' ret' ∈ lw_g) (hc : Cn w y cc' nL' ret' lev' [v1, v2] μ none μ') (hlev : lev' + 1 ≤ lev) (hnl : nL' ≤ 11) (hroom : (st.map fun v => v.category).sum ≤ 8) (k : G w own cc nL ret lev r μr (pc + 3) ls st μ') : G w own cc nL ret lev r μr pc ls (v2 :: v1 :: st) μ :=
  fun p l e s m args below meth c ad cs D C H locs la hP hD hS hl => va_callQ (va_runS (As := [tr ad v1, tr ad v2]) (rest := st.map (tr ad)) ⟨C.1, C.2.1, C.2.2.1, C.2.2.2.2.2.1, C.2.2.2.2.2.2.1⟩ (hc l ad cs D H.size) (va_cwS 2 C.2.2.2.2.2.2.1 (wsall hw.1 hcode) rfl rfl rfl hw.2 (rm_ok hlev hnl)) ⟨Pw_blind, fun U hU hW => ⟨rfl, Pw_now C hP hD hS hU hW⟩⟩ rfl rfl hl.1 rfl (roomst hroom) hd ⟨Nat.le_refl _, Nat.le_refl _⟩) hS (fun H locs hP hD hS => k p l e s m args below meth c ad cs D C H locs la hP hD hS hl)
theorem G_callN2v {idx : Nat} {y : MethodName} {cc' : ByteArray} {nL' : Nat} {ret' : Option FieldType} {lev' : Nat} {v1 v2 : Value} {μ' : Mm} {host : String} (hd : decode cc pc = .ok (.invokestatic idx, 3)) (hw : (∀ x ∈ ([.static y, .initialized y.cls] : List Cond), x ∈ lw_g) ∧ y.cls ≠ "java/lang/invoke/MethodHandle" ∧ y.cls ≠ "java/lang/invoke/VarHandle" ∧ (parseMethodDescriptor y.desc).map (fun d => d.parameters.length) = some 2) (hz : ∀ U, Nx U → va_Nw (.methodLinkNest own idx y host) U) (hcode : Cond.code y cc' nL' ret' ∈ lw_g) (hc : Cn w y cc' nL' ret' lev' [v1, v2] μ none μ') (hlev : lev' + 1 ≤ lev) (hnl : nL' ≤ 11) (hroom : (st.map fun v => v.category).sum ≤ 8) (k : G w own cc nL ret lev r μr (pc + 3) ls st μ') : G w own cc nL ret lev r μr pc ls (v2 :: v1 :: st) μ :=
  fun p l e s m args below meth c ad cs D C H locs la hP hD hS hl => va_callQ (va_runSN (As := [tr ad v1, tr ad v2]) (rest := st.map (tr ad)) ⟨C.1, C.2.1, C.2.2.1, C.2.2.2.2.2.1, C.2.2.2.2.2.2.1⟩ (hc l ad cs D H.size) ⟨va_cnB 2 C.2.2.2.2.2.2.1 (wsall (L := []) (fun _ h => absurd h List.not_mem_nil) hcode) rfl rfl rfl (hz s C.2.2.2.2.2.2.2.2.2) (C.2.2.2.2.2.2.1 _ (hw.1 _ (by simp))) hw.2 (rm_ok hlev hnl), C.2.2.2.2.2.2.1 _ (hw.1 _ (by simp)), trivial⟩ ⟨Pw_blind, fun U hU hW => ⟨rfl, Pw_now C hP hD hS hU hW⟩⟩ rfl rfl hl.1 rfl (roomst hroom) hd ⟨Nat.le_refl _, Nat.le_refl _⟩) hS (fun H locs hP hD hS => k p l e s m args below meth c ad cs D C H locs la hP hD hS hl)
theorem G_callV2r {idx : Nat} {y : MethodName} {cc' : ByteArray} {nL' : Nat} {ret' : Option FieldType} {lev' : Nat} {v1 v2 : Value} {vr : Value} {μ' : Mm} (a ci : Nat) {C0 : String} {T : u_T} {N : Nat} (hd : decode cc pc = .ok (.invokevirtual idx, 3)) (hw : WV own idx C0 y 2) (hcode : Cond.code y cc' nL' ret' ∈ lw_g) (hc : Cn w y cc' nL' ret' lev' (.ref a :: [v1, v2]) μ (some vr) μ') (hlev : lev' + 1 ≤ lev) (hnl : nL' ≤ 11) (hcl : vwCl[ci]? = some (C0, T, N)) (ha : a < w.1) (hcell : ∀ ad cs, ∃ fs, w.2 ad cs (μ.1 a) (μ.2 a) a = .inr (ci, fs)) (hroom : (st.map fun v => v.category).sum ≤ 8) (k : G w own cc nL ret lev r μr (pc + 3) ls (vr :: st) μ') : G w own cc nL ret lev r μr pc ls (v2 :: v1 :: .ref a :: st) μ := by
  intro p l e s m args below meth c ad cs D C H locs la hP hD hS hl
  obtain ⟨fs, hfs⟩ := hcell ad cs
  exact va_callQ (va_runV (As := [tr ad v1, tr ad v2]) (rest := st.map (tr ad)) ⟨C.1, C.2.1, C.2.2.1, C.2.2.2.2.2.1, C.2.2.2.2.2.2.1⟩ (hc l ad cs D H.size) (cwV 2 C.2.2.2.2.2.2.1 (wsall hw.1 hcode) rfl rfl rfl hw.2 (rm_ok hlev hnl)) ⟨Pw_blind, va_recv C.2.2.2.2.2.2.2.1 hP hcl ((ww_at ha).trans (by rw [hfs])), fun U hU hW => ⟨rfl, Pw_now C hP hD hS hU hW⟩⟩ rfl rfl hl.1 rfl (roomst hroom) hd ⟨Nat.le_refl _, Nat.le_refl _⟩) hS (fun H locs hP hD hS => k p l e s m args below meth c ad cs D C H locs la hP hD hS hl)
theorem G_callU2r {idx : Nat} {y : MethodName} {cc' : ByteArray} {nL' : Nat} {ret' : Option FieldType} {lev' : Nat} {v1 v2 : Value} {vr : Value} {μ' : Mm} {x : MethodName} {owner : String} (a ci : Nat) {C0 : String} {T : u_T} {N : Nat} (hd : decode cc pc = .ok (.invokevirtual idx, 3)) (hw : WU own idx C0 owner x y 2) (hyx : y = ⟨owner, x.name, x.desc⟩) (hcode : Cond.code y cc' nL' ret' ∈ lw_g) (hc : Cn w y cc' nL' ret' lev' (.ref a :: [v1, v2]) μ (some vr) μ') (hlev : lev' + 1 ≤ lev) (hnl : nL' ≤ 11) (hcl : vwCl[ci]? = some (C0, T, N)) (ha : a < w.1) (hcell : ∀ ad cs, ∃ fs, w.2 ad cs (μ.1 a) (μ.2 a) a = .inr (ci, fs)) (hroom : (st.map fun v => v.category).sum ≤ 8) (k : G w own cc nL ret lev r μr (pc + 3) ls (vr :: st) μ') : G w own cc nL ret lev r μr pc ls (v2 :: v1 :: .ref a :: st) μ := by
  intro p l e s m args below meth c ad cs D C H locs la hP hD hS hl
  obtain ⟨fs, hfs⟩ := hcell ad cs
  exact va_callQ (va_runU (As := [tr ad v1, tr ad v2]) (rest := st.map (tr ad)) ⟨C.1, C.2.1, C.2.2.1, C.2.2.2.2.2.1, C.2.2.2.2.2.2.1⟩ (hc l ad cs D H.size) (va_cwU 2 C.2.2.2.2.2.2.1 (wsall hw.1 hcode) rfl rfl rfl hyx hw.2 (rm_ok hlev hnl)) ⟨Pw_blind, va_recv C.2.2.2.2.2.2.2.1 hP hcl ((ww_at ha).trans (by rw [hfs])), fun U hU hW => ⟨rfl, Pw_now C hP hD hS hU hW⟩⟩ rfl rfl hl.1 rfl (roomst hroom) hd ⟨Nat.le_refl _, Nat.le_refl _⟩) hS (fun H locs hP hD hS => k p l e s m args below meth c ad cs D C H locs la hP hD hS hl)
theorem G_callA2r {idx : Nat} {y : MethodName} {cc' : ByteArray} {nL' : Nat} {ret' : Option FieldType} {lev' : Nat} {v1 v2 : Value} {vr : Value} {μ' : Mm} {x : MethodName} {owner : String} (a ci : Nat) {C0 : String} {T : u_T} {N : Nat} (hd : decode cc pc = .ok (.invokevirtual idx, 3)) (hw : WU own idx C0 owner x y 2) (hz : ∀ U, Nx U → va_Nw (.declares ⟨owner, x.name, x.desc⟩) U) (hcode : Cond.code y cc' nL' ret' ∈ lw_g) (hc : Cn w y cc' nL' ret' lev' (.ref a :: [v1, v2]) μ (some vr) μ') (hlev : lev' + 1 ≤ lev) (hnl : nL' ≤ 11) (hcl : vwCl[ci]? = some (C0, T, N)) (ha : a < w.1) (hcell : ∀ ad cs, ∃ fs, w.2 ad cs (μ.1 a) (μ.2 a) a = .inr (ci, fs)) (hroom : (st.map fun v => v.category).sum ≤ 8) (k : G w own cc nL ret lev r μr (pc + 3) ls (vr :: st) μ') : G w own cc nL ret lev r μr pc ls (v2 :: v1 :: .ref a :: st) μ := by
  intro p l e s m args below meth c ad cs D C H locs la hP hD hS hl
  obtain ⟨fs, hfs⟩ := hcell ad cs
  exact va_callQ (va_runU (As := [tr ad v1, tr ad v2]) (rest := st.map (tr ad)) ⟨C.1, C.2.1, C.2.2.1, C.2.2.2.2.2.1, C.2.2.2.2.2.2.1⟩ (hc l ad cs D H.size) (va_cwA 2 C.2.2.2.2.2.2.1 (wsall hw.1 hcode) rfl rfl rfl (hz s C.2.2.2.2.2.2.2.2.2) hw.2 (rm_ok hlev hnl)) ⟨Pw_blind, va_recv C.2.2.2.2.2.2.2.1 hP hcl ((ww_at ha).trans (by rw [hfs])), fun U hU hW => ⟨rfl, Pw_now C hP hD hS hU hW⟩⟩ rfl rfl hl.1 rfl (roomst hroom) hd ⟨Nat.le_refl _, Nat.le_refl _⟩) hS (fun H locs hP hD hS => k p l e s m args below meth c ad cs D C H locs la hP hD hS hl)
theorem G_callS2r {idx : Nat} {y : MethodName} {cc' : ByteArray} {nL' : Nat} {ret' : Option FieldType} {lev' : Nat} {v1 v2 : Value} {vr : Value} {μ' : Mm} (hd : decode cc pc = .ok (.invokestatic idx, 3)) (hw : WS own idx y 2) (hcode : Cond.code y cc' nL' ret' ∈ lw_g) (hc : Cn w y cc' nL' ret' lev' [v1, v2] μ (some vr) μ') (hlev : lev' + 1 ≤ lev) (hnl : nL' ≤ 11) (hroom : (st.map fun v => v.category).sum ≤ 8) (k : G w own cc nL ret lev r μr (pc + 3) ls (vr :: st) μ') : G w own cc nL ret lev r μr pc ls (v2 :: v1 :: st) μ :=
  fun p l e s m args below meth c ad cs D C H locs la hP hD hS hl => va_callQ (va_runS (As := [tr ad v1, tr ad v2]) (rest := st.map (tr ad)) ⟨C.1, C.2.1, C.2.2.1, C.2.2.2.2.2.1, C.2.2.2.2.2.2.1⟩ (hc l ad cs D H.size) (va_cwS 2 C.2.2.2.2.2.2.1 (wsall hw.1 hcode) rfl rfl rfl hw.2 (rm_ok hlev hnl)) ⟨Pw_blind, fun U hU hW => ⟨rfl, Pw_now C hP hD hS hU hW⟩⟩ rfl rfl hl.1 rfl (roomst hroom) hd ⟨Nat.le_refl _, Nat.le_refl _⟩) hS (fun H locs hP hD hS => k p l e s m args below meth c ad cs D C H locs la hP hD hS hl)
theorem G_callN2r {idx : Nat} {y : MethodName} {cc' : ByteArray} {nL' : Nat} {ret' : Option FieldType} {lev' : Nat} {v1 v2 : Value} {vr : Value} {μ' : Mm} {host : String} (hd : decode cc pc = .ok (.invokestatic idx, 3)) (hw : (∀ x ∈ ([.static y, .initialized y.cls] : List Cond), x ∈ lw_g) ∧ y.cls ≠ "java/lang/invoke/MethodHandle" ∧ y.cls ≠ "java/lang/invoke/VarHandle" ∧ (parseMethodDescriptor y.desc).map (fun d => d.parameters.length) = some 2) (hz : ∀ U, Nx U → va_Nw (.methodLinkNest own idx y host) U) (hcode : Cond.code y cc' nL' ret' ∈ lw_g) (hc : Cn w y cc' nL' ret' lev' [v1, v2] μ (some vr) μ') (hlev : lev' + 1 ≤ lev) (hnl : nL' ≤ 11) (hroom : (st.map fun v => v.category).sum ≤ 8) (k : G w own cc nL ret lev r μr (pc + 3) ls (vr :: st) μ') : G w own cc nL ret lev r μr pc ls (v2 :: v1 :: st) μ :=
  fun p l e s m args below meth c ad cs D C H locs la hP hD hS hl => va_callQ (va_runSN (As := [tr ad v1, tr ad v2]) (rest := st.map (tr ad)) ⟨C.1, C.2.1, C.2.2.1, C.2.2.2.2.2.1, C.2.2.2.2.2.2.1⟩ (hc l ad cs D H.size) ⟨va_cnB 2 C.2.2.2.2.2.2.1 (wsall (L := []) (fun _ h => absurd h List.not_mem_nil) hcode) rfl rfl rfl (hz s C.2.2.2.2.2.2.2.2.2) (C.2.2.2.2.2.2.1 _ (hw.1 _ (by simp))) hw.2 (rm_ok hlev hnl), C.2.2.2.2.2.2.1 _ (hw.1 _ (by simp)), trivial⟩ ⟨Pw_blind, fun U hU hW => ⟨rfl, Pw_now C hP hD hS hU hW⟩⟩ rfl rfl hl.1 rfl (roomst hroom) hd ⟨Nat.le_refl _, Nat.le_refl _⟩) hS (fun H locs hP hD hS => k p l e s m args below meth c ad cs D C H locs la hP hD hS hl)
theorem G_callV3v {idx : Nat} {y : MethodName} {cc' : ByteArray} {nL' : Nat} {ret' : Option FieldType} {lev' : Nat} {v1 v2 v3 : Value} {μ' : Mm} (a ci : Nat) {C0 : String} {T : u_T} {N : Nat} (hd : decode cc pc = .ok (.invokevirtual idx, 3)) (hw : WV own idx C0 y 3) (hcode : Cond.code y cc' nL' ret' ∈ lw_g) (hc : Cn w y cc' nL' ret' lev' (.ref a :: [v1, v2, v3]) μ none μ') (hlev : lev' + 1 ≤ lev) (hnl : nL' ≤ 11) (hcl : vwCl[ci]? = some (C0, T, N)) (ha : a < w.1) (hcell : ∀ ad cs, ∃ fs, w.2 ad cs (μ.1 a) (μ.2 a) a = .inr (ci, fs)) (hroom : (st.map fun v => v.category).sum ≤ 8) (k : G w own cc nL ret lev r μr (pc + 3) ls st μ') : G w own cc nL ret lev r μr pc ls (v3 :: v2 :: v1 :: .ref a :: st) μ := by
  intro p l e s m args below meth c ad cs D C H locs la hP hD hS hl
  obtain ⟨fs, hfs⟩ := hcell ad cs
  exact va_callQ (va_runV (As := [tr ad v1, tr ad v2, tr ad v3]) (rest := st.map (tr ad)) ⟨C.1, C.2.1, C.2.2.1, C.2.2.2.2.2.1, C.2.2.2.2.2.2.1⟩ (hc l ad cs D H.size) (cwV 3 C.2.2.2.2.2.2.1 (wsall hw.1 hcode) rfl rfl rfl hw.2 (rm_ok hlev hnl)) ⟨Pw_blind, va_recv C.2.2.2.2.2.2.2.1 hP hcl ((ww_at ha).trans (by rw [hfs])), fun U hU hW => ⟨rfl, Pw_now C hP hD hS hU hW⟩⟩ rfl rfl hl.1 rfl (roomst hroom) hd ⟨Nat.le_refl _, Nat.le_refl _⟩) hS (fun H locs hP hD hS => k p l e s m args below meth c ad cs D C H locs la hP hD hS hl)
theorem G_callU3v {idx : Nat} {y : MethodName} {cc' : ByteArray} {nL' : Nat} {ret' : Option FieldType} {lev' : Nat} {v1 v2 v3 : Value} {μ' : Mm} {x : MethodName} {owner : String} (a ci : Nat) {C0 : String} {T : u_T} {N : Nat} (hd : decode cc pc = .ok (.invokevirtual idx, 3)) (hw : WU own idx C0 owner x y 3) (hyx : y = ⟨owner, x.name, x.desc⟩) (hcode : Cond.code y cc' nL' ret' ∈ lw_g) (hc : Cn w y cc' nL' ret' lev' (.ref a :: [v1, v2, v3]) μ none μ') (hlev : lev' + 1 ≤ lev) (hnl : nL' ≤ 11) (hcl : vwCl[ci]? = some (C0, T, N)) (ha : a < w.1) (hcell : ∀ ad cs, ∃ fs, w.2 ad cs (μ.1 a) (μ.2 a) a = .inr (ci, fs)) (hroom : (st.map fun v => v.category).sum ≤ 8) (k : G w own cc nL ret lev r μr (pc + 3) ls st μ') : G w own cc nL ret lev r μr pc ls (v3 :: v2 :: v1 :: .ref a :: st) μ := by
  intro p l e s m args below meth c ad cs D C H locs la hP hD hS hl
  obtain ⟨fs, hfs⟩ := hcell ad cs
  exact va_callQ (va_runU (As := [tr ad v1, tr ad v2, tr ad v3]) (rest := st.map (tr ad)) ⟨C.1, C.2.1, C.2.2.1, C.2.2.2.2.2.1, C.2.2.2.2.2.2.1⟩ (hc l ad cs D H.size) (va_cwU 3 C.2.2.2.2.2.2.1 (wsall hw.1 hcode) rfl rfl rfl hyx hw.2 (rm_ok hlev hnl)) ⟨Pw_blind, va_recv C.2.2.2.2.2.2.2.1 hP hcl ((ww_at ha).trans (by rw [hfs])), fun U hU hW => ⟨rfl, Pw_now C hP hD hS hU hW⟩⟩ rfl rfl hl.1 rfl (roomst hroom) hd ⟨Nat.le_refl _, Nat.le_refl _⟩) hS (fun H locs hP hD hS => k p l e s m args below meth c ad cs D C H locs la hP hD hS hl)
theorem G_callA3v {idx : Nat} {y : MethodName} {cc' : ByteArray} {nL' : Nat} {ret' : Option FieldType} {lev' : Nat} {v1 v2 v3 : Value} {μ' : Mm} {x : MethodName} {owner : String} (a ci : Nat) {C0 : String} {T : u_T} {N : Nat} (hd : decode cc pc = .ok (.invokevirtual idx, 3)) (hw : WU own idx C0 owner x y 3) (hz : ∀ U, Nx U → va_Nw (.declares ⟨owner, x.name, x.desc⟩) U) (hcode : Cond.code y cc' nL' ret' ∈ lw_g) (hc : Cn w y cc' nL' ret' lev' (.ref a :: [v1, v2, v3]) μ none μ') (hlev : lev' + 1 ≤ lev) (hnl : nL' ≤ 11) (hcl : vwCl[ci]? = some (C0, T, N)) (ha : a < w.1) (hcell : ∀ ad cs, ∃ fs, w.2 ad cs (μ.1 a) (μ.2 a) a = .inr (ci, fs)) (hroom : (st.map fun v => v.category).sum ≤ 8) (k : G w own cc nL ret lev r μr (pc + 3) ls st μ') : G w own cc nL ret lev r μr pc ls (v3 :: v2 :: v1 :: .ref a :: st) μ := by
  intro p l e s m args below meth c ad cs D C H locs la hP hD hS hl
  obtain ⟨fs, hfs⟩ := hcell ad cs
  exact va_callQ (va_runU (As := [tr ad v1, tr ad v2, tr ad v3]) (rest := st.map (tr ad)) ⟨C.1, C.2.1, C.2.2.1, C.2.2.2.2.2.1, C.2.2.2.2.2.2.1⟩ (hc l ad cs D H.size) (va_cwA 3 C.2.2.2.2.2.2.1 (wsall hw.1 hcode) rfl rfl rfl (hz s C.2.2.2.2.2.2.2.2.2) hw.2 (rm_ok hlev hnl)) ⟨Pw_blind, va_recv C.2.2.2.2.2.2.2.1 hP hcl ((ww_at ha).trans (by rw [hfs])), fun U hU hW => ⟨rfl, Pw_now C hP hD hS hU hW⟩⟩ rfl rfl hl.1 rfl (roomst hroom) hd ⟨Nat.le_refl _, Nat.le_refl _⟩) hS (fun H locs hP hD hS => k p l e s m args below meth c ad cs D C H locs la hP hD hS hl)
theorem G_callS3v {idx : Nat} {y : MethodName} {cc' : ByteArray} {nL' : Nat} {ret' : Option FieldType} {lev' : Nat} {v1 v2 v3 : Value} {μ' : Mm} (hd : decode cc pc = .ok (.invokestatic idx, 3)) (hw : WS own idx y 3) (hcode : Cond.code y cc' nL' ret' ∈ lw_g) (hc : Cn w y cc' nL' ret' lev' [v1, v2, v3] μ none μ') (hlev : lev' + 1 ≤ lev) (hnl : nL' ≤ 11) (hroom : (st.map fun v => v.category).sum ≤ 8) (k : G w own cc nL ret lev r μr (pc + 3) ls st μ') : G w own cc nL ret lev r μr pc ls (v3 :: v2 :: v1 :: st) μ :=
  fun p l e s m args below meth c ad cs D C H locs la hP hD hS hl => va_callQ (va_runS (As := [tr ad v1, tr ad v2, tr ad v3]) (rest := st.map (tr ad)) ⟨C.1, C.2.1, C.2.2.1, C.2.2.2.2.2.1, C.2.2.2.2.2.2.1⟩ (hc l ad cs D H.size) (va_cwS 3 C.2.2.2.2.2.2.1 (wsall hw.1 hcode) rfl rfl rfl hw.2 (rm_ok hlev hnl)) ⟨Pw_blind, fun U hU hW => ⟨rfl, Pw_now C hP hD hS hU hW⟩⟩ rfl rfl hl.1 rfl (roomst hroom) hd ⟨Nat.le_refl _, Nat.le_refl _⟩) hS (fun H locs hP hD hS => k p l e s m args below meth c ad cs D C H locs la hP hD hS hl)
theorem G_callN3v {idx : Nat} {y : MethodName} {cc' : ByteArray} {nL' : Nat} {ret' : Option FieldType} {lev' : Nat} {v1 v2 v3 : Value} {μ' : Mm} {host : String} (hd : decode cc pc = .ok (.invokestatic idx, 3)) (hw : (∀ x ∈ ([.static y, .initialized y.cls] : List Cond), x ∈ lw_g) ∧ y.cls ≠ "java/lang/invoke/MethodHandle" ∧ y.cls ≠ "java/lang/invoke/VarHandle" ∧ (parseMethodDescriptor y.desc).map (fun d => d.parameters.length) = some 3) (hz : ∀ U, Nx U → va_Nw (.methodLinkNest own idx y host) U) (hcode : Cond.code y cc' nL' ret' ∈ lw_g) (hc : Cn w y cc' nL' ret' lev' [v1, v2, v3] μ none μ') (hlev : lev' + 1 ≤ lev) (hnl : nL' ≤ 11) (hroom : (st.map fun v => v.category).sum ≤ 8) (k : G w own cc nL ret lev r μr (pc + 3) ls st μ') : G w own cc nL ret lev r μr pc ls (v3 :: v2 :: v1 :: st) μ :=
  fun p l e s m args below meth c ad cs D C H locs la hP hD hS hl => va_callQ (va_runSN (As := [tr ad v1, tr ad v2, tr ad v3]) (rest := st.map (tr ad)) ⟨C.1, C.2.1, C.2.2.1, C.2.2.2.2.2.1, C.2.2.2.2.2.2.1⟩ (hc l ad cs D H.size) ⟨va_cnB 3 C.2.2.2.2.2.2.1 (wsall (L := []) (fun _ h => absurd h List.not_mem_nil) hcode) rfl rfl rfl (hz s C.2.2.2.2.2.2.2.2.2) (C.2.2.2.2.2.2.1 _ (hw.1 _ (by simp))) hw.2 (rm_ok hlev hnl), C.2.2.2.2.2.2.1 _ (hw.1 _ (by simp)), trivial⟩ ⟨Pw_blind, fun U hU hW => ⟨rfl, Pw_now C hP hD hS hU hW⟩⟩ rfl rfl hl.1 rfl (roomst hroom) hd ⟨Nat.le_refl _, Nat.le_refl _⟩) hS (fun H locs hP hD hS => k p l e s m args below meth c ad cs D C H locs la hP hD hS hl)
theorem G_callV3r {idx : Nat} {y : MethodName} {cc' : ByteArray} {nL' : Nat} {ret' : Option FieldType} {lev' : Nat} {v1 v2 v3 : Value} {vr : Value} {μ' : Mm} (a ci : Nat) {C0 : String} {T : u_T} {N : Nat} (hd : decode cc pc = .ok (.invokevirtual idx, 3)) (hw : WV own idx C0 y 3) (hcode : Cond.code y cc' nL' ret' ∈ lw_g) (hc : Cn w y cc' nL' ret' lev' (.ref a :: [v1, v2, v3]) μ (some vr) μ') (hlev : lev' + 1 ≤ lev) (hnl : nL' ≤ 11) (hcl : vwCl[ci]? = some (C0, T, N)) (ha : a < w.1) (hcell : ∀ ad cs, ∃ fs, w.2 ad cs (μ.1 a) (μ.2 a) a = .inr (ci, fs)) (hroom : (st.map fun v => v.category).sum ≤ 8) (k : G w own cc nL ret lev r μr (pc + 3) ls (vr :: st) μ') : G w own cc nL ret lev r μr pc ls (v3 :: v2 :: v1 :: .ref a :: st) μ := by
  intro p l e s m args below meth c ad cs D C H locs la hP hD hS hl
  obtain ⟨fs, hfs⟩ := hcell ad cs
  exact va_callQ (va_runV (As := [tr ad v1, tr ad v2, tr ad v3]) (rest := st.map (tr ad)) ⟨C.1, C.2.1, C.2.2.1, C.2.2.2.2.2.1, C.2.2.2.2.2.2.1⟩ (hc l ad cs D H.size) (cwV 3 C.2.2.2.2.2.2.1 (wsall hw.1 hcode) rfl rfl rfl hw.2 (rm_ok hlev hnl)) ⟨Pw_blind, va_recv C.2.2.2.2.2.2.2.1 hP hcl ((ww_at ha).trans (by rw [hfs])), fun U hU hW => ⟨rfl, Pw_now C hP hD hS hU hW⟩⟩ rfl rfl hl.1 rfl (roomst hroom) hd ⟨Nat.le_refl _, Nat.le_refl _⟩) hS (fun H locs hP hD hS => k p l e s m args below meth c ad cs D C H locs la hP hD hS hl)
theorem G_callU3r {idx : Nat} {y : MethodName} {cc' : ByteArray} {nL' : Nat} {ret' : Option FieldType} {lev' : Nat} {v1 v2 v3 : Value} {vr : Value} {μ' : Mm} {x : MethodName} {owner : String} (a ci : Nat) {C0 : String} {T : u_T} {N : Nat} (hd : decode cc pc = .ok (.invokevirtual idx, 3)) (hw : WU own idx C0 owner x y 3) (hyx : y = ⟨owner, x.name, x.desc⟩) (hcode : Cond.code y cc' nL' ret' ∈ lw_g) (hc : Cn w y cc' nL' ret' lev' (.ref a :: [v1, v2, v3]) μ (some vr) μ') (hlev : lev' + 1 ≤ lev) (hnl : nL' ≤ 11) (hcl : vwCl[ci]? = some (C0, T, N)) (ha : a < w.1) (hcell : ∀ ad cs, ∃ fs, w.2 ad cs (μ.1 a) (μ.2 a) a = .inr (ci, fs)) (hroom : (st.map fun v => v.category).sum ≤ 8) (k : G w own cc nL ret lev r μr (pc + 3) ls (vr :: st) μ') : G w own cc nL ret lev r μr pc ls (v3 :: v2 :: v1 :: .ref a :: st) μ := by
  intro p l e s m args below meth c ad cs D C H locs la hP hD hS hl
  obtain ⟨fs, hfs⟩ := hcell ad cs
  exact va_callQ (va_runU (As := [tr ad v1, tr ad v2, tr ad v3]) (rest := st.map (tr ad)) ⟨C.1, C.2.1, C.2.2.1, C.2.2.2.2.2.1, C.2.2.2.2.2.2.1⟩ (hc l ad cs D H.size) (va_cwU 3 C.2.2.2.2.2.2.1 (wsall hw.1 hcode) rfl rfl rfl hyx hw.2 (rm_ok hlev hnl)) ⟨Pw_blind, va_recv C.2.2.2.2.2.2.2.1 hP hcl ((ww_at ha).trans (by rw [hfs])), fun U hU hW => ⟨rfl, Pw_now C hP hD hS hU hW⟩⟩ rfl rfl hl.1 rfl (roomst hroom) hd ⟨Nat.le_refl _, Nat.le_refl _⟩) hS (fun H locs hP hD hS => k p l e s m args below meth c ad cs D C H locs la hP hD hS hl)
theorem G_callA3r {idx : Nat} {y : MethodName} {cc' : ByteArray} {nL' : Nat} {ret' : Option FieldType} {lev' : Nat} {v1 v2 v3 : Value} {vr : Value} {μ' : Mm} {x : MethodName} {owner : String} (a ci : Nat) {C0 : String} {T : u_T} {N : Nat} (hd : decode cc pc = .ok (.invokevirtual idx, 3)) (hw : WU own idx C0 owner x y 3) (hz : ∀ U, Nx U → va_Nw (.declares ⟨owner, x.name, x.desc⟩) U) (hcode : Cond.code y cc' nL' ret' ∈ lw_g) (hc : Cn w y cc' nL' ret' lev' (.ref a :: [v1, v2, v3]) μ (some vr) μ') (hlev : lev' + 1 ≤ lev) (hnl : nL' ≤ 11) (hcl : vwCl[ci]? = some (C0, T, N)) (ha : a < w.1) (hcell : ∀ ad cs, ∃ fs, w.2 ad cs (μ.1 a) (μ.2 a) a = .inr (ci, fs)) (hroom : (st.map fun v => v.category).sum ≤ 8) (k : G w own cc nL ret lev r μr (pc + 3) ls (vr :: st) μ') : G w own cc nL ret lev r μr pc ls (v3 :: v2 :: v1 :: .ref a :: st) μ := by
  intro p l e s m args below meth c ad cs D C H locs la hP hD hS hl
  obtain ⟨fs, hfs⟩ := hcell ad cs
  exact va_callQ (va_runU (As := [tr ad v1, tr ad v2, tr ad v3]) (rest := st.map (tr ad)) ⟨C.1, C.2.1, C.2.2.1, C.2.2.2.2.2.1, C.2.2.2.2.2.2.1⟩ (hc l ad cs D H.size) (va_cwA 3 C.2.2.2.2.2.2.1 (wsall hw.1 hcode) rfl rfl rfl (hz s C.2.2.2.2.2.2.2.2.2) hw.2 (rm_ok hlev hnl)) ⟨Pw_blind, va_recv C.2.2.2.2.2.2.2.1 hP hcl ((ww_at ha).trans (by rw [hfs])), fun U hU hW => ⟨rfl, Pw_now C hP hD hS hU hW⟩⟩ rfl rfl hl.1 rfl (roomst hroom) hd ⟨Nat.le_refl _, Nat.le_refl _⟩) hS (fun H locs hP hD hS => k p l e s m args below meth c ad cs D C H locs la hP hD hS hl)
theorem G_callS3r {idx : Nat} {y : MethodName} {cc' : ByteArray} {nL' : Nat} {ret' : Option FieldType} {lev' : Nat} {v1 v2 v3 : Value} {vr : Value} {μ' : Mm} (hd : decode cc pc = .ok (.invokestatic idx, 3)) (hw : WS own idx y 3) (hcode : Cond.code y cc' nL' ret' ∈ lw_g) (hc : Cn w y cc' nL' ret' lev' [v1, v2, v3] μ (some vr) μ') (hlev : lev' + 1 ≤ lev) (hnl : nL' ≤ 11) (hroom : (st.map fun v => v.category).sum ≤ 8) (k : G w own cc nL ret lev r μr (pc + 3) ls (vr :: st) μ') : G w own cc nL ret lev r μr pc ls (v3 :: v2 :: v1 :: st) μ :=
  fun p l e s m args below meth c ad cs D C H locs la hP hD hS hl => va_callQ (va_runS (As := [tr ad v1, tr ad v2, tr ad v3]) (rest := st.map (tr ad)) ⟨C.1, C.2.1, C.2.2.1, C.2.2.2.2.2.1, C.2.2.2.2.2.2.1⟩ (hc l ad cs D H.size) (va_cwS 3 C.2.2.2.2.2.2.1 (wsall hw.1 hcode) rfl rfl rfl hw.2 (rm_ok hlev hnl)) ⟨Pw_blind, fun U hU hW => ⟨rfl, Pw_now C hP hD hS hU hW⟩⟩ rfl rfl hl.1 rfl (roomst hroom) hd ⟨Nat.le_refl _, Nat.le_refl _⟩) hS (fun H locs hP hD hS => k p l e s m args below meth c ad cs D C H locs la hP hD hS hl)
theorem G_callN3r {idx : Nat} {y : MethodName} {cc' : ByteArray} {nL' : Nat} {ret' : Option FieldType} {lev' : Nat} {v1 v2 v3 : Value} {vr : Value} {μ' : Mm} {host : String} (hd : decode cc pc = .ok (.invokestatic idx, 3)) (hw : (∀ x ∈ ([.static y, .initialized y.cls] : List Cond), x ∈ lw_g) ∧ y.cls ≠ "java/lang/invoke/MethodHandle" ∧ y.cls ≠ "java/lang/invoke/VarHandle" ∧ (parseMethodDescriptor y.desc).map (fun d => d.parameters.length) = some 3) (hz : ∀ U, Nx U → va_Nw (.methodLinkNest own idx y host) U) (hcode : Cond.code y cc' nL' ret' ∈ lw_g) (hc : Cn w y cc' nL' ret' lev' [v1, v2, v3] μ (some vr) μ') (hlev : lev' + 1 ≤ lev) (hnl : nL' ≤ 11) (hroom : (st.map fun v => v.category).sum ≤ 8) (k : G w own cc nL ret lev r μr (pc + 3) ls (vr :: st) μ') : G w own cc nL ret lev r μr pc ls (v3 :: v2 :: v1 :: st) μ :=
  fun p l e s m args below meth c ad cs D C H locs la hP hD hS hl => va_callQ (va_runSN (As := [tr ad v1, tr ad v2, tr ad v3]) (rest := st.map (tr ad)) ⟨C.1, C.2.1, C.2.2.1, C.2.2.2.2.2.1, C.2.2.2.2.2.2.1⟩ (hc l ad cs D H.size) ⟨va_cnB 3 C.2.2.2.2.2.2.1 (wsall (L := []) (fun _ h => absurd h List.not_mem_nil) hcode) rfl rfl rfl (hz s C.2.2.2.2.2.2.2.2.2) (C.2.2.2.2.2.2.1 _ (hw.1 _ (by simp))) hw.2 (rm_ok hlev hnl), C.2.2.2.2.2.2.1 _ (hw.1 _ (by simp)), trivial⟩ ⟨Pw_blind, fun U hU hW => ⟨rfl, Pw_now C hP hD hS hU hW⟩⟩ rfl rfl hl.1 rfl (roomst hroom) hd ⟨Nat.le_refl _, Nat.le_refl _⟩) hS (fun H locs hP hD hS => k p l e s m args below meth c ad cs D C H locs la hP hD hS hl)
theorem G_callV4v {idx : Nat} {y : MethodName} {cc' : ByteArray} {nL' : Nat} {ret' : Option FieldType} {lev' : Nat} {v1 v2 v3 v4 : Value} {μ' : Mm} (a ci : Nat) {C0 : String} {T : u_T} {N : Nat} (hd : decode cc pc = .ok (.invokevirtual idx, 3)) (hw : WV own idx C0 y 4) (hcode : Cond.code y cc' nL' ret' ∈ lw_g) (hc : Cn w y cc' nL' ret' lev' (.ref a :: [v1, v2, v3, v4]) μ none μ') (hlev : lev' + 1 ≤ lev) (hnl : nL' ≤ 11) (hcl : vwCl[ci]? = some (C0, T, N)) (ha : a < w.1) (hcell : ∀ ad cs, ∃ fs, w.2 ad cs (μ.1 a) (μ.2 a) a = .inr (ci, fs)) (hroom : (st.map fun v => v.category).sum ≤ 8) (k : G w own cc nL ret lev r μr (pc + 3) ls st μ') : G w own cc nL ret lev r μr pc ls (v4 :: v3 :: v2 :: v1 :: .ref a :: st) μ := by
  intro p l e s m args below meth c ad cs D C H locs la hP hD hS hl
  obtain ⟨fs, hfs⟩ := hcell ad cs
  exact va_callQ (va_runV (As := [tr ad v1, tr ad v2, tr ad v3, tr ad v4]) (rest := st.map (tr ad)) ⟨C.1, C.2.1, C.2.2.1, C.2.2.2.2.2.1, C.2.2.2.2.2.2.1⟩ (hc l ad cs D H.size) (cwV 4 C.2.2.2.2.2.2.1 (wsall hw.1 hcode) rfl rfl rfl hw.2 (rm_ok hlev hnl)) ⟨Pw_blind, va_recv C.2.2.2.2.2.2.2.1 hP hcl ((ww_at ha).trans (by rw [hfs])), fun U hU hW => ⟨rfl, Pw_now C hP hD hS hU hW⟩⟩ rfl rfl hl.1 rfl (roomst hroom) hd ⟨Nat.le_refl _, Nat.le_refl _⟩) hS (fun H locs hP hD hS => k p l e s m args below meth c ad cs D C H locs la hP hD hS hl)
theorem G_callU4v {idx : Nat} {y : MethodName} {cc' : ByteArray} {nL' : Nat} {ret' : Option FieldType} {lev' : Nat} {v1 v2 v3 v4 : Value} {μ' : Mm} {x : MethodName} {owner : String} (a ci : Nat) {C0 : String} {T : u_T} {N : Nat} (hd : decode cc pc = .ok (.invokevirtual idx, 3)) (hw : WU own idx C0 owner x y 4) (hyx : y = ⟨owner, x.name, x.desc⟩) (hcode : Cond.code y cc' nL' ret' ∈ lw_g) (hc : Cn w y cc' nL' ret' lev' (.ref a :: [v1, v2, v3, v4]) μ none μ') (hlev : lev' + 1 ≤ lev) (hnl : nL' ≤ 11) (hcl : vwCl[ci]? = some (C0, T, N)) (ha : a < w.1) (hcell : ∀ ad cs, ∃ fs, w.2 ad cs (μ.1 a) (μ.2 a) a = .inr (ci, fs)) (hroom : (st.map fun v => v.category).sum ≤ 8) (k : G w own cc nL ret lev r μr (pc + 3) ls st μ') : G w own cc nL ret lev r μr pc ls (v4 :: v3 :: v2 :: v1 :: .ref a :: st) μ := by
  intro p l e s m args below meth c ad cs D C H locs la hP hD hS hl
  obtain ⟨fs, hfs⟩ := hcell ad cs
  exact va_callQ (va_runU (As := [tr ad v1, tr ad v2, tr ad v3, tr ad v4]) (rest := st.map (tr ad)) ⟨C.1, C.2.1, C.2.2.1, C.2.2.2.2.2.1, C.2.2.2.2.2.2.1⟩ (hc l ad cs D H.size) (va_cwU 4 C.2.2.2.2.2.2.1 (wsall hw.1 hcode) rfl rfl rfl hyx hw.2 (rm_ok hlev hnl)) ⟨Pw_blind, va_recv C.2.2.2.2.2.2.2.1 hP hcl ((ww_at ha).trans (by rw [hfs])), fun U hU hW => ⟨rfl, Pw_now C hP hD hS hU hW⟩⟩ rfl rfl hl.1 rfl (roomst hroom) hd ⟨Nat.le_refl _, Nat.le_refl _⟩) hS (fun H locs hP hD hS => k p l e s m args below meth c ad cs D C H locs la hP hD hS hl)
theorem G_callA4v {idx : Nat} {y : MethodName} {cc' : ByteArray} {nL' : Nat} {ret' : Option FieldType} {lev' : Nat} {v1 v2 v3 v4 : Value} {μ' : Mm} {x : MethodName} {owner : String} (a ci : Nat) {C0 : String} {T : u_T} {N : Nat} (hd : decode cc pc = .ok (.invokevirtual idx, 3)) (hw : WU own idx C0 owner x y 4) (hz : ∀ U, Nx U → va_Nw (.declares ⟨owner, x.name, x.desc⟩) U) (hcode : Cond.code y cc' nL' ret' ∈ lw_g) (hc : Cn w y cc' nL' ret' lev' (.ref a :: [v1, v2, v3, v4]) μ none μ') (hlev : lev' + 1 ≤ lev) (hnl : nL' ≤ 11) (hcl : vwCl[ci]? = some (C0, T, N)) (ha : a < w.1) (hcell : ∀ ad cs, ∃ fs, w.2 ad cs (μ.1 a) (μ.2 a) a = .inr (ci, fs)) (hroom : (st.map fun v => v.category).sum ≤ 8) (k : G w own cc nL ret lev r μr (pc + 3) ls st μ') : G w own cc nL ret lev r μr pc ls (v4 :: v3 :: v2 :: v1 :: .ref a :: st) μ := by
  intro p l e s m args below meth c ad cs D C H locs la hP hD hS hl
  obtain ⟨fs, hfs⟩ := hcell ad cs
  exact va_callQ (va_runU (As := [tr ad v1, tr ad v2, tr ad v3, tr ad v4]) (rest := st.map (tr ad)) ⟨C.1, C.2.1, C.2.2.1, C.2.2.2.2.2.1, C.2.2.2.2.2.2.1⟩ (hc l ad cs D H.size) (va_cwA 4 C.2.2.2.2.2.2.1 (wsall hw.1 hcode) rfl rfl rfl (hz s C.2.2.2.2.2.2.2.2.2) hw.2 (rm_ok hlev hnl)) ⟨Pw_blind, va_recv C.2.2.2.2.2.2.2.1 hP hcl ((ww_at ha).trans (by rw [hfs])), fun U hU hW => ⟨rfl, Pw_now C hP hD hS hU hW⟩⟩ rfl rfl hl.1 rfl (roomst hroom) hd ⟨Nat.le_refl _, Nat.le_refl _⟩) hS (fun H locs hP hD hS => k p l e s m args below meth c ad cs D C H locs la hP hD hS hl)
theorem G_callS4v {idx : Nat} {y : MethodName} {cc' : ByteArray} {nL' : Nat} {ret' : Option FieldType} {lev' : Nat} {v1 v2 v3 v4 : Value} {μ' : Mm} (hd : decode cc pc = .ok (.invokestatic idx, 3)) (hw : WS own idx y 4) (hcode : Cond.code y cc' nL' ret' ∈ lw_g) (hc : Cn w y cc' nL' ret' lev' [v1, v2, v3, v4] μ none μ') (hlev : lev' + 1 ≤ lev) (hnl : nL' ≤ 11) (hroom : (st.map fun v => v.category).sum ≤ 8) (k : G w own cc nL ret lev r μr (pc + 3) ls st μ') : G w own cc nL ret lev r μr pc ls (v4 :: v3 :: v2 :: v1 :: st) μ :=
  fun p l e s m args below meth c ad cs D C H locs la hP hD hS hl => va_callQ (va_runS (As := [tr ad v1, tr ad v2, tr ad v3, tr ad v4]) (rest := st.map (tr ad)) ⟨C.1, C.2.1, C.2.2.1, C.2.2.2.2.2.1, C.2.2.2.2.2.2.1⟩ (hc l ad cs D H.size) (va_cwS 4 C.2.2.2.2.2.2.1 (wsall hw.1 hcode) rfl rfl rfl hw.2 (rm_ok hlev hnl)) ⟨Pw_blind, fun U hU hW => ⟨rfl, Pw_now C hP hD hS hU hW⟩⟩ rfl rfl hl.1 rfl (roomst hroom) hd ⟨Nat.le_refl _, Nat.le_refl _⟩) hS (fun H locs hP hD hS => k p l e s m args below meth c ad cs D C H locs la hP hD hS hl)
theorem G_callN4v {idx : Nat} {y : MethodName} {cc' : ByteArray} {nL' : Nat} {ret' : Option FieldType} {lev' : Nat} {v1 v2 v3 v4 : Value} {μ' : Mm} {host : String} (hd : decode cc pc = .ok (.invokestatic idx, 3)) (hw : (∀ x ∈ ([.static y, .initialized y.cls] : List Cond), x ∈ lw_g) ∧ y.cls ≠ "java/lang/invoke/MethodHandle" ∧ y.cls ≠ "java/lang/invoke/VarHandle" ∧ (parseMethodDescriptor y.desc).map (fun d => d.parameters.length) = some 4) (hz : ∀ U, Nx U → va_Nw (.methodLinkNest own idx y host) U) (hcode : Cond.code y cc' nL' ret' ∈ lw_g) (hc : Cn w y cc' nL' ret' lev' [v1, v2, v3, v4] μ none μ') (hlev : lev' + 1 ≤ lev) (hnl : nL' ≤ 11) (hroom : (st.map fun v => v.category).sum ≤ 8) (k : G w own cc nL ret lev r μr (pc + 3) ls st μ') : G w own cc nL ret lev r μr pc ls (v4 :: v3 :: v2 :: v1 :: st) μ :=
  fun p l e s m args below meth c ad cs D C H locs la hP hD hS hl => va_callQ (va_runSN (As := [tr ad v1, tr ad v2, tr ad v3, tr ad v4]) (rest := st.map (tr ad)) ⟨C.1, C.2.1, C.2.2.1, C.2.2.2.2.2.1, C.2.2.2.2.2.2.1⟩ (hc l ad cs D H.size) ⟨va_cnB 4 C.2.2.2.2.2.2.1 (wsall (L := []) (fun _ h => absurd h List.not_mem_nil) hcode) rfl rfl rfl (hz s C.2.2.2.2.2.2.2.2.2) (C.2.2.2.2.2.2.1 _ (hw.1 _ (by simp))) hw.2 (rm_ok hlev hnl), C.2.2.2.2.2.2.1 _ (hw.1 _ (by simp)), trivial⟩ ⟨Pw_blind, fun U hU hW => ⟨rfl, Pw_now C hP hD hS hU hW⟩⟩ rfl rfl hl.1 rfl (roomst hroom) hd ⟨Nat.le_refl _, Nat.le_refl _⟩) hS (fun H locs hP hD hS => k p l e s m args below meth c ad cs D C H locs la hP hD hS hl)
theorem G_callV4r {idx : Nat} {y : MethodName} {cc' : ByteArray} {nL' : Nat} {ret' : Option FieldType} {lev' : Nat} {v1 v2 v3 v4 : Value} {vr : Value} {μ' : Mm} (a ci : Nat) {C0 : String} {T : u_T} {N : Nat} (hd : decode cc pc = .ok (.invokevirtual idx, 3)) (hw : WV own idx C0 y 4) (hcode : Cond.code y cc' nL' ret' ∈ lw_g) (hc : Cn w y cc' nL' ret' lev' (.ref a :: [v1, v2, v3, v4]) μ (some vr) μ') (hlev : lev' + 1 ≤ lev) (hnl : nL' ≤ 11) (hcl : vwCl[ci]? = some (C0, T, N)) (ha : a < w.1) (hcell : ∀ ad cs, ∃ fs, w.2 ad cs (μ.1 a) (μ.2 a) a = .inr (ci, fs)) (hroom : (st.map fun v => v.category).sum ≤ 8) (k : G w own cc nL ret lev r μr (pc + 3) ls (vr :: st) μ') : G w own cc nL ret lev r μr pc ls (v4 :: v3 :: v2 :: v1 :: .ref a :: st) μ := by
  intro p l e s m args below meth c ad cs D C H locs la hP hD hS hl
  obtain ⟨fs, hfs⟩ := hcell ad cs
  exact va_callQ (va_runV (As := [tr ad v1, tr ad v2, tr ad v3, tr ad v4]) (rest := st.map (tr ad)) ⟨C.1, C.2.1, C.2.2.1, C.2.2.2.2.2.1, C.2.2.2.2.2.2.1⟩ (hc l ad cs D H.size) (cwV 4 C.2.2.2.2.2.2.1 (wsall hw.1 hcode) rfl rfl rfl hw.2 (rm_ok hlev hnl)) ⟨Pw_blind, va_recv C.2.2.2.2.2.2.2.1 hP hcl ((ww_at ha).trans (by rw [hfs])), fun U hU hW => ⟨rfl, Pw_now C hP hD hS hU hW⟩⟩ rfl rfl hl.1 rfl (roomst hroom) hd ⟨Nat.le_refl _, Nat.le_refl _⟩) hS (fun H locs hP hD hS => k p l e s m args below meth c ad cs D C H locs la hP hD hS hl)
theorem G_callU4r {idx : Nat} {y : MethodName} {cc' : ByteArray} {nL' : Nat} {ret' : Option FieldType} {lev' : Nat} {v1 v2 v3 v4 : Value} {vr : Value} {μ' : Mm} {x : MethodName} {owner : String} (a ci : Nat) {C0 : String} {T : u_T} {N : Nat} (hd : decode cc pc = .ok (.invokevirtual idx, 3)) (hw : WU own idx C0 owner x y 4) (hyx : y = ⟨owner, x.name, x.desc⟩) (hcode : Cond.code y cc' nL' ret' ∈ lw_g) (hc : Cn w y cc' nL' ret' lev' (.ref a :: [v1, v2, v3, v4]) μ (some vr) μ') (hlev : lev' + 1 ≤ lev) (hnl : nL' ≤ 11) (hcl : vwCl[ci]? = some (C0, T, N)) (ha : a < w.1) (hcell : ∀ ad cs, ∃ fs, w.2 ad cs (μ.1 a) (μ.2 a) a = .inr (ci, fs)) (hroom : (st.map fun v => v.category).sum ≤ 8) (k : G w own cc nL ret lev r μr (pc + 3) ls (vr :: st) μ') : G w own cc nL ret lev r μr pc ls (v4 :: v3 :: v2 :: v1 :: .ref a :: st) μ := by
  intro p l e s m args below meth c ad cs D C H locs la hP hD hS hl
  obtain ⟨fs, hfs⟩ := hcell ad cs
  exact va_callQ (va_runU (As := [tr ad v1, tr ad v2, tr ad v3, tr ad v4]) (rest := st.map (tr ad)) ⟨C.1, C.2.1, C.2.2.1, C.2.2.2.2.2.1, C.2.2.2.2.2.2.1⟩ (hc l ad cs D H.size) (va_cwU 4 C.2.2.2.2.2.2.1 (wsall hw.1 hcode) rfl rfl rfl hyx hw.2 (rm_ok hlev hnl)) ⟨Pw_blind, va_recv C.2.2.2.2.2.2.2.1 hP hcl ((ww_at ha).trans (by rw [hfs])), fun U hU hW => ⟨rfl, Pw_now C hP hD hS hU hW⟩⟩ rfl rfl hl.1 rfl (roomst hroom) hd ⟨Nat.le_refl _, Nat.le_refl _⟩) hS (fun H locs hP hD hS => k p l e s m args below meth c ad cs D C H locs la hP hD hS hl)
theorem G_callA4r {idx : Nat} {y : MethodName} {cc' : ByteArray} {nL' : Nat} {ret' : Option FieldType} {lev' : Nat} {v1 v2 v3 v4 : Value} {vr : Value} {μ' : Mm} {x : MethodName} {owner : String} (a ci : Nat) {C0 : String} {T : u_T} {N : Nat} (hd : decode cc pc = .ok (.invokevirtual idx, 3)) (hw : WU own idx C0 owner x y 4) (hz : ∀ U, Nx U → va_Nw (.declares ⟨owner, x.name, x.desc⟩) U) (hcode : Cond.code y cc' nL' ret' ∈ lw_g) (hc : Cn w y cc' nL' ret' lev' (.ref a :: [v1, v2, v3, v4]) μ (some vr) μ') (hlev : lev' + 1 ≤ lev) (hnl : nL' ≤ 11) (hcl : vwCl[ci]? = some (C0, T, N)) (ha : a < w.1) (hcell : ∀ ad cs, ∃ fs, w.2 ad cs (μ.1 a) (μ.2 a) a = .inr (ci, fs)) (hroom : (st.map fun v => v.category).sum ≤ 8) (k : G w own cc nL ret lev r μr (pc + 3) ls (vr :: st) μ') : G w own cc nL ret lev r μr pc ls (v4 :: v3 :: v2 :: v1 :: .ref a :: st) μ := by
  intro p l e s m args below meth c ad cs D C H locs la hP hD hS hl
  obtain ⟨fs, hfs⟩ := hcell ad cs
  exact va_callQ (va_runU (As := [tr ad v1, tr ad v2, tr ad v3, tr ad v4]) (rest := st.map (tr ad)) ⟨C.1, C.2.1, C.2.2.1, C.2.2.2.2.2.1, C.2.2.2.2.2.2.1⟩ (hc l ad cs D H.size) (va_cwA 4 C.2.2.2.2.2.2.1 (wsall hw.1 hcode) rfl rfl rfl (hz s C.2.2.2.2.2.2.2.2.2) hw.2 (rm_ok hlev hnl)) ⟨Pw_blind, va_recv C.2.2.2.2.2.2.2.1 hP hcl ((ww_at ha).trans (by rw [hfs])), fun U hU hW => ⟨rfl, Pw_now C hP hD hS hU hW⟩⟩ rfl rfl hl.1 rfl (roomst hroom) hd ⟨Nat.le_refl _, Nat.le_refl _⟩) hS (fun H locs hP hD hS => k p l e s m args below meth c ad cs D C H locs la hP hD hS hl)
theorem G_callS4r {idx : Nat} {y : MethodName} {cc' : ByteArray} {nL' : Nat} {ret' : Option FieldType} {lev' : Nat} {v1 v2 v3 v4 : Value} {vr : Value} {μ' : Mm} (hd : decode cc pc = .ok (.invokestatic idx, 3)) (hw : WS own idx y 4) (hcode : Cond.code y cc' nL' ret' ∈ lw_g) (hc : Cn w y cc' nL' ret' lev' [v1, v2, v3, v4] μ (some vr) μ') (hlev : lev' + 1 ≤ lev) (hnl : nL' ≤ 11) (hroom : (st.map fun v => v.category).sum ≤ 8) (k : G w own cc nL ret lev r μr (pc + 3) ls (vr :: st) μ') : G w own cc nL ret lev r μr pc ls (v4 :: v3 :: v2 :: v1 :: st) μ :=
  fun p l e s m args below meth c ad cs D C H locs la hP hD hS hl => va_callQ (va_runS (As := [tr ad v1, tr ad v2, tr ad v3, tr ad v4]) (rest := st.map (tr ad)) ⟨C.1, C.2.1, C.2.2.1, C.2.2.2.2.2.1, C.2.2.2.2.2.2.1⟩ (hc l ad cs D H.size) (va_cwS 4 C.2.2.2.2.2.2.1 (wsall hw.1 hcode) rfl rfl rfl hw.2 (rm_ok hlev hnl)) ⟨Pw_blind, fun U hU hW => ⟨rfl, Pw_now C hP hD hS hU hW⟩⟩ rfl rfl hl.1 rfl (roomst hroom) hd ⟨Nat.le_refl _, Nat.le_refl _⟩) hS (fun H locs hP hD hS => k p l e s m args below meth c ad cs D C H locs la hP hD hS hl)
theorem G_callN4r {idx : Nat} {y : MethodName} {cc' : ByteArray} {nL' : Nat} {ret' : Option FieldType} {lev' : Nat} {v1 v2 v3 v4 : Value} {vr : Value} {μ' : Mm} {host : String} (hd : decode cc pc = .ok (.invokestatic idx, 3)) (hw : (∀ x ∈ ([.static y, .initialized y.cls] : List Cond), x ∈ lw_g) ∧ y.cls ≠ "java/lang/invoke/MethodHandle" ∧ y.cls ≠ "java/lang/invoke/VarHandle" ∧ (parseMethodDescriptor y.desc).map (fun d => d.parameters.length) = some 4) (hz : ∀ U, Nx U → va_Nw (.methodLinkNest own idx y host) U) (hcode : Cond.code y cc' nL' ret' ∈ lw_g) (hc : Cn w y cc' nL' ret' lev' [v1, v2, v3, v4] μ (some vr) μ') (hlev : lev' + 1 ≤ lev) (hnl : nL' ≤ 11) (hroom : (st.map fun v => v.category).sum ≤ 8) (k : G w own cc nL ret lev r μr (pc + 3) ls (vr :: st) μ') : G w own cc nL ret lev r μr pc ls (v4 :: v3 :: v2 :: v1 :: st) μ :=
  fun p l e s m args below meth c ad cs D C H locs la hP hD hS hl => va_callQ (va_runSN (As := [tr ad v1, tr ad v2, tr ad v3, tr ad v4]) (rest := st.map (tr ad)) ⟨C.1, C.2.1, C.2.2.1, C.2.2.2.2.2.1, C.2.2.2.2.2.2.1⟩ (hc l ad cs D H.size) ⟨va_cnB 4 C.2.2.2.2.2.2.1 (wsall (L := []) (fun _ h => absurd h List.not_mem_nil) hcode) rfl rfl rfl (hz s C.2.2.2.2.2.2.2.2.2) (C.2.2.2.2.2.2.1 _ (hw.1 _ (by simp))) hw.2 (rm_ok hlev hnl), C.2.2.2.2.2.2.1 _ (hw.1 _ (by simp)), trivial⟩ ⟨Pw_blind, fun U hU hW => ⟨rfl, Pw_now C hP hD hS hU hW⟩⟩ rfl rfl hl.1 rfl (roomst hroom) hd ⟨Nat.le_refl _, Nat.le_refl _⟩) hS (fun H locs hP hD hS => k p l e s m args below meth c ad cs D C H locs la hP hD hS hl)
theorem G_callV5v {idx : Nat} {y : MethodName} {cc' : ByteArray} {nL' : Nat} {ret' : Option FieldType} {lev' : Nat} {v1 v2 v3 v4 v5 : Value} {μ' : Mm} (a ci : Nat) {C0 : String} {T : u_T} {N : Nat} (hd : decode cc pc = .ok (.invokevirtual idx, 3)) (hw : WV own idx C0 y 5) (hcode : Cond.code y cc' nL' ret' ∈ lw_g) (hc : Cn w y cc' nL' ret' lev' (.ref a :: [v1, v2, v3, v4, v5]) μ none μ') (hlev : lev' + 1 ≤ lev) (hnl : nL' ≤ 11) (hcl : vwCl[ci]? = some (C0, T, N)) (ha : a < w.1) (hcell : ∀ ad cs, ∃ fs, w.2 ad cs (μ.1 a) (μ.2 a) a = .inr (ci, fs)) (hroom : (st.map fun v => v.category).sum ≤ 8) (k : G w own cc nL ret lev r μr (pc + 3) ls st μ') : G w own cc nL ret lev r μr pc ls (v5 :: v4 :: v3 :: v2 :: v1 :: .ref a :: st) μ := by
  intro p l e s m args below meth c ad cs D C H locs la hP hD hS hl
  obtain ⟨fs, hfs⟩ := hcell ad cs
  exact va_callQ (va_runV (As := [tr ad v1, tr ad v2, tr ad v3, tr ad v4, tr ad v5]) (rest := st.map (tr ad)) ⟨C.1, C.2.1, C.2.2.1, C.2.2.2.2.2.1, C.2.2.2.2.2.2.1⟩ (hc l ad cs D H.size) (cwV 5 C.2.2.2.2.2.2.1 (wsall hw.1 hcode) rfl rfl rfl hw.2 (rm_ok hlev hnl)) ⟨Pw_blind, va_recv C.2.2.2.2.2.2.2.1 hP hcl ((ww_at ha).trans (by rw [hfs])), fun U hU hW => ⟨rfl, Pw_now C hP hD hS hU hW⟩⟩ rfl rfl hl.1 rfl (roomst hroom) hd ⟨Nat.le_refl _, Nat.le_refl _⟩) hS (fun H locs hP hD hS => k p l e s m args below meth c ad cs D C H locs la hP hD hS hl)
theorem G_callU5v {idx : Nat} {y : MethodName} {cc' : ByteArray} {nL' : Nat} {ret' : Option FieldType} {lev' : Nat} {v1 v2 v3 v4 v5 : Value} {μ' : Mm} {x : MethodName} {owner : String} (a ci : Nat) {C0 : String} {T : u_T} {N : Nat} (hd : decode cc pc = .ok (.invokevirtual idx, 3)) (hw : WU own idx C0 owner x y 5) (hyx : y = ⟨owner, x.name, x.desc⟩) (hcode : Cond.code y cc' nL' ret' ∈ lw_g) (hc : Cn w y cc' nL' ret' lev' (.ref a :: [v1, v2, v3, v4, v5]) μ none μ') (hlev : lev' + 1 ≤ lev) (hnl : nL' ≤ 11) (hcl : vwCl[ci]? = some (C0, T, N)) (ha : a < w.1) (hcell : ∀ ad cs, ∃ fs, w.2 ad cs (μ.1 a) (μ.2 a) a = .inr (ci, fs)) (hroom : (st.map fun v => v.category).sum ≤ 8) (k : G w own cc nL ret lev r μr (pc + 3) ls st μ') : G w own cc nL ret lev r μr pc ls (v5 :: v4 :: v3 :: v2 :: v1 :: .ref a :: st) μ := by
  intro p l e s m args below meth c ad cs D C H locs la hP hD hS hl
  obtain ⟨fs, hfs⟩ := hcell ad cs
  exact va_callQ (va_runU (As := [tr ad v1, tr ad v2, tr ad v3, tr ad v4, tr ad v5]) (rest := st.map (tr ad)) ⟨C.1, C.2.1, C.2.2.1, C.2.2.2.2.2.1, C.2.2.2.2.2.2.1⟩ (hc l ad cs D H.size) (va_cwU 5 C.2.2.2.2.2.2.1 (wsall hw.1 hcode) rfl rfl rfl hyx hw.2 (rm_ok hlev hnl)) ⟨Pw_blind, va_recv C.2.2.2.2.2.2.2.1 hP hcl ((ww_at ha).trans (by rw [hfs])), fun U hU hW => ⟨rfl, Pw_now C hP hD hS hU hW⟩⟩ rfl rfl hl.1 rfl (roomst hroom) hd ⟨Nat.le_refl _, Nat.le_refl _⟩) hS (fun H locs hP hD hS => k p l e s m args below meth c ad cs D C H locs la hP hD hS hl)
theorem G_callA5v {idx : Nat} {y : MethodName} {cc' : ByteArray} {nL' : Nat} {ret' : Option FieldType} {lev' : Nat} {v1 v2 v3 v4 v5 : Value} {μ' : Mm} {x : MethodName} {owner : String} (a ci : Nat) {C0 : String} {T : u_T} {N : Nat} (hd : decode cc pc = .ok (.invokevirtual idx, 3)) (hw : WU own idx C0 owner x y 5) (hz : ∀ U, Nx U → va_Nw (.declares ⟨owner, x.name, x.desc⟩) U) (hcode : Cond.code y cc' nL' ret' ∈ lw_g) (hc : Cn w y cc' nL' ret' lev' (.ref a :: [v1, v2, v3, v4, v5]) μ none μ') (hlev : lev' + 1 ≤ lev) (hnl : nL' ≤ 11) (hcl : vwCl[ci]? = some (C0, T, N)) (ha : a < w.1) (hcell : ∀ ad cs, ∃ fs, w.2 ad cs (μ.1 a) (μ.2 a) a = .inr (ci, fs)) (hroom : (st.map fun v => v.category).sum ≤ 8) (k : G w own cc nL ret lev r μr (pc + 3) ls st μ') : G w own cc nL ret lev r μr pc ls (v5 :: v4 :: v3 :: v2 :: v1 :: .ref a :: st) μ := by
  intro p l e s m args below meth c ad cs D C H locs la hP hD hS hl
  obtain ⟨fs, hfs⟩ := hcell ad cs
  exact va_callQ (va_runU (As := [tr ad v1, tr ad v2, tr ad v3, tr ad v4, tr ad v5]) (rest := st.map (tr ad)) ⟨C.1, C.2.1, C.2.2.1, C.2.2.2.2.2.1, C.2.2.2.2.2.2.1⟩ (hc l ad cs D H.size) (va_cwA 5 C.2.2.2.2.2.2.1 (wsall hw.1 hcode) rfl rfl rfl (hz s C.2.2.2.2.2.2.2.2.2) hw.2 (rm_ok hlev hnl)) ⟨Pw_blind, va_recv C.2.2.2.2.2.2.2.1 hP hcl ((ww_at ha).trans (by rw [hfs])), fun U hU hW => ⟨rfl, Pw_now C hP hD hS hU hW⟩⟩ rfl rfl hl.1 rfl (roomst hroom) hd ⟨Nat.le_refl _, Nat.le_refl _⟩) hS (fun H locs hP hD hS => k p l e s m args below meth c ad cs D C H locs la hP hD hS hl)
theorem G_callS5v {idx : Nat} {y : MethodName} {cc' : ByteArray} {nL' : Nat} {ret' : Option FieldType} {lev' : Nat} {v1 v2 v3 v4 v5 : Value} {μ' : Mm} (hd : decode cc pc = .ok (.invokestatic idx, 3)) (hw : WS own idx y 5) (hcode : Cond.code y cc' nL' ret' ∈ lw_g) (hc : Cn w y cc' nL' ret' lev' [v1, v2, v3, v4, v5] μ none μ') (hlev : lev' + 1 ≤ lev) (hnl : nL' ≤ 11) (hroom : (st.map fun v => v.category).sum ≤ 8) (k : G w own cc nL ret lev r μr (pc + 3) ls st μ') : G w own cc nL ret lev r μr pc ls (v5 :: v4 :: v3 :: v2 :: v1 :: st) μ :=
  fun p l e s m args below meth c ad cs D C H locs la hP hD hS hl => va_callQ (va_runS (As := [tr ad v1, tr ad v2, tr ad v3, tr ad v4, tr ad v5]) (rest := st.map (tr ad)) ⟨C.1, C.2.1, C.2.2.1, C.2.2.2.2.2.1, C.2.2.2.2.2.2.1⟩ (hc l ad cs D H.size) (va_cwS 5 C.2.2.2.2.2.2.1 (wsall hw.1 hcode) rfl rfl rfl hw.2 (rm_ok hlev hnl)) ⟨Pw_blind, fun U hU hW => ⟨rfl, Pw_now C hP hD hS hU hW⟩⟩ rfl rfl hl.1 rfl (roomst hroom) hd ⟨Nat.le_refl _, Nat.le_refl _⟩) hS (fun H locs hP hD hS => k p l e s m args below meth c ad cs D C H locs la hP hD hS hl)
theorem G_callN5v {idx : Nat} {y : MethodName} {cc' : ByteArray} {nL' : Nat} {ret' : Option FieldType} {lev' : Nat} {v1 v2 v3 v4 v5 : Value} {μ' : Mm} {host : String} (hd : decode cc pc = .ok (.invokestatic idx, 3)) (hw : (∀ x ∈ ([.static y, .initialized y.cls] : List Cond), x ∈ lw_g) ∧ y.cls ≠ "java/lang/invoke/MethodHandle" ∧ y.cls ≠ "java/lang/invoke/VarHandle" ∧ (parseMethodDescriptor y.desc).map (fun d => d.parameters.length) = some 5) (hz : ∀ U, Nx U → va_Nw (.methodLinkNest own idx y host) U) (hcode : Cond.code y cc' nL' ret' ∈ lw_g) (hc : Cn w y cc' nL' ret' lev' [v1, v2, v3, v4, v5] μ none μ') (hlev : lev' + 1 ≤ lev) (hnl : nL' ≤ 11) (hroom : (st.map fun v => v.category).sum ≤ 8) (k : G w own cc nL ret lev r μr (pc + 3) ls st μ') : G w own cc nL ret lev r μr pc ls (v5 :: v4 :: v3 :: v2 :: v1 :: st) μ :=
  fun p l e s m args below meth c ad cs D C H locs la hP hD hS hl => va_callQ (va_runSN (As := [tr ad v1, tr ad v2, tr ad v3, tr ad v4, tr ad v5]) (rest := st.map (tr ad)) ⟨C.1, C.2.1, C.2.2.1, C.2.2.2.2.2.1, C.2.2.2.2.2.2.1⟩ (hc l ad cs D H.size) ⟨va_cnB 5 C.2.2.2.2.2.2.1 (wsall (L := []) (fun _ h => absurd h List.not_mem_nil) hcode) rfl rfl rfl (hz s C.2.2.2.2.2.2.2.2.2) (C.2.2.2.2.2.2.1 _ (hw.1 _ (by simp))) hw.2 (rm_ok hlev hnl), C.2.2.2.2.2.2.1 _ (hw.1 _ (by simp)), trivial⟩ ⟨Pw_blind, fun U hU hW => ⟨rfl, Pw_now C hP hD hS hU hW⟩⟩ rfl rfl hl.1 rfl (roomst hroom) hd ⟨Nat.le_refl _, Nat.le_refl _⟩) hS (fun H locs hP hD hS => k p l e s m args below meth c ad cs D C H locs la hP hD hS hl)
theorem G_callV5r {idx : Nat} {y : MethodName} {cc' : ByteArray} {nL' : Nat} {ret' : Option FieldType} {lev' : Nat} {v1 v2 v3 v4 v5 : Value} {vr : Value} {μ' : Mm} (a ci : Nat) {C0 : String} {T : u_T} {N : Nat} (hd : decode cc pc = .ok (.invokevirtual idx, 3)) (hw : WV own idx C0 y 5) (hcode : Cond.code y cc' nL' ret' ∈ lw_g) (hc : Cn w y cc' nL' ret' lev' (.ref a :: [v1, v2, v3, v4, v5]) μ (some vr) μ') (hlev : lev' + 1 ≤ lev) (hnl : nL' ≤ 11) (hcl : vwCl[ci]? = some (C0, T, N)) (ha : a < w.1) (hcell : ∀ ad cs, ∃ fs, w.2 ad cs (μ.1 a) (μ.2 a) a = .inr (ci, fs)) (hroom : (st.map fun v => v.category).sum ≤ 8) (k : G w own cc nL ret lev r μr (pc + 3) ls (vr :: st) μ') : G w own cc nL ret lev r μr pc ls (v5 :: v4 :: v3 :: v2 :: v1 :: .ref a :: st) μ := by
  intro p l e s m args below meth c ad cs D C H locs la hP hD hS hl
  obtain ⟨fs, hfs⟩ := hcell ad cs
  exact va_callQ (va_runV (As := [tr ad v1, tr ad v2, tr ad v3, tr ad v4, tr ad v5]) (rest := st.map (tr ad)) ⟨C.1, C.2.1, C.2.2.1, C.2.2.2.2.2.1, C.2.2.2.2.2.2.1⟩ (hc l ad cs D H.size) (cwV 5 C.2.2.2.2.2.2.1 (wsall hw.1 hcode) rfl rfl rfl hw.2 (rm_ok hlev hnl)) ⟨Pw_blind, va_recv C.2.2.2.2.2.2.2.1 hP hcl ((ww_at ha).trans (by rw [hfs])), fun U hU hW => ⟨rfl, Pw_now C hP hD hS hU hW⟩⟩ rfl rfl hl.1 rfl (roomst hroom) hd ⟨Nat.le_refl _, Nat.le_refl _⟩) hS (fun H locs hP hD hS => k p l e s m args below meth c ad cs D C H locs la hP hD hS hl)
theorem G_callU5r {idx : Nat} {y : MethodName} {cc' : ByteArray} {nL' : Nat} {ret' : Option FieldType} {lev' : Nat} {v1 v2 v3 v4 v5 : Value} {vr : Value} {μ' : Mm} {x : MethodName} {owner : String} (a ci : Nat) {C0 : String} {T : u_T} {N : Nat} (hd : decode cc pc = .ok (.invokevirtual idx, 3)) (hw : WU own idx C0 owner x y 5) (hyx : y = ⟨owner, x.name, x.desc⟩) (hcode : Cond.code y cc' nL' ret' ∈ lw_g) (hc : Cn w y cc' nL' ret' lev' (.ref a :: [v1, v2, v3, v4, v5]) μ (some vr) μ') (hlev : lev' + 1 ≤ lev) (hnl : nL' ≤ 11) (hcl : vwCl[ci]? = some (C0, T, N)) (ha : a < w.1) (hcell : ∀ ad cs, ∃ fs, w.2 ad cs (μ.1 a) (μ.2 a) a = .inr (ci, fs)) (hroom : (st.map fun v => v.category).sum ≤ 8) (k : G w own cc nL ret lev r μr (pc + 3) ls (vr :: st) μ') : G w own cc nL ret lev r μr pc ls (v5 :: v4 :: v3 :: v2 :: v1 :: .ref a :: st) μ := by
  intro p l e s m args below meth c ad cs D C H locs la hP hD hS hl
  obtain ⟨fs, hfs⟩ := hcell ad cs
  exact va_callQ (va_runU (As := [tr ad v1, tr ad v2, tr ad v3, tr ad v4, tr ad v5]) (rest := st.map (tr ad)) ⟨C.1, C.2.1, C.2.2.1, C.2.2.2.2.2.1, C.2.2.2.2.2.2.1⟩ (hc l ad cs D H.size) (va_cwU 5 C.2.2.2.2.2.2.1 (wsall hw.1 hcode) rfl rfl rfl hyx hw.2 (rm_ok hlev hnl)) ⟨Pw_blind, va_recv C.2.2.2.2.2.2.2.1 hP hcl ((ww_at ha).trans (by rw [hfs])), fun U hU hW => ⟨rfl, Pw_now C hP hD hS hU hW⟩⟩ rfl rfl hl.1 rfl (roomst hroom) hd ⟨Nat.le_refl _, Nat.le_refl _⟩) hS (fun H locs hP hD hS => k p l e s m args below meth c ad cs D C H locs la hP hD hS hl)
theorem G_callA5r {idx : Nat} {y : MethodName} {cc' : ByteArray} {nL' : Nat} {ret' : Option FieldType} {lev' : Nat} {v1 v2 v3 v4 v5 : Value} {vr : Value} {μ' : Mm} {x : MethodName} {owner : String} (a ci : Nat) {C0 : String} {T : u_T} {N : Nat} (hd : decode cc pc = .ok (.invokevirtual idx, 3)) (hw : WU own idx C0 owner x y 5) (hz : ∀ U, Nx U → va_Nw (.declares ⟨owner, x.name, x.desc⟩) U) (hcode : Cond.code y cc' nL' ret' ∈ lw_g) (hc : Cn w y cc' nL' ret' lev' (.ref a :: [v1, v2, v3, v4, v5]) μ (some vr) μ') (hlev : lev' + 1 ≤ lev) (hnl : nL' ≤ 11) (hcl : vwCl[ci]? = some (C0, T, N)) (ha : a < w.1) (hcell : ∀ ad cs, ∃ fs, w.2 ad cs (μ.1 a) (μ.2 a) a = .inr (ci, fs)) (hroom : (st.map fun v => v.category).sum ≤ 8) (k : G w own cc nL ret lev r μr (pc + 3) ls (vr :: st) μ') : G w own cc nL ret lev r μr pc ls (v5 :: v4 :: v3 :: v2 :: v1 :: .ref a :: st) μ := by
  intro p l e s m args below meth c ad cs D C H locs la hP hD hS hl
  obtain ⟨fs, hfs⟩ := hcell ad cs
  exact va_callQ (va_runU (As := [tr ad v1, tr ad v2, tr ad v3, tr ad v4, tr ad v5]) (rest := st.map (tr ad)) ⟨C.1, C.2.1, C.2.2.1, C.2.2.2.2.2.1, C.2.2.2.2.2.2.1⟩ (hc l ad cs D H.size) (va_cwA 5 C.2.2.2.2.2.2.1 (wsall hw.1 hcode) rfl rfl rfl (hz s C.2.2.2.2.2.2.2.2.2) hw.2 (rm_ok hlev hnl)) ⟨Pw_blind, va_recv C.2.2.2.2.2.2.2.1 hP hcl ((ww_at ha).trans (by rw [hfs])), fun U hU hW => ⟨rfl, Pw_now C hP hD hS hU hW⟩⟩ rfl rfl hl.1 rfl (roomst hroom) hd ⟨Nat.le_refl _, Nat.le_refl _⟩) hS (fun H locs hP hD hS => k p l e s m args below meth c ad cs D C H locs la hP hD hS hl)
theorem G_callS5r {idx : Nat} {y : MethodName} {cc' : ByteArray} {nL' : Nat} {ret' : Option FieldType} {lev' : Nat} {v1 v2 v3 v4 v5 : Value} {vr : Value} {μ' : Mm} (hd : decode cc pc = .ok (.invokestatic idx, 3)) (hw : WS own idx y 5) (hcode : Cond.code y cc' nL' ret' ∈ lw_g) (hc : Cn w y cc' nL' ret' lev' [v1, v2, v3, v4, v5] μ (some vr) μ') (hlev : lev' + 1 ≤ lev) (hnl : nL' ≤ 11) (hroom : (st.map fun v => v.category).sum ≤ 8) (k : G w own cc nL ret lev r μr (pc + 3) ls (vr :: st) μ') : G w own cc nL ret lev r μr pc ls (v5 :: v4 :: v3 :: v2 :: v1 :: st) μ :=
  fun p l e s m args below meth c ad cs D C H locs la hP hD hS hl => va_callQ (va_runS (As := [tr ad v1, tr ad v2, tr ad v3, tr ad v4, tr ad v5]) (rest := st.map (tr ad)) ⟨C.1, C.2.1, C.2.2.1, C.2.2.2.2.2.1, C.2.2.2.2.2.2.1⟩ (hc l ad cs D H.size) (va_cwS 5 C.2.2.2.2.2.2.1 (wsall hw.1 hcode) rfl rfl rfl hw.2 (rm_ok hlev hnl)) ⟨Pw_blind, fun U hU hW => ⟨rfl, Pw_now C hP hD hS hU hW⟩⟩ rfl rfl hl.1 rfl (roomst hroom) hd ⟨Nat.le_refl _, Nat.le_refl _⟩) hS (fun H locs hP hD hS => k p l e s m args below meth c ad cs D C H locs la hP hD hS hl)
theorem G_callN5r {idx : Nat} {y : MethodName} {cc' : ByteArray} {nL' : Nat} {ret' : Option FieldType} {lev' : Nat} {v1 v2 v3 v4 v5 : Value} {vr : Value} {μ' : Mm} {host : String} (hd : decode cc pc = .ok (.invokestatic idx, 3)) (hw : (∀ x ∈ ([.static y, .initialized y.cls] : List Cond), x ∈ lw_g) ∧ y.cls ≠ "java/lang/invoke/MethodHandle" ∧ y.cls ≠ "java/lang/invoke/VarHandle" ∧ (parseMethodDescriptor y.desc).map (fun d => d.parameters.length) = some 5) (hz : ∀ U, Nx U → va_Nw (.methodLinkNest own idx y host) U) (hcode : Cond.code y cc' nL' ret' ∈ lw_g) (hc : Cn w y cc' nL' ret' lev' [v1, v2, v3, v4, v5] μ (some vr) μ') (hlev : lev' + 1 ≤ lev) (hnl : nL' ≤ 11) (hroom : (st.map fun v => v.category).sum ≤ 8) (k : G w own cc nL ret lev r μr (pc + 3) ls (vr :: st) μ') : G w own cc nL ret lev r μr pc ls (v5 :: v4 :: v3 :: v2 :: v1 :: st) μ :=
  fun p l e s m args below meth c ad cs D C H locs la hP hD hS hl => va_callQ (va_runSN (As := [tr ad v1, tr ad v2, tr ad v3, tr ad v4, tr ad v5]) (rest := st.map (tr ad)) ⟨C.1, C.2.1, C.2.2.1, C.2.2.2.2.2.1, C.2.2.2.2.2.2.1⟩ (hc l ad cs D H.size) ⟨va_cnB 5 C.2.2.2.2.2.2.1 (wsall (L := []) (fun _ h => absurd h List.not_mem_nil) hcode) rfl rfl rfl (hz s C.2.2.2.2.2.2.2.2.2) (C.2.2.2.2.2.2.1 _ (hw.1 _ (by simp))) hw.2 (rm_ok hlev hnl), C.2.2.2.2.2.2.1 _ (hw.1 _ (by simp)), trivial⟩ ⟨Pw_blind, fun U hU hW => ⟨rfl, Pw_now C hP hD hS hU hW⟩⟩ rfl rfl hl.1 rfl (roomst hroom) hd ⟨Nat.le_refl _, Nat.le_refl _⟩) hS (fun H locs hP hD hS => k p l e s m args below meth c ad cs D C H locs la hP hD hS hl)
end GCalls
end
